theorem dX8_init_8 : decode cX8_init 8 = .ok (.dup, 1) := by decide +kernel
theorem dX8_init_9 : decode cX8_init 9 = .ok (.invokespecial 9, 3) := by decide +kernel
theorem dX8_init_12 : decode cX8_init 12 = .ok (.putfield 10, 3) := by decide +kernel
theorem dX8_init_15 : decode cX8_init 15 = .ok (.aload_n 0, 1) := by decide +kernel
theorem dX8_init_16 : decode cX8_init 16 = .ok (.new 16, 3) := by decide +kernel
theorem dX8_init_19 : decode cX8_init 19 = .ok (.dup, 1) := by decide +kernel
theorem dX8_init_20 : decode cX8_init 20 = .ok (.aload_n 0, 1) := by decide +kernel
theorem dX8_init_21 : decode cX8_init 21 = .ok (.getfield 10, 3) := by decide +kernel
theorem dX8_init_24 : decode cX8_init 24 = .ok (.invokespecial 18, 3) := by decide +kernel
theorem dX8_init_27 : decode cX8_init 27 = .ok (.putfield 21, 3) := by decide +kernel
theorem dX8_init_30 : decode cX8_init 30 = .ok (.aload_n 0, 1) := by decide +kernel
theorem dX8_init_31 : decode cX8_init 31 = .ok (.new 25, 3) := by decide +kernel
theorem dX8_init_34 : decode cX8_init 34 = .ok (.dup, 1) := by decide +kernel
theorem dX8_init_35 : decode cX8_init 35 = .ok (.aload_n 0, 1) := by decide +kernel
theorem dX8_init_36 : decode cX8_init 36 = .ok (.getfield 10, 3) := by decide +kernel
theorem dX8_init_39 : decode cX8_init 39 = .ok (.invokespecial 27, 3) := by decide +kernel
theorem dX8_init_42 : decode cX8_init 42 = .ok (.putfield 28, 3) := by decide +kernel
theorem dX8_init_45 : decode cX8_init 45 = .ok (.aload_n 0, 1) := by decide +kernel
theorem dX8_init_46 : decode cX8_init 46 = .ok (.new 32, 3) := by decide +kernel
theorem dX8_init_49 : decode cX8_init 49 = .ok (.dup, 1) := by decide +kernel
theorem dX8_init_50 : decode cX8_init 50 = .ok (.invokespecial 34, 3) := by decide +kernel
theorem dX8_init_53 : decode cX8_init 53 = .ok (.putfield 35, 3) := by decide +kernel
theorem dX8_init_56 : decode cX8_init 56 = .ok (.return_, 1) := by decide +kernel
set_option maxRecDepth 20000 in
theorem ggX8_set_X7_change : GoodIn wsX8_set wsX7_change := goodIn_r _ [6, 7, 8, 9, 10, 11, 12, 17, 18] (by decide +kernel) (by decide +kernel)
set_option maxRecDepth 20000 in
theorem gX8_set_X7_change : GoodIn wsX8_set (wsV RX8 39 RX7 yX7_change wsX7_change) := goodIn_app (goodIn_of _ (by decide +kernel)) ggX8_set_X7_change
theorem dX8_set_0 : decode cX8_set 0 = .ok (.aload_n 0, 1) := by decide +kernel
theorem dX8_set_1 : decode cX8_set 1 = .ok (.getfield 10, 3) := by decide +kernel
theorem dX8_set_4 : decode cX8_set 4 = .ok (.iload_n 1, 1) := by decide +kernel
theorem dX8_set_5 : decode cX8_set 5 = .ok (.iload_n 2, 1) := by decide +kernel
theorem dX8_set_6 : decode cX8_set 6 = .ok (.invokevirtual 39, 3) := by decide +kernel
theorem dX8_set_9 : decode cX8_set 9 = .ok (.ireturn, 1) := by decide +kernel
set_option maxRecDepth 20000 in
theorem ggX8_speed_X7_changeSpeed : GoodIn wsX8_speed wsX7_changeSpeed := goodIn_r _ [6, 7, 8, 9, 10, 15, 16] (by decide +kernel) (by decide +kernel)
set_option maxRecDepth 20000 in
theorem gX8_speed_X7_changeSpeed : GoodIn wsX8_speed (wsV RX8 43 RX7 yX7_changeSpeed wsX7_changeSpeed) := goodIn_app (goodIn_of _ (by decide +kernel)) ggX8_speed_X7_changeSpeed
theorem dX8_speed_0 : decode cX8_speed 0 = .ok (.aload_n 0, 1) := by decide +kernel
theorem dX8_speed_1 : decode cX8_speed 1 = .ok (.getfield 10, 3) := by decide +kernel
theorem dX8_speed_4 : decode cX8_speed 4 = .ok (.iload_n 1, 1) := by decide +kernel
theorem dX8_speed_5 : decode cX8_speed 5 = .ok (.iload_n 2, 1) := by decide +kernel
theorem dX8_speed_6 : decode cX8_speed 6 = .ok (.invokevirtual 43, 3) := by decide +kernel
theorem dX8_speed_9 : decode cX8_speed 9 = .ok (.ireturn, 1) := by decide +kernel
set_option maxRecDepth 20000 in
theorem ggX8_caller_X1_allows : GoodIn wsX8_caller wsX1_allows := goodIn_r _ [5, 6, 7, 8] (by decide +kernel) (by decide +kernel)
set_option maxRecDepth 20000 in
theorem gX8_caller_X1_allows : GoodIn wsX8_caller (va_wsS RX8 47 yX1_allows wsX1_allows) := goodIn_app (goodIn_of _ (by decide +kernel)) ggX8_caller_X1_allows
set_option maxRecDepth 20000 in
theorem ggX8_caller_X6_isAhead : GoodIn wsX8_caller wsX6_isAhead := goodIn_r _ [13, 14, 38, 39, 40, 41, 42, 43, 44, 45, 46, 47, 48] (by decide +kernel) (by decide +kernel)
set_option maxRecDepth 20000 in
theorem gX8_caller_X6_isAhead : GoodIn wsX8_caller (wsV RX8 53 RX6 yX6_isAhead wsX6_isAhead) := goodIn_app (goodIn_of _ (by decide +kernel)) ggX8_caller_X6_isAhead
set_option maxRecDepth 20000 in
theorem ggX8_caller_X6_addCaller : GoodIn wsX8_caller wsX6_addCaller := goodIn_r _ [18, 19, 20, 21, 22, 23, 4, 24, 25, 26, 27, 28, 29, 30, 31, 32, 33, 38, 39, 40, 41, 42, 43, 44, 45, 46, 47, 48, 49, 50, 51, 52, 53, 54, 55, 56, 57, 58] (by decide +kernel) (by decide +kernel)
set_option maxRecDepth 20000 in
theorem gX8_caller_X6_addCaller : GoodIn wsX8_caller (wsV RX8 57 RX6 yX6_addCaller wsX6_addCaller) := goodIn_app (goodIn_of _ (by decide +kernel)) ggX8_caller_X6_addCaller
theorem dX8_caller_0 : decode cX8_caller 0 = .ok (.iload_n 1, 1) := by decide +kernel
theorem dX8_caller_1 : decode cX8_caller 1 = .ok (.iload_n 2, 1) := by decide +kernel
theorem dX8_caller_2 : decode cX8_caller 2 = .ok (.iload_n 3, 1) := by decide +kernel
theorem dX8_caller_3 : decode cX8_caller 3 = .ok (.iload 4, 2) := by decide +kernel
theorem dX8_caller_5 : decode cX8_caller 5 = .ok (.invokestatic 47, 3) := by decide +kernel
theorem dX8_caller_8 : decode cX8_caller 8 = .ok (.ifCond .eq 15, 3) := by decide +kernel
theorem dX8_caller_11 : decode cX8_caller 11 = .ok (.aload_n 0, 1) := by decide +kernel
theorem dX8_caller_12 : decode cX8_caller 12 = .ok (.getfield 21, 3) := by decide +kernel
theorem dX8_caller_15 : decode cX8_caller 15 = .ok (.iload 5, 2) := by decide +kernel
theorem dX8_caller_17 : decode cX8_caller 17 = .ok (.invokevirtual 53, 3) := by decide +kernel
theorem dX8_caller_20 : decode cX8_caller 20 = .ok (.ifCond .ne 5, 3) := by decide +kernel
theorem dX8_caller_23 : decode cX8_caller 23 = .ok (.iconst (-1), 1) := by decide +kernel
theorem dX8_caller_24 : decode cX8_caller 24 = .ok (.ireturn, 1) := by decide +kernel
theorem dX8_caller_25 : decode cX8_caller 25 = .ok (.aload_n 0, 1) := by decide +kernel
theorem dX8_caller_26 : decode cX8_caller 26 = .ok (.getfield 21, 3) := by decide +kernel
theorem dX8_caller_29 : decode cX8_caller 29 = .ok (.iload_n 1, 1) := by decide +kernel
theorem dX8_caller_30 : decode cX8_caller 30 = .ok (.iload_n 2, 1) := by decide +kernel
theorem dX8_caller_31 : decode cX8_caller 31 = .ok (.iload_n 3, 1) := by decide +kernel
theorem dX8_caller_32 : decode cX8_caller 32 = .ok (.iload 4, 2) := by decide +kernel
theorem dX8_caller_34 : decode cX8_caller 34 = .ok (.iload 5, 2) := by decide +kernel
theorem dX8_caller_36 : decode cX8_caller 36 = .ok (.invokevirtual 57, 3) := by decide +kernel
theorem dX8_caller_39 : decode cX8_caller 39 = .ok (.ireturn, 1) := by decide +kernel
set_option maxRecDepth 20000 in
theorem ggX8_broken_X6_isAhead : GoodIn wsX8_broken wsX6_isAhead := goodIn_r _ [6, 7, 28, 29, 30, 31, 32, 33, 34, 35, 36, 37, 38] (by decide +kernel) (by decide +kernel)
set_option maxRecDepth 20000 in
theorem gX8_broken_X6_isAhead : GoodIn wsX8_broken (wsV RX8 53 RX6 yX6_isAhead wsX6_isAhead) := goodIn_app (goodIn_of _ (by decide +kernel)) ggX8_broken_X6_isAhead
set_option maxRecDepth 20000 in
theorem ggX8_broken_X6_addBreak : GoodIn wsX8_broken wsX6_addBreak := goodIn_r _ [11, 12, 13, 14, 15, 16, 17, 18, 19, 20, 21, 22, 23, 28, 29, 30, 31, 32, 33, 34, 35, 36, 37, 38, 39, 40, 41] (by decide +kernel) (by decide +kernel)
set_option maxRecDepth 20000 in
theorem gX8_broken_X6_addBreak : GoodIn wsX8_broken (wsV RX8 61 RX6 yX6_addBreak wsX6_addBreak) := goodIn_app (goodIn_of _ (by decide +kernel)) ggX8_broken_X6_addBreak
theorem dX8_broken_0 : decode cX8_broken 0 = .ok (.aload_n 0, 1) := by decide +kernel
theorem dX8_broken_1 : decode cX8_broken 1 = .ok (.getfield 21, 3) := by decide +kernel
theorem dX8_broken_4 : decode cX8_broken 4 = .ok (.iload_n 1, 1) := by decide +kernel
theorem dX8_broken_5 : decode cX8_broken 5 = .ok (.invokevirtual 53, 3) := by decide +kernel
theorem dX8_broken_8 : decode cX8_broken 8 = .ok (.ifCond .eq 19, 3) := by decide +kernel
theorem dX8_broken_11 : decode cX8_broken 11 = .ok (.aload_n 0, 1) := by decide +kernel
theorem dX8_broken_12 : decode cX8_broken 12 = .ok (.getfield 21, 3) := by decide +kernel
theorem dX8_broken_15 : decode cX8_broken 15 = .ok (.iload_n 1, 1) := by decide +kernel
theorem dX8_broken_16 : decode cX8_broken 16 = .ok (.iload_n 2, 1) := by decide +kernel
theorem dX8_broken_17 : decode cX8_broken 17 = .ok (.invokevirtual 61, 3) := by decide +kernel
theorem dX8_broken_20 : decode cX8_broken 20 = .ok (.ifCond .eq 7, 3) := by decide +kernel
theorem dX8_broken_23 : decode cX8_broken 23 = .ok (.iconst 1, 1) := by decide +kernel
theorem dX8_broken_24 : decode cX8_broken 24 = .ok (.goto 4, 3) := by decide +kernel
theorem dX8_broken_27 : decode cX8_broken 27 = .ok (.iconst 0, 1) := by decide +kernel
theorem dX8_broken_28 : decode cX8_broken 28 = .ok (.ireturn, 1) := by decide +kernel
set_option maxRecDepth 20000 in
theorem ggX8_run_X8_within : GoodIn wsX8_run wsX8_within := goodIn_r _ [5] (by decide +kernel) (by decide +kernel)
set_option maxRecDepth 20000 in
theorem gX8_run_X8_within : GoodIn wsX8_run (va_wsS RX8 64 yX8_within wsX8_within) := goodIn_app (goodIn_of _ (by decide +kernel)) ggX8_run_X8_within
set_option maxRecDepth 20000 in
theorem ggX8_run_X6_passTicks : GoodIn wsX8_run wsX6_passTicks := goodIn_r _ [10, 11, 12, 13, 14, 15, 16, 17, 18, 19, 20, 21, 9, 22, 23, 24, 25, 26, 27, 28, 29, 30, 31, 32, 33, 34, 35, 36, 37, 38, 39, 40, 41, 42, 43, 44, 45, 46, 47, 48, 49, 50, 51, 52, 53, 54, 55, 56, 57, 58, 59, 60, 61, 62, 63, 64, 65, 66, 67, 68, 69, 70, 71, 72, 73, 74, 75, 76, 77, 78, 79, 80, 81, 82, 83, 84, 85, 86, 87, 88, 89, 90, 91, 92, 93, 94, 95, 96, 97, 98, 99, 100, 101, 102, 103, 104, 105, 106, 107, 108, 109, 110, 111, 112, 113, 114, 115, 116, 117, 118, 119, 120, 121, 122, 123, 124, 125, 126, 127, 128, 129, 130, 131, 132, 133, 134, 135, 136, 137, 138, 139, 140, 141, 142, 143, 144, 145, 146, 147, 148, 149, 150, 151, 152, 153, 154, 155, 156, 157, 158, 159, 160, 161, 162, 163, 164, 165, 166, 167, 168, 169, 170, 171, 172, 173, 174, 175, 176, 177, 178, 179, 180, 181, 182, 183, 184, 185, 186, 187, 188, 189, 190, 191, 192, 193, 194, 195, 196, 197, 198, 199, 200, 201, 202, 203, 204, 205, 206, 207, 208, 209, 210, 211, 212, 213, 214, 215, 216, 217, 218, 219, 220, 221, 222, 223, 224, 225, 226, 227, 228, 229, 230, 231, 232, 233, 234, 235, 236, 237, 238, 239, 240, 241, 242, 243, 244, 245, 250, 251, 252, 253, 254, 255, 256, 257, 258, 259, 260, 261, 262, 263, 264, 265, 266, 267, 268, 269, 270, 271, 272, 273, 274, 275, 276, 277, 278, 279, 280, 281, 282, 283, 284] (by decide +kernel) (by decide +kernel)
set_option maxRecDepth 20000 in
theorem gX8_run_X6_passTicks : GoodIn wsX8_run (wsV RX8 68 RX6 yX6_passTicks wsX6_passTicks) := goodIn_app (goodIn_of _ (by decide +kernel)) ggX8_run_X6_passTicks
theorem dX8_run_0 : decode cX8_run 0 = .ok (.iload_n 1, 1) := by decide +kernel
theorem dX8_run_1 : decode cX8_run 1 = .ok (.iconst 0, 1) := by decide +kernel
theorem dX8_run_2 : decode cX8_run 2 = .ok (.sipush 500, 3) := by decide +kernel
theorem dX8_run_5 : decode cX8_run 5 = .ok (.invokestatic 64, 3) := by decide +kernel
theorem dX8_run_8 : decode cX8_run 8 = .ok (.ifCond .ne 5, 3) := by decide +kernel
theorem dX8_run_11 : decode cX8_run 11 = .ok (.iconst (-1), 1) := by decide +kernel
theorem dX8_run_12 : decode cX8_run 12 = .ok (.ireturn, 1) := by decide +kernel
theorem dX8_run_13 : decode cX8_run 13 = .ok (.aload_n 0, 1) := by decide +kernel
theorem dX8_run_14 : decode cX8_run 14 = .ok (.getfield 21, 3) := by decide +kernel
theorem dX8_run_17 : decode cX8_run 17 = .ok (.iload_n 1, 1) := by decide +kernel
theorem dX8_run_18 : decode cX8_run 18 = .ok (.invokevirtual 68, 3) := by decide +kernel
theorem dX8_run_21 : decode cX8_run 21 = .ok (.ireturn, 1) := by decide +kernel
set_option maxRecDepth 20000 in
theorem ggX8_clear_X6_reset : GoodIn wsX8_clear wsX6_reset := goodIn_r _ [7, 8, 9, 10, 11, 12, 13, 14, 15, 16, 17, 18, 19, 20, 21, 22, 23, 24, 25, 26, 27, 28, 29, 30, 31, 32, 33, 34, 35, 36, 37, 38, 39, 40, 41, 42, 43, 55, 56, 57, 58, 59, 60, 61, 62, 63, 64, 65, 66, 67, 68, 69, 70, 71, 72, 73, 74, 75, 76, 77] (by decide +kernel) (by decide +kernel)
set_option maxRecDepth 20000 in
theorem gX8_clear_X6_reset : GoodIn wsX8_clear (wsV RX8 72 RX6 yX6_reset wsX6_reset) := goodIn_app (goodIn_of _ (by decide +kernel)) ggX8_clear_X6_reset
set_option maxRecDepth 20000 in
theorem ggX8_clear_X2_dismiss : GoodIn wsX8_clear wsX2_dismiss := goodIn_r _ [48, 49, 50, 78, 79, 80, 81, 82, 83, 84] (by decide +kernel) (by decide +kernel)
set_option maxRecDepth 20000 in
theorem gX8_clear_X2_dismiss : GoodIn wsX8_clear (wsV RX8 75 RX2 yX2_dismiss wsX2_dismiss) := goodIn_app (goodIn_of _ (by decide +kernel)) ggX8_clear_X2_dismiss
theorem dX8_clear_0 : decode cX8_clear 0 = .ok (.aload_n 0, 1) := by decide +kernel
theorem dX8_clear_1 : decode cX8_clear 1 = .ok (.getfield 21, 3) := by decide +kernel
theorem dX8_clear_4 : decode cX8_clear 4 = .ok (.invokevirtual 72, 3) := by decide +kernel
theorem dX8_clear_7 : decode cX8_clear 7 = .ok (.aload_n 0, 1) := by decide +kernel
theorem dX8_clear_8 : decode cX8_clear 8 = .ok (.getfield 35, 3) := by decide +kernel
theorem dX8_clear_11 : decode cX8_clear 11 = .ok (.invokevirtual 75, 3) := by decide +kernel
theorem dX8_clear_14 : decode cX8_clear 14 = .ok (.pop, 1) := by decide +kernel
theorem dX8_clear_15 : decode cX8_clear 15 = .ok (.return_, 1) := by decide +kernel
set_option maxRecDepth 20000 in
theorem ggX8_count_X6_figure : GoodIn wsX8_count wsX6_figure := goodIn_r _ [6, 7, 8, 9, 10, 11, 12, 13, 14, 15, 16, 17, 5, 18, 19, 20, 21, 22, 23, 24, 25, 26, 27, 28, 29, 30, 31, 32, 33, 34, 35, 36, 41, 42, 43, 44, 45, 46, 47, 48, 49, 50, 51, 52, 53, 54, 55, 56, 57, 58, 59, 60, 61, 62, 63, 64, 65, 66, 67, 68, 69, 70] (by decide +kernel) (by decide +kernel)
set_option maxRecDepth 20000 in
theorem gX8_count_X6_figure : GoodIn wsX8_count (wsV RX8 79 RX6 yX6_figure wsX6_figure) := goodIn_app (goodIn_of _ (by decide +kernel)) ggX8_count_X6_figure
theorem dX8_count_0 : decode cX8_count 0 = .ok (.aload_n 0, 1) := by decide +kernel
theorem dX8_count_1 : decode cX8_count 1 = .ok (.getfield 21, 3) := by decide +kernel
theorem dX8_count_4 : decode cX8_count 4 = .ok (.iload_n 1, 1) := by decide +kernel
theorem dX8_count_5 : decode cX8_count 5 = .ok (.invokevirtual 79, 3) := by decide +kernel
theorem dX8_count_8 : decode cX8_count 8 = .ok (.lreturn, 1) := by decide +kernel
set_option maxRecDepth 20000 in
theorem ggX8_slot_X6_lineFigure : GoodIn wsX8_slot wsX6_lineFigure := goodIn_r _ [6, 7, 8, 9, 10, 11, 12, 13, 14, 15, 16, 17, 18, 19, 20, 21, 26, 27, 28, 29, 30, 31, 32, 33, 34, 35, 36, 37, 38, 39, 40, 41, 42, 43, 44, 45, 46, 47, 48, 49, 50, 51, 52] (by decide +kernel) (by decide +kernel)
set_option maxRecDepth 20000 in
theorem gX8_slot_X6_lineFigure : GoodIn wsX8_slot (wsV RX8 83 RX6 yX6_lineFigure wsX6_lineFigure) := goodIn_app (goodIn_of _ (by decide +kernel)) ggX8_slot_X6_lineFigure
theorem dX8_slot_0 : decode cX8_slot 0 = .ok (.aload_n 0, 1) := by decide +kernel
theorem dX8_slot_1 : decode cX8_slot 1 = .ok (.getfield 21, 3) := by decide +kernel
theorem dX8_slot_4 : decode cX8_slot 4 = .ok (.iload_n 1, 1) := by decide +kernel
theorem dX8_slot_5 : decode cX8_slot 5 = .ok (.iload_n 2, 1) := by decide +kernel
theorem dX8_slot_6 : decode cX8_slot 6 = .ok (.invokevirtual 83, 3) := by decide +kernel
theorem dX8_slot_9 : decode cX8_slot 9 = .ok (.ireturn, 1) := by decide +kernel
set_option maxRecDepth 20000 in
theorem ggX8_told_X6_hasCaller : GoodIn wsX8_told wsX6_hasCaller := goodIn_r _ [8, 9, 10, 11, 12, 40, 41, 42, 43, 44, 45, 46, 47, 48, 49, 50] (by decide +kernel) (by decide +kernel)
set_option maxRecDepth 20000 in
theorem gX8_told_X6_hasCaller : GoodIn wsX8_told (wsV RX8 86 RX6 yX6_hasCaller wsX6_hasCaller) := goodIn_app (goodIn_of _ (by decide +kernel)) ggX8_told_X6_hasCaller
set_option maxRecDepth 20000 in
theorem ggX8_told_X8_within : GoodIn wsX8_told wsX8_within := goodIn_r _ [12] (by decide +kernel) (by decide +kernel)
set_option maxRecDepth 20000 in
theorem gX8_told_X8_within : GoodIn wsX8_told (va_wsS RX8 64 yX8_within wsX8_within) := goodIn_app (goodIn_of _ (by decide +kernel)) ggX8_told_X8_within
set_option maxRecDepth 20000 in
theorem ggX8_told_X6_callerFigure : GoodIn wsX8_told wsX6_callerFigure := goodIn_r _ [17, 18, 19, 20, 21, 22, 23, 24, 25, 26, 7, 27, 28, 29, 30, 31, 32, 33, 34, 35, 40, 41, 42, 43, 44, 45, 46, 47, 48, 49, 50, 51, 52, 53, 54, 55, 56, 57, 58, 59, 60, 61, 62, 63, 64, 65, 66] (by decide +kernel) (by decide +kernel)
set_option maxRecDepth 20000 in
theorem gX8_told_X6_callerFigure : GoodIn wsX8_told (wsV RX8 92 RX6 yX6_callerFigure wsX6_callerFigure) := goodIn_app (goodIn_of _ (by decide +kernel)) ggX8_told_X6_callerFigure
theorem dX8_told_0 : decode cX8_told 0 = .ok (.aload_n 0, 1) := by decide +kernel
theorem dX8_told_1 : decode cX8_told 1 = .ok (.getfield 21, 3) := by decide +kernel
theorem dX8_told_4 : decode cX8_told 4 = .ok (.iload_n 1, 1) := by decide +kernel
theorem dX8_told_5 : decode cX8_told 5 = .ok (.invokevirtual 86, 3) := by decide +kernel
theorem dX8_told_8 : decode cX8_told 8 = .ok (.ifCond .eq 12, 3) := by decide +kernel
theorem dX8_told_11 : decode cX8_told 11 = .ok (.iload_n 2, 1) := by decide +kernel
theorem dX8_told_12 : decode cX8_told 12 = .ok (.iconst 0, 1) := by decide +kernel
theorem dX8_told_13 : decode cX8_told 13 = .ok (.iconst 5, 1) := by decide +kernel
theorem dX8_told_14 : decode cX8_told 14 = .ok (.invokestatic 64, 3) := by decide +kernel
theorem dX8_told_17 : decode cX8_told 17 = .ok (.ifCond .ne 11, 3) := by decide +kernel
theorem dX8_told_20 : decode cX8_told 20 = .ok (.new 89, 3) := by decide +kernel
theorem dX8_told_23 : decode cX8_told 23 = .ok (.dup, 1) := by decide +kernel
theorem dX8_told_24 : decode cX8_told 24 = .ok (.invokespecial 91, 3) := by decide +kernel
theorem dX8_told_27 : decode cX8_told 27 = .ok (.athrow, 1) := by decide +kernel
theorem dX8_told_28 : decode cX8_told 28 = .ok (.aload_n 0, 1) := by decide +kernel
theorem dX8_told_29 : decode cX8_told 29 = .ok (.getfield 21, 3) := by decide +kernel
theorem dX8_told_32 : decode cX8_told 32 = .ok (.iload_n 1, 1) := by decide +kernel
theorem dX8_told_33 : decode cX8_told 33 = .ok (.iload_n 2, 1) := by decide +kernel
theorem dX8_told_34 : decode cX8_told 34 = .ok (.invokevirtual 92, 3) := by decide +kernel
theorem dX8_told_37 : decode cX8_told 37 = .ok (.ireturn, 1) := by decide +kernel
set_option maxRecDepth 20000 in
theorem ggX8_event_X6_eventFigure : GoodIn wsX8_event wsX6_eventFigure := goodIn_r _ [6, 7, 8, 9, 10, 11, 12, 13, 14, 15, 16, 17, 18, 19, 20, 21, 22, 23, 24, 25, 30, 31, 32, 33, 34, 35, 36, 37, 38, 39, 40, 41, 42, 43] (by decide +kernel) (by decide +kernel)
set_option maxRecDepth 20000 in
theorem gX8_event_X6_eventFigure : GoodIn wsX8_event (wsV RX8 95 RX6 yX6_eventFigure wsX6_eventFigure) := goodIn_app (goodIn_of _ (by decide +kernel)) ggX8_event_X6_eventFigure
theorem dX8_event_0 : decode cX8_event 0 = .ok (.aload_n 0, 1) := by decide +kernel
theorem dX8_event_1 : decode cX8_event 1 = .ok (.getfield 21, 3) := by decide +kernel
theorem dX8_event_4 : decode cX8_event 4 = .ok (.iload_n 1, 1) := by decide +kernel
theorem dX8_event_5 : decode cX8_event 5 = .ok (.iload_n 2, 1) := by decide +kernel
theorem dX8_event_6 : decode cX8_event 6 = .ok (.invokevirtual 95, 3) := by decide +kernel
theorem dX8_event_9 : decode cX8_event 9 = .ok (.ireturn, 1) := by decide +kernel
set_option maxRecDepth 20000 in
theorem ggX8_mean_X8_countable : GoodIn wsX8_mean wsX8_countable := goodIn_r _ [8, 9, 10, 7, 11] (by decide +kernel) (by decide +kernel)
set_option maxRecDepth 20000 in
theorem gX8_mean_X8_countable : GoodIn wsX8_mean (va_wsS RX8 98 yX8_countable wsX8_countable) := goodIn_app (goodIn_of _ (by decide +kernel)) ggX8_mean_X8_countable
set_option maxRecDepth 20000 in
theorem ggX8_mean_X8_within : GoodIn wsX8_mean wsX8_within := goodIn_r _ [11] (by decide +kernel) (by decide +kernel)
set_option maxRecDepth 20000 in
theorem gX8_mean_X8_within : GoodIn wsX8_mean (va_wsS RX8 64 yX8_within wsX8_within) := goodIn_app (goodIn_of _ (by decide +kernel)) ggX8_mean_X8_within
set_option maxRecDepth 20000 in
theorem ggX8_mean_X5_find : GoodIn wsX8_mean wsX5_find := goodIn_r _ [16, 17, 18, 19, 20, 21, 22, 23, 24, 25, 15, 26, 27, 28, 29, 30, 31, 32, 33, 34, 35, 36, 37, 38, 39, 40, 41, 42, 43, 44, 45, 50, 51, 52, 53, 54] (by decide +kernel) (by decide +kernel)
set_option maxRecDepth 20000 in
theorem gX8_mean_X5_find : GoodIn wsX8_mean (wsV RX8 103 RX5 yX5_find wsX5_find) := goodIn_app (goodIn_of _ (by decide +kernel)) ggX8_mean_X5_find
theorem dX8_mean_0 : decode cX8_mean 0 = .ok (.iload_n 1, 1) := by decide +kernel
theorem dX8_mean_1 : decode cX8_mean 1 = .ok (.iload_n 2, 1) := by decide +kernel
theorem dX8_mean_2 : decode cX8_mean 2 = .ok (.iload_n 3, 1) := by decide +kernel
theorem dX8_mean_3 : decode cX8_mean 3 = .ok (.invokestatic 98, 3) := by decide +kernel
theorem dX8_mean_6 : decode cX8_mean 6 = .ok (.ifCond .eq 13, 3) := by decide +kernel
theorem dX8_mean_9 : decode cX8_mean 9 = .ok (.iload 4, 2) := by decide +kernel
theorem dX8_mean_11 : decode cX8_mean 11 = .ok (.iconst 0, 1) := by decide +kernel
theorem dX8_mean_12 : decode cX8_mean 12 = .ok (.iconst 1, 1) := by decide +kernel
theorem dX8_mean_13 : decode cX8_mean 13 = .ok (.invokestatic 64, 3) := by decide +kernel
theorem dX8_mean_16 : decode cX8_mean 16 = .ok (.ifCond .ne 7, 3) := by decide +kernel
theorem dX8_mean_19 : decode cX8_mean 19 = .ok (.ldc2_w 101, 3) := by decide +kernel
theorem dX8_mean_22 : decode cX8_mean 22 = .ok (.lreturn, 1) := by decide +kernel
theorem dX8_mean_23 : decode cX8_mean 23 = .ok (.aload_n 0, 1) := by decide +kernel
theorem dX8_mean_24 : decode cX8_mean 24 = .ok (.getfield 28, 3) := by decide +kernel
theorem dX8_mean_27 : decode cX8_mean 27 = .ok (.iload_n 1, 1) := by decide +kernel
theorem dX8_mean_28 : decode cX8_mean 28 = .ok (.iload_n 2, 1) := by decide +kernel
theorem dX8_mean_29 : decode cX8_mean 29 = .ok (.iload_n 3, 1) := by decide +kernel
theorem dX8_mean_30 : decode cX8_mean 30 = .ok (.invokevirtual 103, 3) := by decide +kernel
theorem dX8_mean_33 : decode cX8_mean 33 = .ok (.iload 4, 2) := by decide +kernel
theorem dX8_mean_35 : decode cX8_mean 35 = .ok (.ifCond .ne 13, 3) := by decide +kernel
theorem dX8_mean_38 : decode cX8_mean 38 = .ok (.aload_n 0, 1) := by decide +kernel
theorem dX8_mean_39 : decode cX8_mean 39 = .ok (.getfield 28, 3) := by decide +kernel
theorem dX8_mean_42 : decode cX8_mean 42 = .ok (.getfield 107, 3) := by decide +kernel
theorem dX8_mean_45 : decode cX8_mean 45 = .ok (.goto 10, 3) := by decide +kernel
theorem dX8_mean_48 : decode cX8_mean 48 = .ok (.aload_n 0, 1) := by decide +kernel
theorem dX8_mean_49 : decode cX8_mean 49 = .ok (.getfield 28, 3) := by decide +kernel
theorem dX8_mean_52 : decode cX8_mean 52 = .ok (.getfield 111, 3) := by decide +kernel
theorem dX8_mean_55 : decode cX8_mean 55 = .ok (.lreturn, 1) := by decide +kernel
set_option maxRecDepth 20000 in
theorem ggX8_best_X8_countable : GoodIn wsX8_best wsX8_countable := goodIn_r _ [5, 6, 7, 4, 8] (by decide +kernel) (by decide +kernel)
set_option maxRecDepth 20000 in
theorem gX8_best_X8_countable : GoodIn wsX8_best (va_wsS RX8 98 yX8_countable wsX8_countable) := goodIn_app (goodIn_of _ (by decide +kernel)) ggX8_best_X8_countable
set_option maxRecDepth 20000 in
theorem ggX8_best_X5_bestSize : GoodIn wsX8_best wsX5_bestSize := goodIn_r _ [13, 14, 15, 16, 17, 18, 12, 19, 20, 21, 22, 23, 24, 25, 26, 27, 28, 29, 30, 31, 32, 33, 34, 35, 36, 37, 38, 39, 40, 41, 42, 43, 44, 45, 46, 47, 48, 49, 54, 55, 56, 57, 58] (by decide +kernel) (by decide +kernel)
set_option maxRecDepth 20000 in
theorem gX8_best_X5_bestSize : GoodIn wsX8_best (wsV RX8 114 RX5 yX5_bestSize wsX5_bestSize) := goodIn_app (goodIn_of _ (by decide +kernel)) ggX8_best_X5_bestSize
theorem dX8_best_0 : decode cX8_best 0 = .ok (.iload_n 1, 1) := by decide +kernel
theorem dX8_best_1 : decode cX8_best 1 = .ok (.iload_n 2, 1) := by decide +kernel
theorem dX8_best_2 : decode cX8_best 2 = .ok (.iload_n 3, 1) := by decide +kernel
theorem dX8_best_3 : decode cX8_best 3 = .ok (.invokestatic 98, 3) := by decide +kernel
theorem dX8_best_6 : decode cX8_best 6 = .ok (.ifCond .ne 5, 3) := by decide +kernel
theorem dX8_best_9 : decode cX8_best 9 = .ok (.iconst (-1), 1) := by decide +kernel
theorem dX8_best_10 : decode cX8_best 10 = .ok (.ireturn, 1) := by decide +kernel
theorem dX8_best_11 : decode cX8_best 11 = .ok (.aload_n 0, 1) := by decide +kernel
theorem dX8_best_12 : decode cX8_best 12 = .ok (.getfield 28, 3) := by decide +kernel
theorem dX8_best_15 : decode cX8_best 15 = .ok (.iload_n 1, 1) := by decide +kernel
theorem dX8_best_16 : decode cX8_best 16 = .ok (.iload_n 2, 1) := by decide +kernel
theorem dX8_best_17 : decode cX8_best 17 = .ok (.iload_n 3, 1) := by decide +kernel
theorem dX8_best_18 : decode cX8_best 18 = .ok (.invokevirtual 114, 3) := by decide +kernel
theorem dX8_best_21 : decode cX8_best 21 = .ok (.ireturn, 1) := by decide +kernel
set_option maxRecDepth 20000 in
theorem ggX8_crowd_X2_join : GoodIn wsX8_crowd wsX2_join := goodIn_r _ [6, 7, 8, 9, 10, 11, 12, 17, 18, 19, 20, 21, 22, 23] (by decide +kernel) (by decide +kernel)
set_option maxRecDepth 20000 in
theorem gX8_crowd_X2_join : GoodIn wsX8_crowd (wsV RX8 118 RX2 yX2_join wsX2_join) := goodIn_app (goodIn_of _ (by decide +kernel)) ggX8_crowd_X2_join
theorem dX8_crowd_0 : decode cX8_crowd 0 = .ok (.aload_n 0, 1) := by decide +kernel
theorem dX8_crowd_1 : decode cX8_crowd 1 = .ok (.getfield 35, 3) := by decide +kernel
theorem dX8_crowd_4 : decode cX8_crowd 4 = .ok (.iload_n 1, 1) := by decide +kernel
theorem dX8_crowd_5 : decode cX8_crowd 5 = .ok (.invokevirtual 118, 3) := by decide +kernel
theorem dX8_crowd_8 : decode cX8_crowd 8 = .ok (.ireturn, 1) := by decide +kernel
set_option maxRecDepth 20000 in
theorem ggX8_scatter_X2_dismiss : GoodIn wsX8_scatter wsX2_dismiss := goodIn_r _ [6, 7, 8, 13, 14, 15, 16, 17, 18, 19] (by decide +kernel) (by decide +kernel)
set_option maxRecDepth 20000 in
theorem gX8_scatter_X2_dismiss : GoodIn wsX8_scatter (wsV RX8 75 RX2 yX2_dismiss wsX2_dismiss) := goodIn_app (goodIn_of _ (by decide +kernel)) ggX8_scatter_X2_dismiss
theorem dX8_scatter_0 : decode cX8_scatter 0 = .ok (.aload_n 0, 1) := by decide +kernel
theorem dX8_scatter_1 : decode cX8_scatter 1 = .ok (.getfield 35, 3) := by decide +kernel
theorem dX8_scatter_4 : decode cX8_scatter 4 = .ok (.invokevirtual 75, 3) := by decide +kernel
theorem dX8_scatter_7 : decode cX8_scatter 7 = .ok (.ireturn, 1) := by decide +kernel
set_option maxRecDepth 20000 in
theorem ggX8_states_X2_figure : GoodIn wsX8_states wsX2_figure := goodIn_r _ [6, 7, 8, 9, 10, 11, 12, 13, 14, 15, 5, 16, 17, 18, 19, 20, 21, 22, 23, 24, 25, 26, 27, 28, 29, 30, 31, 32, 33, 34, 35, 36, 37, 38, 39, 40, 41, 42, 43, 44, 45, 46, 47, 48, 53, 54, 55, 56, 57, 58, 59] (by decide +kernel) (by decide +kernel)
set_option maxRecDepth 20000 in
theorem gX8_states_X2_figure : GoodIn wsX8_states (wsV RX8 121 RX2 yX2_figure wsX2_figure) := goodIn_app (goodIn_of _ (by decide +kernel)) ggX8_states_X2_figure
theorem dX8_states_0 : decode cX8_states 0 = .ok (.aload_n 0, 1) := by decide +kernel
theorem dX8_states_1 : decode cX8_states 1 = .ok (.getfield 35, 3) := by decide +kernel
theorem dX8_states_4 : decode cX8_states 4 = .ok (.iload_n 1, 1) := by decide +kernel
theorem dX8_states_5 : decode cX8_states 5 = .ok (.iload_n 2, 1) := by decide +kernel
theorem dX8_states_6 : decode cX8_states 6 = .ok (.invokevirtual 121, 3) := by decide +kernel
theorem dX8_states_9 : decode cX8_states 9 = .ok (.ireturn, 1) := by decide +kernel
set_option maxRecDepth 20000 in
theorem ggX8_sure_X2_sureLines : GoodIn wsX8_sure wsX2_sureLines := goodIn_r _ [6, 7, 8, 13, 14, 15, 16, 17, 18, 19] (by decide +kernel) (by decide +kernel)
set_option maxRecDepth 20000 in
theorem gX8_sure_X2_sureLines : GoodIn wsX8_sure (wsV RX8 123 RX2 yX2_sureLines wsX2_sureLines) := goodIn_app (goodIn_of _ (by decide +kernel)) ggX8_sure_X2_sureLines
theorem dX8_sure_0 : decode cX8_sure 0 = .ok (.aload_n 0, 1) := by decide +kernel
theorem dX8_sure_1 : decode cX8_sure 1 = .ok (.getfield 35, 3) := by decide +kernel
theorem dX8_sure_4 : decode cX8_sure 4 = .ok (.invokevirtual 123, 3) := by decide +kernel
theorem dX8_sure_7 : decode cX8_sure 7 = .ok (.ireturn, 1) := by decide +kernel
set_option maxRecDepth 20000 in
theorem ggX8_countable_X8_within : GoodIn wsX8_countable wsX8_within := goodIn_r _ [4] (by decide +kernel) (by decide +kernel)
set_option maxRecDepth 20000 in
theorem gX8_countable_X8_within : GoodIn wsX8_countable (va_wsS RX8 64 yX8_within wsX8_within) := goodIn_app (goodIn_of _ (by decide +kernel)) ggX8_countable_X8_within
theorem dX8_countable_0 : decode cX8_countable 0 = .ok (.iload_n 0, 1) := by decide +kernel
theorem dX8_countable_1 : decode cX8_countable 1 = .ok (.iconst 1, 1) := by decide +kernel
theorem dX8_countable_2 : decode cX8_countable 2 = .ok (.bipush 8, 2) := by decide +kernel
theorem dX8_countable_4 : decode cX8_countable 4 = .ok (.invokestatic 64, 3) := by decide +kernel
theorem dX8_countable_7 : decode cX8_countable 7 = .ok (.ifCond .eq 27, 3) := by decide +kernel
theorem dX8_countable_10 : decode cX8_countable 10 = .ok (.iload_n 1, 1) := by decide +kernel
theorem dX8_countable_11 : decode cX8_countable 11 = .ok (.iconst 1, 1) := by decide +kernel
theorem dX8_countable_12 : decode cX8_countable 12 = .ok (.bipush 9, 2) := by decide +kernel
theorem dX8_countable_14 : decode cX8_countable 14 = .ok (.invokestatic 64, 3) := by decide +kernel
theorem dX8_countable_17 : decode cX8_countable 17 = .ok (.ifCond .eq 17, 3) := by decide +kernel
theorem dX8_countable_20 : decode cX8_countable 20 = .ok (.iload_n 2, 1) := by decide +kernel
theorem dX8_countable_21 : decode cX8_countable 21 = .ok (.iconst 1, 1) := by decide +kernel
theorem dX8_countable_22 : decode cX8_countable 22 = .ok (.bipush 8, 2) := by decide +kernel
theorem dX8_countable_24 : decode cX8_countable 24 = .ok (.invokestatic 64, 3) := by decide +kernel
theorem dX8_countable_27 : decode cX8_countable 27 = .ok (.ifCond .eq 7, 3) := by decide +kernel
theorem dX8_countable_30 : decode cX8_countable 30 = .ok (.iconst 1, 1) := by decide +kernel
theorem dX8_countable_31 : decode cX8_countable 31 = .ok (.goto 4, 3) := by decide +kernel
theorem dX8_countable_34 : decode cX8_countable 34 = .ok (.iconst 0, 1) := by decide +kernel
theorem dX8_countable_35 : decode cX8_countable 35 = .ok (.ireturn, 1) := by decide +kernel
theorem dX8_within_0 : decode cX8_within 0 = .ok (.iload_n 0, 1) := by decide +kernel
theorem dX8_within_1 : decode cX8_within 1 = .ok (.iload_n 1, 1) := by decide +kernel
theorem dX8_within_2 : decode cX8_within 2 = .ok (.if_icmp .lt 12, 3) := by decide +kernel
theorem dX8_within_5 : decode cX8_within 5 = .ok (.iload_n 0, 1) := by decide +kernel
theorem dX8_within_6 : decode cX8_within 6 = .ok (.iload_n 2, 1) := by decide +kernel
theorem dX8_within_7 : decode cX8_within 7 = .ok (.if_icmp .gt 7, 3) := by decide +kernel
theorem dX8_within_10 : decode cX8_within 10 = .ok (.iconst 1, 1) := by decide +kernel
theorem dX8_within_11 : decode cX8_within 11 = .ok (.goto 4, 3) := by decide +kernel
theorem dX8_within_14 : decode cX8_within 14 = .ok (.iconst 0, 1) := by decide +kernel
theorem dX8_within_15 : decode cX8_within 15 = .ok (.ireturn, 1) := by decide +kernel
theorem dX9_init_0 : decode cX9_init 0 = .ok (.aload_n 0, 1) := by decide +kernel
theorem dX9_init_1 : decode cX9_init 1 = .ok (.invokespecial 1, 3) := by decide +kernel
theorem dX9_init_4 : decode cX9_init 4 = .ok (.aload_n 0, 1) := by decide +kernel
theorem dX9_init_5 : decode cX9_init 5 = .ok (.bipush 6, 2) := by decide +kernel
theorem dX9_init_7 : decode cX9_init 7 = .ok (.newarray .int, 2) := by decide +kernel
theorem dX9_init_9 : decode cX9_init 9 = .ok (.dup, 1) := by decide +kernel
theorem dX9_init_10 : decode cX9_init 10 = .ok (.iconst 0, 1) := by decide +kernel
theorem dX9_init_11 : decode cX9_init 11 = .ok (.iconst 4, 1) := by decide +kernel
theorem dX9_init_12 : decode cX9_init 12 = .ok (.iastore, 1) := by decide +kernel
theorem dX9_init_13 : decode cX9_init 13 = .ok (.dup, 1) := by decide +kernel
theorem dX9_init_14 : decode cX9_init 14 = .ok (.iconst 1, 1) := by decide +kernel
theorem dX9_init_15 : decode cX9_init 15 = .ok (.iconst 2, 1) := by decide +kernel
theorem dX9_init_16 : decode cX9_init 16 = .ok (.iastore, 1) := by decide +kernel
theorem dX9_init_17 : decode cX9_init 17 = .ok (.dup, 1) := by decide +kernel
theorem dX9_init_18 : decode cX9_init 18 = .ok (.iconst 2, 1) := by decide +kernel
theorem dX9_init_19 : decode cX9_init 19 = .ok (.iconst 1, 1) := by decide +kernel
theorem dX9_init_20 : decode cX9_init 20 = .ok (.iastore, 1) := by decide +kernel
theorem dX9_init_21 : decode cX9_init 21 = .ok (.dup, 1) := by decide +kernel
theorem dX9_init_22 : decode cX9_init 22 = .ok (.iconst 3, 1) := by decide +kernel
theorem dX9_init_23 : decode cX9_init 23 = .ok (.bipush 100, 2) := by decide +kernel
theorem dX9_init_25 : decode cX9_init 25 = .ok (.iastore, 1) := by decide +kernel
theorem dX9_init_26 : decode cX9_init 26 = .ok (.dup, 1) := by decide +kernel
theorem dX9_init_27 : decode cX9_init 27 = .ok (.iconst 4, 1) := by decide +kernel
theorem dX9_init_28 : decode cX9_init 28 = .ok (.bipush 50, 2) := by decide +kernel
theorem dX9_init_30 : decode cX9_init 30 = .ok (.iastore, 1) := by decide +kernel
theorem dX9_init_31 : decode cX9_init 31 = .ok (.dup, 1) := by decide +kernel
theorem dX9_init_32 : decode cX9_init 32 = .ok (.iconst 5, 1) := by decide +kernel
theorem dX9_init_33 : decode cX9_init 33 = .ok (.iconst 1, 1) := by decide +kernel
theorem dX9_init_34 : decode cX9_init 34 = .ok (.iastore, 1) := by decide +kernel
theorem dX9_init_35 : decode cX9_init 35 = .ok (.putfield 7, 3) := by decide +kernel
theorem dX9_init_38 : decode cX9_init 38 = .ok (.aload_n 0, 1) := by decide +kernel
theorem dX9_init_39 : decode cX9_init 39 = .ok (.bipush 6, 2) := by decide +kernel
theorem dX9_init_41 : decode cX9_init 41 = .ok (.newarray .int, 2) := by decide +kernel
theorem dX9_init_43 : decode cX9_init 43 = .ok (.dup, 1) := by decide +kernel
theorem dX9_init_44 : decode cX9_init 44 = .ok (.iconst 0, 1) := by decide +kernel
theorem dX9_init_45 : decode cX9_init 45 = .ok (.iconst 1, 1) := by decide +kernel
theorem dX9_init_46 : decode cX9_init 46 = .ok (.iastore, 1) := by decide +kernel
theorem dX9_init_47 : decode cX9_init 47 = .ok (.dup, 1) := by decide +kernel
theorem dX9_init_48 : decode cX9_init 48 = .ok (.iconst 1, 1) := by decide +kernel
theorem dX9_init_49 : decode cX9_init 49 = .ok (.iconst 0, 1) := by decide +kernel
theorem dX9_init_50 : decode cX9_init 50 = .ok (.iastore, 1) := by decide +kernel
theorem dX9_init_51 : decode cX9_init 51 = .ok (.dup, 1) := by decide +kernel
theorem dX9_init_52 : decode cX9_init 52 = .ok (.iconst 2, 1) := by decide +kernel
theorem dX9_init_53 : decode cX9_init 53 = .ok (.iconst (-1), 1) := by decide +kernel
theorem dX9_init_54 : decode cX9_init 54 = .ok (.iastore, 1) := by decide +kernel
theorem dX9_init_55 : decode cX9_init 55 = .ok (.dup, 1) := by decide +kernel
theorem dX9_init_56 : decode cX9_init 56 = .ok (.iconst 3, 1) := by decide +kernel
theorem dX9_init_57 : decode cX9_init 57 = .ok (.iconst 1, 1) := by decide +kernel
theorem dX9_init_58 : decode cX9_init 58 = .ok (.iastore, 1) := by decide +kernel
theorem dX9_init_59 : decode cX9_init 59 = .ok (.dup, 1) := by decide +kernel
theorem dX9_init_60 : decode cX9_init 60 = .ok (.iconst 4, 1) := by decide +kernel
theorem dX9_init_61 : decode cX9_init 61 = .ok (.iconst 1, 1) := by decide +kernel
theorem dX9_init_62 : decode cX9_init 62 = .ok (.iastore, 1) := by decide +kernel
theorem dX9_init_63 : decode cX9_init 63 = .ok (.dup, 1) := by decide +kernel
theorem dX9_init_64 : decode cX9_init 64 = .ok (.iconst 5, 1) := by decide +kernel
theorem dX9_init_65 : decode cX9_init 65 = .ok (.iconst 0, 1) := by decide +kernel
theorem dX9_init_66 : decode cX9_init 66 = .ok (.iastore, 1) := by decide +kernel
theorem dX9_init_67 : decode cX9_init 67 = .ok (.putfield 13, 3) := by decide +kernel
theorem dX9_init_70 : decode cX9_init 70 = .ok (.aload_n 0, 1) := by decide +kernel
theorem dX9_init_71 : decode cX9_init 71 = .ok (.bipush 6, 2) := by decide +kernel
theorem dX9_init_73 : decode cX9_init 73 = .ok (.newarray .int, 2) := by decide +kernel
theorem dX9_init_75 : decode cX9_init 75 = .ok (.dup, 1) := by decide +kernel
theorem dX9_init_76 : decode cX9_init 76 = .ok (.iconst 0, 1) := by decide +kernel
theorem dX9_init_77 : decode cX9_init 77 = .ok (.bipush 12, 2) := by decide +kernel
theorem dX9_init_79 : decode cX9_init 79 = .ok (.iastore, 1) := by decide +kernel
theorem dX9_init_80 : decode cX9_init 80 = .ok (.dup, 1) := by decide +kernel
theorem dX9_init_81 : decode cX9_init 81 = .ok (.iconst 1, 1) := by decide +kernel
theorem dX9_init_82 : decode cX9_init 82 = .ok (.bipush 20, 2) := by decide +kernel
theorem dX9_init_84 : decode cX9_init 84 = .ok (.iastore, 1) := by decide +kernel
theorem dX9_init_85 : decode cX9_init 85 = .ok (.dup, 1) := by decide +kernel
theorem dX9_init_86 : decode cX9_init 86 = .ok (.iconst 2, 1) := by decide +kernel
theorem dX9_init_87 : decode cX9_init 87 = .ok (.bipush 20, 2) := by decide +kernel
theorem dX9_init_89 : decode cX9_init 89 = .ok (.iastore, 1) := by decide +kernel
theorem dX9_init_90 : decode cX9_init 90 = .ok (.dup, 1) := by decide +kernel
theorem dX9_init_91 : decode cX9_init 91 = .ok (.iconst 3, 1) := by decide +kernel
theorem dX9_init_92 : decode cX9_init 92 = .ok (.sipush 1000, 3) := by decide +kernel
theorem dX9_init_95 : decode cX9_init 95 = .ok (.iastore, 1) := by decide +kernel
theorem dX9_init_96 : decode cX9_init 96 = .ok (.dup, 1) := by decide +kernel
theorem dX9_init_97 : decode cX9_init 97 = .ok (.iconst 4, 1) := by decide +kernel
theorem dX9_init_98 : decode cX9_init 98 = .ok (.sipush 1000, 3) := by decide +kernel
theorem dX9_init_101 : decode cX9_init 101 = .ok (.iastore, 1) := by decide +kernel
theorem dX9_init_102 : decode cX9_init 102 = .ok (.dup, 1) := by decide +kernel
theorem dX9_init_103 : decode cX9_init 103 = .ok (.iconst 5, 1) := by decide +kernel
theorem dX9_init_104 : decode cX9_init 104 = .ok (.bipush 12, 2) := by decide +kernel
theorem dX9_init_106 : decode cX9_init 106 = .ok (.iastore, 1) := by decide +kernel
theorem dX9_init_107 : decode cX9_init 107 = .ok (.putfield 16, 3) := by decide +kernel
theorem dX9_init_110 : decode cX9_init 110 = .ok (.aload_n 0, 1) := by decide +kernel
theorem dX9_init_111 : decode cX9_init 111 = .ok (.bipush 13, 2) := by decide +kernel
theorem dX9_init_113 : decode cX9_init 113 = .ok (.newarray .int, 2) := by decide +kernel
theorem dX9_init_115 : decode cX9_init 115 = .ok (.putfield 19, 3) := by decide +kernel
theorem dX9_init_118 : decode cX9_init 118 = .ok (.aload_n 0, 1) := by decide +kernel
theorem dX9_init_119 : decode cX9_init 119 = .ok (.bipush 12, 2) := by decide +kernel
theorem dX9_init_121 : decode cX9_init 121 = .ok (.newarray .int, 2) := by decide +kernel
theorem dX9_init_123 : decode cX9_init 123 = .ok (.putfield 22, 3) := by decide +kernel
theorem dX9_init_126 : decode cX9_init 126 = .ok (.aload_n 0, 1) := by decide +kernel
theorem dX9_init_127 : decode cX9_init 127 = .ok (.bipush 12, 2) := by decide +kernel
theorem dX9_init_129 : decode cX9_init 129 = .ok (.newarray .boolean, 2) := by decide +kernel
theorem dX9_init_131 : decode cX9_init 131 = .ok (.putfield 25, 3) := by decide +kernel
theorem dX9_init_134 : decode cX9_init 134 = .ok (.aload_n 0, 1) := by decide +kernel
theorem dX9_init_135 : decode cX9_init 135 = .ok (.bipush 12, 2) := by decide +kernel
theorem dX9_init_137 : decode cX9_init 137 = .ok (.newarray .int, 2) := by decide +kernel
theorem dX9_init_139 : decode cX9_init 139 = .ok (.putfield 29, 3) := by decide +kernel
theorem dX9_init_142 : decode cX9_init 142 = .ok (.aload_n 0, 1) := by decide +kernel
theorem dX9_init_143 : decode cX9_init 143 = .ok (.bipush 12, 2) := by decide +kernel
theorem dX9_init_145 : decode cX9_init 145 = .ok (.newarray .int, 2) := by decide +kernel
theorem dX9_init_147 : decode cX9_init 147 = .ok (.putfield 32, 3) := by decide +kernel
theorem dX9_init_150 : decode cX9_init 150 = .ok (.aload_n 0, 1) := by decide +kernel
theorem dX9_init_151 : decode cX9_init 151 = .ok (.bipush 12, 2) := by decide +kernel
theorem dX9_init_153 : decode cX9_init 153 = .ok (.newarray .int, 2) := by decide +kernel
theorem dX9_init_155 : decode cX9_init 155 = .ok (.putfield 35, 3) := by decide +kernel
theorem dX9_init_158 : decode cX9_init 158 = .ok (.aload_n 0, 1) := by decide +kernel
theorem dX9_init_159 : decode cX9_init 159 = .ok (.bipush 60, 2) := by decide +kernel
theorem dX9_init_161 : decode cX9_init 161 = .ok (.newarray .int, 2) := by decide +kernel
theorem dX9_init_163 : decode cX9_init 163 = .ok (.putfield 38, 3) := by decide +kernel
theorem dX9_init_166 : decode cX9_init 166 = .ok (.aload_n 0, 1) := by decide +kernel
theorem dX9_init_167 : decode cX9_init 167 = .ok (.bipush 60, 2) := by decide +kernel
theorem dX9_init_169 : decode cX9_init 169 = .ok (.newarray .int, 2) := by decide +kernel
theorem dX9_init_171 : decode cX9_init 171 = .ok (.putfield 41, 3) := by decide +kernel
theorem dX9_init_174 : decode cX9_init 174 = .ok (.aload_n 0, 1) := by decide +kernel
theorem dX9_init_175 : decode cX9_init 175 = .ok (.bipush 60, 2) := by decide +kernel
theorem dX9_init_177 : decode cX9_init 177 = .ok (.newarray .int, 2) := by decide +kernel
theorem dX9_init_179 : decode cX9_init 179 = .ok (.putfield 44, 3) := by decide +kernel
theorem dX9_init_182 : decode cX9_init 182 = .ok (.aload_n 0, 1) := by decide +kernel
theorem dX9_init_183 : decode cX9_init 183 = .ok (.bipush 60, 2) := by decide +kernel
theorem dX9_init_185 : decode cX9_init 185 = .ok (.newarray .int, 2) := by decide +kernel
theorem dX9_init_187 : decode cX9_init 187 = .ok (.putfield 47, 3) := by decide +kernel
theorem dX9_init_190 : decode cX9_init 190 = .ok (.aload_n 0, 1) := by decide +kernel
theorem dX9_init_191 : decode cX9_init 191 = .ok (.bipush 60, 2) := by decide +kernel
theorem dX9_init_193 : decode cX9_init 193 = .ok (.newarray .int, 2) := by decide +kernel
theorem dX9_init_195 : decode cX9_init 195 = .ok (.putfield 50, 3) := by decide +kernel
theorem dX9_init_198 : decode cX9_init 198 = .ok (.aload_n 0, 1) := by decide +kernel
theorem dX9_init_199 : decode cX9_init 199 = .ok (.bipush 60, 2) := by decide +kernel
theorem dX9_init_201 : decode cX9_init 201 = .ok (.newarray .int, 2) := by decide +kernel
theorem dX9_init_203 : decode cX9_init 203 = .ok (.putfield 53, 3) := by decide +kernel
theorem dX9_init_206 : decode cX9_init 206 = .ok (.aload_n 0, 1) := by decide +kernel
theorem dX9_init_207 : decode cX9_init 207 = .ok (.bipush 60, 2) := by decide +kernel
theorem dX9_init_209 : decode cX9_init 209 = .ok (.newarray .int, 2) := by decide +kernel
theorem dX9_init_211 : decode cX9_init 211 = .ok (.putfield 56, 3) := by decide +kernel
theorem dX9_init_214 : decode cX9_init 214 = .ok (.aload_n 0, 1) := by decide +kernel
theorem dX9_init_215 : decode cX9_init 215 = .ok (.bipush 60, 2) := by decide +kernel
theorem dX9_init_217 : decode cX9_init 217 = .ok (.newarray .int, 2) := by decide +kernel
theorem dX9_init_219 : decode cX9_init 219 = .ok (.putfield 59, 3) := by decide +kernel
theorem dX9_init_222 : decode cX9_init 222 = .ok (.aload_n 0, 1) := by decide +kernel
theorem dX9_init_223 : decode cX9_init 223 = .ok (.bipush 60, 2) := by decide +kernel
theorem dX9_init_225 : decode cX9_init 225 = .ok (.newarray .boolean, 2) := by decide +kernel
theorem dX9_init_227 : decode cX9_init 227 = .ok (.putfield 62, 3) := by decide +kernel
theorem dX9_init_230 : decode cX9_init 230 = .ok (.aload_n 0, 1) := by decide +kernel
theorem dX9_init_231 : decode cX9_init 231 = .ok (.bipush 60, 2) := by decide +kernel
theorem dX9_init_233 : decode cX9_init 233 = .ok (.newarray .int, 2) := by decide +kernel
theorem dX9_init_235 : decode cX9_init 235 = .ok (.putfield 65, 3) := by decide +kernel
theorem dX9_init_238 : decode cX9_init 238 = .ok (.aload_n 0, 1) := by decide +kernel
theorem dX9_init_239 : decode cX9_init 239 = .ok (.bipush 60, 2) := by decide +kernel
theorem dX9_init_241 : decode cX9_init 241 = .ok (.newarray .int, 2) := by decide +kernel
theorem dX9_init_243 : decode cX9_init 243 = .ok (.putfield 68, 3) := by decide +kernel
theorem dX9_init_246 : decode cX9_init 246 = .ok (.aload_n 0, 1) := by decide +kernel
theorem dX9_init_247 : decode cX9_init 247 = .ok (.sipush 600, 3) := by decide +kernel
theorem dX9_init_250 : decode cX9_init 250 = .ok (.newarray .int, 2) := by decide +kernel
theorem dX9_init_252 : decode cX9_init 252 = .ok (.putfield 71, 3) := by decide +kernel
theorem dX9_init_255 : decode cX9_init 255 = .ok (.aload_n 0, 1) := by decide +kernel
theorem dX9_init_256 : decode cX9_init 256 = .ok (.bipush 6, 2) := by decide +kernel
theorem dX9_init_258 : decode cX9_init 258 = .ok (.newarray .int, 2) := by decide +kernel
theorem dX9_init_260 : decode cX9_init 260 = .ok (.putfield 74, 3) := by decide +kernel
theorem dX9_init_263 : decode cX9_init 263 = .ok (.aload_n 0, 1) := by decide +kernel
theorem dX9_init_264 : decode cX9_init 264 = .ok (.sipush 15625, 3) := by decide +kernel
theorem dX9_init_267 : decode cX9_init 267 = .ok (.newarray .boolean, 2) := by decide +kernel
theorem dX9_init_269 : decode cX9_init 269 = .ok (.putfield 77, 3) := by decide +kernel
theorem dX9_init_272 : decode cX9_init 272 = .ok (.aload_n 0, 1) := by decide +kernel
theorem dX9_init_273 : decode cX9_init 273 = .ok (.sipush 15625, 3) := by decide +kernel
theorem dX9_init_276 : decode cX9_init 276 = .ok (.newarray .int, 2) := by decide +kernel
theorem dX9_init_278 : decode cX9_init 278 = .ok (.putfield 80, 3) := by decide +kernel
theorem dX9_init_281 : decode cX9_init 281 = .ok (.iconst 0, 1) := by decide +kernel
theorem dX9_init_282 : decode cX9_init 282 = .ok (.istore_n 1, 1) := by decide +kernel
theorem dX9_init_283 : decode cX9_init 283 = .ok (.iload_n 1, 1) := by decide +kernel
theorem dX9_init_284 : decode cX9_init 284 = .ok (.bipush 13, 2) := by decide +kernel
theorem dX9_init_286 : decode cX9_init 286 = .ok (.if_icmp .ge 17, 3) := by decide +kernel
theorem dX9_init_289 : decode cX9_init 289 = .ok (.aload_n 0, 1) := by decide +kernel
theorem dX9_init_290 : decode cX9_init 290 = .ok (.getfield 19, 3) := by decide +kernel
theorem dX9_init_293 : decode cX9_init 293 = .ok (.iload_n 1, 1) := by decide +kernel
theorem dX9_init_294 : decode cX9_init 294 = .ok (.bipush 10, 2) := by decide +kernel
theorem dX9_init_296 : decode cX9_init 296 = .ok (.iastore, 1) := by decide +kernel
theorem dX9_init_297 : decode cX9_init 297 = .ok (.iinc 1 1, 3) := by decide +kernel
theorem dX9_init_300 : decode cX9_init 300 = .ok (.goto (-17), 3) := by decide +kernel
theorem dX9_init_303 : decode cX9_init 303 = .ok (.return_, 1) := by decide +kernel
theorem dX9_thrown_0 : decode cX9_thrown 0 = .ok (.aload_n 0, 1) := by decide +kernel
theorem dX9_thrown_1 : decode cX9_thrown 1 = .ok (.getfield 83, 3) := by decide +kernel
theorem dX9_thrown_4 : decode cX9_thrown 4 = .ok (.ireturn, 1) := by decide +kernel
theorem dX9_set_0 : decode cX9_set 0 = .ok (.aload_n 0, 1) := by decide +kernel
theorem dX9_set_1 : decode cX9_set 1 = .ok (.iconst 0, 1) := by decide +kernel
theorem dX9_set_2 : decode cX9_set 2 = .ok (.putfield 83, 3) := by decide +kernel
theorem dX9_set_5 : decode cX9_set 5 = .ok (.iload_n 1, 1) := by decide +kernel
theorem dX9_set_6 : decode cX9_set 6 = .ok (.ifCond .lt 28, 3) := by decide +kernel
theorem dX9_set_9 : decode cX9_set 9 = .ok (.iload_n 1, 1) := by decide +kernel
theorem dX9_set_10 : decode cX9_set 10 = .ok (.iconst 5, 1) := by decide +kernel
theorem dX9_set_11 : decode cX9_set 11 = .ok (.if_icmp .gt 23, 3) := by decide +kernel
theorem dX9_set_14 : decode cX9_set 14 = .ok (.iload_n 2, 1) := by decide +kernel
theorem dX9_set_15 : decode cX9_set 15 = .ok (.aload_n 0, 1) := by decide +kernel
theorem dX9_set_16 : decode cX9_set 16 = .ok (.getfield 13, 3) := by decide +kernel
theorem dX9_set_19 : decode cX9_set 19 = .ok (.iload_n 1, 1) := by decide +kernel
theorem dX9_set_20 : decode cX9_set 20 = .ok (.iaload, 1) := by decide +kernel
theorem dX9_set_21 : decode cX9_set 21 = .ok (.if_icmp .lt 13, 3) := by decide +kernel
theorem dX9_set_24 : decode cX9_set 24 = .ok (.iload_n 2, 1) := by decide +kernel
theorem dX9_set_25 : decode cX9_set 25 = .ok (.aload_n 0, 1) := by decide +kernel
theorem dX9_set_26 : decode cX9_set 26 = .ok (.getfield 16, 3) := by decide +kernel
theorem dX9_set_29 : decode cX9_set 29 = .ok (.iload_n 1, 1) := by decide +kernel
theorem dX9_set_30 : decode cX9_set 30 = .ok (.iaload, 1) := by decide +kernel
theorem dX9_set_31 : decode cX9_set 31 = .ok (.if_icmp .le 6, 3) := by decide +kernel
theorem dX9_set_34 : decode cX9_set 34 = .ok (.bipush (-2), 2) := by decide +kernel
theorem dX9_set_36 : decode cX9_set 36 = .ok (.ireturn, 1) := by decide +kernel
theorem dX9_set_37 : decode cX9_set 37 = .ok (.aload_n 0, 1) := by decide +kernel
theorem dX9_set_38 : decode cX9_set 38 = .ok (.getfield 7, 3) := by decide +kernel
theorem dX9_set_41 : decode cX9_set 41 = .ok (.iload_n 1, 1) := by decide +kernel
theorem dX9_set_42 : decode cX9_set 42 = .ok (.iaload, 1) := by decide +kernel
theorem dX9_set_43 : decode cX9_set 43 = .ok (.istore_n 3, 1) := by decide +kernel
theorem dX9_set_44 : decode cX9_set 44 = .ok (.aload_n 0, 1) := by decide +kernel
theorem dX9_set_45 : decode cX9_set 45 = .ok (.getfield 7, 3) := by decide +kernel
theorem dX9_set_48 : decode cX9_set 48 = .ok (.iload_n 1, 1) := by decide +kernel
theorem dX9_set_49 : decode cX9_set 49 = .ok (.iload_n 2, 1) := by decide +kernel
theorem dX9_set_50 : decode cX9_set 50 = .ok (.iastore, 1) := by decide +kernel
theorem dX9_set_51 : decode cX9_set 51 = .ok (.iload_n 3, 1) := by decide +kernel
theorem dX9_set_52 : decode cX9_set 52 = .ok (.ireturn, 1) := by decide +kernel
theorem dX9_speed_0 : decode cX9_speed 0 = .ok (.aload_n 0, 1) := by decide +kernel
theorem dX9_speed_1 : decode cX9_speed 1 = .ok (.iconst 0, 1) := by decide +kernel
theorem dX9_speed_2 : decode cX9_speed 2 = .ok (.putfield 83, 3) := by decide +kernel
theorem dX9_speed_5 : decode cX9_speed 5 = .ok (.iload_n 1, 1) := by decide +kernel
theorem dX9_speed_6 : decode cX9_speed 6 = .ok (.iconst 1, 1) := by decide +kernel
theorem dX9_speed_7 : decode cX9_speed 7 = .ok (.if_icmp .lt 20, 3) := by decide +kernel
theorem dX9_speed_10 : decode cX9_speed 10 = .ok (.iload_n 1, 1) := by decide +kernel
theorem dX9_speed_11 : decode cX9_speed 11 = .ok (.bipush 12, 2) := by decide +kernel
theorem dX9_speed_13 : decode cX9_speed 13 = .ok (.if_icmp .gt 14, 3) := by decide +kernel
theorem dX9_speed_16 : decode cX9_speed 16 = .ok (.iload_n 2, 1) := by decide +kernel
theorem dX9_speed_17 : decode cX9_speed 17 = .ok (.iconst 1, 1) := by decide +kernel
theorem dX9_speed_18 : decode cX9_speed 18 = .ok (.if_icmp .lt 9, 3) := by decide +kernel
theorem dX9_speed_21 : decode cX9_speed 21 = .ok (.iload_n 2, 1) := by decide +kernel
theorem dX9_speed_22 : decode cX9_speed 22 = .ok (.bipush 100, 2) := by decide +kernel
theorem dX9_speed_24 : decode cX9_speed 24 = .ok (.if_icmp .le 5, 3) := by decide +kernel
theorem dX9_speed_27 : decode cX9_speed 27 = .ok (.iconst 0, 1) := by decide +kernel
theorem dX9_speed_28 : decode cX9_speed 28 = .ok (.ireturn, 1) := by decide +kernel
theorem dX9_speed_29 : decode cX9_speed 29 = .ok (.aload_n 0, 1) := by decide +kernel
theorem dX9_speed_30 : decode cX9_speed 30 = .ok (.getfield 19, 3) := by decide +kernel
theorem dX9_speed_33 : decode cX9_speed 33 = .ok (.iload_n 1, 1) := by decide +kernel
theorem dX9_speed_34 : decode cX9_speed 34 = .ok (.iload_n 2, 1) := by decide +kernel
theorem dX9_speed_35 : decode cX9_speed 35 = .ok (.iastore, 1) := by decide +kernel
theorem dX9_speed_36 : decode cX9_speed 36 = .ok (.iconst 1, 1) := by decide +kernel
theorem dX9_speed_37 : decode cX9_speed 37 = .ok (.ireturn, 1) := by decide +kernel
theorem dX9_caller_0 : decode cX9_caller 0 = .ok (.aload_n 0, 1) := by decide +kernel
theorem dX9_caller_1 : decode cX9_caller 1 = .ok (.iconst 0, 1) := by decide +kernel
theorem dX9_caller_2 : decode cX9_caller 2 = .ok (.putfield 83, 3) := by decide +kernel
theorem dX9_caller_5 : decode cX9_caller 5 = .ok (.iload_n 1, 1) := by decide +kernel
theorem dX9_caller_6 : decode cX9_caller 6 = .ok (.ifCond .lt 69, 3) := by decide +kernel
theorem dX9_caller_9 : decode cX9_caller 9 = .ok (.iload_n 1, 1) := by decide +kernel
theorem dX9_caller_10 : decode cX9_caller 10 = .ok (.iconst 2, 1) := by decide +kernel
theorem dX9_caller_11 : decode cX9_caller 11 = .ok (.if_icmp .gt 64, 3) := by decide +kernel
theorem dX9_caller_14 : decode cX9_caller 14 = .ok (.iload_n 2, 1) := by decide +kernel
theorem dX9_caller_15 : decode cX9_caller 15 = .ok (.ifCond .lt 60, 3) := by decide +kernel
theorem dX9_caller_18 : decode cX9_caller 18 = .ok (.iload_n 2, 1) := by decide +kernel
theorem dX9_caller_19 : decode cX9_caller 19 = .ok (.bipush 9, 2) := by decide +kernel
theorem dX9_caller_21 : decode cX9_caller 21 = .ok (.if_icmp .gt 54, 3) := by decide +kernel
theorem dX9_caller_24 : decode cX9_caller 24 = .ok (.iload_n 3, 1) := by decide +kernel
theorem dX9_caller_25 : decode cX9_caller 25 = .ok (.ifCond .lt 50, 3) := by decide +kernel
theorem dX9_caller_28 : decode cX9_caller 28 = .ok (.iload_n 3, 1) := by decide +kernel
theorem dX9_caller_29 : decode cX9_caller 29 = .ok (.sipush 1000, 3) := by decide +kernel
theorem dX9_caller_32 : decode cX9_caller 32 = .ok (.if_icmp .gt 43, 3) := by decide +kernel
theorem dX9_caller_35 : decode cX9_caller 35 = .ok (.iload 4, 2) := by decide +kernel
theorem dX9_caller_37 : decode cX9_caller 37 = .ok (.iconst 1, 1) := by decide +kernel
theorem dX9_caller_38 : decode cX9_caller 38 = .ok (.if_icmp .lt 37, 3) := by decide +kernel
theorem dX9_caller_41 : decode cX9_caller 41 = .ok (.iload 4, 2) := by decide +kernel
theorem dX9_caller_43 : decode cX9_caller 43 = .ok (.sipush 1000, 3) := by decide +kernel
theorem dX9_caller_46 : decode cX9_caller 46 = .ok (.if_icmp .gt 29, 3) := by decide +kernel
theorem dX9_caller_49 : decode cX9_caller 49 = .ok (.iload 5, 2) := by decide +kernel
theorem dX9_caller_51 : decode cX9_caller 51 = .ok (.aload_n 0, 1) := by decide +kernel
theorem dX9_caller_52 : decode cX9_caller 52 = .ok (.getfield 87, 3) := by decide +kernel
theorem dX9_caller_55 : decode cX9_caller 55 = .ok (.if_icmp .le 20, 3) := by decide +kernel
theorem dX9_caller_58 : decode cX9_caller 58 = .ok (.iload 5, 2) := by decide +kernel
theorem dX9_caller_60 : decode cX9_caller 60 = .ok (.sipush 5000, 3) := by decide +kernel
theorem dX9_caller_63 : decode cX9_caller 63 = .ok (.if_icmp .gt 12, 3) := by decide +kernel
theorem dX9_caller_66 : decode cX9_caller 66 = .ok (.aload_n 0, 1) := by decide +kernel
theorem dX9_caller_67 : decode cX9_caller 67 = .ok (.getfield 90, 3) := by decide +kernel
theorem dX9_caller_70 : decode cX9_caller 70 = .ok (.bipush 60, 2) := by decide +kernel
theorem dX9_caller_72 : decode cX9_caller 72 = .ok (.if_icmp .ne 5, 3) := by decide +kernel
theorem dX9_caller_75 : decode cX9_caller 75 = .ok (.iconst (-1), 1) := by decide +kernel
theorem dX9_caller_76 : decode cX9_caller 76 = .ok (.ireturn, 1) := by decide +kernel
theorem dX9_caller_77 : decode cX9_caller 77 = .ok (.aload_n 0, 1) := by decide +kernel
theorem dX9_caller_78 : decode cX9_caller 78 = .ok (.getfield 38, 3) := by decide +kernel
theorem dX9_caller_81 : decode cX9_caller 81 = .ok (.aload_n 0, 1) := by decide +kernel
theorem dX9_caller_82 : decode cX9_caller 82 = .ok (.getfield 90, 3) := by decide +kernel
theorem dX9_caller_85 : decode cX9_caller 85 = .ok (.iload_n 1, 1) := by decide +kernel
theorem dX9_caller_86 : decode cX9_caller 86 = .ok (.iastore, 1) := by decide +kernel
theorem dX9_caller_87 : decode cX9_caller 87 = .ok (.aload_n 0, 1) := by decide +kernel
theorem dX9_caller_88 : decode cX9_caller 88 = .ok (.getfield 41, 3) := by decide +kernel
theorem dX9_caller_91 : decode cX9_caller 91 = .ok (.aload_n 0, 1) := by decide +kernel
theorem dX9_caller_92 : decode cX9_caller 92 = .ok (.getfield 90, 3) := by decide +kernel
theorem dX9_caller_95 : decode cX9_caller 95 = .ok (.iload_n 2, 1) := by decide +kernel
theorem dX9_caller_96 : decode cX9_caller 96 = .ok (.iastore, 1) := by decide +kernel
theorem dX9_caller_97 : decode cX9_caller 97 = .ok (.aload_n 0, 1) := by decide +kernel
theorem dX9_caller_98 : decode cX9_caller 98 = .ok (.getfield 44, 3) := by decide +kernel
theorem dX9_caller_101 : decode cX9_caller 101 = .ok (.aload_n 0, 1) := by decide +kernel
theorem dX9_caller_102 : decode cX9_caller 102 = .ok (.getfield 90, 3) := by decide +kernel
theorem dX9_caller_105 : decode cX9_caller 105 = .ok (.iload_n 3, 1) := by decide +kernel
theorem dX9_caller_106 : decode cX9_caller 106 = .ok (.iastore, 1) := by decide +kernel
theorem dX9_caller_107 : decode cX9_caller 107 = .ok (.aload_n 0, 1) := by decide +kernel
theorem dX9_caller_108 : decode cX9_caller 108 = .ok (.getfield 47, 3) := by decide +kernel
theorem dX9_caller_111 : decode cX9_caller 111 = .ok (.aload_n 0, 1) := by decide +kernel
theorem dX9_caller_112 : decode cX9_caller 112 = .ok (.getfield 90, 3) := by decide +kernel
theorem dX9_caller_115 : decode cX9_caller 115 = .ok (.iload 4, 2) := by decide +kernel
theorem dX9_caller_117 : decode cX9_caller 117 = .ok (.iastore, 1) := by decide +kernel
theorem dX9_caller_118 : decode cX9_caller 118 = .ok (.aload_n 0, 1) := by decide +kernel
theorem dX9_caller_119 : decode cX9_caller 119 = .ok (.getfield 50, 3) := by decide +kernel
theorem dX9_caller_122 : decode cX9_caller 122 = .ok (.aload_n 0, 1) := by decide +kernel
theorem dX9_caller_123 : decode cX9_caller 123 = .ok (.getfield 90, 3) := by decide +kernel
theorem dX9_caller_126 : decode cX9_caller 126 = .ok (.iload 5, 2) := by decide +kernel
theorem dX9_caller_128 : decode cX9_caller 128 = .ok (.iastore, 1) := by decide +kernel
theorem dX9_caller_129 : decode cX9_caller 129 = .ok (.aload_n 0, 1) := by decide +kernel
theorem dX9_caller_130 : decode cX9_caller 130 = .ok (.getfield 53, 3) := by decide +kernel
theorem dX9_caller_133 : decode cX9_caller 133 = .ok (.aload_n 0, 1) := by decide +kernel
theorem dX9_caller_134 : decode cX9_caller 134 = .ok (.getfield 90, 3) := by decide +kernel
theorem dX9_caller_137 : decode cX9_caller 137 = .ok (.iconst 0, 1) := by decide +kernel
theorem dX9_caller_138 : decode cX9_caller 138 = .ok (.iastore, 1) := by decide +kernel
theorem dX9_caller_139 : decode cX9_caller 139 = .ok (.aload_n 0, 1) := by decide +kernel
theorem dX9_caller_140 : decode cX9_caller 140 = .ok (.getfield 56, 3) := by decide +kernel
theorem dX9_caller_143 : decode cX9_caller 143 = .ok (.aload_n 0, 1) := by decide +kernel
theorem dX9_caller_144 : decode cX9_caller 144 = .ok (.getfield 90, 3) := by decide +kernel
theorem dX9_caller_147 : decode cX9_caller 147 = .ok (.iload 4, 2) := by decide +kernel
theorem dX9_caller_149 : decode cX9_caller 149 = .ok (.iastore, 1) := by decide +kernel
theorem dX9_caller_150 : decode cX9_caller 150 = .ok (.aload_n 0, 1) := by decide +kernel
theorem dX9_caller_151 : decode cX9_caller 151 = .ok (.getfield 59, 3) := by decide +kernel
theorem dX9_caller_154 : decode cX9_caller 154 = .ok (.aload_n 0, 1) := by decide +kernel
theorem dX9_caller_155 : decode cX9_caller 155 = .ok (.getfield 90, 3) := by decide +kernel
theorem dX9_caller_158 : decode cX9_caller 158 = .ok (.iconst 0, 1) := by decide +kernel
theorem dX9_caller_159 : decode cX9_caller 159 = .ok (.iastore, 1) := by decide +kernel
theorem dX9_caller_160 : decode cX9_caller 160 = .ok (.aload_n 0, 1) := by decide +kernel
theorem dX9_caller_161 : decode cX9_caller 161 = .ok (.getfield 62, 3) := by decide +kernel
theorem dX9_caller_164 : decode cX9_caller 164 = .ok (.aload_n 0, 1) := by decide +kernel
theorem dX9_caller_165 : decode cX9_caller 165 = .ok (.getfield 90, 3) := by decide +kernel
theorem dX9_caller_168 : decode cX9_caller 168 = .ok (.iconst 0, 1) := by decide +kernel
theorem dX9_caller_169 : decode cX9_caller 169 = .ok (.bastore, 1) := by decide +kernel
theorem dX9_caller_170 : decode cX9_caller 170 = .ok (.aload_n 0, 1) := by decide +kernel
theorem dX9_caller_171 : decode cX9_caller 171 = .ok (.dup, 1) := by decide +kernel
theorem dX9_caller_172 : decode cX9_caller 172 = .ok (.getfield 90, 3) := by decide +kernel
theorem dX9_caller_175 : decode cX9_caller 175 = .ok (.iconst 1, 1) := by decide +kernel
theorem dX9_caller_176 : decode cX9_caller 176 = .ok (.iadd, 1) := by decide +kernel
theorem dX9_caller_177 : decode cX9_caller 177 = .ok (.putfield 90, 3) := by decide +kernel
theorem dX9_caller_180 : decode cX9_caller 180 = .ok (.aload_n 0, 1) := by decide +kernel
theorem dX9_caller_181 : decode cX9_caller 181 = .ok (.getfield 90, 3) := by decide +kernel
theorem dX9_caller_184 : decode cX9_caller 184 = .ok (.iconst 1, 1) := by decide +kernel
theorem dX9_caller_185 : decode cX9_caller 185 = .ok (.isub, 1) := by decide +kernel
theorem dX9_caller_186 : decode cX9_caller 186 = .ok (.ireturn, 1) := by decide +kernel
theorem dX9_broken_0 : decode cX9_broken 0 = .ok (.aload_n 0, 1) := by decide +kernel
theorem dX9_broken_1 : decode cX9_broken 1 = .ok (.iconst 0, 1) := by decide +kernel
theorem dX9_broken_2 : decode cX9_broken 2 = .ok (.putfield 83, 3) := by decide +kernel
theorem dX9_broken_5 : decode cX9_broken 5 = .ok (.iload_n 1, 1) := by decide +kernel
theorem dX9_broken_6 : decode cX9_broken 6 = .ok (.aload_n 0, 1) := by decide +kernel
theorem dX9_broken_7 : decode cX9_broken 7 = .ok (.getfield 87, 3) := by decide +kernel
theorem dX9_broken_10 : decode cX9_broken 10 = .ok (.if_icmp .le 29, 3) := by decide +kernel
theorem dX9_broken_13 : decode cX9_broken 13 = .ok (.iload_n 1, 1) := by decide +kernel
theorem dX9_broken_14 : decode cX9_broken 14 = .ok (.sipush 5000, 3) := by decide +kernel
theorem dX9_broken_17 : decode cX9_broken 17 = .ok (.if_icmp .gt 22, 3) := by decide +kernel
theorem dX9_broken_20 : decode cX9_broken 20 = .ok (.iload_n 2, 1) := by decide +kernel
theorem dX9_broken_21 : decode cX9_broken 21 = .ok (.ifCond .lt 18, 3) := by decide +kernel
theorem dX9_broken_24 : decode cX9_broken 24 = .ok (.iload_n 2, 1) := by decide +kernel
theorem dX9_broken_25 : decode cX9_broken 25 = .ok (.bipush 12, 2) := by decide +kernel
theorem dX9_broken_27 : decode cX9_broken 27 = .ok (.if_icmp .ge 12, 3) := by decide +kernel
theorem dX9_broken_30 : decode cX9_broken 30 = .ok (.aload_n 0, 1) := by decide +kernel
theorem dX9_broken_31 : decode cX9_broken 31 = .ok (.getfield 93, 3) := by decide +kernel
theorem dX9_broken_34 : decode cX9_broken 34 = .ok (.bipush 60, 2) := by decide +kernel
theorem dX9_broken_36 : decode cX9_broken 36 = .ok (.if_icmp .ne 5, 3) := by decide +kernel
theorem dX9_broken_39 : decode cX9_broken 39 = .ok (.iconst 0, 1) := by decide +kernel
theorem dX9_broken_40 : decode cX9_broken 40 = .ok (.ireturn, 1) := by decide +kernel
theorem dX9_broken_41 : decode cX9_broken 41 = .ok (.aload_n 0, 1) := by decide +kernel
theorem dX9_broken_42 : decode cX9_broken 42 = .ok (.getfield 65, 3) := by decide +kernel
theorem dX9_broken_45 : decode cX9_broken 45 = .ok (.aload_n 0, 1) := by decide +kernel
theorem dX9_broken_46 : decode cX9_broken 46 = .ok (.getfield 93, 3) := by decide +kernel
theorem dX9_broken_49 : decode cX9_broken 49 = .ok (.iload_n 1, 1) := by decide +kernel
theorem dX9_broken_50 : decode cX9_broken 50 = .ok (.iastore, 1) := by decide +kernel
theorem dX9_broken_51 : decode cX9_broken 51 = .ok (.aload_n 0, 1) := by decide +kernel
theorem dX9_broken_52 : decode cX9_broken 52 = .ok (.getfield 68, 3) := by decide +kernel
theorem dX9_broken_55 : decode cX9_broken 55 = .ok (.aload_n 0, 1) := by decide +kernel
theorem dX9_broken_56 : decode cX9_broken 56 = .ok (.getfield 93, 3) := by decide +kernel
theorem dX9_broken_59 : decode cX9_broken 59 = .ok (.iload_n 2, 1) := by decide +kernel
theorem dX9_broken_60 : decode cX9_broken 60 = .ok (.iastore, 1) := by decide +kernel
theorem dX9_broken_61 : decode cX9_broken 61 = .ok (.aload_n 0, 1) := by decide +kernel
theorem dX9_broken_62 : decode cX9_broken 62 = .ok (.dup, 1) := by decide +kernel
theorem dX9_broken_63 : decode cX9_broken 63 = .ok (.getfield 93, 3) := by decide +kernel
theorem dX9_broken_66 : decode cX9_broken 66 = .ok (.iconst 1, 1) := by decide +kernel
theorem dX9_broken_67 : decode cX9_broken 67 = .ok (.iadd, 1) := by decide +kernel
theorem dX9_broken_68 : decode cX9_broken 68 = .ok (.putfield 93, 3) := by decide +kernel
theorem dX9_broken_71 : decode cX9_broken 71 = .ok (.iconst 1, 1) := by decide +kernel
theorem dX9_broken_72 : decode cX9_broken 72 = .ok (.ireturn, 1) := by decide +kernel
theorem dX9_clear_0 : decode cX9_clear 0 = .ok (.aload_n 0, 1) := by decide +kernel
theorem dX9_clear_1 : decode cX9_clear 1 = .ok (.iconst 0, 1) := by decide +kernel
theorem dX9_clear_2 : decode cX9_clear 2 = .ok (.putfield 83, 3) := by decide +kernel
theorem dX9_clear_5 : decode cX9_clear 5 = .ok (.aload_n 0, 1) := by decide +kernel
theorem dX9_clear_6 : decode cX9_clear 6 = .ok (.iconst 0, 1) := by decide +kernel
theorem dX9_clear_7 : decode cX9_clear 7 = .ok (.putfield 87, 3) := by decide +kernel
theorem dX9_clear_10 : decode cX9_clear 10 = .ok (.iconst 0, 1) := by decide +kernel
theorem dX9_clear_11 : decode cX9_clear 11 = .ok (.istore_n 1, 1) := by decide +kernel
theorem dX9_clear_12 : decode cX9_clear 12 = .ok (.iload_n 1, 1) := by decide +kernel
theorem dX9_clear_13 : decode cX9_clear 13 = .ok (.bipush 12, 2) := by decide +kernel
theorem dX9_clear_15 : decode cX9_clear 15 = .ok (.if_icmp .ge 23, 3) := by decide +kernel
theorem dX9_clear_18 : decode cX9_clear 18 = .ok (.aload_n 0, 1) := by decide +kernel
theorem dX9_clear_19 : decode cX9_clear 19 = .ok (.getfield 22, 3) := by decide +kernel
theorem dX9_clear_22 : decode cX9_clear 22 = .ok (.iload_n 1, 1) := by decide +kernel
theorem dX9_clear_23 : decode cX9_clear 23 = .ok (.iconst 0, 1) := by decide +kernel
theorem dX9_clear_24 : decode cX9_clear 24 = .ok (.iastore, 1) := by decide +kernel
theorem dX9_clear_25 : decode cX9_clear 25 = .ok (.aload_n 0, 1) := by decide +kernel
theorem dX9_clear_26 : decode cX9_clear 26 = .ok (.getfield 25, 3) := by decide +kernel
theorem dX9_clear_29 : decode cX9_clear 29 = .ok (.iload_n 1, 1) := by decide +kernel
theorem dX9_clear_30 : decode cX9_clear 30 = .ok (.iconst 0, 1) := by decide +kernel
theorem dX9_clear_31 : decode cX9_clear 31 = .ok (.bastore, 1) := by decide +kernel
theorem dX9_clear_32 : decode cX9_clear 32 = .ok (.iinc 1 1, 3) := by decide +kernel
theorem dX9_clear_35 : decode cX9_clear 35 = .ok (.goto (-23), 3) := by decide +kernel
theorem dX9_clear_38 : decode cX9_clear 38 = .ok (.aload_n 0, 1) := by decide +kernel
theorem dX9_clear_39 : decode cX9_clear 39 = .ok (.iconst 0, 1) := by decide +kernel
theorem dX9_clear_40 : decode cX9_clear 40 = .ok (.putfield 90, 3) := by decide +kernel
theorem dX9_clear_43 : decode cX9_clear 43 = .ok (.aload_n 0, 1) := by decide +kernel
theorem dX9_clear_44 : decode cX9_clear 44 = .ok (.iconst 0, 1) := by decide +kernel
theorem dX9_clear_45 : decode cX9_clear 45 = .ok (.putfield 93, 3) := by decide +kernel
theorem dX9_clear_48 : decode cX9_clear 48 = .ok (.aload_n 0, 1) := by decide +kernel
theorem dX9_clear_49 : decode cX9_clear 49 = .ok (.iconst 0, 1) := by decide +kernel
theorem dX9_clear_50 : decode cX9_clear 50 = .ok (.putfield 96, 3) := by decide +kernel
theorem dX9_clear_53 : decode cX9_clear 53 = .ok (.aload_n 0, 1) := by decide +kernel
theorem dX9_clear_54 : decode cX9_clear 54 = .ok (.iconst 0, 1) := by decide +kernel
theorem dX9_clear_55 : decode cX9_clear 55 = .ok (.putfield 99, 3) := by decide +kernel
theorem dX9_clear_58 : decode cX9_clear 58 = .ok (.aload_n 0, 1) := by decide +kernel
theorem dX9_clear_59 : decode cX9_clear 59 = .ok (.iconst 0, 1) := by decide +kernel
theorem dX9_clear_60 : decode cX9_clear 60 = .ok (.putfield 102, 3) := by decide +kernel
theorem dX9_clear_63 : decode cX9_clear 63 = .ok (.aload_n 0, 1) := by decide +kernel
theorem dX9_clear_64 : decode cX9_clear 64 = .ok (.iconst 0, 1) := by decide +kernel
theorem dX9_clear_65 : decode cX9_clear 65 = .ok (.putfield 105, 3) := by decide +kernel
theorem dX9_clear_68 : decode cX9_clear 68 = .ok (.aload_n 0, 1) := by decide +kernel
theorem dX9_clear_69 : decode cX9_clear 69 = .ok (.lconst 0, 1) := by decide +kernel
theorem dX9_clear_70 : decode cX9_clear 70 = .ok (.putfield 108, 3) := by decide +kernel
theorem dX9_clear_73 : decode cX9_clear 73 = .ok (.aload_n 0, 1) := by decide +kernel
theorem dX9_clear_74 : decode cX9_clear 74 = .ok (.iconst 0, 1) := by decide +kernel
theorem dX9_clear_75 : decode cX9_clear 75 = .ok (.putfield 112, 3) := by decide +kernel
theorem dX9_clear_78 : decode cX9_clear 78 = .ok (.aload_n 0, 1) := by decide +kernel
theorem dX9_clear_79 : decode cX9_clear 79 = .ok (.iconst 0, 1) := by decide +kernel
theorem dX9_clear_80 : decode cX9_clear 80 = .ok (.putfield 115, 3) := by decide +kernel
theorem dX9_clear_83 : decode cX9_clear 83 = .ok (.aload_n 0, 1) := by decide +kernel
theorem dX9_clear_84 : decode cX9_clear 84 = .ok (.iconst 0, 1) := by decide +kernel
theorem dX9_clear_85 : decode cX9_clear 85 = .ok (.putfield 118, 3) := by decide +kernel
theorem dX9_clear_88 : decode cX9_clear 88 = .ok (.return_, 1) := by decide +kernel
theorem dX9_say_0 : decode cX9_say 0 = .ok (.iconst 4, 1) := by decide +kernel
theorem dX9_say_1 : decode cX9_say 1 = .ok (.aload_n 0, 1) := by decide +kernel
theorem dX9_say_2 : decode cX9_say 2 = .ok (.getfield 96, 3) := by decide +kernel
theorem dX9_say_5 : decode cX9_say 5 = .ok (.sipush 150, 3) := by decide +kernel
theorem dX9_say_8 : decode cX9_say 8 = .ok (.irem, 1) := by decide +kernel
theorem dX9_say_9 : decode cX9_say 9 = .ok (.imul, 1) := by decide +kernel
theorem dX9_say_10 : decode cX9_say 10 = .ok (.istore 4, 2) := by decide +kernel
theorem dX9_say_12 : decode cX9_say 12 = .ok (.aload_n 0, 1) := by decide +kernel
theorem dX9_say_13 : decode cX9_say 13 = .ok (.getfield 71, 3) := by decide +kernel
theorem dX9_say_16 : decode cX9_say 16 = .ok (.iload 4, 2) := by decide +kernel
theorem dX9_say_18 : decode cX9_say 18 = .ok (.iload_n 1, 1) := by decide +kernel
theorem dX9_say_19 : decode cX9_say 19 = .ok (.iastore, 1) := by decide +kernel
theorem dX9_say_20 : decode cX9_say 20 = .ok (.aload_n 0, 1) := by decide +kernel
theorem dX9_say_21 : decode cX9_say 21 = .ok (.getfield 71, 3) := by decide +kernel
theorem dX9_say_24 : decode cX9_say 24 = .ok (.iload 4, 2) := by decide +kernel
theorem dX9_say_26 : decode cX9_say 26 = .ok (.iconst 1, 1) := by decide +kernel
theorem dX9_say_27 : decode cX9_say 27 = .ok (.iadd, 1) := by decide +kernel
theorem dX9_say_28 : decode cX9_say 28 = .ok (.aload_n 0, 1) := by decide +kernel
theorem dX9_say_29 : decode cX9_say 29 = .ok (.getfield 87, 3) := by decide +kernel
theorem dX9_say_32 : decode cX9_say 32 = .ok (.iastore, 1) := by decide +kernel
theorem dX9_say_33 : decode cX9_say 33 = .ok (.aload_n 0, 1) := by decide +kernel
theorem dX9_say_34 : decode cX9_say 34 = .ok (.getfield 71, 3) := by decide +kernel
theorem dX9_say_37 : decode cX9_say 37 = .ok (.iload 4, 2) := by decide +kernel
theorem dX9_say_39 : decode cX9_say 39 = .ok (.iconst 2, 1) := by decide +kernel
theorem dX9_say_40 : decode cX9_say 40 = .ok (.iadd, 1) := by decide +kernel
theorem dX9_say_41 : decode cX9_say 41 = .ok (.iload_n 2, 1) := by decide +kernel
theorem dX9_say_42 : decode cX9_say 42 = .ok (.iastore, 1) := by decide +kernel
theorem dX9_say_43 : decode cX9_say 43 = .ok (.aload_n 0, 1) := by decide +kernel
theorem dX9_say_44 : decode cX9_say 44 = .ok (.getfield 71, 3) := by decide +kernel
theorem dX9_say_47 : decode cX9_say 47 = .ok (.iload 4, 2) := by decide +kernel
theorem dX9_say_49 : decode cX9_say 49 = .ok (.iconst 3, 1) := by decide +kernel
theorem dX9_say_50 : decode cX9_say 50 = .ok (.iadd, 1) := by decide +kernel
theorem dX9_say_51 : decode cX9_say 51 = .ok (.iload_n 3, 1) := by decide +kernel
theorem dX9_say_52 : decode cX9_say 52 = .ok (.iastore, 1) := by decide +kernel
theorem dX9_say_53 : decode cX9_say 53 = .ok (.aload_n 0, 1) := by decide +kernel
theorem dX9_say_54 : decode cX9_say 54 = .ok (.dup, 1) := by decide +kernel
theorem dX9_say_55 : decode cX9_say 55 = .ok (.getfield 96, 3) := by decide +kernel
theorem dX9_say_58 : decode cX9_say 58 = .ok (.iconst 1, 1) := by decide +kernel
theorem dX9_say_59 : decode cX9_say 59 = .ok (.iadd, 1) := by decide +kernel
theorem dX9_say_60 : decode cX9_say 60 = .ok (.putfield 96, 3) := by decide +kernel
theorem dX9_say_63 : decode cX9_say 63 = .ok (.return_, 1) := by decide +kernel
set_option maxRecDepth 20000 in
theorem ggX9_go_X9_say : GoodIn wsX9_go wsX9_say := goodIn_r _ [8, 9, 10, 11, 12, 13, 14, 15, 16, 17, 18, 19, 20, 21, 22, 23, 24, 25, 26, 27, 28, 29, 30, 31, 32, 33, 34, 35, 36, 37, 38, 39, 40, 41, 42, 43, 44, 45, 46, 47, 48, 49, 50] (by decide +kernel) (by decide +kernel)
set_option maxRecDepth 20000 in
theorem gX9_go_X9_say : GoodIn wsX9_go (wsV RX9 121 RX9 yX9_say wsX9_say) := goodIn_app (goodIn_of _ (by decide +kernel)) ggX9_go_X9_say
theorem dX9_go_0 : decode cX9_go 0 = .ok (.aload_n 0, 1) := by decide +kernel
theorem dX9_go_1 : decode cX9_go 1 = .ok (.getfield 22, 3) := by decide +kernel
theorem dX9_go_4 : decode cX9_go 4 = .ok (.iload_n 1, 1) := by decide +kernel
theorem dX9_go_5 : decode cX9_go 5 = .ok (.iconst 0, 1) := by decide +kernel
theorem dX9_go_6 : decode cX9_go 6 = .ok (.iastore, 1) := by decide +kernel
theorem dX9_go_7 : decode cX9_go 7 = .ok (.aload_n 0, 1) := by decide +kernel
theorem dX9_go_8 : decode cX9_go 8 = .ok (.getfield 25, 3) := by decide +kernel
theorem dX9_go_11 : decode cX9_go 11 = .ok (.iload_n 1, 1) := by decide +kernel
theorem dX9_go_12 : decode cX9_go 12 = .ok (.iconst 0, 1) := by decide +kernel
theorem dX9_go_13 : decode cX9_go 13 = .ok (.bastore, 1) := by decide +kernel
theorem dX9_go_14 : decode cX9_go 14 = .ok (.aload_n 0, 1) := by decide +kernel
theorem dX9_go_15 : decode cX9_go 15 = .ok (.dup, 1) := by decide +kernel
theorem dX9_go_16 : decode cX9_go 16 = .ok (.getfield 105, 3) := by decide +kernel
theorem dX9_go_19 : decode cX9_go 19 = .ok (.iconst 1, 1) := by decide +kernel
theorem dX9_go_20 : decode cX9_go 20 = .ok (.iadd, 1) := by decide +kernel
theorem dX9_go_21 : decode cX9_go 21 = .ok (.putfield 105, 3) := by decide +kernel
theorem dX9_go_24 : decode cX9_go 24 = .ok (.aload_n 0, 1) := by decide +kernel
theorem dX9_go_25 : decode cX9_go 25 = .ok (.bipush 7, 2) := by decide +kernel
theorem dX9_go_27 : decode cX9_go 27 = .ok (.iconst (-1), 1) := by decide +kernel
theorem dX9_go_28 : decode cX9_go 28 = .ok (.iload_n 1, 1) := by decide +kernel
theorem dX9_go_29 : decode cX9_go 29 = .ok (.invokevirtual 121, 3) := by decide +kernel
theorem dX9_go_32 : decode cX9_go 32 = .ok (.return_, 1) := by decide +kernel
theorem dX9_rest_0 : decode cX9_rest 0 = .ok (.aload_n 0, 1) := by decide +kernel
theorem dX9_rest_1 : decode cX9_rest 1 = .ok (.getfield 22, 3) := by decide +kernel
theorem dX9_rest_4 : decode cX9_rest 4 = .ok (.iload_n 1, 1) := by decide +kernel
theorem dX9_rest_5 : decode cX9_rest 5 = .ok (.iconst 2, 1) := by decide +kernel
theorem dX9_rest_6 : decode cX9_rest 6 = .ok (.iastore, 1) := by decide +kernel
theorem dX9_rest_7 : decode cX9_rest 7 = .ok (.aload_n 0, 1) := by decide +kernel
theorem dX9_rest_8 : decode cX9_rest 8 = .ok (.getfield 35, 3) := by decide +kernel
theorem dX9_rest_11 : decode cX9_rest 11 = .ok (.iload_n 1, 1) := by decide +kernel
theorem dX9_rest_12 : decode cX9_rest 12 = .ok (.aload_n 0, 1) := by decide +kernel
theorem dX9_rest_13 : decode cX9_rest 13 = .ok (.getfield 87, 3) := by decide +kernel
theorem dX9_rest_16 : decode cX9_rest 16 = .ok (.iastore, 1) := by decide +kernel
theorem dX9_rest_17 : decode cX9_rest 17 = .ok (.return_, 1) := by decide +kernel
set_option maxRecDepth 20000 in
theorem ggX9_free_X9_go : GoodIn wsX9_free wsX9_go := goodIn_r _ [8, 1, 3, 9, 10, 11, 12, 7, 13, 14, 15, 16, 22, 23, 24, 25, 26, 27, 28, 29, 30, 31, 32, 33, 34, 35, 36, 37, 38, 39, 40, 41, 42, 43, 44, 45, 46, 47, 48, 49, 50, 51, 52, 53, 54, 55, 56, 57, 58, 59, 60] (by decide +kernel) (by decide +kernel)
set_option maxRecDepth 20000 in
theorem gX9_free_X9_go : GoodIn wsX9_free (wsV RX9 125 RX9 yX9_go wsX9_go) := goodIn_app (goodIn_of _ (by decide +kernel)) ggX9_free_X9_go
set_option maxRecDepth 20000 in
theorem ggX9_free_X9_rest : GoodIn wsX9_free wsX9_rest := goodIn_r _ [20, 1, 21, 16, 22, 23, 24, 25, 26, 27, 28, 29, 30, 31, 32, 33, 34, 35, 36, 37, 38, 39, 40, 41, 42, 43, 44, 45, 46, 47, 48, 49, 50, 51, 52, 53, 54, 55, 56, 57, 58, 59, 60] (by decide +kernel) (by decide +kernel)
set_option maxRecDepth 20000 in
theorem gX9_free_X9_rest : GoodIn wsX9_free (wsV RX9 129 RX9 yX9_rest wsX9_rest) := goodIn_app (goodIn_of _ (by decide +kernel)) ggX9_free_X9_rest
theorem dX9_free_0 : decode cX9_free 0 = .ok (.iconst 0, 1) := by decide +kernel
theorem dX9_free_1 : decode cX9_free 1 = .ok (.istore_n 3, 1) := by decide +kernel
theorem dX9_free_2 : decode cX9_free 2 = .ok (.iload_n 3, 1) := by decide +kernel
theorem dX9_free_3 : decode cX9_free 3 = .ok (.bipush 12, 2) := by decide +kernel
theorem dX9_free_5 : decode cX9_free 5 = .ok (.if_icmp .ge 58, 3) := by decide +kernel
theorem dX9_free_8 : decode cX9_free 8 = .ok (.aload_n 0, 1) := by decide +kernel
theorem dX9_free_9 : decode cX9_free 9 = .ok (.getfield 22, 3) := by decide +kernel
theorem dX9_free_12 : decode cX9_free 12 = .ok (.iload_n 3, 1) := by decide +kernel
theorem dX9_free_13 : decode cX9_free 13 = .ok (.iaload, 1) := by decide +kernel
theorem dX9_free_14 : decode cX9_free 14 = .ok (.iconst 3, 1) := by decide +kernel
theorem dX9_free_15 : decode cX9_free 15 = .ok (.if_icmp .lt 42, 3) := by decide +kernel
theorem dX9_free_18 : decode cX9_free 18 = .ok (.aload_n 0, 1) := by decide +kernel
theorem dX9_free_19 : decode cX9_free 19 = .ok (.getfield 29, 3) := by decide +kernel
theorem dX9_free_22 : decode cX9_free 22 = .ok (.iload_n 3, 1) := by decide +kernel
theorem dX9_free_23 : decode cX9_free 23 = .ok (.iaload, 1) := by decide +kernel
theorem dX9_free_24 : decode cX9_free 24 = .ok (.iload_n 1, 1) := by decide +kernel
theorem dX9_free_25 : decode cX9_free 25 = .ok (.if_icmp .eq 6, 3) := by decide +kernel
theorem dX9_free_28 : decode cX9_free 28 = .ok (.goto 29, 3) := by decide +kernel
theorem dX9_free_31 : decode cX9_free 31 = .ok (.iload_n 2, 1) := by decide +kernel
theorem dX9_free_32 : decode cX9_free 32 = .ok (.ifCond .eq 20, 3) := by decide +kernel
theorem dX9_free_35 : decode cX9_free 35 = .ok (.aload_n 0, 1) := by decide +kernel
theorem dX9_free_36 : decode cX9_free 36 = .ok (.getfield 25, 3) := by decide +kernel
theorem dX9_free_39 : decode cX9_free 39 = .ok (.iload_n 3, 1) := by decide +kernel
theorem dX9_free_40 : decode cX9_free 40 = .ok (.baload, 1) := by decide +kernel
theorem dX9_free_41 : decode cX9_free 41 = .ok (.ifCond .eq 11, 3) := by decide +kernel
theorem dX9_free_44 : decode cX9_free 44 = .ok (.aload_n 0, 1) := by decide +kernel
theorem dX9_free_45 : decode cX9_free 45 = .ok (.iload_n 3, 1) := by decide +kernel
theorem dX9_free_46 : decode cX9_free 46 = .ok (.invokevirtual 125, 3) := by decide +kernel
theorem dX9_free_49 : decode cX9_free 49 = .ok (.goto 8, 3) := by decide +kernel
theorem dX9_free_52 : decode cX9_free 52 = .ok (.aload_n 0, 1) := by decide +kernel
theorem dX9_free_53 : decode cX9_free 53 = .ok (.iload_n 3, 1) := by decide +kernel
theorem dX9_free_54 : decode cX9_free 54 = .ok (.invokevirtual 129, 3) := by decide +kernel
theorem dX9_free_57 : decode cX9_free 57 = .ok (.iinc 3 1, 3) := by decide +kernel
theorem dX9_free_60 : decode cX9_free 60 = .ok (.goto (-58), 3) := by decide +kernel
theorem dX9_free_63 : decode cX9_free 63 = .ok (.return_, 1) := by decide +kernel
theorem dX9_linesOf_0 : decode cX9_linesOf 0 = .ok (.iconst 0, 1) := by decide +kernel
theorem dX9_linesOf_1 : decode cX9_linesOf 1 = .ok (.istore_n 2, 1) := by decide +kernel
theorem dX9_linesOf_2 : decode cX9_linesOf 2 = .ok (.iconst 0, 1) := by decide +kernel
theorem dX9_linesOf_3 : decode cX9_linesOf 3 = .ok (.istore_n 3, 1) := by decide +kernel
theorem dX9_linesOf_4 : decode cX9_linesOf 4 = .ok (.iload_n 3, 1) := by decide +kernel
theorem dX9_linesOf_5 : decode cX9_linesOf 5 = .ok (.bipush 12, 2) := by decide +kernel
theorem dX9_linesOf_7 : decode cX9_linesOf 7 = .ok (.if_icmp .ge 32, 3) := by decide +kernel
theorem dX9_linesOf_10 : decode cX9_linesOf 10 = .ok (.aload_n 0, 1) := by decide +kernel
theorem dX9_linesOf_11 : decode cX9_linesOf 11 = .ok (.getfield 22, 3) := by decide +kernel
theorem dX9_linesOf_14 : decode cX9_linesOf 14 = .ok (.iload_n 3, 1) := by decide +kernel
