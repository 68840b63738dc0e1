theorem inJx8e188 : ∀ w ∈ wsJx8e1880, w ∈ lw_tbl := by decide +kernel
theorem inJ9 : ∀ w ∈ wsJ90, w ∈ lw_tbl := by decide +kernel
theorem dX0_init_0 : decode cX0_init 0 = .ok (.aload_n 0, 1) := by decide +kernel
theorem dX0_init_1 : decode cX0_init 1 = .ok (.invokespecial 1, 3) := by decide +kernel
theorem dX0_init_4 : decode cX0_init 4 = .ok (.aload_n 0, 1) := by decide +kernel
theorem dX0_init_5 : decode cX0_init 5 = .ok (.bipush 60, 2) := by decide +kernel
theorem dX0_init_7 : decode cX0_init 7 = .ok (.newarray .int, 2) := by decide +kernel
theorem dX0_init_9 : decode cX0_init 9 = .ok (.putfield 9, 3) := by decide +kernel
theorem dX0_init_12 : decode cX0_init 12 = .ok (.aload_n 0, 1) := by decide +kernel
theorem dX0_init_13 : decode cX0_init 13 = .ok (.bipush 60, 2) := by decide +kernel
theorem dX0_init_15 : decode cX0_init 15 = .ok (.newarray .int, 2) := by decide +kernel
theorem dX0_init_17 : decode cX0_init 17 = .ok (.putfield 13, 3) := by decide +kernel
theorem dX0_init_20 : decode cX0_init 20 = .ok (.return_, 1) := by decide +kernel
theorem dX0_add_0 : decode cX0_add 0 = .ok (.aload_n 0, 1) := by decide +kernel
theorem dX0_add_1 : decode cX0_add 1 = .ok (.getfield 16, 3) := by decide +kernel
theorem dX0_add_4 : decode cX0_add 4 = .ok (.bipush 60, 2) := by decide +kernel
theorem dX0_add_6 : decode cX0_add 6 = .ok (.if_icmp .lt 5, 3) := by decide +kernel
theorem dX0_add_9 : decode cX0_add 9 = .ok (.iconst 0, 1) := by decide +kernel
theorem dX0_add_10 : decode cX0_add 10 = .ok (.ireturn, 1) := by decide +kernel
theorem dX0_add_11 : decode cX0_add 11 = .ok (.aload_n 0, 1) := by decide +kernel
theorem dX0_add_12 : decode cX0_add 12 = .ok (.getfield 9, 3) := by decide +kernel
theorem dX0_add_15 : decode cX0_add 15 = .ok (.aload_n 0, 1) := by decide +kernel
theorem dX0_add_16 : decode cX0_add 16 = .ok (.getfield 16, 3) := by decide +kernel
theorem dX0_add_19 : decode cX0_add 19 = .ok (.iload_n 1, 1) := by decide +kernel
theorem dX0_add_20 : decode cX0_add 20 = .ok (.iastore, 1) := by decide +kernel
theorem dX0_add_21 : decode cX0_add 21 = .ok (.aload_n 0, 1) := by decide +kernel
theorem dX0_add_22 : decode cX0_add 22 = .ok (.getfield 13, 3) := by decide +kernel
theorem dX0_add_25 : decode cX0_add 25 = .ok (.aload_n 0, 1) := by decide +kernel
theorem dX0_add_26 : decode cX0_add 26 = .ok (.getfield 16, 3) := by decide +kernel
theorem dX0_add_29 : decode cX0_add 29 = .ok (.iload_n 2, 1) := by decide +kernel
theorem dX0_add_30 : decode cX0_add 30 = .ok (.iastore, 1) := by decide +kernel
theorem dX0_add_31 : decode cX0_add 31 = .ok (.aload_n 0, 1) := by decide +kernel
theorem dX0_add_32 : decode cX0_add 32 = .ok (.dup, 1) := by decide +kernel
theorem dX0_add_33 : decode cX0_add 33 = .ok (.getfield 16, 3) := by decide +kernel
theorem dX0_add_36 : decode cX0_add 36 = .ok (.iconst 1, 1) := by decide +kernel
theorem dX0_add_37 : decode cX0_add 37 = .ok (.iadd, 1) := by decide +kernel
theorem dX0_add_38 : decode cX0_add 38 = .ok (.putfield 16, 3) := by decide +kernel
theorem dX0_add_41 : decode cX0_add 41 = .ok (.iconst 1, 1) := by decide +kernel
theorem dX0_add_42 : decode cX0_add 42 = .ok (.ireturn, 1) := by decide +kernel
theorem dX0_forget_0 : decode cX0_forget 0 = .ok (.aload_n 0, 1) := by decide +kernel
theorem dX0_forget_1 : decode cX0_forget 1 = .ok (.iconst 0, 1) := by decide +kernel
theorem dX0_forget_2 : decode cX0_forget 2 = .ok (.putfield 16, 3) := by decide +kernel
theorem dX0_forget_5 : decode cX0_forget 5 = .ok (.return_, 1) := by decide +kernel
theorem dX0_strike_0 : decode cX0_strike 0 = .ok (.iconst 0, 1) := by decide +kernel
theorem dX0_strike_1 : decode cX0_strike 1 = .ok (.istore_n 3, 1) := by decide +kernel
theorem dX0_strike_2 : decode cX0_strike 2 = .ok (.iload_n 3, 1) := by decide +kernel
theorem dX0_strike_3 : decode cX0_strike 3 = .ok (.aload_n 0, 1) := by decide +kernel
theorem dX0_strike_4 : decode cX0_strike 4 = .ok (.getfield 16, 3) := by decide +kernel
theorem dX0_strike_7 : decode cX0_strike 7 = .ok (.if_icmp .ge 31, 3) := by decide +kernel
theorem dX0_strike_10 : decode cX0_strike 10 = .ok (.aload_n 0, 1) := by decide +kernel
theorem dX0_strike_11 : decode cX0_strike 11 = .ok (.getfield 9, 3) := by decide +kernel
theorem dX0_strike_14 : decode cX0_strike 14 = .ok (.iload_n 3, 1) := by decide +kernel
theorem dX0_strike_15 : decode cX0_strike 15 = .ok (.iaload, 1) := by decide +kernel
theorem dX0_strike_16 : decode cX0_strike 16 = .ok (.iload_n 1, 1) := by decide +kernel
theorem dX0_strike_17 : decode cX0_strike 17 = .ok (.if_icmp .ne 15, 3) := by decide +kernel
theorem dX0_strike_20 : decode cX0_strike 20 = .ok (.aload_n 0, 1) := by decide +kernel
theorem dX0_strike_21 : decode cX0_strike 21 = .ok (.getfield 13, 3) := by decide +kernel
theorem dX0_strike_24 : decode cX0_strike 24 = .ok (.iload_n 3, 1) := by decide +kernel
theorem dX0_strike_25 : decode cX0_strike 25 = .ok (.iaload, 1) := by decide +kernel
theorem dX0_strike_26 : decode cX0_strike 26 = .ok (.iload_n 2, 1) := by decide +kernel
theorem dX0_strike_27 : decode cX0_strike 27 = .ok (.if_icmp .ne 5, 3) := by decide +kernel
theorem dX0_strike_30 : decode cX0_strike 30 = .ok (.iconst 1, 1) := by decide +kernel
theorem dX0_strike_31 : decode cX0_strike 31 = .ok (.ireturn, 1) := by decide +kernel
theorem dX0_strike_32 : decode cX0_strike 32 = .ok (.iinc 3 1, 3) := by decide +kernel
theorem dX0_strike_35 : decode cX0_strike 35 = .ok (.goto (-33), 3) := by decide +kernel
theorem dX0_strike_38 : decode cX0_strike 38 = .ok (.iconst 0, 1) := by decide +kernel
theorem dX0_strike_39 : decode cX0_strike 39 = .ok (.ireturn, 1) := by decide +kernel
theorem dX1_init_0 : decode cX1_init 0 = .ok (.aload_n 0, 1) := by decide +kernel
theorem dX1_init_1 : decode cX1_init 1 = .ok (.invokespecial 1, 3) := by decide +kernel
theorem dX1_init_4 : decode cX1_init 4 = .ok (.aload_n 0, 1) := by decide +kernel
theorem dX1_init_5 : decode cX1_init 5 = .ok (.iload_n 1, 1) := by decide +kernel
theorem dX1_init_6 : decode cX1_init 6 = .ok (.putfield 7, 3) := by decide +kernel
theorem dX1_init_9 : decode cX1_init 9 = .ok (.return_, 1) := by decide +kernel
set_option maxRecDepth 20000 in
theorem ggX1_allows_X8_within : GoodIn wsX1_allows wsX8_within := goodIn_r _ [3] (by decide +kernel) (by decide +kernel)
set_option maxRecDepth 20000 in
theorem gX1_allows_X8_within_n13 : GoodIn wsX1_allows (wsX8_within) := ggX1_allows_X8_within
theorem dX1_allows_0 : decode cX1_allows 0 = .ok (.iload_n 0, 1) := by decide +kernel
theorem dX1_allows_1 : decode cX1_allows 1 = .ok (.iconst 0, 1) := by decide +kernel
theorem dX1_allows_2 : decode cX1_allows 2 = .ok (.iconst 2, 1) := by decide +kernel
theorem dX1_allows_3 : decode cX1_allows 3 = .ok (.invokestatic 13, 3) := by decide +kernel
theorem dX1_allows_6 : decode cX1_allows 6 = .ok (.ifCond .eq 39, 3) := by decide +kernel
theorem dX1_allows_9 : decode cX1_allows 9 = .ok (.iload_n 1, 1) := by decide +kernel
theorem dX1_allows_10 : decode cX1_allows 10 = .ok (.iconst 0, 1) := by decide +kernel
theorem dX1_allows_11 : decode cX1_allows 11 = .ok (.bipush 9, 2) := by decide +kernel
theorem dX1_allows_13 : decode cX1_allows 13 = .ok (.invokestatic 13, 3) := by decide +kernel
theorem dX1_allows_16 : decode cX1_allows 16 = .ok (.ifCond .eq 29, 3) := by decide +kernel
theorem dX1_allows_19 : decode cX1_allows 19 = .ok (.iload_n 2, 1) := by decide +kernel
theorem dX1_allows_20 : decode cX1_allows 20 = .ok (.iconst 0, 1) := by decide +kernel
theorem dX1_allows_21 : decode cX1_allows 21 = .ok (.sipush 1000, 3) := by decide +kernel
theorem dX1_allows_24 : decode cX1_allows 24 = .ok (.invokestatic 13, 3) := by decide +kernel
theorem dX1_allows_27 : decode cX1_allows 27 = .ok (.ifCond .eq 18, 3) := by decide +kernel
theorem dX1_allows_30 : decode cX1_allows 30 = .ok (.iload_n 3, 1) := by decide +kernel
theorem dX1_allows_31 : decode cX1_allows 31 = .ok (.iconst 1, 1) := by decide +kernel
theorem dX1_allows_32 : decode cX1_allows 32 = .ok (.sipush 1000, 3) := by decide +kernel
theorem dX1_allows_35 : decode cX1_allows 35 = .ok (.invokestatic 13, 3) := by decide +kernel
theorem dX1_allows_38 : decode cX1_allows 38 = .ok (.ifCond .eq 7, 3) := by decide +kernel
theorem dX1_allows_41 : decode cX1_allows 41 = .ok (.iconst 1, 1) := by decide +kernel
theorem dX1_allows_42 : decode cX1_allows 42 = .ok (.goto 4, 3) := by decide +kernel
theorem dX1_allows_45 : decode cX1_allows 45 = .ok (.iconst 0, 1) := by decide +kernel
theorem dX1_allows_46 : decode cX1_allows 46 = .ok (.ireturn, 1) := by decide +kernel
theorem dX1_tell_0 : decode cX1_tell 0 = .ok (.aload_n 0, 1) := by decide +kernel
theorem dX1_tell_1 : decode cX1_tell 1 = .ok (.iload_n 1, 1) := by decide +kernel
theorem dX1_tell_2 : decode cX1_tell 2 = .ok (.putfield 19, 3) := by decide +kernel
theorem dX1_tell_5 : decode cX1_tell 5 = .ok (.aload_n 0, 1) := by decide +kernel
theorem dX1_tell_6 : decode cX1_tell 6 = .ok (.iload_n 2, 1) := by decide +kernel
theorem dX1_tell_7 : decode cX1_tell 7 = .ok (.putfield 22, 3) := by decide +kernel
theorem dX1_tell_10 : decode cX1_tell 10 = .ok (.aload_n 0, 1) := by decide +kernel
theorem dX1_tell_11 : decode cX1_tell 11 = .ok (.iload_n 3, 1) := by decide +kernel
theorem dX1_tell_12 : decode cX1_tell 12 = .ok (.putfield 25, 3) := by decide +kernel
theorem dX1_tell_15 : decode cX1_tell 15 = .ok (.aload_n 0, 1) := by decide +kernel
theorem dX1_tell_16 : decode cX1_tell 16 = .ok (.iload 4, 2) := by decide +kernel
theorem dX1_tell_18 : decode cX1_tell 18 = .ok (.putfield 28, 3) := by decide +kernel
theorem dX1_tell_21 : decode cX1_tell 21 = .ok (.aload_n 0, 1) := by decide +kernel
theorem dX1_tell_22 : decode cX1_tell 22 = .ok (.iload 5, 2) := by decide +kernel
theorem dX1_tell_24 : decode cX1_tell 24 = .ok (.putfield 31, 3) := by decide +kernel
theorem dX1_tell_27 : decode cX1_tell 27 = .ok (.aload_n 0, 1) := by decide +kernel
theorem dX1_tell_28 : decode cX1_tell 28 = .ok (.iconst 0, 1) := by decide +kernel
theorem dX1_tell_29 : decode cX1_tell 29 = .ok (.putfield 34, 3) := by decide +kernel
theorem dX1_tell_32 : decode cX1_tell 32 = .ok (.aload_n 0, 1) := by decide +kernel
theorem dX1_tell_33 : decode cX1_tell 33 = .ok (.iload 4, 2) := by decide +kernel
theorem dX1_tell_35 : decode cX1_tell 35 = .ok (.putfield 37, 3) := by decide +kernel
theorem dX1_tell_38 : decode cX1_tell 38 = .ok (.aload_n 0, 1) := by decide +kernel
theorem dX1_tell_39 : decode cX1_tell 39 = .ok (.iconst 0, 1) := by decide +kernel
theorem dX1_tell_40 : decode cX1_tell 40 = .ok (.putfield 40, 3) := by decide +kernel
theorem dX1_tell_43 : decode cX1_tell 43 = .ok (.aload_n 0, 1) := by decide +kernel
theorem dX1_tell_44 : decode cX1_tell 44 = .ok (.iconst 0, 1) := by decide +kernel
theorem dX1_tell_45 : decode cX1_tell 45 = .ok (.putfield 43, 3) := by decide +kernel
theorem dX1_tell_48 : decode cX1_tell 48 = .ok (.return_, 1) := by decide +kernel
theorem dX1_waitFrom_0 : decode cX1_waitFrom 0 = .ok (.aload_n 0, 1) := by decide +kernel
theorem dX1_waitFrom_1 : decode cX1_waitFrom 1 = .ok (.iconst 1, 1) := by decide +kernel
theorem dX1_waitFrom_2 : decode cX1_waitFrom 2 = .ok (.putfield 34, 3) := by decide +kernel
theorem dX1_waitFrom_5 : decode cX1_waitFrom 5 = .ok (.aload_n 0, 1) := by decide +kernel
theorem dX1_waitFrom_6 : decode cX1_waitFrom 6 = .ok (.iload_n 1, 1) := by decide +kernel
theorem dX1_waitFrom_7 : decode cX1_waitFrom 7 = .ok (.putfield 40, 3) := by decide +kernel
theorem dX1_waitFrom_10 : decode cX1_waitFrom 10 = .ok (.return_, 1) := by decide +kernel
set_option maxRecDepth 20000 in
theorem ggX1_wantSecond_X1_waitFrom : GoodIn wsX1_wantSecond wsX1_waitFrom := goodIn_r _ [8, 9, 10, 11, 12, 13, 14, 15, 16, 17, 18, 19, 20] (by decide +kernel) (by decide +kernel)
set_option maxRecDepth 20000 in
theorem gX1_wantSecond_X1_waitFrom : GoodIn wsX1_wantSecond (wsV RX1 47 RX1 yX1_waitFrom wsX1_waitFrom) := goodIn_app (goodIn_of _ (by decide +kernel)) ggX1_wantSecond_X1_waitFrom
theorem dX1_wantSecond_0 : decode cX1_wantSecond 0 = .ok (.aload_n 0, 1) := by decide +kernel
theorem dX1_wantSecond_1 : decode cX1_wantSecond 1 = .ok (.iconst 1, 1) := by decide +kernel
theorem dX1_wantSecond_2 : decode cX1_wantSecond 2 = .ok (.putfield 43, 3) := by decide +kernel
theorem dX1_wantSecond_5 : decode cX1_wantSecond 5 = .ok (.aload_n 0, 1) := by decide +kernel
theorem dX1_wantSecond_6 : decode cX1_wantSecond 6 = .ok (.aload_n 0, 1) := by decide +kernel
theorem dX1_wantSecond_7 : decode cX1_wantSecond 7 = .ok (.getfield 28, 3) := by decide +kernel
theorem dX1_wantSecond_10 : decode cX1_wantSecond 10 = .ok (.putfield 37, 3) := by decide +kernel
theorem dX1_wantSecond_13 : decode cX1_wantSecond 13 = .ok (.aload_n 0, 1) := by decide +kernel
theorem dX1_wantSecond_14 : decode cX1_wantSecond 14 = .ok (.iload_n 1, 1) := by decide +kernel
theorem dX1_wantSecond_15 : decode cX1_wantSecond 15 = .ok (.invokevirtual 47, 3) := by decide +kernel
theorem dX1_wantSecond_18 : decode cX1_wantSecond 18 = .ok (.return_, 1) := by decide +kernel
theorem dX2_init_0 : decode cX2_init 0 = .ok (.aload_n 0, 1) := by decide +kernel
theorem dX2_init_1 : decode cX2_init 1 = .ok (.invokespecial 3, 3) := by decide +kernel
theorem dX2_init_4 : decode cX2_init 4 = .ok (.aload_n 0, 1) := by decide +kernel
theorem dX2_init_5 : decode cX2_init 5 = .ok (.bipush 6, 2) := by decide +kernel
theorem dX2_init_7 : decode cX2_init 7 = .ok (.newarray .int, 2) := by decide +kernel
theorem dX2_init_9 : decode cX2_init 9 = .ok (.putfield 11, 3) := by decide +kernel
theorem dX2_init_12 : decode cX2_init 12 = .ok (.aload_n 0, 1) := by decide +kernel
theorem dX2_init_13 : decode cX2_init 13 = .ok (.bipush 6, 2) := by decide +kernel
theorem dX2_init_15 : decode cX2_init 15 = .ok (.newarray .int, 2) := by decide +kernel
theorem dX2_init_17 : decode cX2_init 17 = .ok (.putfield 15, 3) := by decide +kernel
theorem dX2_init_20 : decode cX2_init 20 = .ok (.aload_n 0, 1) := by decide +kernel
theorem dX2_init_21 : decode cX2_init 21 = .ok (.sipush 245, 3) := by decide +kernel
theorem dX2_init_24 : decode cX2_init 24 = .ok (.newarray .long, 2) := by decide +kernel
theorem dX2_init_26 : decode cX2_init 26 = .ok (.putfield 18, 3) := by decide +kernel
theorem dX2_init_29 : decode cX2_init 29 = .ok (.return_, 1) := by decide +kernel
set_option maxRecDepth 20000 in
theorem ggX2_join_X8_within : GoodIn wsX2_join wsX8_within := goodIn_r _ [6] (by decide +kernel) (by decide +kernel)
set_option maxRecDepth 20000 in
theorem gX2_join_X8_within_n22 : GoodIn wsX2_join (wsX8_within) := ggX2_join_X8_within
theorem dX2_join_0 : decode cX2_join 0 = .ok (.iload_n 1, 1) := by decide +kernel
theorem dX2_join_1 : decode cX2_join 1 = .ok (.iconst 1, 1) := by decide +kernel
theorem dX2_join_2 : decode cX2_join 2 = .ok (.iconst 4, 1) := by decide +kernel
theorem dX2_join_3 : decode cX2_join 3 = .ok (.invokestatic 22, 3) := by decide +kernel
theorem dX2_join_6 : decode cX2_join 6 = .ok (.ifCond .eq 12, 3) := by decide +kernel
theorem dX2_join_9 : decode cX2_join 9 = .ok (.aload_n 0, 1) := by decide +kernel
theorem dX2_join_10 : decode cX2_join 10 = .ok (.getfield 26, 3) := by decide +kernel
theorem dX2_join_13 : decode cX2_join 13 = .ok (.bipush 6, 2) := by decide +kernel
theorem dX2_join_15 : decode cX2_join 15 = .ok (.if_icmp .lt 5, 3) := by decide +kernel
theorem dX2_join_18 : decode cX2_join 18 = .ok (.iconst (-1), 1) := by decide +kernel
theorem dX2_join_19 : decode cX2_join 19 = .ok (.ireturn, 1) := by decide +kernel
theorem dX2_join_20 : decode cX2_join 20 = .ok (.aload_n 0, 1) := by decide +kernel
theorem dX2_join_21 : decode cX2_join 21 = .ok (.getfield 11, 3) := by decide +kernel
theorem dX2_join_24 : decode cX2_join 24 = .ok (.aload_n 0, 1) := by decide +kernel
theorem dX2_join_25 : decode cX2_join 25 = .ok (.getfield 26, 3) := by decide +kernel
theorem dX2_join_28 : decode cX2_join 28 = .ok (.iload_n 1, 1) := by decide +kernel
theorem dX2_join_29 : decode cX2_join 29 = .ok (.iastore, 1) := by decide +kernel
theorem dX2_join_30 : decode cX2_join 30 = .ok (.aload_n 0, 1) := by decide +kernel
theorem dX2_join_31 : decode cX2_join 31 = .ok (.dup, 1) := by decide +kernel
theorem dX2_join_32 : decode cX2_join 32 = .ok (.getfield 26, 3) := by decide +kernel
theorem dX2_join_35 : decode cX2_join 35 = .ok (.iconst 1, 1) := by decide +kernel
theorem dX2_join_36 : decode cX2_join 36 = .ok (.iadd, 1) := by decide +kernel
theorem dX2_join_37 : decode cX2_join 37 = .ok (.putfield 26, 3) := by decide +kernel
theorem dX2_join_40 : decode cX2_join 40 = .ok (.aload_n 0, 1) := by decide +kernel
theorem dX2_join_41 : decode cX2_join 41 = .ok (.iconst 0, 1) := by decide +kernel
theorem dX2_join_42 : decode cX2_join 42 = .ok (.putfield 30, 3) := by decide +kernel
theorem dX2_join_45 : decode cX2_join 45 = .ok (.aload_n 0, 1) := by decide +kernel
theorem dX2_join_46 : decode cX2_join 46 = .ok (.getfield 26, 3) := by decide +kernel
theorem dX2_join_49 : decode cX2_join 49 = .ok (.ireturn, 1) := by decide +kernel
theorem dX2_dismiss_0 : decode cX2_dismiss 0 = .ok (.aload_n 0, 1) := by decide +kernel
theorem dX2_dismiss_1 : decode cX2_dismiss 1 = .ok (.getfield 26, 3) := by decide +kernel
theorem dX2_dismiss_4 : decode cX2_dismiss 4 = .ok (.istore_n 1, 1) := by decide +kernel
theorem dX2_dismiss_5 : decode cX2_dismiss 5 = .ok (.aload_n 0, 1) := by decide +kernel
theorem dX2_dismiss_6 : decode cX2_dismiss 6 = .ok (.iconst 0, 1) := by decide +kernel
theorem dX2_dismiss_7 : decode cX2_dismiss 7 = .ok (.putfield 26, 3) := by decide +kernel
theorem dX2_dismiss_10 : decode cX2_dismiss 10 = .ok (.aload_n 0, 1) := by decide +kernel
theorem dX2_dismiss_11 : decode cX2_dismiss 11 = .ok (.iconst 0, 1) := by decide +kernel
theorem dX2_dismiss_12 : decode cX2_dismiss 12 = .ok (.putfield 30, 3) := by decide +kernel
theorem dX2_dismiss_15 : decode cX2_dismiss 15 = .ok (.iload_n 1, 1) := by decide +kernel
theorem dX2_dismiss_16 : decode cX2_dismiss 16 = .ok (.ireturn, 1) := by decide +kernel
set_option maxRecDepth 20000 in
theorem ggX2_figure_X8_within : GoodIn wsX2_figure wsX8_within := goodIn_r _ [6] (by decide +kernel) (by decide +kernel)
set_option maxRecDepth 20000 in
theorem gX2_figure_X8_within_n22 : GoodIn wsX2_figure (wsX8_within) := ggX2_figure_X8_within
set_option maxRecDepth 20000 in
theorem ggX2_figure_X2_walk : GoodIn wsX2_figure wsX2_walk := goodIn_r _ [11, 2, 3, 12, 13, 14, 10, 15, 16, 17, 18, 19, 20, 21, 4, 5, 6, 22, 23, 24, 25, 26, 27, 28, 29, 30, 31, 32, 33, 34, 35, 36, 37, 38, 39, 40, 41, 42, 43, 44, 45, 46, 47, 48, 49, 50] (by decide +kernel) (by decide +kernel)
set_option maxRecDepth 20000 in
theorem gX2_figure_X2_walk : GoodIn wsX2_figure (wsV RX2 33 RX2 yX2_walk wsX2_walk) := goodIn_app (goodIn_of _ (by decide +kernel)) ggX2_figure_X2_walk
theorem dX2_figure_0 : decode cX2_figure 0 = .ok (.iload_n 1, 1) := by decide +kernel
theorem dX2_figure_1 : decode cX2_figure 1 = .ok (.iconst 1, 1) := by decide +kernel
theorem dX2_figure_2 : decode cX2_figure 2 = .ok (.bipush 24, 2) := by decide +kernel
theorem dX2_figure_4 : decode cX2_figure 4 = .ok (.invokestatic 22, 3) := by decide +kernel
theorem dX2_figure_7 : decode cX2_figure 7 = .ok (.ifCond .eq 12, 3) := by decide +kernel
theorem dX2_figure_10 : decode cX2_figure 10 = .ok (.iload_n 2, 1) := by decide +kernel
theorem dX2_figure_11 : decode cX2_figure 11 = .ok (.iconst 0, 1) := by decide +kernel
theorem dX2_figure_12 : decode cX2_figure 12 = .ok (.iconst 1, 1) := by decide +kernel
theorem dX2_figure_13 : decode cX2_figure 13 = .ok (.invokestatic 22, 3) := by decide +kernel
theorem dX2_figure_16 : decode cX2_figure 16 = .ok (.ifCond .ne 5, 3) := by decide +kernel
theorem dX2_figure_19 : decode cX2_figure 19 = .ok (.iconst (-1), 1) := by decide +kernel
theorem dX2_figure_20 : decode cX2_figure 20 = .ok (.ireturn, 1) := by decide +kernel
theorem dX2_figure_21 : decode cX2_figure 21 = .ok (.aload_n 0, 1) := by decide +kernel
theorem dX2_figure_22 : decode cX2_figure 22 = .ok (.getfield 30, 3) := by decide +kernel
theorem dX2_figure_25 : decode cX2_figure 25 = .ok (.iload_n 1, 1) := by decide +kernel
theorem dX2_figure_26 : decode cX2_figure 26 = .ok (.if_icmp .eq 13, 3) := by decide +kernel
theorem dX2_figure_29 : decode cX2_figure 29 = .ok (.aload_n 0, 1) := by decide +kernel
theorem dX2_figure_30 : decode cX2_figure 30 = .ok (.iload_n 1, 1) := by decide +kernel
theorem dX2_figure_31 : decode cX2_figure 31 = .ok (.invokevirtual 33, 3) := by decide +kernel
theorem dX2_figure_34 : decode cX2_figure 34 = .ok (.aload_n 0, 1) := by decide +kernel
theorem dX2_figure_35 : decode cX2_figure 35 = .ok (.iload_n 1, 1) := by decide +kernel
theorem dX2_figure_36 : decode cX2_figure 36 = .ok (.putfield 30, 3) := by decide +kernel
theorem dX2_figure_39 : decode cX2_figure 39 = .ok (.iload_n 2, 1) := by decide +kernel
theorem dX2_figure_40 : decode cX2_figure 40 = .ok (.ifCond .ne 10, 3) := by decide +kernel
theorem dX2_figure_43 : decode cX2_figure 43 = .ok (.aload_n 0, 1) := by decide +kernel
theorem dX2_figure_44 : decode cX2_figure 44 = .ok (.getfield 37, 3) := by decide +kernel
theorem dX2_figure_47 : decode cX2_figure 47 = .ok (.goto 7, 3) := by decide +kernel
theorem dX2_figure_50 : decode cX2_figure 50 = .ok (.aload_n 0, 1) := by decide +kernel
theorem dX2_figure_51 : decode cX2_figure 51 = .ok (.getfield 40, 3) := by decide +kernel
theorem dX2_figure_54 : decode cX2_figure 54 = .ok (.ireturn, 1) := by decide +kernel
theorem dX2_sureLines_0 : decode cX2_sureLines 0 = .ok (.iconst 1, 1) := by decide +kernel
theorem dX2_sureLines_1 : decode cX2_sureLines 1 = .ok (.istore_n 1, 1) := by decide +kernel
theorem dX2_sureLines_2 : decode cX2_sureLines 2 = .ok (.iconst 0, 1) := by decide +kernel
theorem dX2_sureLines_3 : decode cX2_sureLines 3 = .ok (.istore_n 2, 1) := by decide +kernel
theorem dX2_sureLines_4 : decode cX2_sureLines 4 = .ok (.iload_n 2, 1) := by decide +kernel
theorem dX2_sureLines_5 : decode cX2_sureLines 5 = .ok (.aload_n 0, 1) := by decide +kernel
theorem dX2_sureLines_6 : decode cX2_sureLines 6 = .ok (.getfield 26, 3) := by decide +kernel
theorem dX2_sureLines_9 : decode cX2_sureLines 9 = .ok (.if_icmp .ge 20, 3) := by decide +kernel
theorem dX2_sureLines_12 : decode cX2_sureLines 12 = .ok (.iload_n 1, 1) := by decide +kernel
theorem dX2_sureLines_13 : decode cX2_sureLines 13 = .ok (.aload_n 0, 1) := by decide +kernel
theorem dX2_sureLines_14 : decode cX2_sureLines 14 = .ok (.getfield 11, 3) := by decide +kernel
theorem dX2_sureLines_17 : decode cX2_sureLines 17 = .ok (.iload_n 2, 1) := by decide +kernel
theorem dX2_sureLines_18 : decode cX2_sureLines 18 = .ok (.iaload, 1) := by decide +kernel
theorem dX2_sureLines_19 : decode cX2_sureLines 19 = .ok (.iconst 1, 1) := by decide +kernel
theorem dX2_sureLines_20 : decode cX2_sureLines 20 = .ok (.isub, 1) := by decide +kernel
theorem dX2_sureLines_21 : decode cX2_sureLines 21 = .ok (.iadd, 1) := by decide +kernel
theorem dX2_sureLines_22 : decode cX2_sureLines 22 = .ok (.istore_n 1, 1) := by decide +kernel
theorem dX2_sureLines_23 : decode cX2_sureLines 23 = .ok (.iinc 2 1, 3) := by decide +kernel
theorem dX2_sureLines_26 : decode cX2_sureLines 26 = .ok (.goto (-22), 3) := by decide +kernel
theorem dX2_sureLines_29 : decode cX2_sureLines 29 = .ok (.iload_n 1, 1) := by decide +kernel
theorem dX2_sureLines_30 : decode cX2_sureLines 30 = .ok (.ireturn, 1) := by decide +kernel
set_option maxRecDepth 20000 in
theorem ggX2_walk_X2_goToFirstRow : GoodIn wsX2_walk wsX2_goToFirstRow := goodIn_r _ [7, 8, 9, 39, 40, 41, 42, 43, 44, 45] (by decide +kernel) (by decide +kernel)
set_option maxRecDepth 20000 in
theorem gX2_walk_X2_goToFirstRow : GoodIn wsX2_walk (wsV RX2 43 RX2 yX2_goToFirstRow wsX2_goToFirstRow) := goodIn_app (goodIn_of _ (by decide +kernel)) ggX2_walk_X2_goToFirstRow
set_option maxRecDepth 20000 in
theorem ggX2_walk_X2_markReached : GoodIn wsX2_walk wsX2_markReached := goodIn_r _ [13, 8, 14, 15, 16, 39, 40, 41, 42, 43, 44, 45] (by decide +kernel) (by decide +kernel)
set_option maxRecDepth 20000 in
theorem gX2_walk_X2_markReached : GoodIn wsX2_walk (wsV RX2 46 RX2 yX2_markReached wsX2_markReached) := goodIn_app (goodIn_of _ (by decide +kernel)) ggX2_walk_X2_markReached
set_option maxRecDepth 20000 in
theorem ggX2_walk_X2_stateNumbers : GoodIn wsX2_walk wsX2_stateNumbers := goodIn_r _ [20, 21, 22, 39, 40, 41, 42, 43, 44, 45] (by decide +kernel) (by decide +kernel)
set_option maxRecDepth 20000 in
theorem gX2_walk_X2_stateNumbers : GoodIn wsX2_walk (wsV RX2 49 RX2 yX2_stateNumbers wsX2_stateNumbers) := goodIn_app (goodIn_of _ (by decide +kernel)) ggX2_walk_X2_stateNumbers
set_option maxRecDepth 20000 in
theorem ggX2_walk_X2_isReached : GoodIn wsX2_walk wsX2_isReached := goodIn_r _ [26, 8, 14, 15, 16, 39, 40, 41, 42, 43, 44, 45] (by decide +kernel) (by decide +kernel)
set_option maxRecDepth 20000 in
theorem gX2_walk_X2_isReached : GoodIn wsX2_walk (wsV RX2 53 RX2 yX2_isReached wsX2_isReached) := goodIn_app (goodIn_of _ (by decide +kernel)) ggX2_walk_X2_isReached
set_option maxRecDepth 20000 in
theorem ggX2_walk_X2_visit : GoodIn wsX2_walk wsX2_visit := goodIn_r _ [30, 21, 9, 22, 2, 31, 32, 33, 6, 34, 10, 11, 12, 13, 8, 14, 15, 16, 39, 40, 41, 42, 43, 44, 45] (by decide +kernel) (by decide +kernel)
set_option maxRecDepth 20000 in
theorem gX2_walk_X2_visit : GoodIn wsX2_walk (wsV RX2 57 RX2 yX2_visit wsX2_visit) := goodIn_app (goodIn_of _ (by decide +kernel)) ggX2_walk_X2_visit
set_option maxRecDepth 20000 in
theorem ggX2_walk_X2_nextRow : GoodIn wsX2_walk wsX2_nextRow := goodIn_r _ [38, 21, 9, 22, 39, 40, 41, 42, 43, 44, 45] (by decide +kernel) (by decide +kernel)
set_option maxRecDepth 20000 in
theorem gX2_walk_X2_nextRow : GoodIn wsX2_walk (wsV RX2 61 RX2 yX2_nextRow wsX2_nextRow) := goodIn_app (goodIn_of _ (by decide +kernel)) ggX2_walk_X2_nextRow
theorem dX2_walk_0 : decode cX2_walk 0 = .ok (.aload_n 0, 1) := by decide +kernel
theorem dX2_walk_1 : decode cX2_walk 1 = .ok (.iconst 0, 1) := by decide +kernel
theorem dX2_walk_2 : decode cX2_walk 2 = .ok (.putfield 37, 3) := by decide +kernel
theorem dX2_walk_5 : decode cX2_walk 5 = .ok (.aload_n 0, 1) := by decide +kernel
theorem dX2_walk_6 : decode cX2_walk 6 = .ok (.iconst 0, 1) := by decide +kernel
theorem dX2_walk_7 : decode cX2_walk 7 = .ok (.putfield 40, 3) := by decide +kernel
theorem dX2_walk_10 : decode cX2_walk 10 = .ok (.aload_n 0, 1) := by decide +kernel
theorem dX2_walk_11 : decode cX2_walk 11 = .ok (.invokevirtual 43, 3) := by decide +kernel
theorem dX2_walk_14 : decode cX2_walk 14 = .ok (.aload_n 0, 1) := by decide +kernel
theorem dX2_walk_15 : decode cX2_walk 15 = .ok (.iconst 0, 1) := by decide +kernel
theorem dX2_walk_16 : decode cX2_walk 16 = .ok (.invokevirtual 46, 3) := by decide +kernel
theorem dX2_walk_19 : decode cX2_walk 19 = .ok (.aload_n 0, 1) := by decide +kernel
theorem dX2_walk_20 : decode cX2_walk 20 = .ok (.invokevirtual 49, 3) := by decide +kernel
theorem dX2_walk_23 : decode cX2_walk 23 = .ok (.istore_n 2, 1) := by decide +kernel
theorem dX2_walk_24 : decode cX2_walk 24 = .ok (.iconst 0, 1) := by decide +kernel
theorem dX2_walk_25 : decode cX2_walk 25 = .ok (.istore_n 3, 1) := by decide +kernel
theorem dX2_walk_26 : decode cX2_walk 26 = .ok (.iload_n 3, 1) := by decide +kernel
theorem dX2_walk_27 : decode cX2_walk 27 = .ok (.iload_n 2, 1) := by decide +kernel
theorem dX2_walk_28 : decode cX2_walk 28 = .ok (.if_icmp .ge 37, 3) := by decide +kernel
theorem dX2_walk_31 : decode cX2_walk 31 = .ok (.aload_n 0, 1) := by decide +kernel
theorem dX2_walk_32 : decode cX2_walk 32 = .ok (.iload_n 3, 1) := by decide +kernel
theorem dX2_walk_33 : decode cX2_walk 33 = .ok (.invokevirtual 53, 3) := by decide +kernel
theorem dX2_walk_36 : decode cX2_walk 36 = .ok (.ifCond .eq 19, 3) := by decide +kernel
theorem dX2_walk_39 : decode cX2_walk 39 = .ok (.aload_n 0, 1) := by decide +kernel
theorem dX2_walk_40 : decode cX2_walk 40 = .ok (.dup, 1) := by decide +kernel
theorem dX2_walk_41 : decode cX2_walk 41 = .ok (.getfield 37, 3) := by decide +kernel
theorem dX2_walk_44 : decode cX2_walk 44 = .ok (.iconst 1, 1) := by decide +kernel
theorem dX2_walk_45 : decode cX2_walk 45 = .ok (.iadd, 1) := by decide +kernel
theorem dX2_walk_46 : decode cX2_walk 46 = .ok (.putfield 37, 3) := by decide +kernel
theorem dX2_walk_49 : decode cX2_walk 49 = .ok (.aload_n 0, 1) := by decide +kernel
theorem dX2_walk_50 : decode cX2_walk 50 = .ok (.iload_n 3, 1) := by decide +kernel
theorem dX2_walk_51 : decode cX2_walk 51 = .ok (.iload_n 1, 1) := by decide +kernel
theorem dX2_walk_52 : decode cX2_walk 52 = .ok (.invokevirtual 57, 3) := by decide +kernel
theorem dX2_walk_55 : decode cX2_walk 55 = .ok (.aload_n 0, 1) := by decide +kernel
theorem dX2_walk_56 : decode cX2_walk 56 = .ok (.invokevirtual 61, 3) := by decide +kernel
theorem dX2_walk_59 : decode cX2_walk 59 = .ok (.iinc 3 1, 3) := by decide +kernel
theorem dX2_walk_62 : decode cX2_walk 62 = .ok (.goto (-36), 3) := by decide +kernel
theorem dX2_walk_65 : decode cX2_walk 65 = .ok (.return_, 1) := by decide +kernel
theorem dX2_goToFirstRow_0 : decode cX2_goToFirstRow 0 = .ok (.iconst 0, 1) := by decide +kernel
theorem dX2_goToFirstRow_1 : decode cX2_goToFirstRow 1 = .ok (.istore_n 1, 1) := by decide +kernel
theorem dX2_goToFirstRow_2 : decode cX2_goToFirstRow 2 = .ok (.iload_n 1, 1) := by decide +kernel
theorem dX2_goToFirstRow_3 : decode cX2_goToFirstRow 3 = .ok (.aload_n 0, 1) := by decide +kernel
theorem dX2_goToFirstRow_4 : decode cX2_goToFirstRow 4 = .ok (.getfield 18, 3) := by decide +kernel
theorem dX2_goToFirstRow_7 : decode cX2_goToFirstRow 7 = .ok (.arraylength, 1) := by decide +kernel
theorem dX2_goToFirstRow_8 : decode cX2_goToFirstRow 8 = .ok (.if_icmp .ge 16, 3) := by decide +kernel
theorem dX2_goToFirstRow_11 : decode cX2_goToFirstRow 11 = .ok (.aload_n 0, 1) := by decide +kernel
theorem dX2_goToFirstRow_12 : decode cX2_goToFirstRow 12 = .ok (.getfield 18, 3) := by decide +kernel
theorem dX2_goToFirstRow_15 : decode cX2_goToFirstRow 15 = .ok (.iload_n 1, 1) := by decide +kernel
theorem dX2_goToFirstRow_16 : decode cX2_goToFirstRow 16 = .ok (.lconst 0, 1) := by decide +kernel
theorem dX2_goToFirstRow_17 : decode cX2_goToFirstRow 17 = .ok (.lastore, 1) := by decide +kernel
theorem dX2_goToFirstRow_18 : decode cX2_goToFirstRow 18 = .ok (.iinc 1 1, 3) := by decide +kernel
theorem dX2_goToFirstRow_21 : decode cX2_goToFirstRow 21 = .ok (.goto (-19), 3) := by decide +kernel
theorem dX2_goToFirstRow_24 : decode cX2_goToFirstRow 24 = .ok (.iconst 0, 1) := by decide +kernel
theorem dX2_goToFirstRow_25 : decode cX2_goToFirstRow 25 = .ok (.istore_n 1, 1) := by decide +kernel
theorem dX2_goToFirstRow_26 : decode cX2_goToFirstRow 26 = .ok (.iload_n 1, 1) := by decide +kernel
theorem dX2_goToFirstRow_27 : decode cX2_goToFirstRow 27 = .ok (.bipush 6, 2) := by decide +kernel
theorem dX2_goToFirstRow_29 : decode cX2_goToFirstRow 29 = .ok (.if_icmp .ge 16, 3) := by decide +kernel
theorem dX2_goToFirstRow_32 : decode cX2_goToFirstRow 32 = .ok (.aload_n 0, 1) := by decide +kernel
theorem dX2_goToFirstRow_33 : decode cX2_goToFirstRow 33 = .ok (.getfield 15, 3) := by decide +kernel
theorem dX2_goToFirstRow_36 : decode cX2_goToFirstRow 36 = .ok (.iload_n 1, 1) := by decide +kernel
theorem dX2_goToFirstRow_37 : decode cX2_goToFirstRow 37 = .ok (.iconst 0, 1) := by decide +kernel
theorem dX2_goToFirstRow_38 : decode cX2_goToFirstRow 38 = .ok (.iastore, 1) := by decide +kernel
theorem dX2_goToFirstRow_39 : decode cX2_goToFirstRow 39 = .ok (.iinc 1 1, 3) := by decide +kernel
theorem dX2_goToFirstRow_42 : decode cX2_goToFirstRow 42 = .ok (.goto (-16), 3) := by decide +kernel
theorem dX2_goToFirstRow_45 : decode cX2_goToFirstRow 45 = .ok (.return_, 1) := by decide +kernel
theorem dX2_stateNumbers_0 : decode cX2_stateNumbers 0 = .ok (.iconst 1, 1) := by decide +kernel
theorem dX2_stateNumbers_1 : decode cX2_stateNumbers 1 = .ok (.istore_n 1, 1) := by decide +kernel
theorem dX2_stateNumbers_2 : decode cX2_stateNumbers 2 = .ok (.iconst 0, 1) := by decide +kernel
theorem dX2_stateNumbers_3 : decode cX2_stateNumbers 3 = .ok (.istore_n 2, 1) := by decide +kernel
theorem dX2_stateNumbers_4 : decode cX2_stateNumbers 4 = .ok (.iload_n 2, 1) := by decide +kernel
theorem dX2_stateNumbers_5 : decode cX2_stateNumbers 5 = .ok (.aload_n 0, 1) := by decide +kernel
theorem dX2_stateNumbers_6 : decode cX2_stateNumbers 6 = .ok (.getfield 26, 3) := by decide +kernel
theorem dX2_stateNumbers_9 : decode cX2_stateNumbers 9 = .ok (.if_icmp .ge 20, 3) := by decide +kernel
theorem dX2_stateNumbers_12 : decode cX2_stateNumbers 12 = .ok (.iload_n 1, 1) := by decide +kernel
theorem dX2_stateNumbers_13 : decode cX2_stateNumbers 13 = .ok (.aload_n 0, 1) := by decide +kernel
theorem dX2_stateNumbers_14 : decode cX2_stateNumbers 14 = .ok (.getfield 11, 3) := by decide +kernel
theorem dX2_stateNumbers_17 : decode cX2_stateNumbers 17 = .ok (.iload_n 2, 1) := by decide +kernel
theorem dX2_stateNumbers_18 : decode cX2_stateNumbers 18 = .ok (.iaload, 1) := by decide +kernel
theorem dX2_stateNumbers_19 : decode cX2_stateNumbers 19 = .ok (.iconst 1, 1) := by decide +kernel
theorem dX2_stateNumbers_20 : decode cX2_stateNumbers 20 = .ok (.iadd, 1) := by decide +kernel
theorem dX2_stateNumbers_21 : decode cX2_stateNumbers 21 = .ok (.imul, 1) := by decide +kernel
theorem dX2_stateNumbers_22 : decode cX2_stateNumbers 22 = .ok (.istore_n 1, 1) := by decide +kernel
theorem dX2_stateNumbers_23 : decode cX2_stateNumbers 23 = .ok (.iinc 2 1, 3) := by decide +kernel
theorem dX2_stateNumbers_26 : decode cX2_stateNumbers 26 = .ok (.goto (-22), 3) := by decide +kernel
theorem dX2_stateNumbers_29 : decode cX2_stateNumbers 29 = .ok (.iload_n 1, 1) := by decide +kernel
theorem dX2_stateNumbers_30 : decode cX2_stateNumbers 30 = .ok (.ireturn, 1) := by decide +kernel
set_option maxRecDepth 20000 in
theorem ggX2_visit_X2_markMoves : GoodIn wsX2_visit wsX2_markMoves := goodIn_r _ [9, 1, 2, 3, 10, 11, 12, 8, 13, 14, 15, 16, 17, 18, 19, 20, 21, 22, 23, 24] (by decide +kernel) (by decide +kernel)
set_option maxRecDepth 20000 in
theorem gX2_visit_X2_markMoves : GoodIn wsX2_visit (wsV RX2 64 RX2 yX2_markMoves wsX2_markMoves) := goodIn_app (goodIn_of _ (by decide +kernel)) ggX2_visit_X2_markMoves
theorem dX2_visit_0 : decode cX2_visit 0 = .ok (.iconst 0, 1) := by decide +kernel
theorem dX2_visit_1 : decode cX2_visit 1 = .ok (.istore_n 3, 1) := by decide +kernel
theorem dX2_visit_2 : decode cX2_visit 2 = .ok (.iconst 0, 1) := by decide +kernel
theorem dX2_visit_3 : decode cX2_visit 3 = .ok (.istore 4, 2) := by decide +kernel
theorem dX2_visit_5 : decode cX2_visit 5 = .ok (.iload 4, 2) := by decide +kernel
theorem dX2_visit_7 : decode cX2_visit 7 = .ok (.aload_n 0, 1) := by decide +kernel
theorem dX2_visit_8 : decode cX2_visit 8 = .ok (.getfield 26, 3) := by decide +kernel
theorem dX2_visit_11 : decode cX2_visit 11 = .ok (.if_icmp .ge 36, 3) := by decide +kernel
theorem dX2_visit_14 : decode cX2_visit 14 = .ok (.aload_n 0, 1) := by decide +kernel
theorem dX2_visit_15 : decode cX2_visit 15 = .ok (.getfield 15, 3) := by decide +kernel
theorem dX2_visit_18 : decode cX2_visit 18 = .ok (.iload 4, 2) := by decide +kernel
theorem dX2_visit_20 : decode cX2_visit 20 = .ok (.iaload, 1) := by decide +kernel
theorem dX2_visit_21 : decode cX2_visit 21 = .ok (.aload_n 0, 1) := by decide +kernel
theorem dX2_visit_22 : decode cX2_visit 22 = .ok (.getfield 11, 3) := by decide +kernel
theorem dX2_visit_25 : decode cX2_visit 25 = .ok (.iload 4, 2) := by decide +kernel
theorem dX2_visit_27 : decode cX2_visit 27 = .ok (.iaload, 1) := by decide +kernel
theorem dX2_visit_28 : decode cX2_visit 28 = .ok (.if_icmp .ge 13, 3) := by decide +kernel
theorem dX2_visit_31 : decode cX2_visit 31 = .ok (.iload_n 3, 1) := by decide +kernel
theorem dX2_visit_32 : decode cX2_visit 32 = .ok (.aload_n 0, 1) := by decide +kernel
theorem dX2_visit_33 : decode cX2_visit 33 = .ok (.getfield 15, 3) := by decide +kernel
theorem dX2_visit_36 : decode cX2_visit 36 = .ok (.iload 4, 2) := by decide +kernel
theorem dX2_visit_38 : decode cX2_visit 38 = .ok (.iaload, 1) := by decide +kernel
theorem dX2_visit_39 : decode cX2_visit 39 = .ok (.iadd, 1) := by decide +kernel
theorem dX2_visit_40 : decode cX2_visit 40 = .ok (.istore_n 3, 1) := by decide +kernel
theorem dX2_visit_41 : decode cX2_visit 41 = .ok (.iinc 4 1, 3) := by decide +kernel
theorem dX2_visit_44 : decode cX2_visit 44 = .ok (.goto (-39), 3) := by decide +kernel
theorem dX2_visit_47 : decode cX2_visit 47 = .ok (.iload_n 3, 1) := by decide +kernel
theorem dX2_visit_48 : decode cX2_visit 48 = .ok (.iload_n 2, 1) := by decide +kernel
theorem dX2_visit_49 : decode cX2_visit 49 = .ok (.if_icmp .ge 11, 3) := by decide +kernel
theorem dX2_visit_52 : decode cX2_visit 52 = .ok (.aload_n 0, 1) := by decide +kernel
theorem dX2_visit_53 : decode cX2_visit 53 = .ok (.iload_n 1, 1) := by decide +kernel
theorem dX2_visit_54 : decode cX2_visit 54 = .ok (.invokevirtual 64, 3) := by decide +kernel
theorem dX2_visit_57 : decode cX2_visit 57 = .ok (.goto 13, 3) := by decide +kernel
theorem dX2_visit_60 : decode cX2_visit 60 = .ok (.aload_n 0, 1) := by decide +kernel
theorem dX2_visit_61 : decode cX2_visit 61 = .ok (.dup, 1) := by decide +kernel
theorem dX2_visit_62 : decode cX2_visit 62 = .ok (.getfield 40, 3) := by decide +kernel
theorem dX2_visit_65 : decode cX2_visit 65 = .ok (.iconst 1, 1) := by decide +kernel
theorem dX2_visit_66 : decode cX2_visit 66 = .ok (.iadd, 1) := by decide +kernel
theorem dX2_visit_67 : decode cX2_visit 67 = .ok (.putfield 40, 3) := by decide +kernel
theorem dX2_visit_70 : decode cX2_visit 70 = .ok (.return_, 1) := by decide +kernel
set_option maxRecDepth 20000 in
theorem ggX2_markMoves_X2_markReached : GoodIn wsX2_markMoves wsX2_markReached := goodIn_r _ [8, 9, 10, 11, 12, 13, 14, 15, 16, 17, 18, 19] (by decide +kernel) (by decide +kernel)
set_option maxRecDepth 20000 in
theorem gX2_markMoves_X2_markReached : GoodIn wsX2_markMoves (wsV RX2 46 RX2 yX2_markReached wsX2_markReached) := goodIn_app (goodIn_of _ (by decide +kernel)) ggX2_markMoves_X2_markReached
theorem dX2_markMoves_0 : decode cX2_markMoves 0 = .ok (.iconst 1, 1) := by decide +kernel
theorem dX2_markMoves_1 : decode cX2_markMoves 1 = .ok (.istore_n 2, 1) := by decide +kernel
theorem dX2_markMoves_2 : decode cX2_markMoves 2 = .ok (.iconst 0, 1) := by decide +kernel
theorem dX2_markMoves_3 : decode cX2_markMoves 3 = .ok (.istore_n 3, 1) := by decide +kernel
theorem dX2_markMoves_4 : decode cX2_markMoves 4 = .ok (.iload_n 3, 1) := by decide +kernel
theorem dX2_markMoves_5 : decode cX2_markMoves 5 = .ok (.aload_n 0, 1) := by decide +kernel
theorem dX2_markMoves_6 : decode cX2_markMoves 6 = .ok (.getfield 26, 3) := by decide +kernel
theorem dX2_markMoves_9 : decode cX2_markMoves 9 = .ok (.if_icmp .ge 42, 3) := by decide +kernel
theorem dX2_markMoves_12 : decode cX2_markMoves 12 = .ok (.aload_n 0, 1) := by decide +kernel
theorem dX2_markMoves_13 : decode cX2_markMoves 13 = .ok (.getfield 15, 3) := by decide +kernel
theorem dX2_markMoves_16 : decode cX2_markMoves 16 = .ok (.iload_n 3, 1) := by decide +kernel
theorem dX2_markMoves_17 : decode cX2_markMoves 17 = .ok (.iaload, 1) := by decide +kernel
theorem dX2_markMoves_18 : decode cX2_markMoves 18 = .ok (.aload_n 0, 1) := by decide +kernel
theorem dX2_markMoves_19 : decode cX2_markMoves 19 = .ok (.getfield 11, 3) := by decide +kernel
theorem dX2_markMoves_22 : decode cX2_markMoves 22 = .ok (.iload_n 3, 1) := by decide +kernel
theorem dX2_markMoves_23 : decode cX2_markMoves 23 = .ok (.iaload, 1) := by decide +kernel
theorem dX2_markMoves_24 : decode cX2_markMoves 24 = .ok (.if_icmp .ge 10, 3) := by decide +kernel
theorem dX2_markMoves_27 : decode cX2_markMoves 27 = .ok (.aload_n 0, 1) := by decide +kernel
theorem dX2_markMoves_28 : decode cX2_markMoves 28 = .ok (.iload_n 1, 1) := by decide +kernel
theorem dX2_markMoves_29 : decode cX2_markMoves 29 = .ok (.iload_n 2, 1) := by decide +kernel
theorem dX2_markMoves_30 : decode cX2_markMoves 30 = .ok (.iadd, 1) := by decide +kernel
theorem dX2_markMoves_31 : decode cX2_markMoves 31 = .ok (.invokevirtual 46, 3) := by decide +kernel
theorem dX2_markMoves_34 : decode cX2_markMoves 34 = .ok (.iload_n 2, 1) := by decide +kernel
theorem dX2_markMoves_35 : decode cX2_markMoves 35 = .ok (.aload_n 0, 1) := by decide +kernel
theorem dX2_markMoves_36 : decode cX2_markMoves 36 = .ok (.getfield 11, 3) := by decide +kernel
theorem dX2_markMoves_39 : decode cX2_markMoves 39 = .ok (.iload_n 3, 1) := by decide +kernel
theorem dX2_markMoves_40 : decode cX2_markMoves 40 = .ok (.iaload, 1) := by decide +kernel
theorem dX2_markMoves_41 : decode cX2_markMoves 41 = .ok (.iconst 1, 1) := by decide +kernel
theorem dX2_markMoves_42 : decode cX2_markMoves 42 = .ok (.iadd, 1) := by decide +kernel
theorem dX2_markMoves_43 : decode cX2_markMoves 43 = .ok (.imul, 1) := by decide +kernel
theorem dX2_markMoves_44 : decode cX2_markMoves 44 = .ok (.istore_n 2, 1) := by decide +kernel
theorem dX2_markMoves_45 : decode cX2_markMoves 45 = .ok (.iinc 3 1, 3) := by decide +kernel
theorem dX2_markMoves_48 : decode cX2_markMoves 48 = .ok (.goto (-44), 3) := by decide +kernel
theorem dX2_markMoves_51 : decode cX2_markMoves 51 = .ok (.return_, 1) := by decide +kernel
theorem dX2_nextRow_0 : decode cX2_nextRow 0 = .ok (.iconst 0, 1) := by decide +kernel
theorem dX2_nextRow_1 : decode cX2_nextRow 1 = .ok (.istore_n 1, 1) := by decide +kernel
theorem dX2_nextRow_2 : decode cX2_nextRow 2 = .ok (.iload_n 1, 1) := by decide +kernel
theorem dX2_nextRow_3 : decode cX2_nextRow 3 = .ok (.aload_n 0, 1) := by decide +kernel
theorem dX2_nextRow_4 : decode cX2_nextRow 4 = .ok (.getfield 26, 3) := by decide +kernel
theorem dX2_nextRow_7 : decode cX2_nextRow 7 = .ok (.if_icmp .ge 42, 3) := by decide +kernel
theorem dX2_nextRow_10 : decode cX2_nextRow 10 = .ok (.aload_n 0, 1) := by decide +kernel
theorem dX2_nextRow_11 : decode cX2_nextRow 11 = .ok (.getfield 15, 3) := by decide +kernel
theorem dX2_nextRow_14 : decode cX2_nextRow 14 = .ok (.iload_n 1, 1) := by decide +kernel
theorem dX2_nextRow_15 : decode cX2_nextRow 15 = .ok (.iaload, 1) := by decide +kernel
theorem dX2_nextRow_16 : decode cX2_nextRow 16 = .ok (.aload_n 0, 1) := by decide +kernel
theorem dX2_nextRow_17 : decode cX2_nextRow 17 = .ok (.getfield 11, 3) := by decide +kernel
theorem dX2_nextRow_20 : decode cX2_nextRow 20 = .ok (.iload_n 1, 1) := by decide +kernel
theorem dX2_nextRow_21 : decode cX2_nextRow 21 = .ok (.iaload, 1) := by decide +kernel
theorem dX2_nextRow_22 : decode cX2_nextRow 22 = .ok (.if_icmp .ge 14, 3) := by decide +kernel
theorem dX2_nextRow_25 : decode cX2_nextRow 25 = .ok (.aload_n 0, 1) := by decide +kernel
theorem dX2_nextRow_26 : decode cX2_nextRow 26 = .ok (.getfield 15, 3) := by decide +kernel
theorem dX2_nextRow_29 : decode cX2_nextRow 29 = .ok (.iload_n 1, 1) := by decide +kernel
theorem dX2_nextRow_30 : decode cX2_nextRow 30 = .ok (.dup2, 1) := by decide +kernel
theorem dX2_nextRow_31 : decode cX2_nextRow 31 = .ok (.iaload, 1) := by decide +kernel
theorem dX2_nextRow_32 : decode cX2_nextRow 32 = .ok (.iconst 1, 1) := by decide +kernel
theorem dX2_nextRow_33 : decode cX2_nextRow 33 = .ok (.iadd, 1) := by decide +kernel
theorem dX2_nextRow_34 : decode cX2_nextRow 34 = .ok (.iastore, 1) := by decide +kernel
theorem dX2_nextRow_35 : decode cX2_nextRow 35 = .ok (.return_, 1) := by decide +kernel
theorem dX2_nextRow_36 : decode cX2_nextRow 36 = .ok (.aload_n 0, 1) := by decide +kernel
theorem dX2_nextRow_37 : decode cX2_nextRow 37 = .ok (.getfield 15, 3) := by decide +kernel
theorem dX2_nextRow_40 : decode cX2_nextRow 40 = .ok (.iload_n 1, 1) := by decide +kernel
theorem dX2_nextRow_41 : decode cX2_nextRow 41 = .ok (.iconst 0, 1) := by decide +kernel
theorem dX2_nextRow_42 : decode cX2_nextRow 42 = .ok (.iastore, 1) := by decide +kernel
theorem dX2_nextRow_43 : decode cX2_nextRow 43 = .ok (.iinc 1 1, 3) := by decide +kernel
theorem dX2_nextRow_46 : decode cX2_nextRow 46 = .ok (.goto (-44), 3) := by decide +kernel
theorem dX2_nextRow_49 : decode cX2_nextRow 49 = .ok (.return_, 1) := by decide +kernel
set_option maxRecDepth 20000 in
theorem ggX2_markReached_X8_within : GoodIn wsX2_markReached wsX8_within := goodIn_r _ [4] (by decide +kernel) (by decide +kernel)
set_option maxRecDepth 20000 in
theorem gX2_markReached_X8_within_n22 : GoodIn wsX2_markReached (wsX8_within) := ggX2_markReached_X8_within
theorem dX2_markReached_0 : decode cX2_markReached 0 = .ok (.iload_n 1, 1) := by decide +kernel
theorem dX2_markReached_1 : decode cX2_markReached 1 = .ok (.iconst 0, 1) := by decide +kernel
theorem dX2_markReached_2 : decode cX2_markReached 2 = .ok (.sipush 15624, 3) := by decide +kernel
theorem dX2_markReached_5 : decode cX2_markReached 5 = .ok (.invokestatic 22, 3) := by decide +kernel
theorem dX2_markReached_8 : decode cX2_markReached 8 = .ok (.ifCond .eq 21, 3) := by decide +kernel
theorem dX2_markReached_11 : decode cX2_markReached 11 = .ok (.aload_n 0, 1) := by decide +kernel
theorem dX2_markReached_12 : decode cX2_markReached 12 = .ok (.getfield 18, 3) := by decide +kernel
theorem dX2_markReached_15 : decode cX2_markReached 15 = .ok (.iload_n 1, 1) := by decide +kernel
theorem dX2_markReached_16 : decode cX2_markReached 16 = .ok (.bipush 64, 2) := by decide +kernel
theorem dX2_markReached_18 : decode cX2_markReached 18 = .ok (.idiv, 1) := by decide +kernel
theorem dX2_markReached_19 : decode cX2_markReached 19 = .ok (.dup2, 1) := by decide +kernel
theorem dX2_markReached_20 : decode cX2_markReached 20 = .ok (.laload, 1) := by decide +kernel
theorem dX2_markReached_21 : decode cX2_markReached 21 = .ok (.lconst 1, 1) := by decide +kernel
theorem dX2_markReached_22 : decode cX2_markReached 22 = .ok (.iload_n 1, 1) := by decide +kernel
theorem dX2_markReached_23 : decode cX2_markReached 23 = .ok (.bipush 64, 2) := by decide +kernel
theorem dX2_markReached_25 : decode cX2_markReached 25 = .ok (.irem, 1) := by decide +kernel
theorem dX2_markReached_26 : decode cX2_markReached 26 = .ok (.lshl, 1) := by decide +kernel
theorem dX2_markReached_27 : decode cX2_markReached 27 = .ok (.lor, 1) := by decide +kernel
theorem dX2_markReached_28 : decode cX2_markReached 28 = .ok (.lastore, 1) := by decide +kernel
theorem dX2_markReached_29 : decode cX2_markReached 29 = .ok (.return_, 1) := by decide +kernel
set_option maxRecDepth 20000 in
theorem ggX2_isReached_X8_within : GoodIn wsX2_isReached wsX8_within := goodIn_r _ [4] (by decide +kernel) (by decide +kernel)
set_option maxRecDepth 20000 in
theorem gX2_isReached_X8_within_n22 : GoodIn wsX2_isReached (wsX8_within) := ggX2_isReached_X8_within
theorem dX2_isReached_0 : decode cX2_isReached 0 = .ok (.iload_n 1, 1) := by decide +kernel
theorem dX2_isReached_1 : decode cX2_isReached 1 = .ok (.iconst 0, 1) := by decide +kernel
theorem dX2_isReached_2 : decode cX2_isReached 2 = .ok (.sipush 15624, 3) := by decide +kernel
theorem dX2_isReached_5 : decode cX2_isReached 5 = .ok (.invokestatic 22, 3) := by decide +kernel
theorem dX2_isReached_8 : decode cX2_isReached 8 = .ok (.ifCond .eq 28, 3) := by decide +kernel
theorem dX2_isReached_11 : decode cX2_isReached 11 = .ok (.aload_n 0, 1) := by decide +kernel
theorem dX2_isReached_12 : decode cX2_isReached 12 = .ok (.getfield 18, 3) := by decide +kernel
theorem dX2_isReached_15 : decode cX2_isReached 15 = .ok (.iload_n 1, 1) := by decide +kernel
theorem dX2_isReached_16 : decode cX2_isReached 16 = .ok (.bipush 64, 2) := by decide +kernel
theorem dX2_isReached_18 : decode cX2_isReached 18 = .ok (.idiv, 1) := by decide +kernel
theorem dX2_isReached_19 : decode cX2_isReached 19 = .ok (.laload, 1) := by decide +kernel
theorem dX2_isReached_20 : decode cX2_isReached 20 = .ok (.lconst 1, 1) := by decide +kernel
theorem dX2_isReached_21 : decode cX2_isReached 21 = .ok (.iload_n 1, 1) := by decide +kernel
theorem dX2_isReached_22 : decode cX2_isReached 22 = .ok (.bipush 64, 2) := by decide +kernel
theorem dX2_isReached_24 : decode cX2_isReached 24 = .ok (.irem, 1) := by decide +kernel
theorem dX2_isReached_25 : decode cX2_isReached 25 = .ok (.lshl, 1) := by decide +kernel
theorem dX2_isReached_26 : decode cX2_isReached 26 = .ok (.land, 1) := by decide +kernel
theorem dX2_isReached_27 : decode cX2_isReached 27 = .ok (.lconst 0, 1) := by decide +kernel
theorem dX2_isReached_28 : decode cX2_isReached 28 = .ok (.lcmp, 1) := by decide +kernel
theorem dX2_isReached_29 : decode cX2_isReached 29 = .ok (.ifCond .eq 7, 3) := by decide +kernel
theorem dX2_isReached_32 : decode cX2_isReached 32 = .ok (.iconst 1, 1) := by decide +kernel
theorem dX2_isReached_33 : decode cX2_isReached 33 = .ok (.goto 4, 3) := by decide +kernel
theorem dX2_isReached_36 : decode cX2_isReached 36 = .ok (.iconst 0, 1) := by decide +kernel
theorem dX2_isReached_37 : decode cX2_isReached 37 = .ok (.ireturn, 1) := by decide +kernel
theorem dX3_init_0 : decode cX3_init 0 = .ok (.aload_n 0, 1) := by decide +kernel
theorem dX3_init_1 : decode cX3_init 1 = .ok (.invokespecial 3, 3) := by decide +kernel
theorem dX3_init_4 : decode cX3_init 4 = .ok (.aload_n 0, 1) := by decide +kernel
theorem dX3_init_5 : decode cX3_init 5 = .ok (.iload_n 1, 1) := by decide +kernel
theorem dX3_init_6 : decode cX3_init 6 = .ok (.putfield 9, 3) := by decide +kernel
theorem dX3_init_9 : decode cX3_init 9 = .ok (.return_, 1) := by decide +kernel
theorem dX3_become_0 : decode cX3_become 0 = .ok (.aload_n 0, 1) := by decide +kernel
theorem dX3_become_1 : decode cX3_become 1 = .ok (.iload_n 1, 1) := by decide +kernel
theorem dX3_become_2 : decode cX3_become 2 = .ok (.putfield 15, 3) := by decide +kernel
theorem dX3_become_5 : decode cX3_become 5 = .ok (.aload_n 0, 1) := by decide +kernel
theorem dX3_become_6 : decode cX3_become 6 = .ok (.aload_n 2, 1) := by decide +kernel
theorem dX3_become_7 : decode cX3_become 7 = .ok (.putfield 18, 3) := by decide +kernel
theorem dX3_become_10 : decode cX3_become 10 = .ok (.aload_n 0, 1) := by decide +kernel
theorem dX3_become_11 : decode cX3_become 11 = .ok (.iload_n 3, 1) := by decide +kernel
theorem dX3_become_12 : decode cX3_become 12 = .ok (.putfield 22, 3) := by decide +kernel
theorem dX3_become_15 : decode cX3_become 15 = .ok (.aload_n 0, 1) := by decide +kernel
theorem dX3_become_16 : decode cX3_become 16 = .ok (.iload 4, 2) := by decide +kernel
theorem dX3_become_18 : decode cX3_become 18 = .ok (.putfield 25, 3) := by decide +kernel
theorem dX3_become_21 : decode cX3_become 21 = .ok (.return_, 1) := by decide +kernel
set_option maxRecDepth 20000 in
theorem ggX3_vanish_X3_become : GoodIn wsX3_vanish wsX3_become := goodIn_r _ [6, 7, 8, 9, 10, 11, 12, 13, 14, 15, 16] (by decide +kernel) (by decide +kernel)
set_option maxRecDepth 20000 in
theorem gX3_vanish_X3_become : GoodIn wsX3_vanish (wsV RX3 28 RX3 yX3_become wsX3_become) := goodIn_app (goodIn_of _ (by decide +kernel)) ggX3_vanish_X3_become
theorem dX3_vanish_0 : decode cX3_vanish 0 = .ok (.aload_n 0, 1) := by decide +kernel
theorem dX3_vanish_1 : decode cX3_vanish 1 = .ok (.iconst 0, 1) := by decide +kernel
theorem dX3_vanish_2 : decode cX3_vanish 2 = .ok (.aconst_null, 1) := by decide +kernel
theorem dX3_vanish_3 : decode cX3_vanish 3 = .ok (.iconst 0, 1) := by decide +kernel
theorem dX3_vanish_4 : decode cX3_vanish 4 = .ok (.iconst 0, 1) := by decide +kernel
theorem dX3_vanish_5 : decode cX3_vanish 5 = .ok (.invokevirtual 28, 3) := by decide +kernel
theorem dX3_vanish_8 : decode cX3_vanish 8 = .ok (.aload_n 0, 1) := by decide +kernel
theorem dX3_vanish_9 : decode cX3_vanish 9 = .ok (.iconst 0, 1) := by decide +kernel
theorem dX3_vanish_10 : decode cX3_vanish 10 = .ok (.putfield 32, 3) := by decide +kernel
theorem dX3_vanish_13 : decode cX3_vanish 13 = .ok (.return_, 1) := by decide +kernel
set_option maxRecDepth 20000 in
theorem ggX3_openFor_X3_become : GoodIn wsX3_openFor wsX3_become := goodIn_r _ [5, 6, 7, 8, 9, 10, 11, 12, 13, 14, 15] (by decide +kernel) (by decide +kernel)
set_option maxRecDepth 20000 in
theorem gX3_openFor_X3_become : GoodIn wsX3_openFor (wsV RX3 28 RX3 yX3_become wsX3_become) := goodIn_app (goodIn_of _ (by decide +kernel)) ggX3_openFor_X3_become
theorem dX3_openFor_0 : decode cX3_openFor 0 = .ok (.aload_n 0, 1) := by decide +kernel
theorem dX3_openFor_1 : decode cX3_openFor 1 = .ok (.iconst 1, 1) := by decide +kernel
theorem dX3_openFor_2 : decode cX3_openFor 2 = .ok (.aconst_null, 1) := by decide +kernel
theorem dX3_openFor_3 : decode cX3_openFor 3 = .ok (.iload_n 1, 1) := by decide +kernel
theorem dX3_openFor_4 : decode cX3_openFor 4 = .ok (.iconst 0, 1) := by decide +kernel
theorem dX3_openFor_5 : decode cX3_openFor 5 = .ok (.invokevirtual 28, 3) := by decide +kernel
theorem dX3_openFor_8 : decode cX3_openFor 8 = .ok (.return_, 1) := by decide +kernel
set_option maxRecDepth 20000 in
theorem ggX3_idleFrom_X3_become : GoodIn wsX3_idleFrom wsX3_become := goodIn_r _ [5, 6, 7, 8, 9, 10, 11, 12, 13, 14, 15] (by decide +kernel) (by decide +kernel)
set_option maxRecDepth 20000 in
theorem gX3_idleFrom_X3_become : GoodIn wsX3_idleFrom (wsV RX3 28 RX3 yX3_become wsX3_become) := goodIn_app (goodIn_of _ (by decide +kernel)) ggX3_idleFrom_X3_become
theorem dX3_idleFrom_0 : decode cX3_idleFrom 0 = .ok (.aload_n 0, 1) := by decide +kernel
theorem dX3_idleFrom_1 : decode cX3_idleFrom 1 = .ok (.iconst 2, 1) := by decide +kernel
theorem dX3_idleFrom_2 : decode cX3_idleFrom 2 = .ok (.aconst_null, 1) := by decide +kernel
theorem dX3_idleFrom_3 : decode cX3_idleFrom 3 = .ok (.iconst 0, 1) := by decide +kernel
theorem dX3_idleFrom_4 : decode cX3_idleFrom 4 = .ok (.iload_n 1, 1) := by decide +kernel
theorem dX3_idleFrom_5 : decode cX3_idleFrom 5 = .ok (.invokevirtual 28, 3) := by decide +kernel
theorem dX3_idleFrom_8 : decode cX3_idleFrom 8 = .ok (.return_, 1) := by decide +kernel
set_option maxRecDepth 20000 in
theorem ggX3_tryFor_X3_become : GoodIn wsX3_tryFor wsX3_become := goodIn_r _ [5, 6, 7, 8, 9, 10, 11, 12, 13, 14, 15] (by decide +kernel) (by decide +kernel)
set_option maxRecDepth 20000 in
theorem gX3_tryFor_X3_become : GoodIn wsX3_tryFor (wsV RX3 28 RX3 yX3_become wsX3_become) := goodIn_app (goodIn_of _ (by decide +kernel)) ggX3_tryFor_X3_become
theorem dX3_tryFor_0 : decode cX3_tryFor 0 = .ok (.aload_n 0, 1) := by decide +kernel
theorem dX3_tryFor_1 : decode cX3_tryFor 1 = .ok (.iconst 3, 1) := by decide +kernel
theorem dX3_tryFor_2 : decode cX3_tryFor 2 = .ok (.aload_n 1, 1) := by decide +kernel
theorem dX3_tryFor_3 : decode cX3_tryFor 3 = .ok (.iload_n 2, 1) := by decide +kernel
theorem dX3_tryFor_4 : decode cX3_tryFor 4 = .ok (.iconst 0, 1) := by decide +kernel
theorem dX3_tryFor_5 : decode cX3_tryFor 5 = .ok (.invokevirtual 28, 3) := by decide +kernel
theorem dX3_tryFor_8 : decode cX3_tryFor 8 = .ok (.return_, 1) := by decide +kernel
set_option maxRecDepth 20000 in
theorem ggX3_lendTo_X3_become : GoodIn wsX3_lendTo wsX3_become := goodIn_r _ [5, 6, 7, 8, 9, 10, 11, 12, 13, 14, 15] (by decide +kernel) (by decide +kernel)
set_option maxRecDepth 20000 in
theorem gX3_lendTo_X3_become : GoodIn wsX3_lendTo (wsV RX3 28 RX3 yX3_become wsX3_become) := goodIn_app (goodIn_of _ (by decide +kernel)) ggX3_lendTo_X3_become
theorem dX3_lendTo_0 : decode cX3_lendTo 0 = .ok (.aload_n 0, 1) := by decide +kernel
theorem dX3_lendTo_1 : decode cX3_lendTo 1 = .ok (.iconst 4, 1) := by decide +kernel
theorem dX3_lendTo_2 : decode cX3_lendTo 2 = .ok (.aload_n 1, 1) := by decide +kernel
theorem dX3_lendTo_3 : decode cX3_lendTo 3 = .ok (.iconst 0, 1) := by decide +kernel
theorem dX3_lendTo_4 : decode cX3_lendTo 4 = .ok (.iload_n 2, 1) := by decide +kernel
theorem dX3_lendTo_5 : decode cX3_lendTo 5 = .ok (.invokevirtual 28, 3) := by decide +kernel
theorem dX3_lendTo_8 : decode cX3_lendTo 8 = .ok (.return_, 1) := by decide +kernel
theorem dX3_isLentTo_0 : decode cX3_isLentTo 0 = .ok (.aload_n 0, 1) := by decide +kernel
theorem dX3_isLentTo_1 : decode cX3_isLentTo 1 = .ok (.getfield 15, 3) := by decide +kernel
theorem dX3_isLentTo_4 : decode cX3_isLentTo 4 = .ok (.iconst 4, 1) := by decide +kernel
theorem dX3_isLentTo_5 : decode cX3_isLentTo 5 = .ok (.if_icmp .ne 15, 3) := by decide +kernel
theorem dX3_isLentTo_8 : decode cX3_isLentTo 8 = .ok (.aload_n 0, 1) := by decide +kernel
theorem dX3_isLentTo_9 : decode cX3_isLentTo 9 = .ok (.getfield 18, 3) := by decide +kernel
theorem dX3_isLentTo_12 : decode cX3_isLentTo 12 = .ok (.aload_n 1, 1) := by decide +kernel
theorem dX3_isLentTo_13 : decode cX3_isLentTo 13 = .ok (.if_acmp .ne 7, 3) := by decide +kernel
theorem dX3_isLentTo_16 : decode cX3_isLentTo 16 = .ok (.iconst 1, 1) := by decide +kernel
theorem dX3_isLentTo_17 : decode cX3_isLentTo 17 = .ok (.goto 4, 3) := by decide +kernel
theorem dX3_isLentTo_20 : decode cX3_isLentTo 20 = .ok (.iconst 0, 1) := by decide +kernel
theorem dX3_isLentTo_21 : decode cX3_isLentTo 21 = .ok (.ireturn, 1) := by decide +kernel
theorem dX3_figure_0 : decode cX3_figure 0 = .ok (.iload_n 1, 1) := by decide +kernel
theorem dX3_figure_1 : decode cX3_figure 1 = .ok (.tableswitch 82 0 4 #[35, 40, 53, 72, 77], 35) := by decide +kernel
theorem dX3_figure_36 : decode cX3_figure 36 = .ok (.aload_n 0, 1) := by decide +kernel
theorem dX3_figure_37 : decode cX3_figure 37 = .ok (.getfield 15, 3) := by decide +kernel
theorem dX3_figure_40 : decode cX3_figure 40 = .ok (.ireturn, 1) := by decide +kernel
theorem dX3_figure_41 : decode cX3_figure 41 = .ok (.aload_n 0, 1) := by decide +kernel
theorem dX3_figure_42 : decode cX3_figure 42 = .ok (.getfield 32, 3) := by decide +kernel
theorem dX3_figure_45 : decode cX3_figure 45 = .ok (.ifCond .eq 7, 3) := by decide +kernel
theorem dX3_figure_48 : decode cX3_figure 48 = .ok (.iconst 1, 1) := by decide +kernel
theorem dX3_figure_49 : decode cX3_figure 49 = .ok (.goto 4, 3) := by decide +kernel
theorem dX3_figure_52 : decode cX3_figure 52 = .ok (.iconst 0, 1) := by decide +kernel
theorem dX3_figure_53 : decode cX3_figure 53 = .ok (.ireturn, 1) := by decide +kernel
theorem dX3_figure_54 : decode cX3_figure 54 = .ok (.aload_n 0, 1) := by decide +kernel
theorem dX3_figure_55 : decode cX3_figure 55 = .ok (.getfield 18, 3) := by decide +kernel
theorem dX3_figure_58 : decode cX3_figure 58 = .ok (.ifnonnull 7, 3) := by decide +kernel
theorem dX3_figure_61 : decode cX3_figure 61 = .ok (.iconst (-1), 1) := by decide +kernel
theorem dX3_figure_62 : decode cX3_figure 62 = .ok (.goto 10, 3) := by decide +kernel
theorem dX3_figure_65 : decode cX3_figure 65 = .ok (.aload_n 0, 1) := by decide +kernel
theorem dX3_figure_66 : decode cX3_figure 66 = .ok (.getfield 18, 3) := by decide +kernel
theorem dX3_figure_69 : decode cX3_figure 69 = .ok (.getfield 36, 3) := by decide +kernel
theorem dX3_figure_72 : decode cX3_figure 72 = .ok (.ireturn, 1) := by decide +kernel
theorem dX3_figure_73 : decode cX3_figure 73 = .ok (.aload_n 0, 1) := by decide +kernel
theorem dX3_figure_74 : decode cX3_figure 74 = .ok (.getfield 22, 3) := by decide +kernel
theorem dX3_figure_77 : decode cX3_figure 77 = .ok (.ireturn, 1) := by decide +kernel
theorem dX3_figure_78 : decode cX3_figure 78 = .ok (.aload_n 0, 1) := by decide +kernel
theorem dX3_figure_79 : decode cX3_figure 79 = .ok (.getfield 25, 3) := by decide +kernel
theorem dX3_figure_82 : decode cX3_figure 82 = .ok (.ireturn, 1) := by decide +kernel
theorem dX3_figure_83 : decode cX3_figure 83 = .ok (.iconst (-1), 1) := by decide +kernel
theorem dX3_figure_84 : decode cX3_figure 84 = .ok (.ireturn, 1) := by decide +kernel
theorem dX4_init_0 : decode cX4_init 0 = .ok (.aload_n 0, 1) := by decide +kernel
theorem dX4_init_1 : decode cX4_init 1 = .ok (.invokespecial 3, 3) := by decide +kernel
theorem dX4_init_4 : decode cX4_init 4 = .ok (.aload_n 0, 1) := by decide +kernel
theorem dX4_init_5 : decode cX4_init 5 = .ok (.sipush 600, 3) := by decide +kernel
theorem dX4_init_8 : decode cX4_init 8 = .ok (.newarray .int, 2) := by decide +kernel
theorem dX4_init_10 : decode cX4_init 10 = .ok (.putfield 11, 3) := by decide +kernel
theorem dX4_init_13 : decode cX4_init 13 = .ok (.aload_n 0, 1) := by decide +kernel
theorem dX4_init_14 : decode cX4_init 14 = .ok (.bipush 9, 2) := by decide +kernel
theorem dX4_init_16 : decode cX4_init 16 = .ok (.newarray .int, 2) := by decide +kernel
theorem dX4_init_18 : decode cX4_init 18 = .ok (.putfield 15, 3) := by decide +kernel
theorem dX4_init_21 : decode cX4_init 21 = .ok (.return_, 1) := by decide +kernel
set_option maxRecDepth 20000 in
theorem ggX4_add_J9_floorMod_7cf53 : GoodIn wsX4_add wsJ9_floorMod_7cf53 := goodIn_r _ [7] (by decide +kernel) (by decide +kernel)
set_option maxRecDepth 20000 in
theorem gX4_add_J9_floorMod_7cf53 : GoodIn wsX4_add (va_wsS RX4 22 yJ9_floorMod_7cf53 wsJ9_floorMod_7cf53) := goodIn_app (goodIn_of _ (by decide +kernel)) ggX4_add_J9_floorMod_7cf53
theorem dX4_add_0 : decode cX4_add 0 = .ok (.aload_n 0, 1) := by decide +kernel
theorem dX4_add_1 : decode cX4_add 1 = .ok (.getfield 18, 3) := by decide +kernel
theorem dX4_add_4 : decode cX4_add 4 = .ok (.sipush 150, 3) := by decide +kernel
theorem dX4_add_7 : decode cX4_add 7 = .ok (.invokestatic 22, 3) := by decide +kernel
theorem dX4_add_10 : decode cX4_add 10 = .ok (.iconst 4, 1) := by decide +kernel
theorem dX4_add_11 : decode cX4_add 11 = .ok (.imul, 1) := by decide +kernel
theorem dX4_add_12 : decode cX4_add 12 = .ok (.istore 5, 2) := by decide +kernel
theorem dX4_add_14 : decode cX4_add 14 = .ok (.aload_n 0, 1) := by decide +kernel
theorem dX4_add_15 : decode cX4_add 15 = .ok (.getfield 11, 3) := by decide +kernel
theorem dX4_add_18 : decode cX4_add 18 = .ok (.iload 5, 2) := by decide +kernel
theorem dX4_add_20 : decode cX4_add 20 = .ok (.iload_n 1, 1) := by decide +kernel
theorem dX4_add_21 : decode cX4_add 21 = .ok (.iastore, 1) := by decide +kernel
theorem dX4_add_22 : decode cX4_add 22 = .ok (.aload_n 0, 1) := by decide +kernel
theorem dX4_add_23 : decode cX4_add 23 = .ok (.getfield 11, 3) := by decide +kernel
theorem dX4_add_26 : decode cX4_add 26 = .ok (.iload 5, 2) := by decide +kernel
theorem dX4_add_28 : decode cX4_add 28 = .ok (.iconst 1, 1) := by decide +kernel
theorem dX4_add_29 : decode cX4_add 29 = .ok (.iadd, 1) := by decide +kernel
theorem dX4_add_30 : decode cX4_add 30 = .ok (.iload_n 2, 1) := by decide +kernel
theorem dX4_add_31 : decode cX4_add 31 = .ok (.iastore, 1) := by decide +kernel
theorem dX4_add_32 : decode cX4_add 32 = .ok (.aload_n 0, 1) := by decide +kernel
theorem dX4_add_33 : decode cX4_add 33 = .ok (.getfield 11, 3) := by decide +kernel
theorem dX4_add_36 : decode cX4_add 36 = .ok (.iload 5, 2) := by decide +kernel
theorem dX4_add_38 : decode cX4_add 38 = .ok (.iconst 2, 1) := by decide +kernel
theorem dX4_add_39 : decode cX4_add 39 = .ok (.iadd, 1) := by decide +kernel
theorem dX4_add_40 : decode cX4_add 40 = .ok (.iload_n 3, 1) := by decide +kernel
theorem dX4_add_41 : decode cX4_add 41 = .ok (.iastore, 1) := by decide +kernel
theorem dX4_add_42 : decode cX4_add 42 = .ok (.aload_n 0, 1) := by decide +kernel
theorem dX4_add_43 : decode cX4_add 43 = .ok (.getfield 11, 3) := by decide +kernel
theorem dX4_add_46 : decode cX4_add 46 = .ok (.iload 5, 2) := by decide +kernel
theorem dX4_add_48 : decode cX4_add 48 = .ok (.iconst 3, 1) := by decide +kernel
theorem dX4_add_49 : decode cX4_add 49 = .ok (.iadd, 1) := by decide +kernel
theorem dX4_add_50 : decode cX4_add 50 = .ok (.iload 4, 2) := by decide +kernel
theorem dX4_add_52 : decode cX4_add 52 = .ok (.iastore, 1) := by decide +kernel
theorem dX4_add_53 : decode cX4_add 53 = .ok (.aload_n 0, 1) := by decide +kernel
theorem dX4_add_54 : decode cX4_add 54 = .ok (.getfield 15, 3) := by decide +kernel
theorem dX4_add_57 : decode cX4_add 57 = .ok (.iload_n 1, 1) := by decide +kernel
theorem dX4_add_58 : decode cX4_add 58 = .ok (.dup2, 1) := by decide +kernel
theorem dX4_add_59 : decode cX4_add 59 = .ok (.iaload, 1) := by decide +kernel
theorem dX4_add_60 : decode cX4_add 60 = .ok (.iconst 1, 1) := by decide +kernel
theorem dX4_add_61 : decode cX4_add 61 = .ok (.iadd, 1) := by decide +kernel
theorem dX4_add_62 : decode cX4_add 62 = .ok (.iastore, 1) := by decide +kernel
theorem dX4_add_63 : decode cX4_add 63 = .ok (.aload_n 0, 1) := by decide +kernel
theorem dX4_add_64 : decode cX4_add 64 = .ok (.dup, 1) := by decide +kernel
theorem dX4_add_65 : decode cX4_add 65 = .ok (.getfield 18, 3) := by decide +kernel
theorem dX4_add_68 : decode cX4_add 68 = .ok (.iconst 1, 1) := by decide +kernel
theorem dX4_add_69 : decode cX4_add 69 = .ok (.iadd, 1) := by decide +kernel
theorem dX4_add_70 : decode cX4_add 70 = .ok (.putfield 18, 3) := by decide +kernel
theorem dX4_add_73 : decode cX4_add 73 = .ok (.return_, 1) := by decide +kernel
theorem dX4_forget_0 : decode cX4_forget 0 = .ok (.aload_n 0, 1) := by decide +kernel
theorem dX4_forget_1 : decode cX4_forget 1 = .ok (.iconst 0, 1) := by decide +kernel
theorem dX4_forget_2 : decode cX4_forget 2 = .ok (.putfield 18, 3) := by decide +kernel
theorem dX4_forget_5 : decode cX4_forget 5 = .ok (.iconst 0, 1) := by decide +kernel
theorem dX4_forget_6 : decode cX4_forget 6 = .ok (.istore_n 1, 1) := by decide +kernel
theorem dX4_forget_7 : decode cX4_forget 7 = .ok (.iload_n 1, 1) := by decide +kernel
theorem dX4_forget_8 : decode cX4_forget 8 = .ok (.bipush 9, 2) := by decide +kernel
theorem dX4_forget_10 : decode cX4_forget 10 = .ok (.if_icmp .ge 16, 3) := by decide +kernel
theorem dX4_forget_13 : decode cX4_forget 13 = .ok (.aload_n 0, 1) := by decide +kernel
theorem dX4_forget_14 : decode cX4_forget 14 = .ok (.getfield 15, 3) := by decide +kernel
theorem dX4_forget_17 : decode cX4_forget 17 = .ok (.iload_n 1, 1) := by decide +kernel
theorem dX4_forget_18 : decode cX4_forget 18 = .ok (.iconst 0, 1) := by decide +kernel
theorem dX4_forget_19 : decode cX4_forget 19 = .ok (.iastore, 1) := by decide +kernel
theorem dX4_forget_20 : decode cX4_forget 20 = .ok (.iinc 1 1, 3) := by decide +kernel
theorem dX4_forget_23 : decode cX4_forget 23 = .ok (.goto (-16), 3) := by decide +kernel
theorem dX4_forget_26 : decode cX4_forget 26 = .ok (.return_, 1) := by decide +kernel
theorem dX4_total_0 : decode cX4_total 0 = .ok (.aload_n 0, 1) := by decide +kernel
theorem dX4_total_1 : decode cX4_total 1 = .ok (.getfield 15, 3) := by decide +kernel
theorem dX4_total_4 : decode cX4_total 4 = .ok (.iload_n 1, 1) := by decide +kernel
theorem dX4_total_5 : decode cX4_total 5 = .ok (.iaload, 1) := by decide +kernel
theorem dX4_total_6 : decode cX4_total 6 = .ok (.ireturn, 1) := by decide +kernel
set_option maxRecDepth 20000 in
theorem ggX4_figure_X8_within : GoodIn wsX4_figure wsX8_within := goodIn_r _ [9] (by decide +kernel) (by decide +kernel)
set_option maxRecDepth 20000 in
theorem gX4_figure_X8_within_n31 : GoodIn wsX4_figure (wsX8_within) := ggX4_figure_X8_within
set_option maxRecDepth 20000 in
theorem ggX4_figure_J9_floorMod_7cf53 : GoodIn wsX4_figure wsJ9_floorMod_7cf53 := goodIn_r _ [13] (by decide +kernel) (by decide +kernel)
set_option maxRecDepth 20000 in
theorem gX4_figure_J9_floorMod_7cf53 : GoodIn wsX4_figure (va_wsS RX4 22 yJ9_floorMod_7cf53 wsJ9_floorMod_7cf53) := goodIn_app (goodIn_of _ (by decide +kernel)) ggX4_figure_J9_floorMod_7cf53
theorem dX4_figure_0 : decode cX4_figure 0 = .ok (.iload_n 1, 1) := by decide +kernel
theorem dX4_figure_1 : decode cX4_figure 1 = .ok (.iconst 0, 1) := by decide +kernel
theorem dX4_figure_2 : decode cX4_figure 2 = .ok (.aload_n 0, 1) := by decide +kernel
theorem dX4_figure_3 : decode cX4_figure 3 = .ok (.getfield 18, 3) := by decide +kernel
theorem dX4_figure_6 : decode cX4_figure 6 = .ok (.sipush 150, 3) := by decide +kernel
theorem dX4_figure_9 : decode cX4_figure 9 = .ok (.invokestatic 28, 3) := by decide +kernel
theorem dX4_figure_12 : decode cX4_figure 12 = .ok (.iconst 1, 1) := by decide +kernel
theorem dX4_figure_13 : decode cX4_figure 13 = .ok (.isub, 1) := by decide +kernel
theorem dX4_figure_14 : decode cX4_figure 14 = .ok (.invokestatic 31, 3) := by decide +kernel
theorem dX4_figure_17 : decode cX4_figure 17 = .ok (.ifCond .eq 12, 3) := by decide +kernel
theorem dX4_figure_20 : decode cX4_figure 20 = .ok (.iload_n 2, 1) := by decide +kernel
theorem dX4_figure_21 : decode cX4_figure 21 = .ok (.iconst 0, 1) := by decide +kernel
theorem dX4_figure_22 : decode cX4_figure 22 = .ok (.iconst 3, 1) := by decide +kernel
theorem dX4_figure_23 : decode cX4_figure 23 = .ok (.invokestatic 31, 3) := by decide +kernel
theorem dX4_figure_26 : decode cX4_figure 26 = .ok (.ifCond .ne 5, 3) := by decide +kernel
theorem dX4_figure_29 : decode cX4_figure 29 = .ok (.iconst (-1), 1) := by decide +kernel
theorem dX4_figure_30 : decode cX4_figure 30 = .ok (.ireturn, 1) := by decide +kernel
theorem dX4_figure_31 : decode cX4_figure 31 = .ok (.aload_n 0, 1) := by decide +kernel
theorem dX4_figure_32 : decode cX4_figure 32 = .ok (.getfield 11, 3) := by decide +kernel
theorem dX4_figure_35 : decode cX4_figure 35 = .ok (.aload_n 0, 1) := by decide +kernel
theorem dX4_figure_36 : decode cX4_figure 36 = .ok (.getfield 18, 3) := by decide +kernel
theorem dX4_figure_39 : decode cX4_figure 39 = .ok (.iconst 1, 1) := by decide +kernel
theorem dX4_figure_40 : decode cX4_figure 40 = .ok (.isub, 1) := by decide +kernel
theorem dX4_figure_41 : decode cX4_figure 41 = .ok (.iload_n 1, 1) := by decide +kernel
theorem dX4_figure_42 : decode cX4_figure 42 = .ok (.isub, 1) := by decide +kernel
theorem dX4_figure_43 : decode cX4_figure 43 = .ok (.sipush 150, 3) := by decide +kernel
theorem dX4_figure_46 : decode cX4_figure 46 = .ok (.invokestatic 22, 3) := by decide +kernel
theorem dX4_figure_49 : decode cX4_figure 49 = .ok (.iconst 4, 1) := by decide +kernel
theorem dX4_figure_50 : decode cX4_figure 50 = .ok (.imul, 1) := by decide +kernel
theorem dX4_figure_51 : decode cX4_figure 51 = .ok (.iload_n 2, 1) := by decide +kernel
theorem dX4_figure_52 : decode cX4_figure 52 = .ok (.iadd, 1) := by decide +kernel
theorem dX4_figure_53 : decode cX4_figure 53 = .ok (.iaload, 1) := by decide +kernel
theorem dX4_figure_54 : decode cX4_figure 54 = .ok (.ireturn, 1) := by decide +kernel
theorem dX5_init_0 : decode cX5_init 0 = .ok (.aload_n 0, 1) := by decide +kernel
theorem dX5_init_1 : decode cX5_init 1 = .ok (.invokespecial 1, 3) := by decide +kernel
theorem dX5_init_4 : decode cX5_init 4 = .ok (.aload_n 0, 1) := by decide +kernel
theorem dX5_init_5 : decode cX5_init 5 = .ok (.aload_n 1, 1) := by decide +kernel
theorem dX5_init_6 : decode cX5_init 6 = .ok (.putfield 7, 3) := by decide +kernel
theorem dX5_init_9 : decode cX5_init 9 = .ok (.return_, 1) := by decide +kernel
set_option maxRecDepth 20000 in
theorem ggX5_find_X5_share : GoodIn wsX5_find wsX5_share := goodIn_r _ [11, 12, 13, 14, 10, 15, 16, 17, 5, 18, 19, 20, 21, 22, 23, 24, 25, 26, 27, 4, 6, 31, 32, 33, 34, 35] (by decide +kernel) (by decide +kernel)
set_option maxRecDepth 20000 in
theorem gX5_find_X5_share : GoodIn wsX5_find (wsV RX5 20 RX5 yX5_share wsX5_share) := goodIn_app (goodIn_of _ (by decide +kernel)) ggX5_find_X5_share
set_option maxRecDepth 20000 in
theorem ggX5_find_X5_endRate : GoodIn wsX5_find wsX5_endRate := goodIn_r _ [15, 16, 17, 5, 18, 19, 20, 21, 22, 23, 24, 25, 26, 27, 4, 6, 31, 32, 33, 34, 35] (by decide +kernel) (by decide +kernel)
set_option maxRecDepth 20000 in
theorem gX5_find_X5_endRate : GoodIn wsX5_find (wsV RX5 30 RX5 yX5_endRate wsX5_endRate) := goodIn_app (goodIn_of _ (by decide +kernel)) ggX5_find_X5_endRate
set_option maxRecDepth 20000 in
theorem ggX5_find_X5_commonDivisor : GoodIn wsX5_find wsX5_commonDivisor := goodIn_r _ [30] (by decide +kernel) (by decide +kernel)
set_option maxRecDepth 20000 in
theorem gX5_find_X5_commonDivisor : GoodIn wsX5_find (va_wsS RX5 33 yX5_commonDivisor wsX5_commonDivisor) := goodIn_app (goodIn_of _ (by decide +kernel)) ggX5_find_X5_commonDivisor
theorem dX5_find_0 : decode cX5_find 0 = .ok (.aload_n 0, 1) := by decide +kernel
theorem dX5_find_1 : decode cX5_find 1 = .ok (.lconst 0, 1) := by decide +kernel
theorem dX5_find_2 : decode cX5_find 2 = .ok (.putfield 13, 3) := by decide +kernel
theorem dX5_find_5 : decode cX5_find 5 = .ok (.aload_n 0, 1) := by decide +kernel
theorem dX5_find_6 : decode cX5_find 6 = .ok (.lconst 0, 1) := by decide +kernel
theorem dX5_find_7 : decode cX5_find 7 = .ok (.putfield 17, 3) := by decide +kernel
theorem dX5_find_10 : decode cX5_find 10 = .ok (.iconst 0, 1) := by decide +kernel
theorem dX5_find_11 : decode cX5_find 11 = .ok (.istore 4, 2) := by decide +kernel
theorem dX5_find_13 : decode cX5_find 13 = .ok (.iload 4, 2) := by decide +kernel
theorem dX5_find_15 : decode cX5_find 15 = .ok (.iload_n 1, 1) := by decide +kernel
theorem dX5_find_16 : decode cX5_find 16 = .ok (.if_icmp .gt 61, 3) := by decide +kernel
theorem dX5_find_19 : decode cX5_find 19 = .ok (.aload_n 0, 1) := by decide +kernel
theorem dX5_find_20 : decode cX5_find 20 = .ok (.iload_n 1, 1) := by decide +kernel
theorem dX5_find_21 : decode cX5_find 21 = .ok (.iload_n 2, 1) := by decide +kernel
theorem dX5_find_22 : decode cX5_find 22 = .ok (.iload_n 3, 1) := by decide +kernel
theorem dX5_find_23 : decode cX5_find 23 = .ok (.iload 4, 2) := by decide +kernel
theorem dX5_find_25 : decode cX5_find 25 = .ok (.invokevirtual 20, 3) := by decide +kernel
theorem dX5_find_28 : decode cX5_find 28 = .ok (.lstore 5, 2) := by decide +kernel
theorem dX5_find_30 : decode cX5_find 30 = .ok (.aload_n 0, 1) := by decide +kernel
theorem dX5_find_31 : decode cX5_find 31 = .ok (.dup, 1) := by decide +kernel
theorem dX5_find_32 : decode cX5_find 32 = .ok (.getfield 13, 3) := by decide +kernel
theorem dX5_find_35 : decode cX5_find 35 = .ok (.lload 5, 2) := by decide +kernel
theorem dX5_find_37 : decode cX5_find 37 = .ok (.iconst 0, 1) := by decide +kernel
theorem dX5_find_38 : decode cX5_find 38 = .ok (.iload 4, 2) := by decide +kernel
theorem dX5_find_40 : decode cX5_find 40 = .ok (.iload_n 3, 1) := by decide +kernel
theorem dX5_find_41 : decode cX5_find 41 = .ok (.isub, 1) := by decide +kernel
theorem dX5_find_42 : decode cX5_find 42 = .ok (.invokestatic 24, 3) := by decide +kernel
theorem dX5_find_45 : decode cX5_find 45 = .ok (.i2l, 1) := by decide +kernel
theorem dX5_find_46 : decode cX5_find 46 = .ok (.lmul, 1) := by decide +kernel
theorem dX5_find_47 : decode cX5_find 47 = .ok (.ladd, 1) := by decide +kernel
theorem dX5_find_48 : decode cX5_find 48 = .ok (.putfield 13, 3) := by decide +kernel
theorem dX5_find_51 : decode cX5_find 51 = .ok (.aload_n 0, 1) := by decide +kernel
theorem dX5_find_52 : decode cX5_find 52 = .ok (.dup, 1) := by decide +kernel
theorem dX5_find_53 : decode cX5_find 53 = .ok (.getfield 17, 3) := by decide +kernel
theorem dX5_find_56 : decode cX5_find 56 = .ok (.lload 5, 2) := by decide +kernel
theorem dX5_find_58 : decode cX5_find 58 = .ok (.aload_n 0, 1) := by decide +kernel
theorem dX5_find_59 : decode cX5_find 59 = .ok (.iload_n 3, 1) := by decide +kernel
theorem dX5_find_60 : decode cX5_find 60 = .ok (.iload 4, 2) := by decide +kernel
theorem dX5_find_62 : decode cX5_find 62 = .ok (.invokevirtual 30, 3) := by decide +kernel
theorem dX5_find_65 : decode cX5_find 65 = .ok (.i2l, 1) := by decide +kernel
theorem dX5_find_66 : decode cX5_find 66 = .ok (.lmul, 1) := by decide +kernel
theorem dX5_find_67 : decode cX5_find 67 = .ok (.ladd, 1) := by decide +kernel
theorem dX5_find_68 : decode cX5_find 68 = .ok (.putfield 17, 3) := by decide +kernel
theorem dX5_find_71 : decode cX5_find 71 = .ok (.iinc 4 1, 3) := by decide +kernel
theorem dX5_find_74 : decode cX5_find 74 = .ok (.goto (-61), 3) := by decide +kernel
theorem dX5_find_77 : decode cX5_find 77 = .ok (.aload_n 0, 1) := by decide +kernel
theorem dX5_find_78 : decode cX5_find 78 = .ok (.getfield 13, 3) := by decide +kernel
theorem dX5_find_81 : decode cX5_find 81 = .ok (.aload_n 0, 1) := by decide +kernel
theorem dX5_find_82 : decode cX5_find 82 = .ok (.getfield 17, 3) := by decide +kernel
theorem dX5_find_85 : decode cX5_find 85 = .ok (.invokestatic 33, 3) := by decide +kernel
theorem dX5_find_88 : decode cX5_find 88 = .ok (.lstore 4, 2) := by decide +kernel
theorem dX5_find_90 : decode cX5_find 90 = .ok (.lload 4, 2) := by decide +kernel
theorem dX5_find_92 : decode cX5_find 92 = .ok (.lconst 1, 1) := by decide +kernel
theorem dX5_find_93 : decode cX5_find 93 = .ok (.lcmp, 1) := by decide +kernel
theorem dX5_find_94 : decode cX5_find 94 = .ok (.ifCond .le 25, 3) := by decide +kernel
theorem dX5_find_97 : decode cX5_find 97 = .ok (.aload_n 0, 1) := by decide +kernel
theorem dX5_find_98 : decode cX5_find 98 = .ok (.dup, 1) := by decide +kernel
theorem dX5_find_99 : decode cX5_find 99 = .ok (.getfield 13, 3) := by decide +kernel
theorem dX5_find_102 : decode cX5_find 102 = .ok (.lload 4, 2) := by decide +kernel
theorem dX5_find_104 : decode cX5_find 104 = .ok (.ldiv, 1) := by decide +kernel
theorem dX5_find_105 : decode cX5_find 105 = .ok (.putfield 13, 3) := by decide +kernel
theorem dX5_find_108 : decode cX5_find 108 = .ok (.aload_n 0, 1) := by decide +kernel
theorem dX5_find_109 : decode cX5_find 109 = .ok (.dup, 1) := by decide +kernel
theorem dX5_find_110 : decode cX5_find 110 = .ok (.getfield 17, 3) := by decide +kernel
theorem dX5_find_113 : decode cX5_find 113 = .ok (.lload 4, 2) := by decide +kernel
theorem dX5_find_115 : decode cX5_find 115 = .ok (.ldiv, 1) := by decide +kernel
theorem dX5_find_116 : decode cX5_find 116 = .ok (.putfield 17, 3) := by decide +kernel
theorem dX5_find_119 : decode cX5_find 119 = .ok (.return_, 1) := by decide +kernel
set_option maxRecDepth 20000 in
theorem ggX5_bestSize_X5_find : GoodIn wsX5_bestSize wsX5_find := goodIn_r _ [7, 1, 2, 8, 9, 10, 11, 12, 13, 14, 6, 15, 16, 17, 18, 19, 20, 21, 22, 23, 24, 25, 26, 27, 28, 29, 30, 31, 32, 33, 34, 38, 39, 40, 41, 42] (by decide +kernel) (by decide +kernel)
set_option maxRecDepth 20000 in
theorem gX5_bestSize_X5_find : GoodIn wsX5_bestSize (wsV RX5 37 RX5 yX5_find wsX5_find) := goodIn_app (goodIn_of _ (by decide +kernel)) ggX5_bestSize_X5_find
set_option maxRecDepth 20000 in
theorem ggX5_bestSize_X5_isLess : GoodIn wsX5_bestSize wsX5_isLess := goodIn_r _ [37] (by decide +kernel) (by decide +kernel)
set_option maxRecDepth 20000 in
theorem gX5_bestSize_X5_isLess : GoodIn wsX5_bestSize (va_wsS RX5 41 yX5_isLess wsX5_isLess) := goodIn_app (goodIn_of _ (by decide +kernel)) ggX5_bestSize_X5_isLess
theorem dX5_bestSize_0 : decode cX5_bestSize 0 = .ok (.aload_n 0, 1) := by decide +kernel
theorem dX5_bestSize_1 : decode cX5_bestSize 1 = .ok (.iload_n 1, 1) := by decide +kernel
theorem dX5_bestSize_2 : decode cX5_bestSize 2 = .ok (.iload_n 2, 1) := by decide +kernel
theorem dX5_bestSize_3 : decode cX5_bestSize 3 = .ok (.iconst 1, 1) := by decide +kernel
theorem dX5_bestSize_4 : decode cX5_bestSize 4 = .ok (.invokevirtual 37, 3) := by decide +kernel
theorem dX5_bestSize_7 : decode cX5_bestSize 7 = .ok (.iconst 1, 1) := by decide +kernel
theorem dX5_bestSize_8 : decode cX5_bestSize 8 = .ok (.istore 4, 2) := by decide +kernel
theorem dX5_bestSize_10 : decode cX5_bestSize 10 = .ok (.aload_n 0, 1) := by decide +kernel
theorem dX5_bestSize_11 : decode cX5_bestSize 11 = .ok (.getfield 13, 3) := by decide +kernel
theorem dX5_bestSize_14 : decode cX5_bestSize 14 = .ok (.lstore 5, 2) := by decide +kernel
theorem dX5_bestSize_16 : decode cX5_bestSize 16 = .ok (.aload_n 0, 1) := by decide +kernel
theorem dX5_bestSize_17 : decode cX5_bestSize 17 = .ok (.getfield 17, 3) := by decide +kernel
theorem dX5_bestSize_20 : decode cX5_bestSize 20 = .ok (.lstore 7, 2) := by decide +kernel
theorem dX5_bestSize_22 : decode cX5_bestSize 22 = .ok (.iconst 2, 1) := by decide +kernel
theorem dX5_bestSize_23 : decode cX5_bestSize 23 = .ok (.istore 9, 2) := by decide +kernel
theorem dX5_bestSize_25 : decode cX5_bestSize 25 = .ok (.iload 9, 2) := by decide +kernel
theorem dX5_bestSize_27 : decode cX5_bestSize 27 = .ok (.iload_n 3, 1) := by decide +kernel
theorem dX5_bestSize_28 : decode cX5_bestSize 28 = .ok (.if_icmp .gt 51, 3) := by decide +kernel
