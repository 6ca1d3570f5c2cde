theorem dX5_most_1 : decode cX5_most 1 = .ok (.getfield 30, 3) := by decide +kernel
theorem dX5_most_4 : decode cX5_most 4 = .ok (.getfield 91, 3) := by decide +kernel
theorem dX5_most_7 : decode cX5_most 7 = .ok (.ifCond .eq 28, 3) := by decide +kernel
theorem dX5_most_10 : decode cX5_most 10 = .ok (.aload_n 0, 1) := by decide +kernel
theorem dX5_most_11 : decode cX5_most 11 = .ok (.getfield 30, 3) := by decide +kernel
theorem dX5_most_14 : decode cX5_most 14 = .ok (.iload_n 1, 1) := by decide +kernel
theorem dX5_most_15 : decode cX5_most 15 = .ok (.invokevirtual 98, 3) := by decide +kernel
theorem dX5_most_18 : decode cX5_most 18 = .ok (.ifCond .eq 17, 3) := by decide +kernel
theorem dX5_most_21 : decode cX5_most 21 = .ok (.aload_n 0, 1) := by decide +kernel
theorem dX5_most_22 : decode cX5_most 22 = .ok (.getfield 30, 3) := by decide +kernel
theorem dX5_most_25 : decode cX5_most 25 = .ok (.iload_n 1, 1) := by decide +kernel
theorem dX5_most_26 : decode cX5_most 26 = .ok (.invokevirtual 99, 3) := by decide +kernel
theorem dX5_most_29 : decode cX5_most 29 = .ok (.invokestatic 103, 3) := by decide +kernel
theorem dX5_most_32 : decode cX5_most 32 = .ok (.goto 4, 3) := by decide +kernel
theorem dX5_most_35 : decode cX5_most 35 = .ok (.iconst (-1), 1) := by decide +kernel
theorem dX5_most_36 : decode cX5_most 36 = .ok (.ireturn, 1) := by decide +kernel
set_option maxRecDepth 20000 in
theorem ggX5_live_X5_isWithin : GoodIn wsX5_live wsX5_isWithin := goodIn_r _ [7] (by decide +kernel) (by decide +kernel)
set_option maxRecDepth 20000 in
theorem gX5_live_X5_isWithin : GoodIn wsX5_live (va_wsS RX5 38 yX5_isWithin wsX5_isWithin) := goodIn_app (goodIn_of _ (by decide +kernel)) ggX5_live_X5_isWithin
theorem dX5_live_0 : decode cX5_live 0 = .ok (.aload_n 0, 1) := by decide +kernel
theorem dX5_live_1 : decode cX5_live 1 = .ok (.getfield 30, 3) := by decide +kernel
theorem dX5_live_4 : decode cX5_live 4 = .ok (.getfield 91, 3) := by decide +kernel
theorem dX5_live_7 : decode cX5_live 7 = .ok (.ifCond .eq 27, 3) := by decide +kernel
theorem dX5_live_10 : decode cX5_live 10 = .ok (.iload_n 1, 1) := by decide +kernel
theorem dX5_live_11 : decode cX5_live 11 = .ok (.iconst 5, 1) := by decide +kernel
theorem dX5_live_12 : decode cX5_live 12 = .ok (.invokestatic 38, 3) := by decide +kernel
theorem dX5_live_15 : decode cX5_live 15 = .ok (.ifCond .eq 19, 3) := by decide +kernel
theorem dX5_live_18 : decode cX5_live 18 = .ok (.aload_n 0, 1) := by decide +kernel
theorem dX5_live_19 : decode cX5_live 19 = .ok (.getfield 30, 3) := by decide +kernel
theorem dX5_live_22 : decode cX5_live 22 = .ok (.getfield 106, 3) := by decide +kernel
theorem dX5_live_25 : decode cX5_live 25 = .ok (.iload_n 1, 1) := by decide +kernel
theorem dX5_live_26 : decode cX5_live 26 = .ok (.baload, 1) := by decide +kernel
theorem dX5_live_27 : decode cX5_live 27 = .ok (.ifCond .eq 7, 3) := by decide +kernel
theorem dX5_live_30 : decode cX5_live 30 = .ok (.iconst 1, 1) := by decide +kernel
theorem dX5_live_31 : decode cX5_live 31 = .ok (.goto 4, 3) := by decide +kernel
theorem dX5_live_34 : decode cX5_live 34 = .ok (.iconst 0, 1) := by decide +kernel
theorem dX5_live_35 : decode cX5_live 35 = .ok (.ireturn, 1) := by decide +kernel
theorem dX5_limits_0 : decode cX5_limits 0 = .ok (.aload_n 0, 1) := by decide +kernel
theorem dX5_limits_1 : decode cX5_limits 1 = .ok (.getfield 30, 3) := by decide +kernel
theorem dX5_limits_4 : decode cX5_limits 4 = .ok (.getfield 91, 3) := by decide +kernel
theorem dX5_limits_7 : decode cX5_limits 7 = .ok (.ifCond .eq 13, 3) := by decide +kernel
theorem dX5_limits_10 : decode cX5_limits 10 = .ok (.aload_n 0, 1) := by decide +kernel
theorem dX5_limits_11 : decode cX5_limits 11 = .ok (.getfield 30, 3) := by decide +kernel
theorem dX5_limits_14 : decode cX5_limits 14 = .ok (.getfield 110, 3) := by decide +kernel
theorem dX5_limits_17 : decode cX5_limits 17 = .ok (.goto 4, 3) := by decide +kernel
theorem dX5_limits_20 : decode cX5_limits 20 = .ok (.iconst (-1), 1) := by decide +kernel
theorem dX5_limits_21 : decode cX5_limits 21 = .ok (.ireturn, 1) := by decide +kernel
set_option maxRecDepth 20000 in
theorem ggX5_limit_X4_hasPlace : GoodIn wsX5_limit wsX4_hasPlace := goodIn_r _ [8, 9, 29, 30, 31, 32, 33, 34, 35, 36, 37] (by decide +kernel) (by decide +kernel)
set_option maxRecDepth 20000 in
theorem gX5_limit_X4_hasPlace : GoodIn wsX5_limit (wsV RX5 98 RX4 yX4_hasPlace wsX4_hasPlace) := goodIn_app (goodIn_of _ (by decide +kernel)) ggX5_limit_X4_hasPlace
set_option maxRecDepth 20000 in
theorem ggX5_limit_X4_limitAt : GoodIn wsX5_limit wsX4_limitAt := goodIn_r _ [13, 14, 15, 16, 17, 7, 18, 19, 29, 30, 31, 32, 33, 34, 35, 36, 37] (by decide +kernel) (by decide +kernel)
set_option maxRecDepth 20000 in
theorem gX5_limit_X4_limitAt : GoodIn wsX5_limit (wsV RX5 113 RX4 yX4_limitAt wsX4_limitAt) := goodIn_app (goodIn_of _ (by decide +kernel)) ggX5_limit_X4_limitAt
set_option maxRecDepth 20000 in
theorem ggX5_limit_X5_told : GoodIn wsX5_limit wsX5_told := goodIn_r _ [23, 24] (by decide +kernel) (by decide +kernel)
set_option maxRecDepth 20000 in
theorem gX5_limit_X5_told : GoodIn wsX5_limit (va_wsS RX5 103 yX5_told wsX5_told) := goodIn_app (goodIn_of _ (by decide +kernel)) ggX5_limit_X5_told
theorem dX5_limit_0 : decode cX5_limit 0 = .ok (.aload_n 0, 1) := by decide +kernel
theorem dX5_limit_1 : decode cX5_limit 1 = .ok (.getfield 30, 3) := by decide +kernel
theorem dX5_limit_4 : decode cX5_limit 4 = .ok (.getfield 91, 3) := by decide +kernel
theorem dX5_limit_7 : decode cX5_limit 7 = .ok (.ifCond .eq 29, 3) := by decide +kernel
theorem dX5_limit_10 : decode cX5_limit 10 = .ok (.aload_n 0, 1) := by decide +kernel
theorem dX5_limit_11 : decode cX5_limit 11 = .ok (.getfield 30, 3) := by decide +kernel
theorem dX5_limit_14 : decode cX5_limit 14 = .ok (.iload_n 2, 1) := by decide +kernel
theorem dX5_limit_15 : decode cX5_limit 15 = .ok (.invokevirtual 98, 3) := by decide +kernel
theorem dX5_limit_18 : decode cX5_limit 18 = .ok (.ifCond .eq 18, 3) := by decide +kernel
theorem dX5_limit_21 : decode cX5_limit 21 = .ok (.iload_n 1, 1) := by decide +kernel
theorem dX5_limit_22 : decode cX5_limit 22 = .ok (.ifCond .lt 14, 3) := by decide +kernel
theorem dX5_limit_25 : decode cX5_limit 25 = .ok (.iload_n 1, 1) := by decide +kernel
theorem dX5_limit_26 : decode cX5_limit 26 = .ok (.aload_n 0, 1) := by decide +kernel
theorem dX5_limit_27 : decode cX5_limit 27 = .ok (.getfield 30, 3) := by decide +kernel
theorem dX5_limit_30 : decode cX5_limit 30 = .ok (.getfield 110, 3) := by decide +kernel
theorem dX5_limit_33 : decode cX5_limit 33 = .ok (.if_icmp .lt 5, 3) := by decide +kernel
theorem dX5_limit_36 : decode cX5_limit 36 = .ok (.iconst (-1), 1) := by decide +kernel
theorem dX5_limit_37 : decode cX5_limit 37 = .ok (.ireturn, 1) := by decide +kernel
theorem dX5_limit_38 : decode cX5_limit 38 = .ok (.aload_n 0, 1) := by decide +kernel
theorem dX5_limit_39 : decode cX5_limit 39 = .ok (.getfield 30, 3) := by decide +kernel
theorem dX5_limit_42 : decode cX5_limit 42 = .ok (.iload_n 1, 1) := by decide +kernel
theorem dX5_limit_43 : decode cX5_limit 43 = .ok (.iload_n 2, 1) := by decide +kernel
theorem dX5_limit_44 : decode cX5_limit 44 = .ok (.invokevirtual 113, 3) := by decide +kernel
theorem dX5_limit_47 : decode cX5_limit 47 = .ok (.invokestatic 103, 3) := by decide +kernel
theorem dX5_limit_50 : decode cX5_limit 50 = .ok (.ireturn, 1) := by decide +kernel
set_option maxRecDepth 20000 in
theorem ggX5_covers_X4_reaches : GoodIn wsX5_covers wsX4_reaches := goodIn_r _ [11, 12, 13, 14, 15, 10, 16, 17, 18, 19, 20, 21, 22, 23, 24, 25, 26, 27, 32, 33, 34, 35, 36, 37, 38, 39, 40] (by decide +kernel) (by decide +kernel)
set_option maxRecDepth 20000 in
theorem gX5_covers_X4_reaches : GoodIn wsX5_covers (wsV RX5 118 RX4 yX4_reaches wsX4_reaches) := goodIn_app (goodIn_of _ (by decide +kernel)) ggX5_covers_X4_reaches
theorem dX5_covers_0 : decode cX5_covers 0 = .ok (.aload_n 0, 1) := by decide +kernel
theorem dX5_covers_1 : decode cX5_covers 1 = .ok (.getfield 30, 3) := by decide +kernel
theorem dX5_covers_4 : decode cX5_covers 4 = .ok (.getfield 91, 3) := by decide +kernel
theorem dX5_covers_7 : decode cX5_covers 7 = .ok (.ifCond .eq 41, 3) := by decide +kernel
theorem dX5_covers_10 : decode cX5_covers 10 = .ok (.aload_n 0, 1) := by decide +kernel
theorem dX5_covers_11 : decode cX5_covers 11 = .ok (.getfield 30, 3) := by decide +kernel
theorem dX5_covers_14 : decode cX5_covers 14 = .ok (.getfield 117, 3) := by decide +kernel
theorem dX5_covers_17 : decode cX5_covers 17 = .ok (.aload_n 0, 1) := by decide +kernel
theorem dX5_covers_18 : decode cX5_covers 18 = .ok (.getfield 12, 3) := by decide +kernel
theorem dX5_covers_21 : decode cX5_covers 21 = .ok (.getfield 34, 3) := by decide +kernel
theorem dX5_covers_24 : decode cX5_covers 24 = .ok (.if_icmp .ne 24, 3) := by decide +kernel
theorem dX5_covers_27 : decode cX5_covers 27 = .ok (.aload_n 0, 1) := by decide +kernel
theorem dX5_covers_28 : decode cX5_covers 28 = .ok (.getfield 30, 3) := by decide +kernel
theorem dX5_covers_31 : decode cX5_covers 31 = .ok (.aload_n 0, 1) := by decide +kernel
theorem dX5_covers_32 : decode cX5_covers 32 = .ok (.getfield 12, 3) := by decide +kernel
theorem dX5_covers_35 : decode cX5_covers 35 = .ok (.getfield 65, 3) := by decide +kernel
theorem dX5_covers_38 : decode cX5_covers 38 = .ok (.invokevirtual 118, 3) := by decide +kernel
theorem dX5_covers_41 : decode cX5_covers 41 = .ok (.ifCond .eq 7, 3) := by decide +kernel
theorem dX5_covers_44 : decode cX5_covers 44 = .ok (.iconst 1, 1) := by decide +kernel
theorem dX5_covers_45 : decode cX5_covers 45 = .ok (.goto 4, 3) := by decide +kernel
theorem dX5_covers_48 : decode cX5_covers 48 = .ok (.iconst 0, 1) := by decide +kernel
theorem dX5_covers_49 : decode cX5_covers 49 = .ok (.ireturn, 1) := by decide +kernel
set_option maxRecDepth 20000 in
theorem ggX5_fire_X0_hasTransition : GoodIn wsX5_fire wsX0_hasTransition := goodIn_r _ [7, 8, 25, 26, 27, 28, 29, 30] (by decide +kernel) (by decide +kernel)
set_option maxRecDepth 20000 in
theorem gX5_fire_X0_hasTransition : GoodIn wsX5_fire (wsV RX5 51 RX0 yX0_hasTransition wsX0_hasTransition) := goodIn_app (goodIn_of _ (by decide +kernel)) ggX5_fire_X0_hasTransition
set_option maxRecDepth 20000 in
theorem ggX5_fire_X0_canFire : GoodIn wsX5_fire wsX0_canFire := goodIn_r _ [12, 13, 14, 25, 26, 27, 28, 29, 30] (by decide +kernel) (by decide +kernel)
set_option maxRecDepth 20000 in
theorem gX5_fire_X0_canFire : GoodIn wsX5_fire (wsV RX5 122 RX0 yX0_canFire wsX0_canFire) := goodIn_app (goodIn_of _ (by decide +kernel)) ggX5_fire_X0_canFire
set_option maxRecDepth 20000 in
theorem ggX5_fire_X0_move : GoodIn wsX5_fire wsX0_move := goodIn_r _ [18, 14, 19, 20, 13, 25, 26, 27, 28, 29, 30] (by decide +kernel) (by decide +kernel)
set_option maxRecDepth 20000 in
theorem gX5_fire_X0_move : GoodIn wsX5_fire (wsV RX5 126 RX0 yX0_move wsX0_move) := goodIn_app (goodIn_of _ (by decide +kernel)) ggX5_fire_X0_move
theorem dX5_fire_0 : decode cX5_fire 0 = .ok (.aload_n 0, 1) := by decide +kernel
theorem dX5_fire_1 : decode cX5_fire 1 = .ok (.getfield 12, 3) := by decide +kernel
theorem dX5_fire_4 : decode cX5_fire 4 = .ok (.iload_n 1, 1) := by decide +kernel
theorem dX5_fire_5 : decode cX5_fire 5 = .ok (.invokevirtual 51, 3) := by decide +kernel
theorem dX5_fire_8 : decode cX5_fire 8 = .ok (.ifCond .eq 19, 3) := by decide +kernel
theorem dX5_fire_11 : decode cX5_fire 11 = .ok (.aload_n 0, 1) := by decide +kernel
theorem dX5_fire_12 : decode cX5_fire 12 = .ok (.getfield 12, 3) := by decide +kernel
theorem dX5_fire_15 : decode cX5_fire 15 = .ok (.iload_n 1, 1) := by decide +kernel
theorem dX5_fire_16 : decode cX5_fire 16 = .ok (.aload_n 0, 1) := by decide +kernel
theorem dX5_fire_17 : decode cX5_fire 17 = .ok (.getfield 16, 3) := by decide +kernel
theorem dX5_fire_20 : decode cX5_fire 20 = .ok (.iconst 0, 1) := by decide +kernel
theorem dX5_fire_21 : decode cX5_fire 21 = .ok (.invokevirtual 122, 3) := by decide +kernel
theorem dX5_fire_24 : decode cX5_fire 24 = .ok (.ifCond .ne 5, 3) := by decide +kernel
theorem dX5_fire_27 : decode cX5_fire 27 = .ok (.iconst 0, 1) := by decide +kernel
theorem dX5_fire_28 : decode cX5_fire 28 = .ok (.ireturn, 1) := by decide +kernel
theorem dX5_fire_29 : decode cX5_fire 29 = .ok (.aload_n 0, 1) := by decide +kernel
theorem dX5_fire_30 : decode cX5_fire 30 = .ok (.getfield 12, 3) := by decide +kernel
theorem dX5_fire_33 : decode cX5_fire 33 = .ok (.iload_n 1, 1) := by decide +kernel
theorem dX5_fire_34 : decode cX5_fire 34 = .ok (.aload_n 0, 1) := by decide +kernel
theorem dX5_fire_35 : decode cX5_fire 35 = .ok (.getfield 16, 3) := by decide +kernel
theorem dX5_fire_38 : decode cX5_fire 38 = .ok (.iconst 0, 1) := by decide +kernel
theorem dX5_fire_39 : decode cX5_fire 39 = .ok (.invokevirtual 126, 3) := by decide +kernel
theorem dX5_fire_42 : decode cX5_fire 42 = .ok (.iconst 1, 1) := by decide +kernel
theorem dX5_fire_43 : decode cX5_fire 43 = .ok (.ireturn, 1) := by decide +kernel
set_option maxRecDepth 20000 in
theorem ggX5_tokens_X0_hasPlace : GoodIn wsX5_tokens wsX0_hasPlace := goodIn_r _ [7, 8, 13, 14, 15, 16, 17, 18] (by decide +kernel) (by decide +kernel)
set_option maxRecDepth 20000 in
theorem gX5_tokens_X0_hasPlace : GoodIn wsX5_tokens (wsV RX5 55 RX0 yX0_hasPlace wsX0_hasPlace) := goodIn_app (goodIn_of _ (by decide +kernel)) ggX5_tokens_X0_hasPlace
theorem dX5_tokens_0 : decode cX5_tokens 0 = .ok (.aload_n 0, 1) := by decide +kernel
theorem dX5_tokens_1 : decode cX5_tokens 1 = .ok (.getfield 12, 3) := by decide +kernel
theorem dX5_tokens_4 : decode cX5_tokens 4 = .ok (.iload_n 1, 1) := by decide +kernel
theorem dX5_tokens_5 : decode cX5_tokens 5 = .ok (.invokevirtual 55, 3) := by decide +kernel
theorem dX5_tokens_8 : decode cX5_tokens 8 = .ok (.ifCond .eq 12, 3) := by decide +kernel
theorem dX5_tokens_11 : decode cX5_tokens 11 = .ok (.aload_n 0, 1) := by decide +kernel
theorem dX5_tokens_12 : decode cX5_tokens 12 = .ok (.getfield 16, 3) := by decide +kernel
theorem dX5_tokens_15 : decode cX5_tokens 15 = .ok (.iload_n 1, 1) := by decide +kernel
theorem dX5_tokens_16 : decode cX5_tokens 16 = .ok (.iaload, 1) := by decide +kernel
theorem dX5_tokens_17 : decode cX5_tokens 17 = .ok (.goto 4, 3) := by decide +kernel
theorem dX5_tokens_20 : decode cX5_tokens 20 = .ok (.iconst (-1), 1) := by decide +kernel
theorem dX5_tokens_21 : decode cX5_tokens 21 = .ok (.ireturn, 1) := by decide +kernel
theorem dX5_goBackToFirst_0 : decode cX5_goBackToFirst 0 = .ok (.aload_n 0, 1) := by decide +kernel
theorem dX5_goBackToFirst_1 : decode cX5_goBackToFirst 1 = .ok (.getfield 12, 3) := by decide +kernel
theorem dX5_goBackToFirst_4 : decode cX5_goBackToFirst 4 = .ok (.getfield 42, 3) := by decide +kernel
theorem dX5_goBackToFirst_7 : decode cX5_goBackToFirst 7 = .ok (.iconst 0, 1) := by decide +kernel
theorem dX5_goBackToFirst_8 : decode cX5_goBackToFirst 8 = .ok (.aload_n 0, 1) := by decide +kernel
theorem dX5_goBackToFirst_9 : decode cX5_goBackToFirst 9 = .ok (.getfield 16, 3) := by decide +kernel
theorem dX5_goBackToFirst_12 : decode cX5_goBackToFirst 12 = .ok (.iconst 0, 1) := by decide +kernel
theorem dX5_goBackToFirst_13 : decode cX5_goBackToFirst 13 = .ok (.iconst 5, 1) := by decide +kernel
theorem dX5_goBackToFirst_14 : decode cX5_goBackToFirst 14 = .ok (.invokestatic 130, 3) := by decide +kernel
theorem dX5_goBackToFirst_17 : decode cX5_goBackToFirst 17 = .ok (.return_, 1) := by decide +kernel
theorem dX5_isWithin_0 : decode cX5_isWithin 0 = .ok (.iload_n 0, 1) := by decide +kernel
theorem dX5_isWithin_1 : decode cX5_isWithin 1 = .ok (.ifCond .lt 12, 3) := by decide +kernel
theorem dX5_isWithin_4 : decode cX5_isWithin 4 = .ok (.iload_n 0, 1) := by decide +kernel
theorem dX5_isWithin_5 : decode cX5_isWithin 5 = .ok (.iload_n 1, 1) := by decide +kernel
theorem dX5_isWithin_6 : decode cX5_isWithin 6 = .ok (.if_icmp .gt 7, 3) := by decide +kernel
theorem dX5_isWithin_9 : decode cX5_isWithin 9 = .ok (.iconst 1, 1) := by decide +kernel
theorem dX5_isWithin_10 : decode cX5_isWithin 10 = .ok (.goto 4, 3) := by decide +kernel
theorem dX5_isWithin_13 : decode cX5_isWithin 13 = .ok (.iconst 0, 1) := by decide +kernel
theorem dX5_isWithin_14 : decode cX5_isWithin 14 = .ok (.ireturn, 1) := by decide +kernel
theorem dX5_told_0 : decode cX5_told 0 = .ok (.iload_n 0, 1) := by decide +kernel
theorem dX5_told_1 : decode cX5_told 1 = .ok (.ldc 136, 2) := by decide +kernel
theorem dX5_told_3 : decode cX5_told 3 = .ok (.if_icmp .ne 8, 3) := by decide +kernel
theorem dX5_told_6 : decode cX5_told 6 = .ok (.bipush (-2), 2) := by decide +kernel
theorem dX5_told_8 : decode cX5_told 8 = .ok (.goto 4, 3) := by decide +kernel
theorem dX5_told_11 : decode cX5_told 11 = .ok (.iload_n 0, 1) := by decide +kernel
theorem dX5_told_12 : decode cX5_told 12 = .ok (.ireturn, 1) := by decide +kernel
theorem dX6_init_0 : decode cX6_init 0 = .ok (.aload_n 0, 1) := by decide +kernel
theorem dX6_init_1 : decode cX6_init 1 = .ok (.invokespecial 1, 3) := by decide +kernel
theorem dX6_init_4 : decode cX6_init 4 = .ok (.aload_n 0, 1) := by decide +kernel
theorem dX6_init_5 : decode cX6_init 5 = .ok (.iconst 5, 1) := by decide +kernel
theorem dX6_init_6 : decode cX6_init 6 = .ok (.newarray .int, 2) := by decide +kernel
theorem dX6_init_8 : decode cX6_init 8 = .ok (.putfield 7, 3) := by decide +kernel
theorem dX6_init_11 : decode cX6_init 11 = .ok (.aload_n 0, 1) := by decide +kernel
theorem dX6_init_12 : decode cX6_init 12 = .ok (.iconst 5, 1) := by decide +kernel
theorem dX6_init_13 : decode cX6_init 13 = .ok (.newarray .int, 2) := by decide +kernel
theorem dX6_init_15 : decode cX6_init 15 = .ok (.putfield 13, 3) := by decide +kernel
theorem dX6_init_18 : decode cX6_init 18 = .ok (.aload_n 0, 1) := by decide +kernel
theorem dX6_init_19 : decode cX6_init 19 = .ok (.bipush 30, 2) := by decide +kernel
theorem dX6_init_21 : decode cX6_init 21 = .ok (.newarray .int, 2) := by decide +kernel
theorem dX6_init_23 : decode cX6_init 23 = .ok (.putfield 16, 3) := by decide +kernel
theorem dX6_init_26 : decode cX6_init 26 = .ok (.aload_n 0, 1) := by decide +kernel
theorem dX6_init_27 : decode cX6_init 27 = .ok (.bipush 30, 2) := by decide +kernel
theorem dX6_init_29 : decode cX6_init 29 = .ok (.newarray .int, 2) := by decide +kernel
theorem dX6_init_31 : decode cX6_init 31 = .ok (.putfield 19, 3) := by decide +kernel
theorem dX6_init_34 : decode cX6_init 34 = .ok (.aload_n 0, 1) := by decide +kernel
theorem dX6_init_35 : decode cX6_init 35 = .ok (.iconst 5, 1) := by decide +kernel
theorem dX6_init_36 : decode cX6_init 36 = .ok (.newarray .int, 2) := by decide +kernel
theorem dX6_init_38 : decode cX6_init 38 = .ok (.putfield 22, 3) := by decide +kernel
theorem dX6_init_41 : decode cX6_init 41 = .ok (.aload_n 0, 1) := by decide +kernel
theorem dX6_init_42 : decode cX6_init 42 = .ok (.iconst 2, 1) := by decide +kernel
theorem dX6_init_43 : decode cX6_init 43 = .ok (.putfield 25, 3) := by decide +kernel
theorem dX6_init_46 : decode cX6_init 46 = .ok (.aload_n 0, 1) := by decide +kernel
theorem dX6_init_47 : decode cX6_init 47 = .ok (.bipush 61, 2) := by decide +kernel
theorem dX6_init_49 : decode cX6_init 49 = .ok (.newarray .int, 2) := by decide +kernel
theorem dX6_init_51 : decode cX6_init 51 = .ok (.putfield 29, 3) := by decide +kernel
theorem dX6_init_54 : decode cX6_init 54 = .ok (.aload_n 0, 1) := by decide +kernel
theorem dX6_init_55 : decode cX6_init 55 = .ok (.ldc 32, 2) := by decide +kernel
theorem dX6_init_57 : decode cX6_init 57 = .ok (.newarray .int, 2) := by decide +kernel
theorem dX6_init_59 : decode cX6_init 59 = .ok (.putfield 33, 3) := by decide +kernel
theorem dX6_init_62 : decode cX6_init 62 = .ok (.aload_n 0, 1) := by decide +kernel
theorem dX6_init_63 : decode cX6_init 63 = .ok (.sipush 7500, 3) := by decide +kernel
theorem dX6_init_66 : decode cX6_init 66 = .ok (.newarray .int, 2) := by decide +kernel
theorem dX6_init_68 : decode cX6_init 68 = .ok (.putfield 36, 3) := by decide +kernel
theorem dX6_init_71 : decode cX6_init 71 = .ok (.aload_n 0, 1) := by decide +kernel
theorem dX6_init_72 : decode cX6_init 72 = .ok (.sipush 7500, 3) := by decide +kernel
theorem dX6_init_75 : decode cX6_init 75 = .ok (.newarray .int, 2) := by decide +kernel
theorem dX6_init_77 : decode cX6_init 77 = .ok (.putfield 39, 3) := by decide +kernel
theorem dX6_init_80 : decode cX6_init 80 = .ok (.aload_n 0, 1) := by decide +kernel
theorem dX6_init_81 : decode cX6_init 81 = .ok (.bipush 60, 2) := by decide +kernel
theorem dX6_init_83 : decode cX6_init 83 = .ok (.newarray .int, 2) := by decide +kernel
theorem dX6_init_85 : decode cX6_init 85 = .ok (.putfield 42, 3) := by decide +kernel
theorem dX6_init_88 : decode cX6_init 88 = .ok (.aload_n 0, 1) := by decide +kernel
theorem dX6_init_89 : decode cX6_init 89 = .ok (.sipush 5005, 3) := by decide +kernel
theorem dX6_init_92 : decode cX6_init 92 = .ok (.newarray .int, 2) := by decide +kernel
theorem dX6_init_94 : decode cX6_init 94 = .ok (.putfield 45, 3) := by decide +kernel
theorem dX6_init_97 : decode cX6_init 97 = .ok (.aload_n 0, 1) := by decide +kernel
theorem dX6_init_98 : decode cX6_init 98 = .ok (.sipush 1001, 3) := by decide +kernel
theorem dX6_init_101 : decode cX6_init 101 = .ok (.newarray .int, 2) := by decide +kernel
theorem dX6_init_103 : decode cX6_init 103 = .ok (.putfield 48, 3) := by decide +kernel
theorem dX6_init_106 : decode cX6_init 106 = .ok (.aload_n 0, 1) := by decide +kernel
theorem dX6_init_107 : decode cX6_init 107 = .ok (.sipush 1001, 3) := by decide +kernel
theorem dX6_init_110 : decode cX6_init 110 = .ok (.newarray .int, 2) := by decide +kernel
theorem dX6_init_112 : decode cX6_init 112 = .ok (.putfield 51, 3) := by decide +kernel
theorem dX6_init_115 : decode cX6_init 115 = .ok (.aload_n 0, 1) := by decide +kernel
theorem dX6_init_116 : decode cX6_init 116 = .ok (.iconst 5, 1) := by decide +kernel
theorem dX6_init_117 : decode cX6_init 117 = .ok (.newarray .int, 2) := by decide +kernel
theorem dX6_init_119 : decode cX6_init 119 = .ok (.putfield 54, 3) := by decide +kernel
theorem dX6_init_122 : decode cX6_init 122 = .ok (.aload_n 0, 1) := by decide +kernel
theorem dX6_init_123 : decode cX6_init 123 = .ok (.iconst 5, 1) := by decide +kernel
theorem dX6_init_124 : decode cX6_init 124 = .ok (.newarray .int, 2) := by decide +kernel
theorem dX6_init_126 : decode cX6_init 126 = .ok (.putfield 57, 3) := by decide +kernel
theorem dX6_init_129 : decode cX6_init 129 = .ok (.return_, 1) := by decide +kernel
theorem dX6_isPlace_0 : decode cX6_isPlace 0 = .ok (.iload_n 1, 1) := by decide +kernel
theorem dX6_isPlace_1 : decode cX6_isPlace 1 = .ok (.ifCond .lt 15, 3) := by decide +kernel
theorem dX6_isPlace_4 : decode cX6_isPlace 4 = .ok (.iload_n 1, 1) := by decide +kernel
theorem dX6_isPlace_5 : decode cX6_isPlace 5 = .ok (.aload_n 0, 1) := by decide +kernel
theorem dX6_isPlace_6 : decode cX6_isPlace 6 = .ok (.getfield 60, 3) := by decide +kernel
theorem dX6_isPlace_9 : decode cX6_isPlace 9 = .ok (.if_icmp .ge 7, 3) := by decide +kernel
theorem dX6_isPlace_12 : decode cX6_isPlace 12 = .ok (.iconst 1, 1) := by decide +kernel
theorem dX6_isPlace_13 : decode cX6_isPlace 13 = .ok (.goto 4, 3) := by decide +kernel
theorem dX6_isPlace_16 : decode cX6_isPlace 16 = .ok (.iconst 0, 1) := by decide +kernel
theorem dX6_isPlace_17 : decode cX6_isPlace 17 = .ok (.ireturn, 1) := by decide +kernel
theorem dX6_isTransition_0 : decode cX6_isTransition 0 = .ok (.iload_n 1, 1) := by decide +kernel
theorem dX6_isTransition_1 : decode cX6_isTransition 1 = .ok (.ifCond .lt 15, 3) := by decide +kernel
theorem dX6_isTransition_4 : decode cX6_isTransition 4 = .ok (.iload_n 1, 1) := by decide +kernel
theorem dX6_isTransition_5 : decode cX6_isTransition 5 = .ok (.aload_n 0, 1) := by decide +kernel
theorem dX6_isTransition_6 : decode cX6_isTransition 6 = .ok (.getfield 63, 3) := by decide +kernel
theorem dX6_isTransition_9 : decode cX6_isTransition 9 = .ok (.if_icmp .ge 7, 3) := by decide +kernel
theorem dX6_isTransition_12 : decode cX6_isTransition 12 = .ok (.iconst 1, 1) := by decide +kernel
theorem dX6_isTransition_13 : decode cX6_isTransition 13 = .ok (.goto 4, 3) := by decide +kernel
theorem dX6_isTransition_16 : decode cX6_isTransition 16 = .ok (.iconst 0, 1) := by decide +kernel
theorem dX6_isTransition_17 : decode cX6_isTransition 17 = .ok (.ireturn, 1) := by decide +kernel
theorem dX6_isIn_0 : decode cX6_isIn 0 = .ok (.iload_n 0, 1) := by decide +kernel
theorem dX6_isIn_1 : decode cX6_isIn 1 = .ok (.ifCond .lt 12, 3) := by decide +kernel
theorem dX6_isIn_4 : decode cX6_isIn 4 = .ok (.iload_n 0, 1) := by decide +kernel
theorem dX6_isIn_5 : decode cX6_isIn 5 = .ok (.iload_n 1, 1) := by decide +kernel
theorem dX6_isIn_6 : decode cX6_isIn 6 = .ok (.if_icmp .gt 7, 3) := by decide +kernel
theorem dX6_isIn_9 : decode cX6_isIn 9 = .ok (.iconst 1, 1) := by decide +kernel
theorem dX6_isIn_10 : decode cX6_isIn 10 = .ok (.goto 4, 3) := by decide +kernel
theorem dX6_isIn_13 : decode cX6_isIn 13 = .ok (.iconst 0, 1) := by decide +kernel
theorem dX6_isIn_14 : decode cX6_isIn 14 = .ok (.ireturn, 1) := by decide +kernel
theorem dX6_begin_0 : decode cX6_begin 0 = .ok (.iconst 0, 1) := by decide +kernel
theorem dX6_begin_1 : decode cX6_begin 1 = .ok (.istore_n 1, 1) := by decide +kernel
theorem dX6_begin_2 : decode cX6_begin 2 = .ok (.iload_n 1, 1) := by decide +kernel
theorem dX6_begin_3 : decode cX6_begin 3 = .ok (.iconst 5, 1) := by decide +kernel
theorem dX6_begin_4 : decode cX6_begin 4 = .ok (.if_icmp .ge 21, 3) := by decide +kernel
theorem dX6_begin_7 : decode cX6_begin 7 = .ok (.aload_n 0, 1) := by decide +kernel
theorem dX6_begin_8 : decode cX6_begin 8 = .ok (.getfield 22, 3) := by decide +kernel
theorem dX6_begin_11 : decode cX6_begin 11 = .ok (.iload_n 1, 1) := by decide +kernel
theorem dX6_begin_12 : decode cX6_begin 12 = .ok (.aload_n 0, 1) := by decide +kernel
theorem dX6_begin_13 : decode cX6_begin 13 = .ok (.getfield 7, 3) := by decide +kernel
theorem dX6_begin_16 : decode cX6_begin 16 = .ok (.iload_n 1, 1) := by decide +kernel
theorem dX6_begin_17 : decode cX6_begin 17 = .ok (.iaload, 1) := by decide +kernel
theorem dX6_begin_18 : decode cX6_begin 18 = .ok (.iastore, 1) := by decide +kernel
theorem dX6_begin_19 : decode cX6_begin 19 = .ok (.iinc 1 1, 3) := by decide +kernel
theorem dX6_begin_22 : decode cX6_begin 22 = .ok (.goto (-20), 3) := by decide +kernel
theorem dX6_begin_25 : decode cX6_begin 25 = .ok (.return_, 1) := by decide +kernel
set_option maxRecDepth 20000 in
theorem ggX6_place_X6_isIn : GoodIn wsX6_place wsX6_isIn := goodIn_r _ [6] (by decide +kernel) (by decide +kernel)
set_option maxRecDepth 20000 in
theorem gX6_place_X6_isIn : GoodIn wsX6_place (va_wsS RX6 66 yX6_isIn wsX6_isIn) := goodIn_app (goodIn_of _ (by decide +kernel)) ggX6_place_X6_isIn
set_option maxRecDepth 20000 in
theorem ggX6_place_X6_begin : GoodIn wsX6_place wsX6_begin := goodIn_r _ [10, 11, 2, 12, 13, 14, 15, 16, 17, 18, 19, 20, 21, 22, 23, 24, 25, 26, 27, 28, 29, 30, 31, 32, 33, 34, 35, 36, 37, 38] (by decide +kernel) (by decide +kernel)
set_option maxRecDepth 20000 in
theorem gX6_place_X6_begin : GoodIn wsX6_place (wsV RX6 70 RX6 yX6_begin wsX6_begin) := goodIn_app (goodIn_of _ (by decide +kernel)) ggX6_place_X6_begin
theorem dX6_place_0 : decode cX6_place 0 = .ok (.aload_n 0, 1) := by decide +kernel
theorem dX6_place_1 : decode cX6_place 1 = .ok (.getfield 60, 3) := by decide +kernel
theorem dX6_place_4 : decode cX6_place 4 = .ok (.iconst 5, 1) := by decide +kernel
theorem dX6_place_5 : decode cX6_place 5 = .ok (.if_icmp .eq 12, 3) := by decide +kernel
theorem dX6_place_8 : decode cX6_place 8 = .ok (.iload_n 1, 1) := by decide +kernel
theorem dX6_place_9 : decode cX6_place 9 = .ok (.bipush 20, 2) := by decide +kernel
theorem dX6_place_11 : decode cX6_place 11 = .ok (.invokestatic 66, 3) := by decide +kernel
theorem dX6_place_14 : decode cX6_place 14 = .ok (.ifCond .ne 5, 3) := by decide +kernel
theorem dX6_place_17 : decode cX6_place 17 = .ok (.iconst (-1), 1) := by decide +kernel
theorem dX6_place_18 : decode cX6_place 18 = .ok (.ireturn, 1) := by decide +kernel
theorem dX6_place_19 : decode cX6_place 19 = .ok (.aload_n 0, 1) := by decide +kernel
theorem dX6_place_20 : decode cX6_place 20 = .ok (.getfield 7, 3) := by decide +kernel
theorem dX6_place_23 : decode cX6_place 23 = .ok (.aload_n 0, 1) := by decide +kernel
theorem dX6_place_24 : decode cX6_place 24 = .ok (.getfield 60, 3) := by decide +kernel
theorem dX6_place_27 : decode cX6_place 27 = .ok (.iload_n 1, 1) := by decide +kernel
theorem dX6_place_28 : decode cX6_place 28 = .ok (.iastore, 1) := by decide +kernel
theorem dX6_place_29 : decode cX6_place 29 = .ok (.aload_n 0, 1) := by decide +kernel
theorem dX6_place_30 : decode cX6_place 30 = .ok (.dup, 1) := by decide +kernel
theorem dX6_place_31 : decode cX6_place 31 = .ok (.getfield 60, 3) := by decide +kernel
theorem dX6_place_34 : decode cX6_place 34 = .ok (.iconst 1, 1) := by decide +kernel
theorem dX6_place_35 : decode cX6_place 35 = .ok (.iadd, 1) := by decide +kernel
theorem dX6_place_36 : decode cX6_place 36 = .ok (.putfield 60, 3) := by decide +kernel
theorem dX6_place_39 : decode cX6_place 39 = .ok (.aload_n 0, 1) := by decide +kernel
theorem dX6_place_40 : decode cX6_place 40 = .ok (.invokevirtual 70, 3) := by decide +kernel
theorem dX6_place_43 : decode cX6_place 43 = .ok (.aload_n 0, 1) := by decide +kernel
theorem dX6_place_44 : decode cX6_place 44 = .ok (.getfield 60, 3) := by decide +kernel
theorem dX6_place_47 : decode cX6_place 47 = .ok (.iconst 1, 1) := by decide +kernel
theorem dX6_place_48 : decode cX6_place 48 = .ok (.isub, 1) := by decide +kernel
theorem dX6_place_49 : decode cX6_place 49 = .ok (.ireturn, 1) := by decide +kernel
set_option maxRecDepth 20000 in
theorem ggX6_transition_X6_begin : GoodIn wsX6_transition wsX6_begin := goodIn_r _ [6, 7, 8, 9, 10, 11, 12, 13, 14, 15, 16, 17, 18, 19, 20, 21, 22, 23, 24, 25, 26, 27, 28, 29, 30, 31, 32, 33, 34, 35] (by decide +kernel) (by decide +kernel)
set_option maxRecDepth 20000 in
theorem gX6_transition_X6_begin : GoodIn wsX6_transition (wsV RX6 70 RX6 yX6_begin wsX6_begin) := goodIn_app (goodIn_of _ (by decide +kernel)) ggX6_transition_X6_begin
theorem dX6_transition_0 : decode cX6_transition 0 = .ok (.aload_n 0, 1) := by decide +kernel
theorem dX6_transition_1 : decode cX6_transition 1 = .ok (.getfield 63, 3) := by decide +kernel
theorem dX6_transition_4 : decode cX6_transition 4 = .ok (.bipush 6, 2) := by decide +kernel
theorem dX6_transition_6 : decode cX6_transition 6 = .ok (.if_icmp .ne 5, 3) := by decide +kernel
theorem dX6_transition_9 : decode cX6_transition 9 = .ok (.iconst (-1), 1) := by decide +kernel
theorem dX6_transition_10 : decode cX6_transition 10 = .ok (.ireturn, 1) := by decide +kernel
theorem dX6_transition_11 : decode cX6_transition 11 = .ok (.aload_n 0, 1) := by decide +kernel
theorem dX6_transition_12 : decode cX6_transition 12 = .ok (.dup, 1) := by decide +kernel
theorem dX6_transition_13 : decode cX6_transition 13 = .ok (.getfield 63, 3) := by decide +kernel
theorem dX6_transition_16 : decode cX6_transition 16 = .ok (.iconst 1, 1) := by decide +kernel
theorem dX6_transition_17 : decode cX6_transition 17 = .ok (.iadd, 1) := by decide +kernel
theorem dX6_transition_18 : decode cX6_transition 18 = .ok (.putfield 63, 3) := by decide +kernel
theorem dX6_transition_21 : decode cX6_transition 21 = .ok (.aload_n 0, 1) := by decide +kernel
theorem dX6_transition_22 : decode cX6_transition 22 = .ok (.invokevirtual 70, 3) := by decide +kernel
theorem dX6_transition_25 : decode cX6_transition 25 = .ok (.aload_n 0, 1) := by decide +kernel
theorem dX6_transition_26 : decode cX6_transition 26 = .ok (.getfield 63, 3) := by decide +kernel
theorem dX6_transition_29 : decode cX6_transition 29 = .ok (.iconst 1, 1) := by decide +kernel
theorem dX6_transition_30 : decode cX6_transition 30 = .ok (.isub, 1) := by decide +kernel
theorem dX6_transition_31 : decode cX6_transition 31 = .ok (.ireturn, 1) := by decide +kernel
set_option maxRecDepth 20000 in
theorem ggX6_arc_X6_isTransition : GoodIn wsX6_arc wsX6_isTransition := goodIn_r _ [7, 8, 23, 24, 25, 26, 27, 28, 29, 30, 31, 32, 33, 34, 35, 36, 37, 38, 39, 40, 41, 42, 43, 44, 45, 46, 47, 48, 49] (by decide +kernel) (by decide +kernel)
set_option maxRecDepth 20000 in
theorem gX6_arc_X6_isTransition : GoodIn wsX6_arc (wsV RX6 73 RX6 yX6_isTransition wsX6_isTransition) := goodIn_app (goodIn_of _ (by decide +kernel)) ggX6_arc_X6_isTransition
set_option maxRecDepth 20000 in
theorem ggX6_arc_X6_isPlace : GoodIn wsX6_arc wsX6_isPlace := goodIn_r _ [12, 13, 23, 24, 25, 26, 27, 28, 29, 30, 31, 32, 33, 34, 35, 36, 37, 38, 39, 40, 41, 42, 43, 44, 45, 46, 47, 48, 49] (by decide +kernel) (by decide +kernel)
set_option maxRecDepth 20000 in
theorem gX6_arc_X6_isPlace : GoodIn wsX6_arc (wsV RX6 77 RX6 yX6_isPlace wsX6_isPlace) := goodIn_app (goodIn_of _ (by decide +kernel)) ggX6_arc_X6_isPlace
set_option maxRecDepth 20000 in
theorem ggX6_arc_X6_isIn : GoodIn wsX6_arc wsX6_isIn := goodIn_r _ [16] (by decide +kernel) (by decide +kernel)
set_option maxRecDepth 20000 in
theorem gX6_arc_X6_isIn : GoodIn wsX6_arc (va_wsS RX6 66 yX6_isIn wsX6_isIn) := goodIn_app (goodIn_of _ (by decide +kernel)) ggX6_arc_X6_isIn
set_option maxRecDepth 20000 in
theorem ggX6_arc_X6_begin : GoodIn wsX6_arc wsX6_begin := goodIn_r _ [20, 21, 22, 23, 24, 25, 26, 27, 28, 29, 30, 31, 32, 33, 34, 35, 36, 37, 38, 39, 40, 41, 42, 43, 44, 45, 46, 47, 48, 49] (by decide +kernel) (by decide +kernel)
set_option maxRecDepth 20000 in
theorem gX6_arc_X6_begin : GoodIn wsX6_arc (wsV RX6 70 RX6 yX6_begin wsX6_begin) := goodIn_app (goodIn_of _ (by decide +kernel)) ggX6_arc_X6_begin
theorem dX6_arc_0 : decode cX6_arc 0 = .ok (.aload_n 0, 1) := by decide +kernel
theorem dX6_arc_1 : decode cX6_arc 1 = .ok (.iload_n 1, 1) := by decide +kernel
theorem dX6_arc_2 : decode cX6_arc 2 = .ok (.invokevirtual 73, 3) := by decide +kernel
theorem dX6_arc_5 : decode cX6_arc 5 = .ok (.ifCond .eq 28, 3) := by decide +kernel
theorem dX6_arc_8 : decode cX6_arc 8 = .ok (.aload_n 0, 1) := by decide +kernel
theorem dX6_arc_9 : decode cX6_arc 9 = .ok (.iload_n 2, 1) := by decide +kernel
theorem dX6_arc_10 : decode cX6_arc 10 = .ok (.invokevirtual 77, 3) := by decide +kernel
theorem dX6_arc_13 : decode cX6_arc 13 = .ok (.ifCond .eq 20, 3) := by decide +kernel
theorem dX6_arc_16 : decode cX6_arc 16 = .ok (.iload_n 3, 1) := by decide +kernel
theorem dX6_arc_17 : decode cX6_arc 17 = .ok (.iconst 5, 1) := by decide +kernel
theorem dX6_arc_18 : decode cX6_arc 18 = .ok (.invokestatic 66, 3) := by decide +kernel
theorem dX6_arc_21 : decode cX6_arc 21 = .ok (.ifCond .eq 12, 3) := by decide +kernel
theorem dX6_arc_24 : decode cX6_arc 24 = .ok (.iload 4, 2) := by decide +kernel
theorem dX6_arc_26 : decode cX6_arc 26 = .ok (.iconst 5, 1) := by decide +kernel
theorem dX6_arc_27 : decode cX6_arc 27 = .ok (.invokestatic 66, 3) := by decide +kernel
theorem dX6_arc_30 : decode cX6_arc 30 = .ok (.ifCond .ne 5, 3) := by decide +kernel
theorem dX6_arc_33 : decode cX6_arc 33 = .ok (.iconst 0, 1) := by decide +kernel
theorem dX6_arc_34 : decode cX6_arc 34 = .ok (.ireturn, 1) := by decide +kernel
theorem dX6_arc_35 : decode cX6_arc 35 = .ok (.aload_n 0, 1) := by decide +kernel
theorem dX6_arc_36 : decode cX6_arc 36 = .ok (.getfield 16, 3) := by decide +kernel
theorem dX6_arc_39 : decode cX6_arc 39 = .ok (.iconst 5, 1) := by decide +kernel
theorem dX6_arc_40 : decode cX6_arc 40 = .ok (.iload_n 1, 1) := by decide +kernel
theorem dX6_arc_41 : decode cX6_arc 41 = .ok (.imul, 1) := by decide +kernel
theorem dX6_arc_42 : decode cX6_arc 42 = .ok (.iload_n 2, 1) := by decide +kernel
theorem dX6_arc_43 : decode cX6_arc 43 = .ok (.iadd, 1) := by decide +kernel
theorem dX6_arc_44 : decode cX6_arc 44 = .ok (.iload_n 3, 1) := by decide +kernel
theorem dX6_arc_45 : decode cX6_arc 45 = .ok (.iastore, 1) := by decide +kernel
theorem dX6_arc_46 : decode cX6_arc 46 = .ok (.aload_n 0, 1) := by decide +kernel
theorem dX6_arc_47 : decode cX6_arc 47 = .ok (.getfield 19, 3) := by decide +kernel
theorem dX6_arc_50 : decode cX6_arc 50 = .ok (.iconst 5, 1) := by decide +kernel
theorem dX6_arc_51 : decode cX6_arc 51 = .ok (.iload_n 1, 1) := by decide +kernel
theorem dX6_arc_52 : decode cX6_arc 52 = .ok (.imul, 1) := by decide +kernel
theorem dX6_arc_53 : decode cX6_arc 53 = .ok (.iload_n 2, 1) := by decide +kernel
theorem dX6_arc_54 : decode cX6_arc 54 = .ok (.iadd, 1) := by decide +kernel
theorem dX6_arc_55 : decode cX6_arc 55 = .ok (.iload 4, 2) := by decide +kernel
theorem dX6_arc_57 : decode cX6_arc 57 = .ok (.iastore, 1) := by decide +kernel
theorem dX6_arc_58 : decode cX6_arc 58 = .ok (.aload_n 0, 1) := by decide +kernel
theorem dX6_arc_59 : decode cX6_arc 59 = .ok (.invokevirtual 70, 3) := by decide +kernel
theorem dX6_arc_62 : decode cX6_arc 62 = .ok (.iconst 1, 1) := by decide +kernel
theorem dX6_arc_63 : decode cX6_arc 63 = .ok (.ireturn, 1) := by decide +kernel
set_option maxRecDepth 20000 in
theorem ggX6_target_X6_isPlace : GoodIn wsX6_target wsX6_isPlace := goodIn_r _ [6, 7, 11, 12, 13, 14, 15, 16, 17, 18, 19, 20, 21, 22, 23, 24, 25, 26, 27, 28, 29, 30, 31, 32, 33, 34, 35, 36, 37] (by decide +kernel) (by decide +kernel)
set_option maxRecDepth 20000 in
theorem gX6_target_X6_isPlace : GoodIn wsX6_target (wsV RX6 77 RX6 yX6_isPlace wsX6_isPlace) := goodIn_app (goodIn_of _ (by decide +kernel)) ggX6_target_X6_isPlace
set_option maxRecDepth 20000 in
theorem ggX6_target_X6_isIn : GoodIn wsX6_target wsX6_isIn := goodIn_r _ [10] (by decide +kernel) (by decide +kernel)
set_option maxRecDepth 20000 in
theorem gX6_target_X6_isIn : GoodIn wsX6_target (va_wsS RX6 66 yX6_isIn wsX6_isIn) := goodIn_app (goodIn_of _ (by decide +kernel)) ggX6_target_X6_isIn
theorem dX6_target_0 : decode cX6_target 0 = .ok (.aload_n 0, 1) := by decide +kernel
theorem dX6_target_1 : decode cX6_target 1 = .ok (.iload_n 1, 1) := by decide +kernel
theorem dX6_target_2 : decode cX6_target 2 = .ok (.invokevirtual 77, 3) := by decide +kernel
theorem dX6_target_5 : decode cX6_target 5 = .ok (.ifCond .eq 12, 3) := by decide +kernel
theorem dX6_target_8 : decode cX6_target 8 = .ok (.iload_n 2, 1) := by decide +kernel
theorem dX6_target_9 : decode cX6_target 9 = .ok (.bipush 20, 2) := by decide +kernel
theorem dX6_target_11 : decode cX6_target 11 = .ok (.invokestatic 66, 3) := by decide +kernel
theorem dX6_target_14 : decode cX6_target 14 = .ok (.ifCond .ne 5, 3) := by decide +kernel
theorem dX6_target_17 : decode cX6_target 17 = .ok (.iconst 0, 1) := by decide +kernel
theorem dX6_target_18 : decode cX6_target 18 = .ok (.ireturn, 1) := by decide +kernel
theorem dX6_target_19 : decode cX6_target 19 = .ok (.aload_n 0, 1) := by decide +kernel
theorem dX6_target_20 : decode cX6_target 20 = .ok (.getfield 13, 3) := by decide +kernel
theorem dX6_target_23 : decode cX6_target 23 = .ok (.iload_n 1, 1) := by decide +kernel
theorem dX6_target_24 : decode cX6_target 24 = .ok (.iload_n 2, 1) := by decide +kernel
theorem dX6_target_25 : decode cX6_target 25 = .ok (.iastore, 1) := by decide +kernel
theorem dX6_target_26 : decode cX6_target 26 = .ok (.iconst 1, 1) := by decide +kernel
theorem dX6_target_27 : decode cX6_target 27 = .ok (.ireturn, 1) := by decide +kernel
theorem dX6_tops_0 : decode cX6_tops 0 = .ok (.iconst 1, 1) := by decide +kernel
theorem dX6_tops_1 : decode cX6_tops 1 = .ok (.istore 4, 2) := by decide +kernel
theorem dX6_tops_3 : decode cX6_tops 3 = .ok (.iconst 0, 1) := by decide +kernel
theorem dX6_tops_4 : decode cX6_tops 4 = .ok (.istore 5, 2) := by decide +kernel
theorem dX6_tops_6 : decode cX6_tops 6 = .ok (.iload 5, 2) := by decide +kernel
theorem dX6_tops_8 : decode cX6_tops 8 = .ok (.iconst 5, 1) := by decide +kernel
theorem dX6_tops_9 : decode cX6_tops 9 = .ok (.if_icmp .ge 36, 3) := by decide +kernel
theorem dX6_tops_12 : decode cX6_tops 12 = .ok (.iload 4, 2) := by decide +kernel
theorem dX6_tops_14 : decode cX6_tops 14 = .ok (.ifCond .eq 22, 3) := by decide +kernel
theorem dX6_tops_17 : decode cX6_tops 17 = .ok (.aload_n 0, 1) := by decide +kernel
theorem dX6_tops_18 : decode cX6_tops 18 = .ok (.iload_n 1, 1) := by decide +kernel
theorem dX6_tops_19 : decode cX6_tops 19 = .ok (.iload 5, 2) := by decide +kernel
theorem dX6_tops_21 : decode cX6_tops 21 = .ok (.iadd, 1) := by decide +kernel
theorem dX6_tops_22 : decode cX6_tops 22 = .ok (.iaload, 1) := by decide +kernel
theorem dX6_tops_23 : decode cX6_tops 23 = .ok (.aload_n 2, 1) := by decide +kernel
theorem dX6_tops_24 : decode cX6_tops 24 = .ok (.iload_n 3, 1) := by decide +kernel
theorem dX6_tops_25 : decode cX6_tops 25 = .ok (.iload 5, 2) := by decide +kernel
theorem dX6_tops_27 : decode cX6_tops 27 = .ok (.iadd, 1) := by decide +kernel
theorem dX6_tops_28 : decode cX6_tops 28 = .ok (.iaload, 1) := by decide +kernel
theorem dX6_tops_29 : decode cX6_tops 29 = .ok (.if_icmp .lt 7, 3) := by decide +kernel
theorem dX6_tops_32 : decode cX6_tops 32 = .ok (.iconst 1, 1) := by decide +kernel
theorem dX6_tops_33 : decode cX6_tops 33 = .ok (.goto 4, 3) := by decide +kernel
theorem dX6_tops_36 : decode cX6_tops 36 = .ok (.iconst 0, 1) := by decide +kernel
theorem dX6_tops_37 : decode cX6_tops 37 = .ok (.istore 4, 2) := by decide +kernel
theorem dX6_tops_39 : decode cX6_tops 39 = .ok (.iinc 5 1, 3) := by decide +kernel
theorem dX6_tops_42 : decode cX6_tops 42 = .ok (.goto (-36), 3) := by decide +kernel
theorem dX6_tops_45 : decode cX6_tops 45 = .ok (.iload 4, 2) := by decide +kernel
theorem dX6_tops_47 : decode cX6_tops 47 = .ok (.ireturn, 1) := by decide +kernel
set_option maxRecDepth 20000 in
theorem ggX6_takeIn_X6_tops : GoodIn wsX6_takeIn wsX6_tops := goodIn_r _ [7] (by decide +kernel) (by decide +kernel)
set_option maxRecDepth 20000 in
theorem gX6_takeIn_X6_tops : GoodIn wsX6_takeIn (va_wsS RX6 83 yX6_tops wsX6_tops) := goodIn_app (goodIn_of _ (by decide +kernel)) ggX6_takeIn_X6_tops
theorem dX6_takeIn_0 : decode cX6_takeIn 0 = .ok (.iconst 0, 1) := by decide +kernel
theorem dX6_takeIn_1 : decode cX6_takeIn 1 = .ok (.istore_n 1, 1) := by decide +kernel
theorem dX6_takeIn_2 : decode cX6_takeIn 2 = .ok (.iload_n 1, 1) := by decide +kernel
theorem dX6_takeIn_3 : decode cX6_takeIn 3 = .ok (.aload_n 0, 1) := by decide +kernel
theorem dX6_takeIn_4 : decode cX6_takeIn 4 = .ok (.getfield 80, 3) := by decide +kernel
theorem dX6_takeIn_7 : decode cX6_takeIn 7 = .ok (.if_icmp .ge 28, 3) := by decide +kernel
theorem dX6_takeIn_10 : decode cX6_takeIn 10 = .ok (.aload_n 0, 1) := by decide +kernel
theorem dX6_takeIn_11 : decode cX6_takeIn 11 = .ok (.getfield 54, 3) := by decide +kernel
theorem dX6_takeIn_14 : decode cX6_takeIn 14 = .ok (.iconst 0, 1) := by decide +kernel
theorem dX6_takeIn_15 : decode cX6_takeIn 15 = .ok (.aload_n 0, 1) := by decide +kernel
theorem dX6_takeIn_16 : decode cX6_takeIn 16 = .ok (.getfield 36, 3) := by decide +kernel
theorem dX6_takeIn_19 : decode cX6_takeIn 19 = .ok (.iconst 5, 1) := by decide +kernel
theorem dX6_takeIn_20 : decode cX6_takeIn 20 = .ok (.iload_n 1, 1) := by decide +kernel
theorem dX6_takeIn_21 : decode cX6_takeIn 21 = .ok (.imul, 1) := by decide +kernel
theorem dX6_takeIn_22 : decode cX6_takeIn 22 = .ok (.invokestatic 83, 3) := by decide +kernel
theorem dX6_takeIn_25 : decode cX6_takeIn 25 = .ok (.ifCond .eq 4, 3) := by decide +kernel
theorem dX6_takeIn_28 : decode cX6_takeIn 28 = .ok (.return_, 1) := by decide +kernel
theorem dX6_takeIn_29 : decode cX6_takeIn 29 = .ok (.iinc 1 1, 3) := by decide +kernel
theorem dX6_takeIn_32 : decode cX6_takeIn 32 = .ok (.goto (-30), 3) := by decide +kernel
theorem dX6_takeIn_35 : decode cX6_takeIn 35 = .ok (.iconst 0, 1) := by decide +kernel
theorem dX6_takeIn_36 : decode cX6_takeIn 36 = .ok (.istore_n 1, 1) := by decide +kernel
theorem dX6_takeIn_37 : decode cX6_takeIn 37 = .ok (.iconst 0, 1) := by decide +kernel
theorem dX6_takeIn_38 : decode cX6_takeIn 38 = .ok (.istore_n 2, 1) := by decide +kernel
theorem dX6_takeIn_39 : decode cX6_takeIn 39 = .ok (.iload_n 2, 1) := by decide +kernel
theorem dX6_takeIn_40 : decode cX6_takeIn 40 = .ok (.aload_n 0, 1) := by decide +kernel
theorem dX6_takeIn_41 : decode cX6_takeIn 41 = .ok (.getfield 80, 3) := by decide +kernel
theorem dX6_takeIn_44 : decode cX6_takeIn 44 = .ok (.if_icmp .ge 63, 3) := by decide +kernel
theorem dX6_takeIn_47 : decode cX6_takeIn 47 = .ok (.aload_n 0, 1) := by decide +kernel
theorem dX6_takeIn_48 : decode cX6_takeIn 48 = .ok (.getfield 36, 3) := by decide +kernel
theorem dX6_takeIn_51 : decode cX6_takeIn 51 = .ok (.iconst 5, 1) := by decide +kernel
theorem dX6_takeIn_52 : decode cX6_takeIn 52 = .ok (.iload_n 2, 1) := by decide +kernel
theorem dX6_takeIn_53 : decode cX6_takeIn 53 = .ok (.imul, 1) := by decide +kernel
theorem dX6_takeIn_54 : decode cX6_takeIn 54 = .ok (.aload_n 0, 1) := by decide +kernel
theorem dX6_takeIn_55 : decode cX6_takeIn 55 = .ok (.getfield 54, 3) := by decide +kernel
theorem dX6_takeIn_58 : decode cX6_takeIn 58 = .ok (.iconst 0, 1) := by decide +kernel
theorem dX6_takeIn_59 : decode cX6_takeIn 59 = .ok (.invokestatic 83, 3) := by decide +kernel
theorem dX6_takeIn_62 : decode cX6_takeIn 62 = .ok (.ifCond .ne 39, 3) := by decide +kernel
theorem dX6_takeIn_65 : decode cX6_takeIn 65 = .ok (.iconst 0, 1) := by decide +kernel
theorem dX6_takeIn_66 : decode cX6_takeIn 66 = .ok (.istore_n 3, 1) := by decide +kernel
theorem dX6_takeIn_67 : decode cX6_takeIn 67 = .ok (.iload_n 3, 1) := by decide +kernel
theorem dX6_takeIn_68 : decode cX6_takeIn 68 = .ok (.iconst 5, 1) := by decide +kernel
theorem dX6_takeIn_69 : decode cX6_takeIn 69 = .ok (.if_icmp .ge 29, 3) := by decide +kernel
theorem dX6_takeIn_72 : decode cX6_takeIn 72 = .ok (.aload_n 0, 1) := by decide +kernel
theorem dX6_takeIn_73 : decode cX6_takeIn 73 = .ok (.getfield 36, 3) := by decide +kernel
theorem dX6_takeIn_76 : decode cX6_takeIn 76 = .ok (.iconst 5, 1) := by decide +kernel
theorem dX6_takeIn_77 : decode cX6_takeIn 77 = .ok (.iload_n 1, 1) := by decide +kernel
theorem dX6_takeIn_78 : decode cX6_takeIn 78 = .ok (.imul, 1) := by decide +kernel
theorem dX6_takeIn_79 : decode cX6_takeIn 79 = .ok (.iload_n 3, 1) := by decide +kernel
theorem dX6_takeIn_80 : decode cX6_takeIn 80 = .ok (.iadd, 1) := by decide +kernel
theorem dX6_takeIn_81 : decode cX6_takeIn 81 = .ok (.aload_n 0, 1) := by decide +kernel
theorem dX6_takeIn_82 : decode cX6_takeIn 82 = .ok (.getfield 36, 3) := by decide +kernel
theorem dX6_takeIn_85 : decode cX6_takeIn 85 = .ok (.iconst 5, 1) := by decide +kernel
theorem dX6_takeIn_86 : decode cX6_takeIn 86 = .ok (.iload_n 2, 1) := by decide +kernel
theorem dX6_takeIn_87 : decode cX6_takeIn 87 = .ok (.imul, 1) := by decide +kernel
theorem dX6_takeIn_88 : decode cX6_takeIn 88 = .ok (.iload_n 3, 1) := by decide +kernel
theorem dX6_takeIn_89 : decode cX6_takeIn 89 = .ok (.iadd, 1) := by decide +kernel
theorem dX6_takeIn_90 : decode cX6_takeIn 90 = .ok (.iaload, 1) := by decide +kernel
theorem dX6_takeIn_91 : decode cX6_takeIn 91 = .ok (.iastore, 1) := by decide +kernel
theorem dX6_takeIn_92 : decode cX6_takeIn 92 = .ok (.iinc 3 1, 3) := by decide +kernel
theorem dX6_takeIn_95 : decode cX6_takeIn 95 = .ok (.goto (-28), 3) := by decide +kernel
theorem dX6_takeIn_98 : decode cX6_takeIn 98 = .ok (.iinc 1 1, 3) := by decide +kernel
theorem dX6_takeIn_101 : decode cX6_takeIn 101 = .ok (.iinc 2 1, 3) := by decide +kernel
theorem dX6_takeIn_104 : decode cX6_takeIn 104 = .ok (.goto (-65), 3) := by decide +kernel
theorem dX6_takeIn_107 : decode cX6_takeIn 107 = .ok (.iconst 0, 1) := by decide +kernel
theorem dX6_takeIn_108 : decode cX6_takeIn 108 = .ok (.istore_n 2, 1) := by decide +kernel
theorem dX6_takeIn_109 : decode cX6_takeIn 109 = .ok (.iload_n 2, 1) := by decide +kernel
theorem dX6_takeIn_110 : decode cX6_takeIn 110 = .ok (.iconst 5, 1) := by decide +kernel
theorem dX6_takeIn_111 : decode cX6_takeIn 111 = .ok (.if_icmp .ge 25, 3) := by decide +kernel
theorem dX6_takeIn_114 : decode cX6_takeIn 114 = .ok (.aload_n 0, 1) := by decide +kernel
theorem dX6_takeIn_115 : decode cX6_takeIn 115 = .ok (.getfield 36, 3) := by decide +kernel
theorem dX6_takeIn_118 : decode cX6_takeIn 118 = .ok (.iconst 5, 1) := by decide +kernel
theorem dX6_takeIn_119 : decode cX6_takeIn 119 = .ok (.iload_n 1, 1) := by decide +kernel
theorem dX6_takeIn_120 : decode cX6_takeIn 120 = .ok (.imul, 1) := by decide +kernel
theorem dX6_takeIn_121 : decode cX6_takeIn 121 = .ok (.iload_n 2, 1) := by decide +kernel
theorem dX6_takeIn_122 : decode cX6_takeIn 122 = .ok (.iadd, 1) := by decide +kernel
theorem dX6_takeIn_123 : decode cX6_takeIn 123 = .ok (.aload_n 0, 1) := by decide +kernel
theorem dX6_takeIn_124 : decode cX6_takeIn 124 = .ok (.getfield 54, 3) := by decide +kernel
theorem dX6_takeIn_127 : decode cX6_takeIn 127 = .ok (.iload_n 2, 1) := by decide +kernel
theorem dX6_takeIn_128 : decode cX6_takeIn 128 = .ok (.iaload, 1) := by decide +kernel
theorem dX6_takeIn_129 : decode cX6_takeIn 129 = .ok (.iastore, 1) := by decide +kernel
theorem dX6_takeIn_130 : decode cX6_takeIn 130 = .ok (.iinc 2 1, 3) := by decide +kernel
theorem dX6_takeIn_133 : decode cX6_takeIn 133 = .ok (.goto (-24), 3) := by decide +kernel
theorem dX6_takeIn_136 : decode cX6_takeIn 136 = .ok (.aload_n 0, 1) := by decide +kernel
theorem dX6_takeIn_137 : decode cX6_takeIn 137 = .ok (.iload_n 1, 1) := by decide +kernel
theorem dX6_takeIn_138 : decode cX6_takeIn 138 = .ok (.iconst 1, 1) := by decide +kernel
theorem dX6_takeIn_139 : decode cX6_takeIn 139 = .ok (.iadd, 1) := by decide +kernel
theorem dX6_takeIn_140 : decode cX6_takeIn 140 = .ok (.putfield 80, 3) := by decide +kernel
theorem dX6_takeIn_143 : decode cX6_takeIn 143 = .ok (.return_, 1) := by decide +kernel
set_option maxRecDepth 20000 in
theorem ggX6_isInRound_X6_tops : GoodIn wsX6_isInRound wsX6_tops := goodIn_r _ [6] (by decide +kernel) (by decide +kernel)
set_option maxRecDepth 20000 in
theorem gX6_isInRound_X6_tops : GoodIn wsX6_isInRound (va_wsS RX6 83 yX6_tops wsX6_tops) := goodIn_app (goodIn_of _ (by decide +kernel)) ggX6_isInRound_X6_tops
theorem dX6_isInRound_0 : decode cX6_isInRound 0 = .ok (.iconst 0, 1) := by decide +kernel
theorem dX6_isInRound_1 : decode cX6_isInRound 1 = .ok (.istore_n 3, 1) := by decide +kernel
theorem dX6_isInRound_2 : decode cX6_isInRound 2 = .ok (.iconst 0, 1) := by decide +kernel
theorem dX6_isInRound_3 : decode cX6_isInRound 3 = .ok (.istore 4, 2) := by decide +kernel
theorem dX6_isInRound_5 : decode cX6_isInRound 5 = .ok (.iload 4, 2) := by decide +kernel
theorem dX6_isInRound_7 : decode cX6_isInRound 7 = .ok (.aload_n 0, 1) := by decide +kernel
theorem dX6_isInRound_8 : decode cX6_isInRound 8 = .ok (.getfield 29, 3) := by decide +kernel
theorem dX6_isInRound_11 : decode cX6_isInRound 11 = .ok (.iload_n 2, 1) := by decide +kernel
theorem dX6_isInRound_12 : decode cX6_isInRound 12 = .ok (.iaload, 1) := by decide +kernel
theorem dX6_isInRound_13 : decode cX6_isInRound 13 = .ok (.if_icmp .ge 41, 3) := by decide +kernel
theorem dX6_isInRound_16 : decode cX6_isInRound 16 = .ok (.iload_n 3, 1) := by decide +kernel
theorem dX6_isInRound_17 : decode cX6_isInRound 17 = .ok (.ifCond .ne 25, 3) := by decide +kernel
theorem dX6_isInRound_20 : decode cX6_isInRound 20 = .ok (.aload_n 1, 1) := by decide +kernel
theorem dX6_isInRound_21 : decode cX6_isInRound 21 = .ok (.iconst 0, 1) := by decide +kernel
theorem dX6_isInRound_22 : decode cX6_isInRound 22 = .ok (.aload_n 0, 1) := by decide +kernel
theorem dX6_isInRound_23 : decode cX6_isInRound 23 = .ok (.getfield 33, 3) := by decide +kernel
theorem dX6_isInRound_26 : decode cX6_isInRound 26 = .ok (.sipush 1000, 3) := by decide +kernel
theorem dX6_isInRound_29 : decode cX6_isInRound 29 = .ok (.iload_n 2, 1) := by decide +kernel
theorem dX6_isInRound_30 : decode cX6_isInRound 30 = .ok (.imul, 1) := by decide +kernel
theorem dX6_isInRound_31 : decode cX6_isInRound 31 = .ok (.iconst 5, 1) := by decide +kernel
theorem dX6_isInRound_32 : decode cX6_isInRound 32 = .ok (.iload 4, 2) := by decide +kernel
theorem dX6_isInRound_34 : decode cX6_isInRound 34 = .ok (.imul, 1) := by decide +kernel
theorem dX6_isInRound_35 : decode cX6_isInRound 35 = .ok (.iadd, 1) := by decide +kernel
theorem dX6_isInRound_36 : decode cX6_isInRound 36 = .ok (.invokestatic 83, 3) := by decide +kernel
theorem dX6_isInRound_39 : decode cX6_isInRound 39 = .ok (.ifCond .eq 7, 3) := by decide +kernel
theorem dX6_isInRound_42 : decode cX6_isInRound 42 = .ok (.iconst 1, 1) := by decide +kernel
theorem dX6_isInRound_43 : decode cX6_isInRound 43 = .ok (.goto 4, 3) := by decide +kernel
theorem dX6_isInRound_46 : decode cX6_isInRound 46 = .ok (.iconst 0, 1) := by decide +kernel
theorem dX6_isInRound_47 : decode cX6_isInRound 47 = .ok (.istore_n 3, 1) := by decide +kernel
theorem dX6_isInRound_48 : decode cX6_isInRound 48 = .ok (.iinc 4 1, 3) := by decide +kernel
theorem dX6_isInRound_51 : decode cX6_isInRound 51 = .ok (.goto (-46), 3) := by decide +kernel
theorem dX6_isInRound_54 : decode cX6_isInRound 54 = .ok (.iload_n 3, 1) := by decide +kernel
theorem dX6_isInRound_55 : decode cX6_isInRound 55 = .ok (.ireturn, 1) := by decide +kernel
set_option maxRecDepth 20000 in
theorem ggX6_isFirstIn_X6_tops : GoodIn wsX6_isFirstIn wsX6_tops := goodIn_r _ [7] (by decide +kernel) (by decide +kernel)
set_option maxRecDepth 20000 in
theorem gX6_isFirstIn_X6_tops : GoodIn wsX6_isFirstIn (va_wsS RX6 83 yX6_tops wsX6_tops) := goodIn_app (goodIn_of _ (by decide +kernel)) ggX6_isFirstIn_X6_tops
theorem dX6_isFirstIn_0 : decode cX6_isFirstIn 0 = .ok (.iconst 0, 1) := by decide +kernel
theorem dX6_isFirstIn_1 : decode cX6_isFirstIn 1 = .ok (.istore_n 1, 1) := by decide +kernel
theorem dX6_isFirstIn_2 : decode cX6_isFirstIn 2 = .ok (.iconst 0, 1) := by decide +kernel
theorem dX6_isFirstIn_3 : decode cX6_isFirstIn 3 = .ok (.istore_n 2, 1) := by decide +kernel
theorem dX6_isFirstIn_4 : decode cX6_isFirstIn 4 = .ok (.iload_n 2, 1) := by decide +kernel
theorem dX6_isFirstIn_5 : decode cX6_isFirstIn 5 = .ok (.aload_n 0, 1) := by decide +kernel
theorem dX6_isFirstIn_6 : decode cX6_isFirstIn 6 = .ok (.getfield 80, 3) := by decide +kernel
theorem dX6_isFirstIn_9 : decode cX6_isFirstIn 9 = .ok (.if_icmp .ge 37, 3) := by decide +kernel
theorem dX6_isFirstIn_12 : decode cX6_isFirstIn 12 = .ok (.iload_n 1, 1) := by decide +kernel
theorem dX6_isFirstIn_13 : decode cX6_isFirstIn 13 = .ok (.ifCond .ne 21, 3) := by decide +kernel
theorem dX6_isFirstIn_16 : decode cX6_isFirstIn 16 = .ok (.aload_n 0, 1) := by decide +kernel
theorem dX6_isFirstIn_17 : decode cX6_isFirstIn 17 = .ok (.getfield 7, 3) := by decide +kernel
theorem dX6_isFirstIn_20 : decode cX6_isFirstIn 20 = .ok (.iconst 0, 1) := by decide +kernel
theorem dX6_isFirstIn_21 : decode cX6_isFirstIn 21 = .ok (.aload_n 0, 1) := by decide +kernel
theorem dX6_isFirstIn_22 : decode cX6_isFirstIn 22 = .ok (.getfield 36, 3) := by decide +kernel
theorem dX6_isFirstIn_25 : decode cX6_isFirstIn 25 = .ok (.iconst 5, 1) := by decide +kernel
theorem dX6_isFirstIn_26 : decode cX6_isFirstIn 26 = .ok (.iload_n 2, 1) := by decide +kernel
theorem dX6_isFirstIn_27 : decode cX6_isFirstIn 27 = .ok (.imul, 1) := by decide +kernel
theorem dX6_isFirstIn_28 : decode cX6_isFirstIn 28 = .ok (.invokestatic 83, 3) := by decide +kernel
theorem dX6_isFirstIn_31 : decode cX6_isFirstIn 31 = .ok (.ifCond .eq 7, 3) := by decide +kernel
theorem dX6_isFirstIn_34 : decode cX6_isFirstIn 34 = .ok (.iconst 1, 1) := by decide +kernel
theorem dX6_isFirstIn_35 : decode cX6_isFirstIn 35 = .ok (.goto 4, 3) := by decide +kernel
theorem dX6_isFirstIn_38 : decode cX6_isFirstIn 38 = .ok (.iconst 0, 1) := by decide +kernel
theorem dX6_isFirstIn_39 : decode cX6_isFirstIn 39 = .ok (.istore_n 1, 1) := by decide +kernel
theorem dX6_isFirstIn_40 : decode cX6_isFirstIn 40 = .ok (.iinc 2 1, 3) := by decide +kernel
theorem dX6_isFirstIn_43 : decode cX6_isFirstIn 43 = .ok (.goto (-39), 3) := by decide +kernel
theorem dX6_isFirstIn_46 : decode cX6_isFirstIn 46 = .ok (.iload_n 1, 1) := by decide +kernel
theorem dX6_isFirstIn_47 : decode cX6_isFirstIn 47 = .ok (.ireturn, 1) := by decide +kernel
set_option maxRecDepth 20000 in
theorem ggX6_step_X6_takeIn : GoodIn wsX6_step wsX6_takeIn := goodIn_r _ [11, 12, 5, 13, 14, 15, 10, 16, 17, 18, 19, 20, 21, 22, 23, 24, 25, 26, 27, 28, 29, 30, 31, 32, 33, 34, 35, 36, 37, 38, 39, 40, 41, 42, 43] (by decide +kernel) (by decide +kernel)
set_option maxRecDepth 20000 in
theorem gX6_step_X6_takeIn : GoodIn wsX6_step (wsV RX6 90 RX6 yX6_takeIn wsX6_takeIn) := goodIn_app (goodIn_of _ (by decide +kernel)) ggX6_step_X6_takeIn
theorem dX6_step_0 : decode cX6_step 0 = .ok (.iconst 0, 1) := by decide +kernel
theorem dX6_step_1 : decode cX6_step 1 = .ok (.istore_n 1, 1) := by decide +kernel
theorem dX6_step_2 : decode cX6_step 2 = .ok (.iload_n 1, 1) := by decide +kernel
theorem dX6_step_3 : decode cX6_step 3 = .ok (.aload_n 0, 1) := by decide +kernel
theorem dX6_step_4 : decode cX6_step 4 = .ok (.getfield 87, 3) := by decide +kernel
theorem dX6_step_7 : decode cX6_step 7 = .ok (.if_icmp .ge 93, 3) := by decide +kernel
theorem dX6_step_10 : decode cX6_step 10 = .ok (.iconst 0, 1) := by decide +kernel
theorem dX6_step_11 : decode cX6_step 11 = .ok (.istore_n 2, 1) := by decide +kernel
theorem dX6_step_12 : decode cX6_step 12 = .ok (.iload_n 2, 1) := by decide +kernel
theorem dX6_step_13 : decode cX6_step 13 = .ok (.aload_n 0, 1) := by decide +kernel
theorem dX6_step_14 : decode cX6_step 14 = .ok (.getfield 63, 3) := by decide +kernel
theorem dX6_step_17 : decode cX6_step 17 = .ok (.if_icmp .ge 77, 3) := by decide +kernel
theorem dX6_step_20 : decode cX6_step 20 = .ok (.iconst 0, 1) := by decide +kernel
theorem dX6_step_21 : decode cX6_step 21 = .ok (.istore_n 3, 1) := by decide +kernel
theorem dX6_step_22 : decode cX6_step 22 = .ok (.iload_n 3, 1) := by decide +kernel
theorem dX6_step_23 : decode cX6_step 23 = .ok (.iconst 5, 1) := by decide +kernel
theorem dX6_step_24 : decode cX6_step 24 = .ok (.if_icmp .ge 60, 3) := by decide +kernel
theorem dX6_step_27 : decode cX6_step 27 = .ok (.aload_n 0, 1) := by decide +kernel
theorem dX6_step_28 : decode cX6_step 28 = .ok (.getfield 39, 3) := by decide +kernel
theorem dX6_step_31 : decode cX6_step 31 = .ok (.iconst 5, 1) := by decide +kernel
theorem dX6_step_32 : decode cX6_step 32 = .ok (.iload_n 1, 1) := by decide +kernel
theorem dX6_step_33 : decode cX6_step 33 = .ok (.imul, 1) := by decide +kernel
theorem dX6_step_34 : decode cX6_step 34 = .ok (.iload_n 3, 1) := by decide +kernel
theorem dX6_step_35 : decode cX6_step 35 = .ok (.iadd, 1) := by decide +kernel
theorem dX6_step_36 : decode cX6_step 36 = .ok (.iaload, 1) := by decide +kernel
theorem dX6_step_37 : decode cX6_step 37 = .ok (.aload_n 0, 1) := by decide +kernel
theorem dX6_step_38 : decode cX6_step 38 = .ok (.getfield 19, 3) := by decide +kernel
theorem dX6_step_41 : decode cX6_step 41 = .ok (.iconst 5, 1) := by decide +kernel
theorem dX6_step_42 : decode cX6_step 42 = .ok (.iload_n 2, 1) := by decide +kernel
theorem dX6_step_43 : decode cX6_step 43 = .ok (.imul, 1) := by decide +kernel
theorem dX6_step_44 : decode cX6_step 44 = .ok (.iload_n 3, 1) := by decide +kernel
theorem dX6_step_45 : decode cX6_step 45 = .ok (.iadd, 1) := by decide +kernel
theorem dX6_step_46 : decode cX6_step 46 = .ok (.iaload, 1) := by decide +kernel
theorem dX6_step_47 : decode cX6_step 47 = .ok (.isub, 1) := by decide +kernel
theorem dX6_step_48 : decode cX6_step 48 = .ok (.istore 4, 2) := by decide +kernel
theorem dX6_step_50 : decode cX6_step 50 = .ok (.aload_n 0, 1) := by decide +kernel
theorem dX6_step_51 : decode cX6_step 51 = .ok (.getfield 54, 3) := by decide +kernel
theorem dX6_step_54 : decode cX6_step 54 = .ok (.iload_n 3, 1) := by decide +kernel
theorem dX6_step_55 : decode cX6_step 55 = .ok (.aload_n 0, 1) := by decide +kernel
theorem dX6_step_56 : decode cX6_step 56 = .ok (.getfield 16, 3) := by decide +kernel
theorem dX6_step_59 : decode cX6_step 59 = .ok (.iconst 5, 1) := by decide +kernel
theorem dX6_step_60 : decode cX6_step 60 = .ok (.iload_n 2, 1) := by decide +kernel
theorem dX6_step_61 : decode cX6_step 61 = .ok (.imul, 1) := by decide +kernel
theorem dX6_step_62 : decode cX6_step 62 = .ok (.iload_n 3, 1) := by decide +kernel
theorem dX6_step_63 : decode cX6_step 63 = .ok (.iadd, 1) := by decide +kernel
theorem dX6_step_64 : decode cX6_step 64 = .ok (.iaload, 1) := by decide +kernel
theorem dX6_step_65 : decode cX6_step 65 = .ok (.iload 4, 2) := by decide +kernel
theorem dX6_step_67 : decode cX6_step 67 = .ok (.ifCond .le 8, 3) := by decide +kernel
theorem dX6_step_70 : decode cX6_step 70 = .ok (.iload 4, 2) := by decide +kernel
theorem dX6_step_72 : decode cX6_step 72 = .ok (.goto 4, 3) := by decide +kernel
theorem dX6_step_75 : decode cX6_step 75 = .ok (.iconst 0, 1) := by decide +kernel
theorem dX6_step_76 : decode cX6_step 76 = .ok (.iadd, 1) := by decide +kernel
theorem dX6_step_77 : decode cX6_step 77 = .ok (.iastore, 1) := by decide +kernel
theorem dX6_step_78 : decode cX6_step 78 = .ok (.iinc 3 1, 3) := by decide +kernel
theorem dX6_step_81 : decode cX6_step 81 = .ok (.goto (-59), 3) := by decide +kernel
theorem dX6_step_84 : decode cX6_step 84 = .ok (.aload_n 0, 1) := by decide +kernel
theorem dX6_step_85 : decode cX6_step 85 = .ok (.invokevirtual 90, 3) := by decide +kernel
theorem dX6_step_88 : decode cX6_step 88 = .ok (.iinc 2 1, 3) := by decide +kernel
theorem dX6_step_91 : decode cX6_step 91 = .ok (.goto (-79), 3) := by decide +kernel
theorem dX6_step_94 : decode cX6_step 94 = .ok (.iinc 1 1, 3) := by decide +kernel
theorem dX6_step_97 : decode cX6_step 97 = .ok (.goto (-95), 3) := by decide +kernel
theorem dX6_step_100 : decode cX6_step 100 = .ok (.return_, 1) := by decide +kernel
set_option maxRecDepth 20000 in
theorem ggX6_isSame_X6_tops : GoodIn wsX6_isSame wsX6_tops := goodIn_r _ [8] (by decide +kernel) (by decide +kernel)
set_option maxRecDepth 20000 in
theorem gX6_isSame_X6_tops : GoodIn wsX6_isSame (va_wsS RX6 83 yX6_tops wsX6_tops) := goodIn_app (goodIn_of _ (by decide +kernel)) ggX6_isSame_X6_tops
theorem dX6_isSame_0 : decode cX6_isSame 0 = .ok (.aload_n 0, 1) := by decide +kernel
theorem dX6_isSame_1 : decode cX6_isSame 1 = .ok (.getfield 80, 3) := by decide +kernel
theorem dX6_isSame_4 : decode cX6_isSame 4 = .ok (.aload_n 0, 1) := by decide +kernel
theorem dX6_isSame_5 : decode cX6_isSame 5 = .ok (.getfield 87, 3) := by decide +kernel
theorem dX6_isSame_8 : decode cX6_isSame 8 = .ok (.if_icmp .ne 7, 3) := by decide +kernel
theorem dX6_isSame_11 : decode cX6_isSame 11 = .ok (.iconst 1, 1) := by decide +kernel
theorem dX6_isSame_12 : decode cX6_isSame 12 = .ok (.goto 4, 3) := by decide +kernel
theorem dX6_isSame_15 : decode cX6_isSame 15 = .ok (.iconst 0, 1) := by decide +kernel
theorem dX6_isSame_16 : decode cX6_isSame 16 = .ok (.istore_n 1, 1) := by decide +kernel
theorem dX6_isSame_17 : decode cX6_isSame 17 = .ok (.iconst 0, 1) := by decide +kernel
theorem dX6_isSame_18 : decode cX6_isSame 18 = .ok (.istore_n 2, 1) := by decide +kernel
theorem dX6_isSame_19 : decode cX6_isSame 19 = .ok (.iload_n 2, 1) := by decide +kernel
theorem dX6_isSame_20 : decode cX6_isSame 20 = .ok (.aload_n 0, 1) := by decide +kernel
theorem dX6_isSame_21 : decode cX6_isSame 21 = .ok (.getfield 80, 3) := by decide +kernel
theorem dX6_isSame_24 : decode cX6_isSame 24 = .ok (.if_icmp .ge 66, 3) := by decide +kernel
theorem dX6_isSame_27 : decode cX6_isSame 27 = .ok (.iload_n 1, 1) := by decide +kernel
theorem dX6_isSame_28 : decode cX6_isSame 28 = .ok (.ifCond .eq 62, 3) := by decide +kernel
theorem dX6_isSame_31 : decode cX6_isSame 31 = .ok (.iconst 0, 1) := by decide +kernel
theorem dX6_isSame_32 : decode cX6_isSame 32 = .ok (.istore_n 3, 1) := by decide +kernel
theorem dX6_isSame_33 : decode cX6_isSame 33 = .ok (.iconst 0, 1) := by decide +kernel
theorem dX6_isSame_34 : decode cX6_isSame 34 = .ok (.istore 4, 2) := by decide +kernel
theorem dX6_isSame_36 : decode cX6_isSame 36 = .ok (.iload 4, 2) := by decide +kernel
theorem dX6_isSame_38 : decode cX6_isSame 38 = .ok (.aload_n 0, 1) := by decide +kernel
theorem dX6_isSame_39 : decode cX6_isSame 39 = .ok (.getfield 87, 3) := by decide +kernel
theorem dX6_isSame_42 : decode cX6_isSame 42 = .ok (.if_icmp .ge 40, 3) := by decide +kernel
theorem dX6_isSame_45 : decode cX6_isSame 45 = .ok (.iload_n 3, 1) := by decide +kernel
theorem dX6_isSame_46 : decode cX6_isSame 46 = .ok (.ifCond .ne 24, 3) := by decide +kernel
theorem dX6_isSame_49 : decode cX6_isSame 49 = .ok (.aload_n 0, 1) := by decide +kernel
theorem dX6_isSame_50 : decode cX6_isSame 50 = .ok (.getfield 36, 3) := by decide +kernel
theorem dX6_isSame_53 : decode cX6_isSame 53 = .ok (.iconst 5, 1) := by decide +kernel
theorem dX6_isSame_54 : decode cX6_isSame 54 = .ok (.iload_n 2, 1) := by decide +kernel
theorem dX6_isSame_55 : decode cX6_isSame 55 = .ok (.imul, 1) := by decide +kernel
theorem dX6_isSame_56 : decode cX6_isSame 56 = .ok (.aload_n 0, 1) := by decide +kernel
theorem dX6_isSame_57 : decode cX6_isSame 57 = .ok (.getfield 39, 3) := by decide +kernel
theorem dX6_isSame_60 : decode cX6_isSame 60 = .ok (.iconst 5, 1) := by decide +kernel
theorem dX6_isSame_61 : decode cX6_isSame 61 = .ok (.iload 4, 2) := by decide +kernel
theorem dX6_isSame_63 : decode cX6_isSame 63 = .ok (.imul, 1) := by decide +kernel
theorem dX6_isSame_64 : decode cX6_isSame 64 = .ok (.invokestatic 83, 3) := by decide +kernel
theorem dX6_isSame_67 : decode cX6_isSame 67 = .ok (.ifCond .eq 7, 3) := by decide +kernel
theorem dX6_isSame_70 : decode cX6_isSame 70 = .ok (.iconst 1, 1) := by decide +kernel
theorem dX6_isSame_71 : decode cX6_isSame 71 = .ok (.goto 4, 3) := by decide +kernel
theorem dX6_isSame_74 : decode cX6_isSame 74 = .ok (.iconst 0, 1) := by decide +kernel
theorem dX6_isSame_75 : decode cX6_isSame 75 = .ok (.istore_n 3, 1) := by decide +kernel
theorem dX6_isSame_76 : decode cX6_isSame 76 = .ok (.iinc 4 1, 3) := by decide +kernel
theorem dX6_isSame_79 : decode cX6_isSame 79 = .ok (.goto (-43), 3) := by decide +kernel
theorem dX6_isSame_82 : decode cX6_isSame 82 = .ok (.iload_n 3, 1) := by decide +kernel
theorem dX6_isSame_83 : decode cX6_isSame 83 = .ok (.istore_n 1, 1) := by decide +kernel
theorem dX6_isSame_84 : decode cX6_isSame 84 = .ok (.iinc 2 1, 3) := by decide +kernel
theorem dX6_isSame_87 : decode cX6_isSame 87 = .ok (.goto (-68), 3) := by decide +kernel
theorem dX6_isSame_90 : decode cX6_isSame 90 = .ok (.iload_n 1, 1) := by decide +kernel
theorem dX6_isSame_91 : decode cX6_isSame 91 = .ok (.ireturn, 1) := by decide +kernel
set_option maxRecDepth 20000 in
theorem ggX6_rounds_X6_takeIn : GoodIn wsX6_rounds wsX6_takeIn := goodIn_r _ [17, 3, 4, 8, 18, 19, 16, 20, 59, 60, 61, 62, 63, 64, 65, 66, 67, 68, 69, 70, 71, 72, 73, 74, 75, 76, 77, 78, 79, 80, 81, 82, 83, 84, 85] (by decide +kernel) (by decide +kernel)
set_option maxRecDepth 20000 in
theorem gX6_rounds_X6_takeIn : GoodIn wsX6_rounds (wsV RX6 90 RX6 yX6_takeIn wsX6_takeIn) := goodIn_app (goodIn_of _ (by decide +kernel)) ggX6_rounds_X6_takeIn
set_option maxRecDepth 20000 in
theorem ggX6_rounds_X6_isFirstIn : GoodIn wsX6_rounds wsX6_isFirstIn := goodIn_r _ [24, 3, 25, 8, 18, 19, 16, 20, 59, 60, 61, 62, 63, 64, 65, 66, 67, 68, 69, 70, 71, 72, 73, 74, 75, 76, 77, 78, 79, 80, 81, 82, 83, 84, 85] (by decide +kernel) (by decide +kernel)
set_option maxRecDepth 20000 in
theorem gX6_rounds_X6_isFirstIn : GoodIn wsX6_rounds (wsV RX6 99 RX6 yX6_isFirstIn wsX6_isFirstIn) := goodIn_app (goodIn_of _ (by decide +kernel)) ggX6_rounds_X6_isFirstIn
set_option maxRecDepth 20000 in
theorem ggX6_rounds_X6_isSame : GoodIn wsX6_rounds wsX6_isSame := goodIn_r _ [29, 3, 11, 8, 10, 18, 19, 16, 20, 59, 60, 61, 62, 63, 64, 65, 66, 67, 68, 69, 70, 71, 72, 73, 74, 75, 76, 77, 78, 79, 80, 81, 82, 83, 84, 85] (by decide +kernel) (by decide +kernel)
set_option maxRecDepth 20000 in
theorem gX6_rounds_X6_isSame : GoodIn wsX6_rounds (wsV RX6 103 RX6 yX6_isSame wsX6_isSame) := goodIn_app (goodIn_of _ (by decide +kernel)) ggX6_rounds_X6_isSame
set_option maxRecDepth 20000 in
theorem ggX6_rounds_X6_step : GoodIn wsX6_rounds wsX6_step := goodIn_r _ [33, 11, 34, 10, 35, 4, 36, 13, 14, 15, 16, 17, 3, 8, 18, 19, 20, 59, 60, 61, 62, 63, 64, 65, 66, 67, 68, 69, 70, 71, 72, 73, 74, 75, 76, 77, 78, 79, 80, 81, 82, 83, 84, 85] (by decide +kernel) (by decide +kernel)
set_option maxRecDepth 20000 in
theorem gX6_rounds_X6_step : GoodIn wsX6_rounds (wsV RX6 106 RX6 yX6_step wsX6_step) := goodIn_app (goodIn_of _ (by decide +kernel)) ggX6_rounds_X6_step
set_option maxRecDepth 20000 in
theorem ggX6_rounds_X6_tellRow : GoodIn wsX6_rounds wsX6_tellRow := goodIn_r _ [40, 41, 25, 9, 42, 35, 36, 43, 44, 45, 16, 46, 4, 47, 48, 49, 50, 51, 52, 53, 54, 34, 18, 19, 20, 55, 56, 57, 58, 6, 7, 59, 60, 61, 62, 63, 64, 65, 66, 67, 68, 69, 70, 71, 72, 73, 74, 75, 76, 77, 78, 79, 80, 81, 82, 83, 84, 85] (by decide +kernel) (by decide +kernel)
set_option maxRecDepth 20000 in
theorem gX6_rounds_X6_tellRow : GoodIn wsX6_rounds (wsV RX6 109 RX6 yX6_tellRow wsX6_tellRow) := goodIn_app (goodIn_of _ (by decide +kernel)) ggX6_rounds_X6_tellRow
theorem dX6_rounds_0 : decode cX6_rounds 0 = .ok (.aload_n 0, 1) := by decide +kernel
theorem dX6_rounds_1 : decode cX6_rounds 1 = .ok (.aload_n 0, 1) := by decide +kernel
theorem dX6_rounds_2 : decode cX6_rounds 2 = .ok (.getfield 60, 3) := by decide +kernel
theorem dX6_rounds_5 : decode cX6_rounds 5 = .ok (.putfield 93, 3) := by decide +kernel
theorem dX6_rounds_8 : decode cX6_rounds 8 = .ok (.aload_n 0, 1) := by decide +kernel
theorem dX6_rounds_9 : decode cX6_rounds 9 = .ok (.iconst 0, 1) := by decide +kernel
theorem dX6_rounds_10 : decode cX6_rounds 10 = .ok (.putfield 80, 3) := by decide +kernel
theorem dX6_rounds_13 : decode cX6_rounds 13 = .ok (.iconst 0, 1) := by decide +kernel
theorem dX6_rounds_14 : decode cX6_rounds 14 = .ok (.istore_n 1, 1) := by decide +kernel
theorem dX6_rounds_15 : decode cX6_rounds 15 = .ok (.iload_n 1, 1) := by decide +kernel
theorem dX6_rounds_16 : decode cX6_rounds 16 = .ok (.iconst 5, 1) := by decide +kernel
theorem dX6_rounds_17 : decode cX6_rounds 17 = .ok (.if_icmp .ge 33, 3) := by decide +kernel
theorem dX6_rounds_20 : decode cX6_rounds 20 = .ok (.aload_n 0, 1) := by decide +kernel
theorem dX6_rounds_21 : decode cX6_rounds 21 = .ok (.getfield 54, 3) := by decide +kernel
theorem dX6_rounds_24 : decode cX6_rounds 24 = .ok (.iload_n 1, 1) := by decide +kernel
theorem dX6_rounds_25 : decode cX6_rounds 25 = .ok (.iload_n 1, 1) := by decide +kernel
theorem dX6_rounds_26 : decode cX6_rounds 26 = .ok (.aload_n 0, 1) := by decide +kernel
theorem dX6_rounds_27 : decode cX6_rounds 27 = .ok (.getfield 60, 3) := by decide +kernel
theorem dX6_rounds_30 : decode cX6_rounds 30 = .ok (.if_icmp .ge 12, 3) := by decide +kernel
theorem dX6_rounds_33 : decode cX6_rounds 33 = .ok (.aload_n 0, 1) := by decide +kernel
theorem dX6_rounds_34 : decode cX6_rounds 34 = .ok (.getfield 13, 3) := by decide +kernel
theorem dX6_rounds_37 : decode cX6_rounds 37 = .ok (.iload_n 1, 1) := by decide +kernel
theorem dX6_rounds_38 : decode cX6_rounds 38 = .ok (.iaload, 1) := by decide +kernel
theorem dX6_rounds_39 : decode cX6_rounds 39 = .ok (.goto 4, 3) := by decide +kernel
theorem dX6_rounds_42 : decode cX6_rounds 42 = .ok (.iconst 0, 1) := by decide +kernel
theorem dX6_rounds_43 : decode cX6_rounds 43 = .ok (.iastore, 1) := by decide +kernel
theorem dX6_rounds_44 : decode cX6_rounds 44 = .ok (.iinc 1 1, 3) := by decide +kernel
theorem dX6_rounds_47 : decode cX6_rounds 47 = .ok (.goto (-32), 3) := by decide +kernel
theorem dX6_rounds_50 : decode cX6_rounds 50 = .ok (.aload_n 0, 1) := by decide +kernel
