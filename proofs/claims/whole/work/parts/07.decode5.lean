theorem dX6_isBefore_35 : decode cX6_isBefore 35 = .ok (.iload 4, 2) := by decide +kernel
theorem dX6_isBefore_37 : decode cX6_isBefore 37 = .ok (.ifCond .ge 7, 3) := by decide +kernel
theorem dX6_isBefore_40 : decode cX6_isBefore 40 = .ok (.iconst 1, 1) := by decide +kernel
theorem dX6_isBefore_41 : decode cX6_isBefore 41 = .ok (.goto 4, 3) := by decide +kernel
theorem dX6_isBefore_44 : decode cX6_isBefore 44 = .ok (.iconst 0, 1) := by decide +kernel
theorem dX6_isBefore_45 : decode cX6_isBefore 45 = .ok (.ireturn, 1) := by decide +kernel
theorem dX6_isBefore_46 : decode cX6_isBefore 46 = .ok (.iinc 3 1, 3) := by decide +kernel
theorem dX6_isBefore_49 : decode cX6_isBefore 49 = .ok (.goto (-47), 3) := by decide +kernel
theorem dX6_isBefore_52 : decode cX6_isBefore 52 = .ok (.iconst 0, 1) := by decide +kernel
theorem dX6_isBefore_53 : decode cX6_isBefore 53 = .ok (.ireturn, 1) := by decide +kernel
theorem dX6_told_0 : decode cX6_told 0 = .ok (.iload_n 0, 1) := by decide +kernel
theorem dX6_told_1 : decode cX6_told 1 = .ok (.ldc 123, 2) := by decide +kernel
theorem dX6_told_3 : decode cX6_told 3 = .ok (.if_icmp .ne 8, 3) := by decide +kernel
theorem dX6_told_6 : decode cX6_told 6 = .ok (.bipush (-2), 2) := by decide +kernel
theorem dX6_told_8 : decode cX6_told 8 = .ok (.goto 4, 3) := by decide +kernel
theorem dX6_told_11 : decode cX6_told 11 = .ok (.iload_n 0, 1) := by decide +kernel
theorem dX6_told_12 : decode cX6_told 12 = .ok (.ireturn, 1) := by decide +kernel
theorem dX6_isGrownPlace_0 : decode cX6_isGrownPlace 0 = .ok (.aload_n 0, 1) := by decide +kernel
theorem dX6_isGrownPlace_1 : decode cX6_isGrownPlace 1 = .ok (.getfield 124, 3) := by decide +kernel
theorem dX6_isGrownPlace_4 : decode cX6_isGrownPlace 4 = .ok (.ifCond .eq 19, 3) := by decide +kernel
theorem dX6_isGrownPlace_7 : decode cX6_isGrownPlace 7 = .ok (.iload_n 1, 1) := by decide +kernel
theorem dX6_isGrownPlace_8 : decode cX6_isGrownPlace 8 = .ok (.ifCond .lt 15, 3) := by decide +kernel
theorem dX6_isGrownPlace_11 : decode cX6_isGrownPlace 11 = .ok (.iload_n 1, 1) := by decide +kernel
theorem dX6_isGrownPlace_12 : decode cX6_isGrownPlace 12 = .ok (.aload_n 0, 1) := by decide +kernel
theorem dX6_isGrownPlace_13 : decode cX6_isGrownPlace 13 = .ok (.getfield 138, 3) := by decide +kernel
theorem dX6_isGrownPlace_16 : decode cX6_isGrownPlace 16 = .ok (.if_icmp .ge 7, 3) := by decide +kernel
theorem dX6_isGrownPlace_19 : decode cX6_isGrownPlace 19 = .ok (.iconst 1, 1) := by decide +kernel
theorem dX6_isGrownPlace_20 : decode cX6_isGrownPlace 20 = .ok (.goto 4, 3) := by decide +kernel
theorem dX6_isGrownPlace_23 : decode cX6_isGrownPlace 23 = .ok (.iconst 0, 1) := by decide +kernel
theorem dX6_isGrownPlace_24 : decode cX6_isGrownPlace 24 = .ok (.ireturn, 1) := by decide +kernel
set_option maxRecDepth 20000 in
theorem ggX6_most_X6_isGrownPlace : GoodIn wsX6_most wsX6_isGrownPlace := goodIn_r _ [7, 8, 9, 14, 15, 16, 17, 18, 19, 20, 21, 22, 23, 24, 25, 26, 27, 28, 29, 30, 31, 32, 33, 34, 35, 36, 37, 38, 39, 40] (by decide +kernel) (by decide +kernel)
set_option maxRecDepth 20000 in
theorem gX6_most_X6_isGrownPlace : GoodIn wsX6_most (wsV RX6 153 RX6 yX6_isGrownPlace wsX6_isGrownPlace) := goodIn_app (goodIn_of _ (by decide +kernel)) ggX6_most_X6_isGrownPlace
set_option maxRecDepth 20000 in
theorem ggX6_most_X6_told : GoodIn wsX6_most wsX6_told := goodIn_r _ [12, 13] (by decide +kernel) (by decide +kernel)
set_option maxRecDepth 20000 in
theorem gX6_most_X6_told : GoodIn wsX6_most (va_wsS RX6 156 yX6_told wsX6_told) := goodIn_app (goodIn_of _ (by decide +kernel)) ggX6_most_X6_told
theorem dX6_most_0 : decode cX6_most 0 = .ok (.aload_n 0, 1) := by decide +kernel
theorem dX6_most_1 : decode cX6_most 1 = .ok (.iload_n 1, 1) := by decide +kernel
theorem dX6_most_2 : decode cX6_most 2 = .ok (.invokevirtual 153, 3) := by decide +kernel
theorem dX6_most_5 : decode cX6_most 5 = .ok (.ifCond .ne 5, 3) := by decide +kernel
theorem dX6_most_8 : decode cX6_most 8 = .ok (.iconst (-1), 1) := by decide +kernel
theorem dX6_most_9 : decode cX6_most 9 = .ok (.ireturn, 1) := by decide +kernel
theorem dX6_most_10 : decode cX6_most 10 = .ok (.iconst 0, 1) := by decide +kernel
theorem dX6_most_11 : decode cX6_most 11 = .ok (.istore_n 2, 1) := by decide +kernel
theorem dX6_most_12 : decode cX6_most 12 = .ok (.iconst 0, 1) := by decide +kernel
theorem dX6_most_13 : decode cX6_most 13 = .ok (.istore_n 3, 1) := by decide +kernel
theorem dX6_most_14 : decode cX6_most 14 = .ok (.iload_n 3, 1) := by decide +kernel
theorem dX6_most_15 : decode cX6_most 15 = .ok (.aload_n 0, 1) := by decide +kernel
theorem dX6_most_16 : decode cX6_most 16 = .ok (.getfield 128, 3) := by decide +kernel
theorem dX6_most_19 : decode cX6_most 19 = .ok (.if_icmp .ge 38, 3) := by decide +kernel
theorem dX6_most_22 : decode cX6_most 22 = .ok (.aload_n 0, 1) := by decide +kernel
theorem dX6_most_23 : decode cX6_most 23 = .ok (.getfield 45, 3) := by decide +kernel
theorem dX6_most_26 : decode cX6_most 26 = .ok (.iconst 5, 1) := by decide +kernel
theorem dX6_most_27 : decode cX6_most 27 = .ok (.iload_n 3, 1) := by decide +kernel
theorem dX6_most_28 : decode cX6_most 28 = .ok (.imul, 1) := by decide +kernel
theorem dX6_most_29 : decode cX6_most 29 = .ok (.iload_n 1, 1) := by decide +kernel
theorem dX6_most_30 : decode cX6_most 30 = .ok (.iadd, 1) := by decide +kernel
theorem dX6_most_31 : decode cX6_most 31 = .ok (.iaload, 1) := by decide +kernel
theorem dX6_most_32 : decode cX6_most 32 = .ok (.iload_n 2, 1) := by decide +kernel
theorem dX6_most_33 : decode cX6_most 33 = .ok (.if_icmp .le 16, 3) := by decide +kernel
theorem dX6_most_36 : decode cX6_most 36 = .ok (.aload_n 0, 1) := by decide +kernel
theorem dX6_most_37 : decode cX6_most 37 = .ok (.getfield 45, 3) := by decide +kernel
theorem dX6_most_40 : decode cX6_most 40 = .ok (.iconst 5, 1) := by decide +kernel
theorem dX6_most_41 : decode cX6_most 41 = .ok (.iload_n 3, 1) := by decide +kernel
theorem dX6_most_42 : decode cX6_most 42 = .ok (.imul, 1) := by decide +kernel
theorem dX6_most_43 : decode cX6_most 43 = .ok (.iload_n 1, 1) := by decide +kernel
theorem dX6_most_44 : decode cX6_most 44 = .ok (.iadd, 1) := by decide +kernel
theorem dX6_most_45 : decode cX6_most 45 = .ok (.iaload, 1) := by decide +kernel
theorem dX6_most_46 : decode cX6_most 46 = .ok (.goto 4, 3) := by decide +kernel
theorem dX6_most_49 : decode cX6_most 49 = .ok (.iload_n 2, 1) := by decide +kernel
theorem dX6_most_50 : decode cX6_most 50 = .ok (.istore_n 2, 1) := by decide +kernel
theorem dX6_most_51 : decode cX6_most 51 = .ok (.iinc 3 1, 3) := by decide +kernel
theorem dX6_most_54 : decode cX6_most 54 = .ok (.goto (-40), 3) := by decide +kernel
theorem dX6_most_57 : decode cX6_most 57 = .ok (.iload_n 2, 1) := by decide +kernel
theorem dX6_most_58 : decode cX6_most 58 = .ok (.invokestatic 156, 3) := by decide +kernel
theorem dX6_most_61 : decode cX6_most 61 = .ok (.ireturn, 1) := by decide +kernel
theorem dX6_live_0 : decode cX6_live 0 = .ok (.aload_n 0, 1) := by decide +kernel
theorem dX6_live_1 : decode cX6_live 1 = .ok (.getfield 124, 3) := by decide +kernel
theorem dX6_live_4 : decode cX6_live 4 = .ok (.ifCond .eq 29, 3) := by decide +kernel
theorem dX6_live_7 : decode cX6_live 7 = .ok (.iload_n 1, 1) := by decide +kernel
theorem dX6_live_8 : decode cX6_live 8 = .ok (.ifCond .lt 25, 3) := by decide +kernel
theorem dX6_live_11 : decode cX6_live 11 = .ok (.iload_n 1, 1) := by decide +kernel
theorem dX6_live_12 : decode cX6_live 12 = .ok (.bipush 6, 2) := by decide +kernel
theorem dX6_live_14 : decode cX6_live 14 = .ok (.if_icmp .ge 19, 3) := by decide +kernel
theorem dX6_live_17 : decode cX6_live 17 = .ok (.aload_n 0, 1) := by decide +kernel
theorem dX6_live_18 : decode cX6_live 18 = .ok (.getfield 144, 3) := by decide +kernel
theorem dX6_live_21 : decode cX6_live 21 = .ok (.iload_n 1, 1) := by decide +kernel
theorem dX6_live_22 : decode cX6_live 22 = .ok (.ishr, 1) := by decide +kernel
theorem dX6_live_23 : decode cX6_live 23 = .ok (.iconst 1, 1) := by decide +kernel
theorem dX6_live_24 : decode cX6_live 24 = .ok (.iand, 1) := by decide +kernel
theorem dX6_live_25 : decode cX6_live 25 = .ok (.iconst 1, 1) := by decide +kernel
theorem dX6_live_26 : decode cX6_live 26 = .ok (.if_icmp .ne 7, 3) := by decide +kernel
theorem dX6_live_29 : decode cX6_live 29 = .ok (.iconst 1, 1) := by decide +kernel
theorem dX6_live_30 : decode cX6_live 30 = .ok (.goto 4, 3) := by decide +kernel
theorem dX6_live_33 : decode cX6_live 33 = .ok (.iconst 0, 1) := by decide +kernel
theorem dX6_live_34 : decode cX6_live 34 = .ok (.ireturn, 1) := by decide +kernel
theorem dX6_limits_0 : decode cX6_limits 0 = .ok (.aload_n 0, 1) := by decide +kernel
theorem dX6_limits_1 : decode cX6_limits 1 = .ok (.getfield 124, 3) := by decide +kernel
theorem dX6_limits_4 : decode cX6_limits 4 = .ok (.ifCond .eq 10, 3) := by decide +kernel
theorem dX6_limits_7 : decode cX6_limits 7 = .ok (.aload_n 0, 1) := by decide +kernel
theorem dX6_limits_8 : decode cX6_limits 8 = .ok (.getfield 147, 3) := by decide +kernel
theorem dX6_limits_11 : decode cX6_limits 11 = .ok (.goto 4, 3) := by decide +kernel
theorem dX6_limits_14 : decode cX6_limits 14 = .ok (.iconst (-1), 1) := by decide +kernel
theorem dX6_limits_15 : decode cX6_limits 15 = .ok (.ireturn, 1) := by decide +kernel
set_option maxRecDepth 20000 in
theorem ggX6_limit_X6_isGrownPlace : GoodIn wsX6_limit wsX6_isGrownPlace := goodIn_r _ [8, 9, 10, 15, 16, 17, 18, 19, 20, 21, 22, 23, 24, 25, 26, 27, 28, 29, 30, 31, 32, 33, 34, 35, 36, 37, 38, 39, 40, 41] (by decide +kernel) (by decide +kernel)
set_option maxRecDepth 20000 in
theorem gX6_limit_X6_isGrownPlace : GoodIn wsX6_limit (wsV RX6 153 RX6 yX6_isGrownPlace wsX6_isGrownPlace) := goodIn_app (goodIn_of _ (by decide +kernel)) ggX6_limit_X6_isGrownPlace
set_option maxRecDepth 20000 in
theorem ggX6_limit_X6_told : GoodIn wsX6_limit wsX6_told := goodIn_r _ [13, 14] (by decide +kernel) (by decide +kernel)
set_option maxRecDepth 20000 in
theorem gX6_limit_X6_told : GoodIn wsX6_limit (va_wsS RX6 156 yX6_told wsX6_told) := goodIn_app (goodIn_of _ (by decide +kernel)) ggX6_limit_X6_told
theorem dX6_limit_0 : decode cX6_limit 0 = .ok (.aload_n 0, 1) := by decide +kernel
theorem dX6_limit_1 : decode cX6_limit 1 = .ok (.iload_n 2, 1) := by decide +kernel
theorem dX6_limit_2 : decode cX6_limit 2 = .ok (.invokevirtual 153, 3) := by decide +kernel
theorem dX6_limit_5 : decode cX6_limit 5 = .ok (.ifCond .eq 36, 3) := by decide +kernel
theorem dX6_limit_8 : decode cX6_limit 8 = .ok (.iload_n 1, 1) := by decide +kernel
theorem dX6_limit_9 : decode cX6_limit 9 = .ok (.ifCond .lt 32, 3) := by decide +kernel
theorem dX6_limit_12 : decode cX6_limit 12 = .ok (.iload_n 1, 1) := by decide +kernel
theorem dX6_limit_13 : decode cX6_limit 13 = .ok (.aload_n 0, 1) := by decide +kernel
theorem dX6_limit_14 : decode cX6_limit 14 = .ok (.getfield 147, 3) := by decide +kernel
theorem dX6_limit_17 : decode cX6_limit 17 = .ok (.if_icmp .ge 24, 3) := by decide +kernel
theorem dX6_limit_20 : decode cX6_limit 20 = .ok (.aload_n 0, 1) := by decide +kernel
theorem dX6_limit_21 : decode cX6_limit 21 = .ok (.getfield 45, 3) := by decide +kernel
theorem dX6_limit_24 : decode cX6_limit 24 = .ok (.iconst 5, 1) := by decide +kernel
theorem dX6_limit_25 : decode cX6_limit 25 = .ok (.aload_n 0, 1) := by decide +kernel
theorem dX6_limit_26 : decode cX6_limit 26 = .ok (.getfield 51, 3) := by decide +kernel
theorem dX6_limit_29 : decode cX6_limit 29 = .ok (.iload_n 1, 1) := by decide +kernel
theorem dX6_limit_30 : decode cX6_limit 30 = .ok (.iaload, 1) := by decide +kernel
theorem dX6_limit_31 : decode cX6_limit 31 = .ok (.imul, 1) := by decide +kernel
theorem dX6_limit_32 : decode cX6_limit 32 = .ok (.iload_n 2, 1) := by decide +kernel
theorem dX6_limit_33 : decode cX6_limit 33 = .ok (.iadd, 1) := by decide +kernel
theorem dX6_limit_34 : decode cX6_limit 34 = .ok (.iaload, 1) := by decide +kernel
theorem dX6_limit_35 : decode cX6_limit 35 = .ok (.invokestatic 156, 3) := by decide +kernel
theorem dX6_limit_38 : decode cX6_limit 38 = .ok (.goto 4, 3) := by decide +kernel
theorem dX6_limit_41 : decode cX6_limit 41 = .ok (.iconst (-1), 1) := by decide +kernel
theorem dX6_limit_42 : decode cX6_limit 42 = .ok (.ireturn, 1) := by decide +kernel
set_option maxRecDepth 20000 in
theorem ggX6_covers_X6_tops : GoodIn wsX6_covers wsX6_tops := goodIn_r _ [10] (by decide +kernel) (by decide +kernel)
set_option maxRecDepth 20000 in
theorem gX6_covers_X6_tops : GoodIn wsX6_covers (va_wsS RX6 83 yX6_tops wsX6_tops) := goodIn_app (goodIn_of _ (by decide +kernel)) ggX6_covers_X6_tops
theorem dX6_covers_0 : decode cX6_covers 0 = .ok (.iconst 0, 1) := by decide +kernel
theorem dX6_covers_1 : decode cX6_covers 1 = .ok (.istore_n 1, 1) := by decide +kernel
theorem dX6_covers_2 : decode cX6_covers 2 = .ok (.iconst 0, 1) := by decide +kernel
theorem dX6_covers_3 : decode cX6_covers 3 = .ok (.istore_n 2, 1) := by decide +kernel
theorem dX6_covers_4 : decode cX6_covers 4 = .ok (.iload_n 2, 1) := by decide +kernel
theorem dX6_covers_5 : decode cX6_covers 5 = .ok (.aload_n 0, 1) := by decide +kernel
theorem dX6_covers_6 : decode cX6_covers 6 = .ok (.getfield 128, 3) := by decide +kernel
theorem dX6_covers_9 : decode cX6_covers 9 = .ok (.if_icmp .ge 55, 3) := by decide +kernel
theorem dX6_covers_12 : decode cX6_covers 12 = .ok (.aload_n 0, 1) := by decide +kernel
theorem dX6_covers_13 : decode cX6_covers 13 = .ok (.getfield 124, 3) := by decide +kernel
theorem dX6_covers_16 : decode cX6_covers 16 = .ok (.ifCond .eq 48, 3) := by decide +kernel
theorem dX6_covers_19 : decode cX6_covers 19 = .ok (.aload_n 0, 1) := by decide +kernel
theorem dX6_covers_20 : decode cX6_covers 20 = .ok (.getfield 138, 3) := by decide +kernel
theorem dX6_covers_23 : decode cX6_covers 23 = .ok (.aload_n 0, 1) := by decide +kernel
theorem dX6_covers_24 : decode cX6_covers 24 = .ok (.getfield 60, 3) := by decide +kernel
theorem dX6_covers_27 : decode cX6_covers 27 = .ok (.if_icmp .ne 37, 3) := by decide +kernel
theorem dX6_covers_30 : decode cX6_covers 30 = .ok (.iload_n 1, 1) := by decide +kernel
theorem dX6_covers_31 : decode cX6_covers 31 = .ok (.ifCond .ne 21, 3) := by decide +kernel
theorem dX6_covers_34 : decode cX6_covers 34 = .ok (.aload_n 0, 1) := by decide +kernel
theorem dX6_covers_35 : decode cX6_covers 35 = .ok (.getfield 45, 3) := by decide +kernel
theorem dX6_covers_38 : decode cX6_covers 38 = .ok (.iconst 5, 1) := by decide +kernel
theorem dX6_covers_39 : decode cX6_covers 39 = .ok (.iload_n 2, 1) := by decide +kernel
theorem dX6_covers_40 : decode cX6_covers 40 = .ok (.imul, 1) := by decide +kernel
theorem dX6_covers_41 : decode cX6_covers 41 = .ok (.aload_n 0, 1) := by decide +kernel
theorem dX6_covers_42 : decode cX6_covers 42 = .ok (.getfield 13, 3) := by decide +kernel
theorem dX6_covers_45 : decode cX6_covers 45 = .ok (.iconst 0, 1) := by decide +kernel
theorem dX6_covers_46 : decode cX6_covers 46 = .ok (.invokestatic 83, 3) := by decide +kernel
theorem dX6_covers_49 : decode cX6_covers 49 = .ok (.ifCond .eq 7, 3) := by decide +kernel
theorem dX6_covers_52 : decode cX6_covers 52 = .ok (.iconst 1, 1) := by decide +kernel
theorem dX6_covers_53 : decode cX6_covers 53 = .ok (.goto 4, 3) := by decide +kernel
theorem dX6_covers_56 : decode cX6_covers 56 = .ok (.iconst 0, 1) := by decide +kernel
theorem dX6_covers_57 : decode cX6_covers 57 = .ok (.istore_n 1, 1) := by decide +kernel
theorem dX6_covers_58 : decode cX6_covers 58 = .ok (.iinc 2 1, 3) := by decide +kernel
theorem dX6_covers_61 : decode cX6_covers 61 = .ok (.goto (-57), 3) := by decide +kernel
theorem dX6_covers_64 : decode cX6_covers 64 = .ok (.iload_n 1, 1) := by decide +kernel
theorem dX6_covers_65 : decode cX6_covers 65 = .ok (.ireturn, 1) := by decide +kernel
set_option maxRecDepth 20000 in
theorem ggX6_fire_X6_canFire : GoodIn wsX6_fire wsX6_canFire := goodIn_r _ [8, 3, 9, 10, 11, 7, 12, 13, 14, 15, 16, 17, 18, 19, 20, 21, 22, 23, 24, 25, 26, 27, 28, 29, 30, 31, 32, 33, 34, 35, 36, 37, 38, 39, 40, 41, 42, 43] (by decide +kernel) (by decide +kernel)
set_option maxRecDepth 20000 in
theorem gX6_fire_X6_canFire : GoodIn wsX6_fire (wsV RX6 116 RX6 yX6_canFire wsX6_canFire) := goodIn_app (goodIn_of _ (by decide +kernel)) ggX6_fire_X6_canFire
theorem dX6_fire_0 : decode cX6_fire 0 = .ok (.aload_n 0, 1) := by decide +kernel
theorem dX6_fire_1 : decode cX6_fire 1 = .ok (.aload_n 0, 1) := by decide +kernel
theorem dX6_fire_2 : decode cX6_fire 2 = .ok (.getfield 22, 3) := by decide +kernel
theorem dX6_fire_5 : decode cX6_fire 5 = .ok (.iconst 0, 1) := by decide +kernel
theorem dX6_fire_6 : decode cX6_fire 6 = .ok (.iload_n 1, 1) := by decide +kernel
theorem dX6_fire_7 : decode cX6_fire 7 = .ok (.invokevirtual 116, 3) := by decide +kernel
theorem dX6_fire_10 : decode cX6_fire 10 = .ok (.ifCond .ne 5, 3) := by decide +kernel
theorem dX6_fire_13 : decode cX6_fire 13 = .ok (.iconst 0, 1) := by decide +kernel
theorem dX6_fire_14 : decode cX6_fire 14 = .ok (.ireturn, 1) := by decide +kernel
theorem dX6_fire_15 : decode cX6_fire 15 = .ok (.iconst 0, 1) := by decide +kernel
theorem dX6_fire_16 : decode cX6_fire 16 = .ok (.istore_n 2, 1) := by decide +kernel
theorem dX6_fire_17 : decode cX6_fire 17 = .ok (.iload_n 2, 1) := by decide +kernel
theorem dX6_fire_18 : decode cX6_fire 18 = .ok (.iconst 5, 1) := by decide +kernel
theorem dX6_fire_19 : decode cX6_fire 19 = .ok (.if_icmp .ge 39, 3) := by decide +kernel
theorem dX6_fire_22 : decode cX6_fire 22 = .ok (.aload_n 0, 1) := by decide +kernel
theorem dX6_fire_23 : decode cX6_fire 23 = .ok (.getfield 22, 3) := by decide +kernel
theorem dX6_fire_26 : decode cX6_fire 26 = .ok (.iload_n 2, 1) := by decide +kernel
theorem dX6_fire_27 : decode cX6_fire 27 = .ok (.dup2, 1) := by decide +kernel
theorem dX6_fire_28 : decode cX6_fire 28 = .ok (.iaload, 1) := by decide +kernel
theorem dX6_fire_29 : decode cX6_fire 29 = .ok (.aload_n 0, 1) := by decide +kernel
theorem dX6_fire_30 : decode cX6_fire 30 = .ok (.getfield 19, 3) := by decide +kernel
theorem dX6_fire_33 : decode cX6_fire 33 = .ok (.iconst 5, 1) := by decide +kernel
theorem dX6_fire_34 : decode cX6_fire 34 = .ok (.iload_n 1, 1) := by decide +kernel
theorem dX6_fire_35 : decode cX6_fire 35 = .ok (.imul, 1) := by decide +kernel
theorem dX6_fire_36 : decode cX6_fire 36 = .ok (.iload_n 2, 1) := by decide +kernel
theorem dX6_fire_37 : decode cX6_fire 37 = .ok (.iadd, 1) := by decide +kernel
theorem dX6_fire_38 : decode cX6_fire 38 = .ok (.iaload, 1) := by decide +kernel
theorem dX6_fire_39 : decode cX6_fire 39 = .ok (.aload_n 0, 1) := by decide +kernel
theorem dX6_fire_40 : decode cX6_fire 40 = .ok (.getfield 16, 3) := by decide +kernel
theorem dX6_fire_43 : decode cX6_fire 43 = .ok (.iconst 5, 1) := by decide +kernel
theorem dX6_fire_44 : decode cX6_fire 44 = .ok (.iload_n 1, 1) := by decide +kernel
theorem dX6_fire_45 : decode cX6_fire 45 = .ok (.imul, 1) := by decide +kernel
theorem dX6_fire_46 : decode cX6_fire 46 = .ok (.iload_n 2, 1) := by decide +kernel
theorem dX6_fire_47 : decode cX6_fire 47 = .ok (.iadd, 1) := by decide +kernel
theorem dX6_fire_48 : decode cX6_fire 48 = .ok (.iaload, 1) := by decide +kernel
theorem dX6_fire_49 : decode cX6_fire 49 = .ok (.isub, 1) := by decide +kernel
theorem dX6_fire_50 : decode cX6_fire 50 = .ok (.iadd, 1) := by decide +kernel
theorem dX6_fire_51 : decode cX6_fire 51 = .ok (.iastore, 1) := by decide +kernel
theorem dX6_fire_52 : decode cX6_fire 52 = .ok (.iinc 2 1, 3) := by decide +kernel
theorem dX6_fire_55 : decode cX6_fire 55 = .ok (.goto (-38), 3) := by decide +kernel
theorem dX6_fire_58 : decode cX6_fire 58 = .ok (.iconst 1, 1) := by decide +kernel
theorem dX6_fire_59 : decode cX6_fire 59 = .ok (.ireturn, 1) := by decide +kernel
set_option maxRecDepth 20000 in
theorem ggX6_tokens_X6_isPlace : GoodIn wsX6_tokens wsX6_isPlace := goodIn_r _ [6, 7, 8, 9, 10, 11, 12, 13, 14, 15, 16, 17, 18, 19, 20, 21, 22, 23, 24, 25, 26, 27, 28, 29, 30, 31, 32, 33, 34] (by decide +kernel) (by decide +kernel)
set_option maxRecDepth 20000 in
theorem gX6_tokens_X6_isPlace : GoodIn wsX6_tokens (wsV RX6 77 RX6 yX6_isPlace wsX6_isPlace) := goodIn_app (goodIn_of _ (by decide +kernel)) ggX6_tokens_X6_isPlace
theorem dX6_tokens_0 : decode cX6_tokens 0 = .ok (.aload_n 0, 1) := by decide +kernel
theorem dX6_tokens_1 : decode cX6_tokens 1 = .ok (.iload_n 1, 1) := by decide +kernel
theorem dX6_tokens_2 : decode cX6_tokens 2 = .ok (.invokevirtual 77, 3) := by decide +kernel
theorem dX6_tokens_5 : decode cX6_tokens 5 = .ok (.ifCond .eq 12, 3) := by decide +kernel
theorem dX6_tokens_8 : decode cX6_tokens 8 = .ok (.aload_n 0, 1) := by decide +kernel
theorem dX6_tokens_9 : decode cX6_tokens 9 = .ok (.getfield 22, 3) := by decide +kernel
theorem dX6_tokens_12 : decode cX6_tokens 12 = .ok (.iload_n 1, 1) := by decide +kernel
theorem dX6_tokens_13 : decode cX6_tokens 13 = .ok (.iaload, 1) := by decide +kernel
theorem dX6_tokens_14 : decode cX6_tokens 14 = .ok (.goto 4, 3) := by decide +kernel
theorem dX6_tokens_17 : decode cX6_tokens 17 = .ok (.iconst (-1), 1) := by decide +kernel
theorem dX6_tokens_18 : decode cX6_tokens 18 = .ok (.ireturn, 1) := by decide +kernel
theorem dJ9_max_7cf53_0 : decode cJ9_max_7cf53 0 = .ok (.iload_n 0, 1) := by decide +kernel
theorem dJ9_max_7cf53_1 : decode cJ9_max_7cf53 1 = .ok (.iload_n 1, 1) := by decide +kernel
theorem dJ9_max_7cf53_2 : decode cJ9_max_7cf53 2 = .ok (.if_icmp .lt 7, 3) := by decide +kernel
theorem dJ9_max_7cf53_5 : decode cJ9_max_7cf53 5 = .ok (.iload_n 0, 1) := by decide +kernel
theorem dJ9_max_7cf53_6 : decode cJ9_max_7cf53 6 = .ok (.goto 4, 3) := by decide +kernel
theorem dJ9_max_7cf53_9 : decode cJ9_max_7cf53 9 = .ok (.iload_n 1, 1) := by decide +kernel
theorem dJ9_max_7cf53_10 : decode cJ9_max_7cf53 10 = .ok (.ireturn, 1) := by decide +kernel
theorem dJ9_min_7cf53_0 : decode cJ9_min_7cf53 0 = .ok (.iload_n 0, 1) := by decide +kernel
theorem dJ9_min_7cf53_1 : decode cJ9_min_7cf53 1 = .ok (.iload_n 1, 1) := by decide +kernel
theorem dJ9_min_7cf53_2 : decode cJ9_min_7cf53 2 = .ok (.if_icmp .gt 7, 3) := by decide +kernel
theorem dJ9_min_7cf53_5 : decode cJ9_min_7cf53 5 = .ok (.iload_n 0, 1) := by decide +kernel
theorem dJ9_min_7cf53_6 : decode cJ9_min_7cf53 6 = .ok (.goto 4, 3) := by decide +kernel
theorem dJ9_min_7cf53_9 : decode cJ9_min_7cf53 9 = .ok (.iload_n 1, 1) := by decide +kernel
theorem dJ9_min_7cf53_10 : decode cJ9_min_7cf53 10 = .ok (.ireturn, 1) := by decide +kernel
theorem dJ7_copyOf_c38d5_0 : decode cJ7_copyOf_c38d5 0 = .ok (.iload_n 1, 1) := by decide +kernel
theorem dJ7_copyOf_c38d5_1 : decode cJ7_copyOf_c38d5 1 = .ok (.aload_n 0, 1) := by decide +kernel
theorem dJ7_copyOf_c38d5_2 : decode cJ7_copyOf_c38d5 2 = .ok (.arraylength, 1) := by decide +kernel
theorem dJ7_copyOf_c38d5_3 : decode cJ7_copyOf_c38d5 3 = .ok (.if_icmp .ne 11, 3) := by decide +kernel
theorem dJ7_copyOf_c38d5_6 : decode cJ7_copyOf_c38d5 6 = .ok (.aload_n 0, 1) := by decide +kernel
theorem dJ7_copyOf_c38d5_7 : decode cJ7_copyOf_c38d5 7 = .ok (.invokevirtual 319, 3) := by decide +kernel
theorem dJ7_copyOf_c38d5_10 : decode cJ7_copyOf_c38d5 10 = .ok (.checkcast 320, 3) := by decide +kernel
theorem dJ7_copyOf_c38d5_13 : decode cJ7_copyOf_c38d5 13 = .ok (.areturn, 1) := by decide +kernel
theorem dJ7_copyOf_c38d5_14 : decode cJ7_copyOf_c38d5 14 = .ok (.iload_n 1, 1) := by decide +kernel
theorem dJ7_copyOf_c38d5_15 : decode cJ7_copyOf_c38d5 15 = .ok (.newarray .long, 2) := by decide +kernel
theorem dJ7_copyOf_c38d5_17 : decode cJ7_copyOf_c38d5 17 = .ok (.astore_n 2, 1) := by decide +kernel
theorem dJ7_copyOf_c38d5_18 : decode cJ7_copyOf_c38d5 18 = .ok (.aload_n 0, 1) := by decide +kernel
theorem dJ7_copyOf_c38d5_19 : decode cJ7_copyOf_c38d5 19 = .ok (.iconst 0, 1) := by decide +kernel
theorem dJ7_copyOf_c38d5_20 : decode cJ7_copyOf_c38d5 20 = .ok (.aload_n 2, 1) := by decide +kernel
theorem dJ7_copyOf_c38d5_21 : decode cJ7_copyOf_c38d5 21 = .ok (.iconst 0, 1) := by decide +kernel
theorem dJ7_copyOf_c38d5_22 : decode cJ7_copyOf_c38d5 22 = .ok (.aload_n 0, 1) := by decide +kernel
theorem dJ7_copyOf_c38d5_23 : decode cJ7_copyOf_c38d5 23 = .ok (.arraylength, 1) := by decide +kernel
theorem dJ7_copyOf_c38d5_24 : decode cJ7_copyOf_c38d5 24 = .ok (.iload_n 1, 1) := by decide +kernel
theorem dJ7_copyOf_c38d5_25 : decode cJ7_copyOf_c38d5 25 = .ok (.invokestatic 304, 3) := by decide +kernel
theorem dJ7_copyOf_c38d5_28 : decode cJ7_copyOf_c38d5 28 = .ok (.invokestatic 150, 3) := by decide +kernel
theorem dJ7_copyOf_c38d5_31 : decode cJ7_copyOf_c38d5 31 = .ok (.aload_n 2, 1) := by decide +kernel
theorem dJ7_copyOf_c38d5_32 : decode cJ7_copyOf_c38d5 32 = .ok (.areturn, 1) := by decide +kernel
set_option maxRecDepth 20000 in
theorem ggL_law_X5_init : GoodIn wsL_law wsX5_init := goodIn_r _ [8, 9, 10, 11, 12, 13, 14, 15, 16, 17, 18, 19, 20, 21, 22, 23, 24, 25, 26, 27, 28, 29, 30, 31, 32, 33, 34, 35, 36, 37, 38, 39, 40, 41, 42, 43, 44, 45, 46, 47, 48, 49, 50, 51, 52, 53, 54, 55, 56, 57, 58, 59, 60, 61, 62, 63, 64, 65, 66, 67, 68, 69, 70, 71, 72, 73, 544, 545, 546, 547, 548, 549, 513, 514, 515, 516, 550, 551, 552, 553, 554, 555, 556, 557, 558, 559, 560, 561, 562, 563, 564, 565, 566, 567, 568, 569, 570, 571, 572, 573] (by decide +kernel) (by decide +kernel)
set_option maxRecDepth 20000 in
theorem gL_law_X5_init : GoodIn wsL_law (wsX5_init) := ggL_law_X5_init
set_option maxRecDepth 20000 in
theorem ggL_law_X6_init : GoodIn wsL_law wsX6_init := goodIn_r _ [76, 77, 10, 11, 16, 78, 79, 80, 81, 82, 83, 84, 85, 86, 87, 88, 89, 90, 91, 92, 93, 94, 517, 518, 519, 520, 521, 522, 523, 524, 525, 526, 527, 528, 529, 530, 531, 532, 533, 534, 535, 536, 537, 538, 539, 540, 541, 542, 543] (by decide +kernel) (by decide +kernel)
set_option maxRecDepth 20000 in
theorem gL_law_X6_init : GoodIn wsL_law (wsX6_init) := ggL_law_X6_init
set_option maxRecDepth 20000 in
theorem ggL_law_X5_place : GoodIn wsL_law wsX5_place := goodIn_r _ [98, 15, 99, 100, 101, 102, 2, 103, 104, 105, 106, 107, 17, 108, 109, 110, 111, 513, 514, 515, 516, 544, 545, 546, 547, 548, 549] (by decide +kernel) (by decide +kernel)
set_option maxRecDepth 20000 in
theorem gL_law_X5_place : GoodIn wsL_law (wsV RL 13 RX5 yX5_place wsX5_place) := goodIn_app (goodIn_of _ (by decide +kernel)) ggL_law_X5_place
set_option maxRecDepth 20000 in
theorem ggL_law_X6_place : GoodIn wsL_law wsX6_place := goodIn_r _ [115, 116, 78, 117, 118, 5, 119, 120, 121, 122, 123, 82, 517, 518, 519, 520, 521, 522, 523, 524, 525, 526, 527, 528, 529, 530, 531, 532, 533, 534, 535, 536, 537, 538, 539, 540, 541, 542, 543] (by decide +kernel) (by decide +kernel)
set_option maxRecDepth 20000 in
theorem gL_law_X6_place : GoodIn wsL_law (wsV RL 17 RX6 yX6_place wsX6_place) := goodIn_app (goodIn_of _ (by decide +kernel)) ggL_law_X6_place
set_option maxRecDepth 20000 in
theorem ggL_law_X5_transition : GoodIn wsL_law wsX5_transition := goodIn_r _ [127, 15, 128, 104, 105, 106, 2, 107, 100, 17, 108, 109, 110, 111, 513, 514, 515, 516, 544, 545, 546, 547, 548, 549] (by decide +kernel) (by decide +kernel)
set_option maxRecDepth 20000 in
theorem gL_law_X5_transition : GoodIn wsL_law (wsV RL 18 RX5 yX5_transition wsX5_transition) := goodIn_app (goodIn_of _ (by decide +kernel)) ggL_law_X5_transition
set_option maxRecDepth 20000 in
theorem ggL_law_X6_transition : GoodIn wsL_law wsX6_transition := goodIn_r _ [132, 133, 120, 121, 122, 5, 123, 82, 78, 517, 518, 519, 520, 521, 522, 523, 524, 525, 526, 527, 528, 529, 530, 531, 532, 533, 534, 535, 536, 537, 538, 539, 540, 541, 542, 543] (by decide +kernel) (by decide +kernel)
set_option maxRecDepth 20000 in
theorem gL_law_X6_transition : GoodIn wsL_law (wsV RL 22 RX6 yX6_transition wsX6_transition) := goodIn_app (goodIn_of _ (by decide +kernel)) ggL_law_X6_transition
set_option maxRecDepth 20000 in
theorem ggL_law_X5_arc : GoodIn wsL_law wsX5_arc := goodIn_r _ [137, 15, 138, 139, 140, 141, 142, 14, 143, 30, 144, 145, 146, 147, 29, 101, 102, 2, 103, 104, 105, 106, 107, 100, 17, 108, 109, 110, 111, 513, 514, 515, 516, 544, 545, 546, 547, 548, 549] (by decide +kernel) (by decide +kernel)
set_option maxRecDepth 20000 in
theorem gL_law_X5_arc : GoodIn wsL_law (wsV RL 23 RX5 yX5_arc wsX5_arc) := goodIn_app (goodIn_of _ (by decide +kernel)) ggL_law_X5_arc
set_option maxRecDepth 20000 in
theorem ggL_law_X6_arc : GoodIn wsL_law wsX6_arc := goodIn_r _ [151, 80, 81, 152, 153, 154, 5, 155, 133, 156, 157, 158, 159, 116, 117, 118, 119, 120, 121, 122, 123, 82, 78, 517, 518, 519, 520, 521, 522, 523, 524, 525, 526, 527, 528, 529, 530, 531, 532, 533, 534, 535, 536, 537, 538, 539, 540, 541, 542, 543] (by decide +kernel) (by decide +kernel)
set_option maxRecDepth 20000 in
theorem gL_law_X6_arc : GoodIn wsL_law (wsV RL 27 RX6 yX6_arc wsX6_arc) := goodIn_app (goodIn_of _ (by decide +kernel)) ggL_law_X6_arc
set_option maxRecDepth 20000 in
theorem ggL_law_X5_target : GoodIn wsL_law wsX5_target := goodIn_r _ [163, 15, 164, 144, 145, 146, 14, 147, 29, 101, 102, 2, 103, 513, 514, 515, 516, 544, 545, 546, 547, 548, 549] (by decide +kernel) (by decide +kernel)
set_option maxRecDepth 20000 in
theorem gL_law_X5_target : GoodIn wsL_law (wsV RL 28 RX5 yX5_target wsX5_target) := goodIn_app (goodIn_of _ (by decide +kernel)) ggL_law_X5_target
set_option maxRecDepth 20000 in
theorem ggL_law_X6_target : GoodIn wsL_law wsX6_target := goodIn_r _ [168, 79, 156, 157, 158, 5, 159, 116, 117, 118, 119, 517, 518, 519, 520, 521, 522, 523, 524, 525, 526, 527, 528, 529, 530, 531, 532, 533, 534, 535, 536, 537, 538, 539, 540, 541, 542, 543] (by decide +kernel) (by decide +kernel)
set_option maxRecDepth 20000 in
theorem gL_law_X6_target : GoodIn wsL_law (wsV RL 32 RX6 yX6_target wsX6_target) := goodIn_app (goodIn_of _ (by decide +kernel)) ggL_law_X6_target
set_option maxRecDepth 20000 in
theorem ggL_law_X5_rounds : GoodIn wsL_law wsX5_rounds := goodIn_r _ [172, 21, 15, 173, 174, 175, 176, 20, 177, 39, 40, 41, 51, 178, 179, 180, 181, 182, 183, 43, 184, 44, 46, 185, 47, 186, 53, 187, 52, 188, 189, 190, 191, 192, 193, 194, 50, 195, 60, 59, 196, 197, 198, 199, 200, 201, 202, 203, 204, 205, 45, 206, 207, 208, 209, 210, 109, 110, 111, 211, 212, 213, 214, 55, 215, 216, 217, 218, 219, 220, 221, 222, 223, 224, 225, 226, 227, 228, 229, 230, 231, 232, 233, 234, 235, 236, 237, 238, 239, 54, 240, 241, 242, 243, 42, 513, 514, 515, 516, 550, 551, 552, 553, 554, 555, 556, 557, 558, 559, 560, 561, 562, 572, 573, 544, 545, 546, 547, 548, 549] (by decide +kernel) (by decide +kernel)
set_option maxRecDepth 20000 in
theorem gL_law_X5_rounds : GoodIn wsL_law (wsV RL 33 RX5 yX5_rounds wsX5_rounds) := goodIn_app (goodIn_of _ (by decide +kernel)) ggL_law_X5_rounds
set_option maxRecDepth 20000 in
theorem ggL_law_X6_rounds : GoodIn wsL_law wsX6_rounds := goodIn_r _ [247, 116, 248, 249, 93, 79, 84, 86, 87, 250, 88, 251, 83, 252, 253, 254, 5, 255, 256, 257, 258, 259, 260, 261, 262, 78, 263, 264, 265, 266, 267, 268, 269, 270, 133, 81, 80, 271, 272, 273, 274, 94, 89, 275, 276, 277, 278, 279, 280, 281, 282, 152, 153, 154, 155, 283, 284, 285, 286, 517, 518, 519, 520, 521, 522, 523, 524, 525, 526, 527, 528, 529, 530, 531, 532, 533, 534, 535, 536, 537, 538, 539, 540, 541, 542, 543] (by decide +kernel) (by decide +kernel)
set_option maxRecDepth 20000 in
theorem gL_law_X6_rounds : GoodIn wsL_law (wsV RL 36 RX6 yX6_rounds wsX6_rounds) := goodIn_app (goodIn_of _ (by decide +kernel)) ggL_law_X6_rounds
set_option maxRecDepth 20000 in
theorem ggL_law_X5_steps : GoodIn wsL_law wsX5_steps := goodIn_r _ [290, 21, 173, 291, 513, 514, 515, 516, 550, 551, 552, 553, 554, 555, 556, 557, 558, 559, 560, 561, 562] (by decide +kernel) (by decide +kernel)
set_option maxRecDepth 20000 in
theorem gL_law_X5_steps : GoodIn wsL_law (wsV RL 37 RX5 yX5_steps wsX5_steps) := goodIn_app (goodIn_of _ (by decide +kernel)) ggL_law_X5_steps
set_option maxRecDepth 20000 in
theorem ggL_law_X6_steps : GoodIn wsL_law wsX6_steps := goodIn_r _ [295, 83, 250, 517, 518, 519, 520, 521, 522, 523, 524, 525, 526, 527, 528, 529, 530, 531, 532, 533, 534, 535, 536, 537, 538, 539, 540, 541, 542, 543] (by decide +kernel) (by decide +kernel)
set_option maxRecDepth 20000 in
theorem gL_law_X6_steps : GoodIn wsL_law (wsV RL 40 RX6 yX6_steps wsX6_steps) := goodIn_app (goodIn_of _ (by decide +kernel)) ggL_law_X6_steps
set_option maxRecDepth 20000 in
theorem ggL_law_X5_witness : GoodIn wsL_law wsX5_witness := goodIn_r _ [299, 21, 300, 301, 288, 289, 2, 290, 173, 291, 513, 514, 515, 516, 550, 551, 552, 553, 554, 555, 556, 557, 558, 559, 560, 561, 562] (by decide +kernel) (by decide +kernel)
set_option maxRecDepth 20000 in
theorem gL_law_X5_witness : GoodIn wsL_law (wsV RL 41 RX5 yX5_witness wsX5_witness) := goodIn_app (goodIn_of _ (by decide +kernel)) ggL_law_X5_witness
set_option maxRecDepth 20000 in
theorem ggL_law_X6_witness : GoodIn wsL_law wsX6_witness := goodIn_r _ [305, 83, 250, 89, 517, 518, 519, 520, 521, 522, 523, 524, 525, 526, 527, 528, 529, 530, 531, 532, 533, 534, 535, 536, 537, 538, 539, 540, 541, 542, 543] (by decide +kernel) (by decide +kernel)
set_option maxRecDepth 20000 in
theorem gL_law_X6_witness : GoodIn wsL_law (wsV RL 44 RX6 yX6_witness wsX6_witness) := goodIn_app (goodIn_of _ (by decide +kernel)) ggL_law_X6_witness
set_option maxRecDepth 20000 in
theorem ggL_law_X5_least : GoodIn wsL_law wsX5_least := goodIn_r _ [309, 21, 291, 310, 513, 514, 515, 516, 550, 551, 552, 553, 554, 555, 556, 557, 558, 559, 560, 561, 562] (by decide +kernel) (by decide +kernel)
set_option maxRecDepth 20000 in
theorem gL_law_X5_least : GoodIn wsL_law (wsV RL 45 RX5 yX5_least wsX5_least) := goodIn_app (goodIn_of _ (by decide +kernel)) ggL_law_X5_least
set_option maxRecDepth 20000 in
theorem ggL_law_X6_least : GoodIn wsL_law wsX6_least := goodIn_r _ [314, 83, 250, 84, 517, 518, 519, 520, 521, 522, 523, 524, 525, 526, 527, 528, 529, 530, 531, 532, 533, 534, 535, 536, 537, 538, 539, 540, 541, 542, 543] (by decide +kernel) (by decide +kernel)
set_option maxRecDepth 20000 in
theorem gL_law_X6_least : GoodIn wsL_law (wsV RL 48 RX6 yX6_least wsX6_least) := goodIn_app (goodIn_of _ (by decide +kernel)) ggL_law_X6_least
set_option maxRecDepth 20000 in
theorem ggL_law_X5_grow : GoodIn wsL_law wsX5_grow := goodIn_r _ [318, 25, 15, 319, 320, 321, 322, 323, 24, 324, 66, 64, 325, 326, 327, 328, 329, 65, 69, 330, 70, 331, 109, 110, 111, 71, 72, 67, 332, 333, 334, 335, 336, 337, 338, 339, 340, 341, 342, 343, 344, 345, 346, 347, 14, 348, 34, 29, 349, 350, 351, 352, 353, 354, 355, 356, 357, 35, 358, 359, 360, 361, 362, 363, 364, 365, 366, 367, 368, 369, 370, 371, 372, 373, 374, 375, 376, 377, 378, 73, 379, 380, 381, 382, 383, 384, 385, 386, 387, 388, 389, 390, 513, 514, 515, 516, 563, 564, 565, 566, 567, 568, 569, 570, 571, 544, 545, 546, 547, 548, 549] (by decide +kernel) (by decide +kernel)
set_option maxRecDepth 20000 in
theorem gL_law_X5_grow : GoodIn wsL_law (wsV RL 49 RX5 yX5_grow wsX5_grow) := goodIn_app (goodIn_of _ (by decide +kernel)) ggL_law_X5_grow
set_option maxRecDepth 20000 in
theorem ggL_law_X6_grow : GoodIn wsL_law wsX6_grow := goodIn_r _ [394, 395, 396, 91, 90, 78, 133, 93, 397, 81, 80, 116, 398, 399, 400, 401, 5, 402, 256, 257, 258, 279, 280, 281, 282, 152, 153, 154, 155, 403, 404, 405, 406, 407, 408, 409, 410, 411, 412, 92, 413, 414, 415, 416, 517, 518, 519, 520, 521, 522, 523, 524, 525, 526, 527, 528, 529, 530, 531, 532, 533, 534, 535, 536, 537, 538, 539, 540, 541, 542, 543] (by decide +kernel) (by decide +kernel)
set_option maxRecDepth 20000 in
theorem gL_law_X6_grow : GoodIn wsL_law (wsV RL 52 RX6 yX6_grow wsX6_grow) := goodIn_app (goodIn_of _ (by decide +kernel)) ggL_law_X6_grow
set_option maxRecDepth 20000 in
theorem ggL_law_X5_most : GoodIn wsL_law wsX5_most := goodIn_r _ [420, 25, 319, 421, 422, 423, 24, 424, 65, 425, 426, 427, 428, 67, 429, 430, 208, 431, 432, 433, 434, 435, 73, 367, 368, 369, 370, 70, 436, 437, 2, 438, 439, 513, 514, 515, 516, 563, 564, 565, 566, 567, 568, 569, 570, 571] (by decide +kernel) (by decide +kernel)
set_option maxRecDepth 20000 in
theorem gL_law_X5_most : GoodIn wsL_law (wsV RL 53 RX5 yX5_most wsX5_most) := goodIn_app (goodIn_of _ (by decide +kernel)) ggL_law_X5_most
set_option maxRecDepth 20000 in
theorem ggL_law_X6_most : GoodIn wsL_law wsX6_most := goodIn_r _ [443, 396, 90, 444, 445, 446, 5, 447, 395, 398, 448, 449, 450, 397, 517, 518, 519, 520, 521, 522, 523, 524, 525, 526, 527, 528, 529, 530, 531, 532, 533, 534, 535, 536, 537, 538, 539, 540, 541, 542, 543] (by decide +kernel) (by decide +kernel)
set_option maxRecDepth 20000 in
theorem gL_law_X6_most : GoodIn wsL_law (wsV RL 56 RX6 yX6_most wsX6_most) := goodIn_app (goodIn_of _ (by decide +kernel)) ggL_law_X6_most
set_option maxRecDepth 20000 in
theorem ggL_law_X5_live : GoodIn wsL_law wsX5_live := goodIn_r _ [454, 25, 319, 455, 101, 102, 2, 103, 513, 514, 515, 516, 563, 564, 565, 566, 567, 568, 569, 570, 571] (by decide +kernel) (by decide +kernel)
set_option maxRecDepth 20000 in
theorem gL_law_X5_live : GoodIn wsL_law (wsV RL 57 RX5 yX5_live wsX5_live) := goodIn_app (goodIn_of _ (by decide +kernel)) ggL_law_X5_live
set_option maxRecDepth 20000 in
theorem ggL_law_X6_live : GoodIn wsL_law wsX6_live := goodIn_r _ [459, 395, 411, 517, 518, 519, 520, 521, 522, 523, 524, 525, 526, 527, 528, 529, 530, 531, 532, 533, 534, 535, 536, 537, 538, 539, 540, 541, 542, 543] (by decide +kernel) (by decide +kernel)
set_option maxRecDepth 20000 in
theorem gL_law_X6_live : GoodIn wsL_law (wsV RL 61 RX6 yX6_live wsX6_live) := goodIn_app (goodIn_of _ (by decide +kernel)) ggL_law_X6_live
set_option maxRecDepth 20000 in
theorem ggL_law_X5_limits : GoodIn wsL_law wsX5_limits := goodIn_r _ [463, 25, 319, 464, 513, 514, 515, 516, 563, 564, 565, 566, 567, 568, 569, 570, 571] (by decide +kernel) (by decide +kernel)
set_option maxRecDepth 20000 in
theorem gL_law_X5_limits : GoodIn wsL_law (wsV RL 62 RX5 yX5_limits wsX5_limits) := goodIn_app (goodIn_of _ (by decide +kernel)) ggL_law_X5_limits
set_option maxRecDepth 20000 in
theorem ggL_law_X6_limits : GoodIn wsL_law wsX6_limits := goodIn_r _ [468, 395, 412, 517, 518, 519, 520, 521, 522, 523, 524, 525, 526, 527, 528, 529, 530, 531, 532, 533, 534, 535, 536, 537, 538, 539, 540, 541, 542, 543] (by decide +kernel) (by decide +kernel)
set_option maxRecDepth 20000 in
theorem gL_law_X6_limits : GoodIn wsL_law (wsV RL 65 RX6 yX6_limits wsX6_limits) := goodIn_app (goodIn_of _ (by decide +kernel)) ggL_law_X6_limits
set_option maxRecDepth 20000 in
theorem ggL_law_X5_limit : GoodIn wsL_law wsX5_limit := goodIn_r _ [472, 25, 319, 464, 421, 422, 423, 24, 424, 65, 473, 433, 434, 435, 73, 367, 368, 369, 370, 70, 436, 437, 2, 438, 439, 513, 514, 515, 516, 563, 564, 565, 566, 567, 568, 569, 570, 571] (by decide +kernel) (by decide +kernel)
set_option maxRecDepth 20000 in
theorem gL_law_X5_limit : GoodIn wsL_law (wsV RL 66 RX5 yX5_limit wsX5_limit) := goodIn_app (goodIn_of _ (by decide +kernel)) ggL_law_X5_limit
set_option maxRecDepth 20000 in
theorem ggL_law_X6_limit : GoodIn wsL_law wsX6_limit := goodIn_r _ [477, 412, 90, 92, 444, 445, 446, 5, 447, 395, 398, 448, 449, 450, 397, 517, 518, 519, 520, 521, 522, 523, 524, 525, 526, 527, 528, 529, 530, 531, 532, 533, 534, 535, 536, 537, 538, 539, 540, 541, 542, 543] (by decide +kernel) (by decide +kernel)
set_option maxRecDepth 20000 in
theorem gL_law_X6_limit : GoodIn wsL_law (wsV RL 70 RX6 yX6_limit wsX6_limit) := goodIn_app (goodIn_of _ (by decide +kernel)) ggL_law_X6_limit
set_option maxRecDepth 20000 in
theorem ggL_law_X5_covers : GoodIn wsL_law wsX5_covers := goodIn_r _ [481, 25, 319, 482, 15, 99, 164, 483, 484, 485, 24, 486, 67, 487, 488, 489, 490, 65, 432, 433, 434, 435, 73, 367, 368, 369, 370, 70, 513, 514, 515, 516, 563, 564, 565, 566, 567, 568, 569, 570, 571, 544, 545, 546, 547, 548, 549] (by decide +kernel) (by decide +kernel)
set_option maxRecDepth 20000 in
theorem gL_law_X5_covers : GoodIn wsL_law (wsV RL 71 RX5 yX5_covers wsX5_covers) := goodIn_app (goodIn_of _ (by decide +kernel)) ggL_law_X5_covers
set_option maxRecDepth 20000 in
theorem ggL_law_X6_covers : GoodIn wsL_law wsX6_covers := goodIn_r _ [494, 396, 395, 398, 116, 90, 79, 256, 257, 5, 258, 517, 518, 519, 520, 521, 522, 523, 524, 525, 526, 527, 528, 529, 530, 531, 532, 533, 534, 535, 536, 537, 538, 539, 540, 541, 542, 543] (by decide +kernel) (by decide +kernel)
set_option maxRecDepth 20000 in
theorem gL_law_X6_covers : GoodIn wsL_law (wsV RL 75 RX6 yX6_covers wsX6_covers) := goodIn_app (goodIn_of _ (by decide +kernel)) ggL_law_X6_covers
set_option maxRecDepth 20000 in
theorem ggL_law_X5_fire : GoodIn wsL_law wsX5_fire := goodIn_r _ [498, 15, 17, 140, 141, 142, 14, 143, 30, 499, 346, 347, 348, 34, 29, 500, 354, 355, 356, 357, 35, 513, 514, 515, 516, 544, 545, 546, 547, 548, 549] (by decide +kernel) (by decide +kernel)
set_option maxRecDepth 20000 in
theorem gL_law_X5_fire : GoodIn wsL_law (wsV RL 76 RX5 yX5_fire wsX5_fire) := goodIn_app (goodIn_of _ (by decide +kernel)) ggL_law_X5_fire
set_option maxRecDepth 20000 in
theorem ggL_law_X6_fire : GoodIn wsL_law wsX6_fire := goodIn_r _ [504, 82, 81, 80, 279, 280, 281, 5, 282, 152, 153, 154, 155, 133, 256, 257, 258, 517, 518, 519, 520, 521, 522, 523, 524, 525, 526, 527, 528, 529, 530, 531, 532, 533, 534, 535, 536, 537, 538, 539, 540, 541, 542, 543] (by decide +kernel) (by decide +kernel)
set_option maxRecDepth 20000 in
theorem gL_law_X6_fire : GoodIn wsL_law (wsV RL 79 RX6 yX6_fire wsX6_fire) := goodIn_app (goodIn_of _ (by decide +kernel)) ggL_law_X6_fire
set_option maxRecDepth 20000 in
theorem ggL_law_X5_tokens : GoodIn wsL_law wsX5_tokens := goodIn_r _ [508, 15, 17, 144, 145, 146, 14, 147, 29, 513, 514, 515, 516, 544, 545, 546, 547, 548, 549] (by decide +kernel) (by decide +kernel)
set_option maxRecDepth 20000 in
theorem gL_law_X5_tokens : GoodIn wsL_law (wsV RL 80 RX5 yX5_tokens wsX5_tokens) := goodIn_app (goodIn_of _ (by decide +kernel)) ggL_law_X5_tokens
set_option maxRecDepth 20000 in
theorem ggL_law_X6_tokens : GoodIn wsL_law wsX6_tokens := goodIn_r _ [512, 82, 156, 157, 158, 5, 159, 116, 517, 518, 519, 520, 521, 522, 523, 524, 525, 526, 527, 528, 529, 530, 531, 532, 533, 534, 535, 536, 537, 538, 539, 540, 541, 542, 543] (by decide +kernel) (by decide +kernel)
set_option maxRecDepth 20000 in
theorem gL_law_X6_tokens : GoodIn wsL_law (wsV RL 83 RX6 yX6_tokens wsX6_tokens) := goodIn_app (goodIn_of _ (by decide +kernel)) ggL_law_X6_tokens
theorem dL_law_0 : decode cL_law 0 = .ok (.new 7, 3) := by decide +kernel
theorem dL_law_3 : decode cL_law 3 = .ok (.dup, 1) := by decide +kernel
theorem dL_law_4 : decode cL_law 4 = .ok (.invokespecial 9, 3) := by decide +kernel
theorem dL_law_7 : decode cL_law 7 = .ok (.astore_n 1, 1) := by decide +kernel
theorem dL_law_8 : decode cL_law 8 = .ok (.new 10, 3) := by decide +kernel
theorem dL_law_11 : decode cL_law 11 = .ok (.dup, 1) := by decide +kernel
theorem dL_law_12 : decode cL_law 12 = .ok (.invokespecial 12, 3) := by decide +kernel
theorem dL_law_15 : decode cL_law 15 = .ok (.astore_n 2, 1) := by decide +kernel
theorem dL_law_16 : decode cL_law 16 = .ok (.iconst 0, 1) := by decide +kernel
theorem dL_law_17 : decode cL_law 17 = .ok (.istore_n 3, 1) := by decide +kernel
theorem dL_law_18 : decode cL_law 18 = .ok (.iload_n 3, 1) := by decide +kernel
theorem dL_law_19 : decode cL_law 19 = .ok (.aload_n 0, 1) := by decide +kernel
theorem dL_law_20 : decode cL_law 20 = .ok (.arraylength, 1) := by decide +kernel
theorem dL_law_21 : decode cL_law 21 = .ok (.iconst 5, 1) := by decide +kernel
theorem dL_law_22 : decode cL_law 22 = .ok (.isub, 1) := by decide +kernel
theorem dL_law_23 : decode cL_law 23 = .ok (.if_icmp .gt 453, 3) := by decide +kernel
theorem dL_law_26 : decode cL_law 26 = .ok (.aload_n 0, 1) := by decide +kernel
theorem dL_law_27 : decode cL_law 27 = .ok (.iload_n 3, 1) := by decide +kernel
theorem dL_law_28 : decode cL_law 28 = .ok (.iaload, 1) := by decide +kernel
theorem dL_law_29 : decode cL_law 29 = .ok (.bipush 15, 2) := by decide +kernel
theorem dL_law_31 : decode cL_law 31 = .ok (.iand, 1) := by decide +kernel
theorem dL_law_32 : decode cL_law 32 = .ok (.tableswitch 438 0 15 #[80, 103, 116, 169, 202, 215, 228, 251, 274, 287, 310, 333, 346, 379, 392, 415], 80) := by decide +kernel
theorem dL_law_112 : decode cL_law 112 = .ok (.aload_n 1, 1) := by decide +kernel
theorem dL_law_113 : decode cL_law 113 = .ok (.aload_n 0, 1) := by decide +kernel
theorem dL_law_114 : decode cL_law 114 = .ok (.iload_n 3, 1) := by decide +kernel
theorem dL_law_115 : decode cL_law 115 = .ok (.iconst 1, 1) := by decide +kernel
theorem dL_law_116 : decode cL_law 116 = .ok (.iadd, 1) := by decide +kernel
theorem dL_law_117 : decode cL_law 117 = .ok (.iaload, 1) := by decide +kernel
theorem dL_law_118 : decode cL_law 118 = .ok (.invokevirtual 13, 3) := by decide +kernel
theorem dL_law_121 : decode cL_law 121 = .ok (.aload_n 2, 1) := by decide +kernel
theorem dL_law_122 : decode cL_law 122 = .ok (.aload_n 0, 1) := by decide +kernel
theorem dL_law_123 : decode cL_law 123 = .ok (.iload_n 3, 1) := by decide +kernel
theorem dL_law_124 : decode cL_law 124 = .ok (.iconst 1, 1) := by decide +kernel
theorem dL_law_125 : decode cL_law 125 = .ok (.iadd, 1) := by decide +kernel
theorem dL_law_126 : decode cL_law 126 = .ok (.iaload, 1) := by decide +kernel
theorem dL_law_127 : decode cL_law 127 = .ok (.invokevirtual 17, 3) := by decide +kernel
theorem dL_law_130 : decode cL_law 130 = .ok (.if_icmp .eq 340, 3) := by decide +kernel
theorem dL_law_133 : decode cL_law 133 = .ok (.iconst 0, 1) := by decide +kernel
theorem dL_law_134 : decode cL_law 134 = .ok (.ireturn, 1) := by decide +kernel
theorem dL_law_135 : decode cL_law 135 = .ok (.aload_n 1, 1) := by decide +kernel
theorem dL_law_136 : decode cL_law 136 = .ok (.invokevirtual 18, 3) := by decide +kernel
theorem dL_law_139 : decode cL_law 139 = .ok (.aload_n 2, 1) := by decide +kernel
theorem dL_law_140 : decode cL_law 140 = .ok (.invokevirtual 22, 3) := by decide +kernel
theorem dL_law_143 : decode cL_law 143 = .ok (.if_icmp .eq 327, 3) := by decide +kernel
theorem dL_law_146 : decode cL_law 146 = .ok (.iconst 0, 1) := by decide +kernel
theorem dL_law_147 : decode cL_law 147 = .ok (.ireturn, 1) := by decide +kernel
theorem dL_law_148 : decode cL_law 148 = .ok (.aload_n 1, 1) := by decide +kernel
theorem dL_law_149 : decode cL_law 149 = .ok (.aload_n 0, 1) := by decide +kernel
theorem dL_law_150 : decode cL_law 150 = .ok (.iload_n 3, 1) := by decide +kernel
theorem dL_law_151 : decode cL_law 151 = .ok (.iconst 1, 1) := by decide +kernel
theorem dL_law_152 : decode cL_law 152 = .ok (.iadd, 1) := by decide +kernel
theorem dL_law_153 : decode cL_law 153 = .ok (.iaload, 1) := by decide +kernel
theorem dL_law_154 : decode cL_law 154 = .ok (.aload_n 0, 1) := by decide +kernel
theorem dL_law_155 : decode cL_law 155 = .ok (.iload_n 3, 1) := by decide +kernel
theorem dL_law_156 : decode cL_law 156 = .ok (.iconst 2, 1) := by decide +kernel
theorem dL_law_157 : decode cL_law 157 = .ok (.iadd, 1) := by decide +kernel
theorem dL_law_158 : decode cL_law 158 = .ok (.iaload, 1) := by decide +kernel
theorem dL_law_159 : decode cL_law 159 = .ok (.aload_n 0, 1) := by decide +kernel
theorem dL_law_160 : decode cL_law 160 = .ok (.iload_n 3, 1) := by decide +kernel
theorem dL_law_161 : decode cL_law 161 = .ok (.iconst 3, 1) := by decide +kernel
theorem dL_law_162 : decode cL_law 162 = .ok (.iadd, 1) := by decide +kernel
theorem dL_law_163 : decode cL_law 163 = .ok (.iaload, 1) := by decide +kernel
theorem dL_law_164 : decode cL_law 164 = .ok (.aload_n 0, 1) := by decide +kernel
theorem dL_law_165 : decode cL_law 165 = .ok (.iload_n 3, 1) := by decide +kernel
theorem dL_law_166 : decode cL_law 166 = .ok (.iconst 4, 1) := by decide +kernel
theorem dL_law_167 : decode cL_law 167 = .ok (.iadd, 1) := by decide +kernel
theorem dL_law_168 : decode cL_law 168 = .ok (.iaload, 1) := by decide +kernel
theorem dL_law_169 : decode cL_law 169 = .ok (.invokevirtual 23, 3) := by decide +kernel
theorem dL_law_172 : decode cL_law 172 = .ok (.aload_n 2, 1) := by decide +kernel
theorem dL_law_173 : decode cL_law 173 = .ok (.aload_n 0, 1) := by decide +kernel
theorem dL_law_174 : decode cL_law 174 = .ok (.iload_n 3, 1) := by decide +kernel
theorem dL_law_175 : decode cL_law 175 = .ok (.iconst 1, 1) := by decide +kernel
theorem dL_law_176 : decode cL_law 176 = .ok (.iadd, 1) := by decide +kernel
theorem dL_law_177 : decode cL_law 177 = .ok (.iaload, 1) := by decide +kernel
theorem dL_law_178 : decode cL_law 178 = .ok (.aload_n 0, 1) := by decide +kernel
theorem dL_law_179 : decode cL_law 179 = .ok (.iload_n 3, 1) := by decide +kernel
theorem dL_law_180 : decode cL_law 180 = .ok (.iconst 2, 1) := by decide +kernel
theorem dL_law_181 : decode cL_law 181 = .ok (.iadd, 1) := by decide +kernel
theorem dL_law_182 : decode cL_law 182 = .ok (.iaload, 1) := by decide +kernel
theorem dL_law_183 : decode cL_law 183 = .ok (.aload_n 0, 1) := by decide +kernel
theorem dL_law_184 : decode cL_law 184 = .ok (.iload_n 3, 1) := by decide +kernel
theorem dL_law_185 : decode cL_law 185 = .ok (.iconst 3, 1) := by decide +kernel
theorem dL_law_186 : decode cL_law 186 = .ok (.iadd, 1) := by decide +kernel
theorem dL_law_187 : decode cL_law 187 = .ok (.iaload, 1) := by decide +kernel
theorem dL_law_188 : decode cL_law 188 = .ok (.aload_n 0, 1) := by decide +kernel
theorem dL_law_189 : decode cL_law 189 = .ok (.iload_n 3, 1) := by decide +kernel
theorem dL_law_190 : decode cL_law 190 = .ok (.iconst 4, 1) := by decide +kernel
theorem dL_law_191 : decode cL_law 191 = .ok (.iadd, 1) := by decide +kernel
theorem dL_law_192 : decode cL_law 192 = .ok (.iaload, 1) := by decide +kernel
theorem dL_law_193 : decode cL_law 193 = .ok (.invokevirtual 27, 3) := by decide +kernel
theorem dL_law_196 : decode cL_law 196 = .ok (.if_icmp .eq 274, 3) := by decide +kernel
theorem dL_law_199 : decode cL_law 199 = .ok (.iconst 0, 1) := by decide +kernel
theorem dL_law_200 : decode cL_law 200 = .ok (.ireturn, 1) := by decide +kernel
theorem dL_law_201 : decode cL_law 201 = .ok (.aload_n 1, 1) := by decide +kernel
theorem dL_law_202 : decode cL_law 202 = .ok (.aload_n 0, 1) := by decide +kernel
theorem dL_law_203 : decode cL_law 203 = .ok (.iload_n 3, 1) := by decide +kernel
theorem dL_law_204 : decode cL_law 204 = .ok (.iconst 1, 1) := by decide +kernel
theorem dL_law_205 : decode cL_law 205 = .ok (.iadd, 1) := by decide +kernel
theorem dL_law_206 : decode cL_law 206 = .ok (.iaload, 1) := by decide +kernel
theorem dL_law_207 : decode cL_law 207 = .ok (.aload_n 0, 1) := by decide +kernel
theorem dL_law_208 : decode cL_law 208 = .ok (.iload_n 3, 1) := by decide +kernel
theorem dL_law_209 : decode cL_law 209 = .ok (.iconst 2, 1) := by decide +kernel
theorem dL_law_210 : decode cL_law 210 = .ok (.iadd, 1) := by decide +kernel
theorem dL_law_211 : decode cL_law 211 = .ok (.iaload, 1) := by decide +kernel
theorem dL_law_212 : decode cL_law 212 = .ok (.invokevirtual 28, 3) := by decide +kernel
theorem dL_law_215 : decode cL_law 215 = .ok (.aload_n 2, 1) := by decide +kernel
theorem dL_law_216 : decode cL_law 216 = .ok (.aload_n 0, 1) := by decide +kernel
theorem dL_law_217 : decode cL_law 217 = .ok (.iload_n 3, 1) := by decide +kernel
theorem dL_law_218 : decode cL_law 218 = .ok (.iconst 1, 1) := by decide +kernel
theorem dL_law_219 : decode cL_law 219 = .ok (.iadd, 1) := by decide +kernel
theorem dL_law_220 : decode cL_law 220 = .ok (.iaload, 1) := by decide +kernel
theorem dL_law_221 : decode cL_law 221 = .ok (.aload_n 0, 1) := by decide +kernel
theorem dL_law_222 : decode cL_law 222 = .ok (.iload_n 3, 1) := by decide +kernel
theorem dL_law_223 : decode cL_law 223 = .ok (.iconst 2, 1) := by decide +kernel
theorem dL_law_224 : decode cL_law 224 = .ok (.iadd, 1) := by decide +kernel
theorem dL_law_225 : decode cL_law 225 = .ok (.iaload, 1) := by decide +kernel
theorem dL_law_226 : decode cL_law 226 = .ok (.invokevirtual 32, 3) := by decide +kernel
theorem dL_law_229 : decode cL_law 229 = .ok (.if_icmp .eq 241, 3) := by decide +kernel
theorem dL_law_232 : decode cL_law 232 = .ok (.iconst 0, 1) := by decide +kernel
theorem dL_law_233 : decode cL_law 233 = .ok (.ireturn, 1) := by decide +kernel
theorem dL_law_234 : decode cL_law 234 = .ok (.aload_n 1, 1) := by decide +kernel
theorem dL_law_235 : decode cL_law 235 = .ok (.invokevirtual 33, 3) := by decide +kernel
theorem dL_law_238 : decode cL_law 238 = .ok (.aload_n 2, 1) := by decide +kernel
theorem dL_law_239 : decode cL_law 239 = .ok (.invokevirtual 36, 3) := by decide +kernel
theorem dL_law_242 : decode cL_law 242 = .ok (.if_icmp .eq 228, 3) := by decide +kernel
theorem dL_law_245 : decode cL_law 245 = .ok (.iconst 0, 1) := by decide +kernel
theorem dL_law_246 : decode cL_law 246 = .ok (.ireturn, 1) := by decide +kernel
theorem dL_law_247 : decode cL_law 247 = .ok (.aload_n 1, 1) := by decide +kernel
theorem dL_law_248 : decode cL_law 248 = .ok (.invokevirtual 37, 3) := by decide +kernel
theorem dL_law_251 : decode cL_law 251 = .ok (.aload_n 2, 1) := by decide +kernel
theorem dL_law_252 : decode cL_law 252 = .ok (.invokevirtual 40, 3) := by decide +kernel
theorem dL_law_255 : decode cL_law 255 = .ok (.if_icmp .eq 215, 3) := by decide +kernel
theorem dL_law_258 : decode cL_law 258 = .ok (.iconst 0, 1) := by decide +kernel
theorem dL_law_259 : decode cL_law 259 = .ok (.ireturn, 1) := by decide +kernel
theorem dL_law_260 : decode cL_law 260 = .ok (.aload_n 1, 1) := by decide +kernel
theorem dL_law_261 : decode cL_law 261 = .ok (.aload_n 0, 1) := by decide +kernel
theorem dL_law_262 : decode cL_law 262 = .ok (.iload_n 3, 1) := by decide +kernel
theorem dL_law_263 : decode cL_law 263 = .ok (.iconst 1, 1) := by decide +kernel
theorem dL_law_264 : decode cL_law 264 = .ok (.iadd, 1) := by decide +kernel
theorem dL_law_265 : decode cL_law 265 = .ok (.iaload, 1) := by decide +kernel
theorem dL_law_266 : decode cL_law 266 = .ok (.invokevirtual 41, 3) := by decide +kernel
theorem dL_law_269 : decode cL_law 269 = .ok (.aload_n 2, 1) := by decide +kernel
theorem dL_law_270 : decode cL_law 270 = .ok (.aload_n 0, 1) := by decide +kernel
theorem dL_law_271 : decode cL_law 271 = .ok (.iload_n 3, 1) := by decide +kernel
theorem dL_law_272 : decode cL_law 272 = .ok (.iconst 1, 1) := by decide +kernel
theorem dL_law_273 : decode cL_law 273 = .ok (.iadd, 1) := by decide +kernel
theorem dL_law_274 : decode cL_law 274 = .ok (.iaload, 1) := by decide +kernel
theorem dL_law_275 : decode cL_law 275 = .ok (.invokevirtual 44, 3) := by decide +kernel
theorem dL_law_278 : decode cL_law 278 = .ok (.if_icmp .eq 192, 3) := by decide +kernel
theorem dL_law_281 : decode cL_law 281 = .ok (.iconst 0, 1) := by decide +kernel
theorem dL_law_282 : decode cL_law 282 = .ok (.ireturn, 1) := by decide +kernel
theorem dL_law_283 : decode cL_law 283 = .ok (.aload_n 1, 1) := by decide +kernel
theorem dL_law_284 : decode cL_law 284 = .ok (.aload_n 0, 1) := by decide +kernel
theorem dL_law_285 : decode cL_law 285 = .ok (.iload_n 3, 1) := by decide +kernel
theorem dL_law_286 : decode cL_law 286 = .ok (.iconst 1, 1) := by decide +kernel
theorem dL_law_287 : decode cL_law 287 = .ok (.iadd, 1) := by decide +kernel
theorem dL_law_288 : decode cL_law 288 = .ok (.iaload, 1) := by decide +kernel
theorem dL_law_289 : decode cL_law 289 = .ok (.invokevirtual 45, 3) := by decide +kernel
theorem dL_law_292 : decode cL_law 292 = .ok (.aload_n 2, 1) := by decide +kernel
theorem dL_law_293 : decode cL_law 293 = .ok (.aload_n 0, 1) := by decide +kernel
theorem dL_law_294 : decode cL_law 294 = .ok (.iload_n 3, 1) := by decide +kernel
theorem dL_law_295 : decode cL_law 295 = .ok (.iconst 1, 1) := by decide +kernel
theorem dL_law_296 : decode cL_law 296 = .ok (.iadd, 1) := by decide +kernel
theorem dL_law_297 : decode cL_law 297 = .ok (.iaload, 1) := by decide +kernel
theorem dL_law_298 : decode cL_law 298 = .ok (.invokevirtual 48, 3) := by decide +kernel
theorem dL_law_301 : decode cL_law 301 = .ok (.if_icmp .eq 169, 3) := by decide +kernel
theorem dL_law_304 : decode cL_law 304 = .ok (.iconst 0, 1) := by decide +kernel
theorem dL_law_305 : decode cL_law 305 = .ok (.ireturn, 1) := by decide +kernel
theorem dL_law_306 : decode cL_law 306 = .ok (.aload_n 1, 1) := by decide +kernel
theorem dL_law_307 : decode cL_law 307 = .ok (.invokevirtual 49, 3) := by decide +kernel
theorem dL_law_310 : decode cL_law 310 = .ok (.aload_n 2, 1) := by decide +kernel
theorem dL_law_311 : decode cL_law 311 = .ok (.invokevirtual 52, 3) := by decide +kernel
theorem dL_law_314 : decode cL_law 314 = .ok (.if_icmp .eq 156, 3) := by decide +kernel
theorem dL_law_317 : decode cL_law 317 = .ok (.iconst 0, 1) := by decide +kernel
theorem dL_law_318 : decode cL_law 318 = .ok (.ireturn, 1) := by decide +kernel
theorem dL_law_319 : decode cL_law 319 = .ok (.aload_n 1, 1) := by decide +kernel
theorem dL_law_320 : decode cL_law 320 = .ok (.aload_n 0, 1) := by decide +kernel
theorem dL_law_321 : decode cL_law 321 = .ok (.iload_n 3, 1) := by decide +kernel
theorem dL_law_322 : decode cL_law 322 = .ok (.iconst 1, 1) := by decide +kernel
theorem dL_law_323 : decode cL_law 323 = .ok (.iadd, 1) := by decide +kernel
theorem dL_law_324 : decode cL_law 324 = .ok (.iaload, 1) := by decide +kernel
theorem dL_law_325 : decode cL_law 325 = .ok (.invokevirtual 53, 3) := by decide +kernel
theorem dL_law_328 : decode cL_law 328 = .ok (.aload_n 2, 1) := by decide +kernel
theorem dL_law_329 : decode cL_law 329 = .ok (.aload_n 0, 1) := by decide +kernel
theorem dL_law_330 : decode cL_law 330 = .ok (.iload_n 3, 1) := by decide +kernel
theorem dL_law_331 : decode cL_law 331 = .ok (.iconst 1, 1) := by decide +kernel
theorem dL_law_332 : decode cL_law 332 = .ok (.iadd, 1) := by decide +kernel
theorem dL_law_333 : decode cL_law 333 = .ok (.iaload, 1) := by decide +kernel
theorem dL_law_334 : decode cL_law 334 = .ok (.invokevirtual 56, 3) := by decide +kernel
theorem dL_law_337 : decode cL_law 337 = .ok (.if_icmp .eq 133, 3) := by decide +kernel
theorem dL_law_340 : decode cL_law 340 = .ok (.iconst 0, 1) := by decide +kernel
theorem dL_law_341 : decode cL_law 341 = .ok (.ireturn, 1) := by decide +kernel
theorem dL_law_342 : decode cL_law 342 = .ok (.aload_n 1, 1) := by decide +kernel
theorem dL_law_343 : decode cL_law 343 = .ok (.aload_n 0, 1) := by decide +kernel
theorem dL_law_344 : decode cL_law 344 = .ok (.iload_n 3, 1) := by decide +kernel
theorem dL_law_345 : decode cL_law 345 = .ok (.iconst 1, 1) := by decide +kernel
theorem dL_law_346 : decode cL_law 346 = .ok (.iadd, 1) := by decide +kernel
theorem dL_law_347 : decode cL_law 347 = .ok (.iaload, 1) := by decide +kernel
theorem dL_law_348 : decode cL_law 348 = .ok (.invokevirtual 57, 3) := by decide +kernel
theorem dL_law_351 : decode cL_law 351 = .ok (.aload_n 2, 1) := by decide +kernel
theorem dL_law_352 : decode cL_law 352 = .ok (.aload_n 0, 1) := by decide +kernel
theorem dL_law_353 : decode cL_law 353 = .ok (.iload_n 3, 1) := by decide +kernel
theorem dL_law_354 : decode cL_law 354 = .ok (.iconst 1, 1) := by decide +kernel
theorem dL_law_355 : decode cL_law 355 = .ok (.iadd, 1) := by decide +kernel
theorem dL_law_356 : decode cL_law 356 = .ok (.iaload, 1) := by decide +kernel
theorem dL_law_357 : decode cL_law 357 = .ok (.invokevirtual 61, 3) := by decide +kernel
theorem dL_law_360 : decode cL_law 360 = .ok (.if_icmp .eq 110, 3) := by decide +kernel
theorem dL_law_363 : decode cL_law 363 = .ok (.iconst 0, 1) := by decide +kernel
theorem dL_law_364 : decode cL_law 364 = .ok (.ireturn, 1) := by decide +kernel
theorem dL_law_365 : decode cL_law 365 = .ok (.aload_n 1, 1) := by decide +kernel
theorem dL_law_366 : decode cL_law 366 = .ok (.invokevirtual 62, 3) := by decide +kernel
theorem dL_law_369 : decode cL_law 369 = .ok (.aload_n 2, 1) := by decide +kernel
theorem dL_law_370 : decode cL_law 370 = .ok (.invokevirtual 65, 3) := by decide +kernel
theorem dL_law_373 : decode cL_law 373 = .ok (.if_icmp .eq 97, 3) := by decide +kernel
theorem dL_law_376 : decode cL_law 376 = .ok (.iconst 0, 1) := by decide +kernel
theorem dL_law_377 : decode cL_law 377 = .ok (.ireturn, 1) := by decide +kernel
theorem dL_law_378 : decode cL_law 378 = .ok (.aload_n 1, 1) := by decide +kernel
theorem dL_law_379 : decode cL_law 379 = .ok (.aload_n 0, 1) := by decide +kernel
theorem dL_law_380 : decode cL_law 380 = .ok (.iload_n 3, 1) := by decide +kernel
theorem dL_law_381 : decode cL_law 381 = .ok (.iconst 1, 1) := by decide +kernel
theorem dL_law_382 : decode cL_law 382 = .ok (.iadd, 1) := by decide +kernel
theorem dL_law_383 : decode cL_law 383 = .ok (.iaload, 1) := by decide +kernel
theorem dL_law_384 : decode cL_law 384 = .ok (.aload_n 0, 1) := by decide +kernel
theorem dL_law_385 : decode cL_law 385 = .ok (.iload_n 3, 1) := by decide +kernel
theorem dL_law_386 : decode cL_law 386 = .ok (.iconst 2, 1) := by decide +kernel
theorem dL_law_387 : decode cL_law 387 = .ok (.iadd, 1) := by decide +kernel
theorem dL_law_388 : decode cL_law 388 = .ok (.iaload, 1) := by decide +kernel
theorem dL_law_389 : decode cL_law 389 = .ok (.invokevirtual 66, 3) := by decide +kernel
theorem dL_law_392 : decode cL_law 392 = .ok (.aload_n 2, 1) := by decide +kernel
theorem dL_law_393 : decode cL_law 393 = .ok (.aload_n 0, 1) := by decide +kernel
theorem dL_law_394 : decode cL_law 394 = .ok (.iload_n 3, 1) := by decide +kernel
theorem dL_law_395 : decode cL_law 395 = .ok (.iconst 1, 1) := by decide +kernel
theorem dL_law_396 : decode cL_law 396 = .ok (.iadd, 1) := by decide +kernel
theorem dL_law_397 : decode cL_law 397 = .ok (.iaload, 1) := by decide +kernel
theorem dL_law_398 : decode cL_law 398 = .ok (.aload_n 0, 1) := by decide +kernel
theorem dL_law_399 : decode cL_law 399 = .ok (.iload_n 3, 1) := by decide +kernel
theorem dL_law_400 : decode cL_law 400 = .ok (.iconst 2, 1) := by decide +kernel
theorem dL_law_401 : decode cL_law 401 = .ok (.iadd, 1) := by decide +kernel
theorem dL_law_402 : decode cL_law 402 = .ok (.iaload, 1) := by decide +kernel
theorem dL_law_403 : decode cL_law 403 = .ok (.invokevirtual 70, 3) := by decide +kernel
theorem dL_law_406 : decode cL_law 406 = .ok (.if_icmp .eq 64, 3) := by decide +kernel
theorem dL_law_409 : decode cL_law 409 = .ok (.iconst 0, 1) := by decide +kernel
theorem dL_law_410 : decode cL_law 410 = .ok (.ireturn, 1) := by decide +kernel
theorem dL_law_411 : decode cL_law 411 = .ok (.aload_n 1, 1) := by decide +kernel
theorem dL_law_412 : decode cL_law 412 = .ok (.invokevirtual 71, 3) := by decide +kernel
theorem dL_law_415 : decode cL_law 415 = .ok (.aload_n 2, 1) := by decide +kernel
theorem dL_law_416 : decode cL_law 416 = .ok (.invokevirtual 75, 3) := by decide +kernel
theorem dL_law_419 : decode cL_law 419 = .ok (.if_icmp .eq 51, 3) := by decide +kernel
theorem dL_law_422 : decode cL_law 422 = .ok (.iconst 0, 1) := by decide +kernel
theorem dL_law_423 : decode cL_law 423 = .ok (.ireturn, 1) := by decide +kernel
theorem dL_law_424 : decode cL_law 424 = .ok (.aload_n 1, 1) := by decide +kernel
theorem dL_law_425 : decode cL_law 425 = .ok (.aload_n 0, 1) := by decide +kernel
theorem dL_law_426 : decode cL_law 426 = .ok (.iload_n 3, 1) := by decide +kernel
theorem dL_law_427 : decode cL_law 427 = .ok (.iconst 1, 1) := by decide +kernel
theorem dL_law_428 : decode cL_law 428 = .ok (.iadd, 1) := by decide +kernel
theorem dL_law_429 : decode cL_law 429 = .ok (.iaload, 1) := by decide +kernel
theorem dL_law_430 : decode cL_law 430 = .ok (.invokevirtual 76, 3) := by decide +kernel
theorem dL_law_433 : decode cL_law 433 = .ok (.aload_n 2, 1) := by decide +kernel
theorem dL_law_434 : decode cL_law 434 = .ok (.aload_n 0, 1) := by decide +kernel
theorem dL_law_435 : decode cL_law 435 = .ok (.iload_n 3, 1) := by decide +kernel
theorem dL_law_436 : decode cL_law 436 = .ok (.iconst 1, 1) := by decide +kernel
theorem dL_law_437 : decode cL_law 437 = .ok (.iadd, 1) := by decide +kernel
theorem dL_law_438 : decode cL_law 438 = .ok (.iaload, 1) := by decide +kernel
theorem dL_law_439 : decode cL_law 439 = .ok (.invokevirtual 79, 3) := by decide +kernel
theorem dL_law_442 : decode cL_law 442 = .ok (.if_icmp .eq 28, 3) := by decide +kernel
theorem dL_law_445 : decode cL_law 445 = .ok (.iconst 0, 1) := by decide +kernel
theorem dL_law_446 : decode cL_law 446 = .ok (.ireturn, 1) := by decide +kernel
theorem dL_law_447 : decode cL_law 447 = .ok (.aload_n 1, 1) := by decide +kernel
theorem dL_law_448 : decode cL_law 448 = .ok (.aload_n 0, 1) := by decide +kernel
theorem dL_law_449 : decode cL_law 449 = .ok (.iload_n 3, 1) := by decide +kernel
theorem dL_law_450 : decode cL_law 450 = .ok (.iconst 1, 1) := by decide +kernel
theorem dL_law_451 : decode cL_law 451 = .ok (.iadd, 1) := by decide +kernel
theorem dL_law_452 : decode cL_law 452 = .ok (.iaload, 1) := by decide +kernel
theorem dL_law_453 : decode cL_law 453 = .ok (.invokevirtual 80, 3) := by decide +kernel
theorem dL_law_456 : decode cL_law 456 = .ok (.aload_n 2, 1) := by decide +kernel
theorem dL_law_457 : decode cL_law 457 = .ok (.aload_n 0, 1) := by decide +kernel
theorem dL_law_458 : decode cL_law 458 = .ok (.iload_n 3, 1) := by decide +kernel
theorem dL_law_459 : decode cL_law 459 = .ok (.iconst 1, 1) := by decide +kernel
theorem dL_law_460 : decode cL_law 460 = .ok (.iadd, 1) := by decide +kernel
theorem dL_law_461 : decode cL_law 461 = .ok (.iaload, 1) := by decide +kernel
theorem dL_law_462 : decode cL_law 462 = .ok (.invokevirtual 83, 3) := by decide +kernel
theorem dL_law_465 : decode cL_law 465 = .ok (.if_icmp .eq 5, 3) := by decide +kernel
theorem dL_law_468 : decode cL_law 468 = .ok (.iconst 0, 1) := by decide +kernel
theorem dL_law_469 : decode cL_law 469 = .ok (.ireturn, 1) := by decide +kernel
theorem dL_law_470 : decode cL_law 470 = .ok (.iinc 3 5, 3) := by decide +kernel
theorem dL_law_473 : decode cL_law 473 = .ok (.goto (-455), 3) := by decide +kernel
theorem dL_law_476 : decode cL_law 476 = .ok (.iconst 1, 1) := by decide +kernel
theorem dL_law_477 : decode cL_law 477 = .ok (.ireturn, 1) := by decide +kernel
abbrev vwCl : List vw_C := [(RX0, TX0, 6), (RX2, TX2, 2), (RX3, TX3, 13), (RX4, TX4, 9), (RX5, TX5, 4), (RX6, TX6, 27)]
