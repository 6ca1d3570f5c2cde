theorem dX4_begin_44 : decode cX4_begin 44 = .ok (.getfield 33, 3) := by decide +kernel
theorem dX4_begin_47 : decode cX4_begin 47 = .ok (.iconst 0, 1) := by decide +kernel
theorem dX4_begin_48 : decode cX4_begin 48 = .ok (.iconst 0, 1) := by decide +kernel
theorem dX4_begin_49 : decode cX4_begin 49 = .ok (.iastore, 1) := by decide +kernel
theorem dX4_begin_50 : decode cX4_begin 50 = .ok (.aload_n 0, 1) := by decide +kernel
theorem dX4_begin_51 : decode cX4_begin 51 = .ok (.getfield 36, 3) := by decide +kernel
theorem dX4_begin_54 : decode cX4_begin 54 = .ok (.iconst 0, 1) := by decide +kernel
theorem dX4_begin_55 : decode cX4_begin 55 = .ok (.iconst 0, 1) := by decide +kernel
theorem dX4_begin_56 : decode cX4_begin 56 = .ok (.iastore, 1) := by decide +kernel
theorem dX4_begin_57 : decode cX4_begin 57 = .ok (.aload_n 0, 1) := by decide +kernel
theorem dX4_begin_58 : decode cX4_begin 58 = .ok (.iconst 1, 1) := by decide +kernel
theorem dX4_begin_59 : decode cX4_begin 59 = .ok (.putfield 19, 3) := by decide +kernel
theorem dX4_begin_62 : decode cX4_begin 62 = .ok (.aload_n 0, 1) := by decide +kernel
theorem dX4_begin_63 : decode cX4_begin 63 = .ok (.iconst 0, 1) := by decide +kernel
theorem dX4_begin_64 : decode cX4_begin 64 = .ok (.putfield 22, 3) := by decide +kernel
theorem dX4_begin_67 : decode cX4_begin 67 = .ok (.return_, 1) := by decide +kernel
set_option maxRecDepth 20000 in
theorem ggX4_hasTwinAbove_X4_isAtLeast : GoodIn wsX4_hasTwinAbove wsX4_isAtLeast := goodIn_r _ [7, 8, 9, 10, 11, 12, 13, 14, 15, 16, 17, 18] (by decide +kernel) (by decide +kernel)
set_option maxRecDepth 20000 in
theorem gX4_hasTwinAbove_X4_isAtLeast : GoodIn wsX4_hasTwinAbove (wsV RX4 69 RX4 yX4_isAtLeast wsX4_isAtLeast) := goodIn_app (goodIn_of _ (by decide +kernel)) ggX4_hasTwinAbove_X4_isAtLeast
theorem dX4_hasTwinAbove_0 : decode cX4_hasTwinAbove 0 = .ok (.iload_n 1, 1) := by decide +kernel
theorem dX4_hasTwinAbove_1 : decode cX4_hasTwinAbove 1 = .ok (.istore_n 2, 1) := by decide +kernel
theorem dX4_hasTwinAbove_2 : decode cX4_hasTwinAbove 2 = .ok (.aload_n 0, 1) := by decide +kernel
theorem dX4_hasTwinAbove_3 : decode cX4_hasTwinAbove 3 = .ok (.getfield 36, 3) := by decide +kernel
theorem dX4_hasTwinAbove_6 : decode cX4_hasTwinAbove 6 = .ok (.iload_n 1, 1) := by decide +kernel
theorem dX4_hasTwinAbove_7 : decode cX4_hasTwinAbove 7 = .ok (.iaload, 1) := by decide +kernel
theorem dX4_hasTwinAbove_8 : decode cX4_hasTwinAbove 8 = .ok (.istore_n 3, 1) := by decide +kernel
theorem dX4_hasTwinAbove_9 : decode cX4_hasTwinAbove 9 = .ok (.iload_n 3, 1) := by decide +kernel
theorem dX4_hasTwinAbove_10 : decode cX4_hasTwinAbove 10 = .ok (.ifCond .le 36, 3) := by decide +kernel
theorem dX4_hasTwinAbove_13 : decode cX4_hasTwinAbove 13 = .ok (.aload_n 0, 1) := by decide +kernel
theorem dX4_hasTwinAbove_14 : decode cX4_hasTwinAbove 14 = .ok (.getfield 33, 3) := by decide +kernel
theorem dX4_hasTwinAbove_17 : decode cX4_hasTwinAbove 17 = .ok (.iload_n 2, 1) := by decide +kernel
theorem dX4_hasTwinAbove_18 : decode cX4_hasTwinAbove 18 = .ok (.iaload, 1) := by decide +kernel
theorem dX4_hasTwinAbove_19 : decode cX4_hasTwinAbove 19 = .ok (.istore_n 2, 1) := by decide +kernel
theorem dX4_hasTwinAbove_20 : decode cX4_hasTwinAbove 20 = .ok (.aload_n 0, 1) := by decide +kernel
theorem dX4_hasTwinAbove_21 : decode cX4_hasTwinAbove 21 = .ok (.iload_n 1, 1) := by decide +kernel
theorem dX4_hasTwinAbove_22 : decode cX4_hasTwinAbove 22 = .ok (.iload_n 2, 1) := by decide +kernel
theorem dX4_hasTwinAbove_23 : decode cX4_hasTwinAbove 23 = .ok (.invokevirtual 69, 3) := by decide +kernel
theorem dX4_hasTwinAbove_26 : decode cX4_hasTwinAbove 26 = .ok (.ifCond .eq 14, 3) := by decide +kernel
theorem dX4_hasTwinAbove_29 : decode cX4_hasTwinAbove 29 = .ok (.aload_n 0, 1) := by decide +kernel
theorem dX4_hasTwinAbove_30 : decode cX4_hasTwinAbove 30 = .ok (.iload_n 2, 1) := by decide +kernel
theorem dX4_hasTwinAbove_31 : decode cX4_hasTwinAbove 31 = .ok (.iload_n 1, 1) := by decide +kernel
theorem dX4_hasTwinAbove_32 : decode cX4_hasTwinAbove 32 = .ok (.invokevirtual 69, 3) := by decide +kernel
theorem dX4_hasTwinAbove_35 : decode cX4_hasTwinAbove 35 = .ok (.ifCond .eq 5, 3) := by decide +kernel
theorem dX4_hasTwinAbove_38 : decode cX4_hasTwinAbove 38 = .ok (.iconst 1, 1) := by decide +kernel
theorem dX4_hasTwinAbove_39 : decode cX4_hasTwinAbove 39 = .ok (.ireturn, 1) := by decide +kernel
theorem dX4_hasTwinAbove_40 : decode cX4_hasTwinAbove 40 = .ok (.iinc 3 (-1), 3) := by decide +kernel
theorem dX4_hasTwinAbove_43 : decode cX4_hasTwinAbove 43 = .ok (.goto (-34), 3) := by decide +kernel
theorem dX4_hasTwinAbove_46 : decode cX4_hasTwinAbove 46 = .ok (.iconst 0, 1) := by decide +kernel
theorem dX4_hasTwinAbove_47 : decode cX4_hasTwinAbove 47 = .ok (.ireturn, 1) := by decide +kernel
set_option maxRecDepth 20000 in
theorem ggX4_addChildren_X0_canFire : GoodIn wsX4_addChildren wsX0_canFire := goodIn_r _ [9, 10, 11, 47, 48, 49, 50, 51, 52] (by decide +kernel) (by decide +kernel)
set_option maxRecDepth 20000 in
theorem gX4_addChildren_X0_canFire : GoodIn wsX4_addChildren (wsV RX4 76 RX0 yX0_canFire wsX0_canFire) := goodIn_app (goodIn_of _ (by decide +kernel)) ggX4_addChildren_X0_canFire
set_option maxRecDepth 20000 in
theorem ggX4_addChildren_X4_addChild : GoodIn wsX4_addChildren wsX4_addChild := goodIn_r _ [16, 3, 17, 18, 2, 19, 20, 21, 22, 23, 24, 25, 8, 26, 11, 27, 28, 10, 29, 30, 31, 15, 32, 33, 34, 35, 36, 37, 38, 39, 40, 41, 42, 43, 44, 45, 46, 53, 54, 55, 56, 57, 58, 59, 60, 61, 47, 48, 49, 50, 51, 52] (by decide +kernel) (by decide +kernel)
set_option maxRecDepth 20000 in
theorem gX4_addChildren_X4_addChild : GoodIn wsX4_addChildren (wsV RX4 80 RX4 yX4_addChild wsX4_addChild) := goodIn_app (goodIn_of _ (by decide +kernel)) ggX4_addChildren_X4_addChild
theorem dX4_addChildren_0 : decode cX4_addChildren 0 = .ok (.iconst 0, 1) := by decide +kernel
theorem dX4_addChildren_1 : decode cX4_addChildren 1 = .ok (.istore_n 3, 1) := by decide +kernel
theorem dX4_addChildren_2 : decode cX4_addChildren 2 = .ok (.iload_n 3, 1) := by decide +kernel
theorem dX4_addChildren_3 : decode cX4_addChildren 3 = .ok (.aload_n 1, 1) := by decide +kernel
theorem dX4_addChildren_4 : decode cX4_addChildren 4 = .ok (.getfield 73, 3) := by decide +kernel
theorem dX4_addChildren_7 : decode cX4_addChildren 7 = .ok (.if_icmp .ge 50, 3) := by decide +kernel
theorem dX4_addChildren_10 : decode cX4_addChildren 10 = .ok (.aload_n 1, 1) := by decide +kernel
theorem dX4_addChildren_11 : decode cX4_addChildren 11 = .ok (.iload_n 3, 1) := by decide +kernel
theorem dX4_addChildren_12 : decode cX4_addChildren 12 = .ok (.aload_n 0, 1) := by decide +kernel
theorem dX4_addChildren_13 : decode cX4_addChildren 13 = .ok (.getfield 29, 3) := by decide +kernel
theorem dX4_addChildren_16 : decode cX4_addChildren 16 = .ok (.iload_n 2, 1) := by decide +kernel
theorem dX4_addChildren_17 : decode cX4_addChildren 17 = .ok (.iconst 5, 1) := by decide +kernel
theorem dX4_addChildren_18 : decode cX4_addChildren 18 = .ok (.imul, 1) := by decide +kernel
theorem dX4_addChildren_19 : decode cX4_addChildren 19 = .ok (.invokevirtual 76, 3) := by decide +kernel
theorem dX4_addChildren_22 : decode cX4_addChildren 22 = .ok (.ifCond .eq 29, 3) := by decide +kernel
theorem dX4_addChildren_25 : decode cX4_addChildren 25 = .ok (.aload_n 0, 1) := by decide +kernel
theorem dX4_addChildren_26 : decode cX4_addChildren 26 = .ok (.getfield 19, 3) := by decide +kernel
theorem dX4_addChildren_29 : decode cX4_addChildren 29 = .ok (.sipush 1000, 3) := by decide +kernel
theorem dX4_addChildren_32 : decode cX4_addChildren 32 = .ok (.if_icmp .lt 5, 3) := by decide +kernel
theorem dX4_addChildren_35 : decode cX4_addChildren 35 = .ok (.iconst 0, 1) := by decide +kernel
theorem dX4_addChildren_36 : decode cX4_addChildren 36 = .ok (.ireturn, 1) := by decide +kernel
theorem dX4_addChildren_37 : decode cX4_addChildren 37 = .ok (.aload_n 0, 1) := by decide +kernel
theorem dX4_addChildren_38 : decode cX4_addChildren 38 = .ok (.getfield 25, 3) := by decide +kernel
theorem dX4_addChildren_41 : decode cX4_addChildren 41 = .ok (.iload_n 3, 1) := by decide +kernel
theorem dX4_addChildren_42 : decode cX4_addChildren 42 = .ok (.iconst 1, 1) := by decide +kernel
theorem dX4_addChildren_43 : decode cX4_addChildren 43 = .ok (.bastore, 1) := by decide +kernel
theorem dX4_addChildren_44 : decode cX4_addChildren 44 = .ok (.aload_n 0, 1) := by decide +kernel
theorem dX4_addChildren_45 : decode cX4_addChildren 45 = .ok (.aload_n 1, 1) := by decide +kernel
theorem dX4_addChildren_46 : decode cX4_addChildren 46 = .ok (.iload_n 2, 1) := by decide +kernel
theorem dX4_addChildren_47 : decode cX4_addChildren 47 = .ok (.iload_n 3, 1) := by decide +kernel
theorem dX4_addChildren_48 : decode cX4_addChildren 48 = .ok (.invokevirtual 80, 3) := by decide +kernel
theorem dX4_addChildren_51 : decode cX4_addChildren 51 = .ok (.iinc 3 1, 3) := by decide +kernel
theorem dX4_addChildren_54 : decode cX4_addChildren 54 = .ok (.goto (-52), 3) := by decide +kernel
theorem dX4_addChildren_57 : decode cX4_addChildren 57 = .ok (.iconst 1, 1) := by decide +kernel
theorem dX4_addChildren_58 : decode cX4_addChildren 58 = .ok (.ireturn, 1) := by decide +kernel
set_option maxRecDepth 20000 in
theorem ggX4_addChild_X0_move : GoodIn wsX4_addChild wsX0_move := goodIn_r _ [13, 14, 15, 16, 17, 46, 47, 48, 49, 50, 51] (by decide +kernel) (by decide +kernel)
set_option maxRecDepth 20000 in
theorem gX4_addChild_X0_move : GoodIn wsX4_addChild (wsV RX4 84 RX0 yX0_move wsX0_move) := goodIn_app (goodIn_of _ (by decide +kernel)) ggX4_addChild_X0_move
set_option maxRecDepth 20000 in
theorem ggX4_addChild_X4_accelerate : GoodIn wsX4_addChild wsX4_accelerate := goodIn_r _ [22, 23, 3, 2, 24, 25, 26, 21, 27, 4, 28, 29, 30, 31, 32, 33, 34, 35, 36, 37, 38, 39, 40, 41, 42, 43, 44, 45] (by decide +kernel) (by decide +kernel)
set_option maxRecDepth 20000 in
theorem gX4_addChild_X4_accelerate : GoodIn wsX4_addChild (wsV RX4 88 RX4 yX4_accelerate wsX4_accelerate) := goodIn_app (goodIn_of _ (by decide +kernel)) ggX4_addChild_X4_accelerate
theorem dX4_addChild_0 : decode cX4_addChild 0 = .ok (.aload_n 0, 1) := by decide +kernel
theorem dX4_addChild_1 : decode cX4_addChild 1 = .ok (.getfield 19, 3) := by decide +kernel
theorem dX4_addChild_4 : decode cX4_addChild 4 = .ok (.istore 4, 2) := by decide +kernel
theorem dX4_addChild_6 : decode cX4_addChild 6 = .ok (.aload_n 0, 1) := by decide +kernel
theorem dX4_addChild_7 : decode cX4_addChild 7 = .ok (.iload 4, 2) := by decide +kernel
theorem dX4_addChild_9 : decode cX4_addChild 9 = .ok (.iconst 1, 1) := by decide +kernel
theorem dX4_addChild_10 : decode cX4_addChild 10 = .ok (.iadd, 1) := by decide +kernel
theorem dX4_addChild_11 : decode cX4_addChild 11 = .ok (.putfield 19, 3) := by decide +kernel
theorem dX4_addChild_14 : decode cX4_addChild 14 = .ok (.aload_n 0, 1) := by decide +kernel
theorem dX4_addChild_15 : decode cX4_addChild 15 = .ok (.getfield 33, 3) := by decide +kernel
theorem dX4_addChild_18 : decode cX4_addChild 18 = .ok (.iload 4, 2) := by decide +kernel
theorem dX4_addChild_20 : decode cX4_addChild 20 = .ok (.iload_n 2, 1) := by decide +kernel
theorem dX4_addChild_21 : decode cX4_addChild 21 = .ok (.iastore, 1) := by decide +kernel
theorem dX4_addChild_22 : decode cX4_addChild 22 = .ok (.aload_n 0, 1) := by decide +kernel
theorem dX4_addChild_23 : decode cX4_addChild 23 = .ok (.getfield 36, 3) := by decide +kernel
theorem dX4_addChild_26 : decode cX4_addChild 26 = .ok (.iload 4, 2) := by decide +kernel
theorem dX4_addChild_28 : decode cX4_addChild 28 = .ok (.aload_n 0, 1) := by decide +kernel
theorem dX4_addChild_29 : decode cX4_addChild 29 = .ok (.getfield 36, 3) := by decide +kernel
theorem dX4_addChild_32 : decode cX4_addChild 32 = .ok (.iload_n 2, 1) := by decide +kernel
theorem dX4_addChild_33 : decode cX4_addChild 33 = .ok (.iaload, 1) := by decide +kernel
theorem dX4_addChild_34 : decode cX4_addChild 34 = .ok (.iconst 1, 1) := by decide +kernel
theorem dX4_addChild_35 : decode cX4_addChild 35 = .ok (.iadd, 1) := by decide +kernel
theorem dX4_addChild_36 : decode cX4_addChild 36 = .ok (.iastore, 1) := by decide +kernel
theorem dX4_addChild_37 : decode cX4_addChild 37 = .ok (.aload_n 0, 1) := by decide +kernel
theorem dX4_addChild_38 : decode cX4_addChild 38 = .ok (.getfield 29, 3) := by decide +kernel
theorem dX4_addChild_41 : decode cX4_addChild 41 = .ok (.iload_n 2, 1) := by decide +kernel
theorem dX4_addChild_42 : decode cX4_addChild 42 = .ok (.iconst 5, 1) := by decide +kernel
theorem dX4_addChild_43 : decode cX4_addChild 43 = .ok (.imul, 1) := by decide +kernel
theorem dX4_addChild_44 : decode cX4_addChild 44 = .ok (.aload_n 0, 1) := by decide +kernel
theorem dX4_addChild_45 : decode cX4_addChild 45 = .ok (.getfield 29, 3) := by decide +kernel
theorem dX4_addChild_48 : decode cX4_addChild 48 = .ok (.iload 4, 2) := by decide +kernel
theorem dX4_addChild_50 : decode cX4_addChild 50 = .ok (.iconst 5, 1) := by decide +kernel
theorem dX4_addChild_51 : decode cX4_addChild 51 = .ok (.imul, 1) := by decide +kernel
theorem dX4_addChild_52 : decode cX4_addChild 52 = .ok (.iconst 5, 1) := by decide +kernel
theorem dX4_addChild_53 : decode cX4_addChild 53 = .ok (.invokestatic 63, 3) := by decide +kernel
theorem dX4_addChild_56 : decode cX4_addChild 56 = .ok (.aload_n 1, 1) := by decide +kernel
theorem dX4_addChild_57 : decode cX4_addChild 57 = .ok (.iload_n 3, 1) := by decide +kernel
theorem dX4_addChild_58 : decode cX4_addChild 58 = .ok (.aload_n 0, 1) := by decide +kernel
theorem dX4_addChild_59 : decode cX4_addChild 59 = .ok (.getfield 29, 3) := by decide +kernel
theorem dX4_addChild_62 : decode cX4_addChild 62 = .ok (.iload 4, 2) := by decide +kernel
theorem dX4_addChild_64 : decode cX4_addChild 64 = .ok (.iconst 5, 1) := by decide +kernel
theorem dX4_addChild_65 : decode cX4_addChild 65 = .ok (.imul, 1) := by decide +kernel
theorem dX4_addChild_66 : decode cX4_addChild 66 = .ok (.invokevirtual 84, 3) := by decide +kernel
theorem dX4_addChild_69 : decode cX4_addChild 69 = .ok (.aload_n 0, 1) := by decide +kernel
theorem dX4_addChild_70 : decode cX4_addChild 70 = .ok (.iload 4, 2) := by decide +kernel
theorem dX4_addChild_72 : decode cX4_addChild 72 = .ok (.invokevirtual 88, 3) := by decide +kernel
theorem dX4_addChild_75 : decode cX4_addChild 75 = .ok (.return_, 1) := by decide +kernel
set_option maxRecDepth 20000 in
theorem ggX4_accelerate_X4_isAtLeast : GoodIn wsX4_accelerate wsX4_isAtLeast := goodIn_r _ [8, 1, 9, 19, 20, 21, 22, 23, 24, 25, 26, 27] (by decide +kernel) (by decide +kernel)
set_option maxRecDepth 20000 in
theorem gX4_accelerate_X4_isAtLeast : GoodIn wsX4_accelerate (wsV RX4 69 RX4 yX4_isAtLeast wsX4_isAtLeast) := goodIn_app (goodIn_of _ (by decide +kernel)) ggX4_accelerate_X4_isAtLeast
set_option maxRecDepth 20000 in
theorem ggX4_accelerate_X4_raise : GoodIn wsX4_accelerate wsX4_raise := goodIn_r _ [13, 1, 14, 9, 15, 16, 17, 7, 18, 19, 20, 21, 22, 23, 24, 25, 26, 27] (by decide +kernel) (by decide +kernel)
set_option maxRecDepth 20000 in
theorem gX4_accelerate_X4_raise : GoodIn wsX4_accelerate (wsV RX4 92 RX4 yX4_raise wsX4_raise) := goodIn_app (goodIn_of _ (by decide +kernel)) ggX4_accelerate_X4_raise
theorem dX4_accelerate_0 : decode cX4_accelerate 0 = .ok (.iconst 1, 1) := by decide +kernel
theorem dX4_accelerate_1 : decode cX4_accelerate 1 = .ok (.istore_n 2, 1) := by decide +kernel
theorem dX4_accelerate_2 : decode cX4_accelerate 2 = .ok (.iconst 0, 1) := by decide +kernel
theorem dX4_accelerate_3 : decode cX4_accelerate 3 = .ok (.istore_n 3, 1) := by decide +kernel
theorem dX4_accelerate_4 : decode cX4_accelerate 4 = .ok (.iload_n 2, 1) := by decide +kernel
theorem dX4_accelerate_5 : decode cX4_accelerate 5 = .ok (.ifCond .eq 72, 3) := by decide +kernel
theorem dX4_accelerate_8 : decode cX4_accelerate 8 = .ok (.iload_n 3, 1) := by decide +kernel
theorem dX4_accelerate_9 : decode cX4_accelerate 9 = .ok (.aload_n 0, 1) := by decide +kernel
theorem dX4_accelerate_10 : decode cX4_accelerate 10 = .ok (.getfield 15, 3) := by decide +kernel
theorem dX4_accelerate_13 : decode cX4_accelerate 13 = .ok (.if_icmp .gt 64, 3) := by decide +kernel
theorem dX4_accelerate_16 : decode cX4_accelerate 16 = .ok (.iconst 0, 1) := by decide +kernel
theorem dX4_accelerate_17 : decode cX4_accelerate 17 = .ok (.istore_n 2, 1) := by decide +kernel
theorem dX4_accelerate_18 : decode cX4_accelerate 18 = .ok (.iload_n 1, 1) := by decide +kernel
theorem dX4_accelerate_19 : decode cX4_accelerate 19 = .ok (.istore 4, 2) := by decide +kernel
theorem dX4_accelerate_21 : decode cX4_accelerate 21 = .ok (.aload_n 0, 1) := by decide +kernel
theorem dX4_accelerate_22 : decode cX4_accelerate 22 = .ok (.getfield 36, 3) := by decide +kernel
theorem dX4_accelerate_25 : decode cX4_accelerate 25 = .ok (.iload_n 1, 1) := by decide +kernel
theorem dX4_accelerate_26 : decode cX4_accelerate 26 = .ok (.iaload, 1) := by decide +kernel
theorem dX4_accelerate_27 : decode cX4_accelerate 27 = .ok (.istore 5, 2) := by decide +kernel
theorem dX4_accelerate_29 : decode cX4_accelerate 29 = .ok (.iload 5, 2) := by decide +kernel
theorem dX4_accelerate_31 : decode cX4_accelerate 31 = .ok (.ifCond .le 40, 3) := by decide +kernel
theorem dX4_accelerate_34 : decode cX4_accelerate 34 = .ok (.aload_n 0, 1) := by decide +kernel
theorem dX4_accelerate_35 : decode cX4_accelerate 35 = .ok (.getfield 33, 3) := by decide +kernel
theorem dX4_accelerate_38 : decode cX4_accelerate 38 = .ok (.iload 4, 2) := by decide +kernel
theorem dX4_accelerate_40 : decode cX4_accelerate 40 = .ok (.iaload, 1) := by decide +kernel
theorem dX4_accelerate_41 : decode cX4_accelerate 41 = .ok (.istore 4, 2) := by decide +kernel
theorem dX4_accelerate_43 : decode cX4_accelerate 43 = .ok (.aload_n 0, 1) := by decide +kernel
theorem dX4_accelerate_44 : decode cX4_accelerate 44 = .ok (.iload_n 1, 1) := by decide +kernel
theorem dX4_accelerate_45 : decode cX4_accelerate 45 = .ok (.iload 4, 2) := by decide +kernel
theorem dX4_accelerate_47 : decode cX4_accelerate 47 = .ok (.invokevirtual 69, 3) := by decide +kernel
theorem dX4_accelerate_50 : decode cX4_accelerate 50 = .ok (.ifCond .eq 15, 3) := by decide +kernel
theorem dX4_accelerate_53 : decode cX4_accelerate 53 = .ok (.aload_n 0, 1) := by decide +kernel
theorem dX4_accelerate_54 : decode cX4_accelerate 54 = .ok (.iload_n 1, 1) := by decide +kernel
theorem dX4_accelerate_55 : decode cX4_accelerate 55 = .ok (.iload 4, 2) := by decide +kernel
theorem dX4_accelerate_57 : decode cX4_accelerate 57 = .ok (.invokevirtual 92, 3) := by decide +kernel
theorem dX4_accelerate_60 : decode cX4_accelerate 60 = .ok (.ifCond .eq 5, 3) := by decide +kernel
theorem dX4_accelerate_63 : decode cX4_accelerate 63 = .ok (.iconst 1, 1) := by decide +kernel
theorem dX4_accelerate_64 : decode cX4_accelerate 64 = .ok (.istore_n 2, 1) := by decide +kernel
theorem dX4_accelerate_65 : decode cX4_accelerate 65 = .ok (.iinc 5 (-1), 3) := by decide +kernel
theorem dX4_accelerate_68 : decode cX4_accelerate 68 = .ok (.goto (-39), 3) := by decide +kernel
theorem dX4_accelerate_71 : decode cX4_accelerate 71 = .ok (.iinc 3 1, 3) := by decide +kernel
theorem dX4_accelerate_74 : decode cX4_accelerate 74 = .ok (.goto (-70), 3) := by decide +kernel
theorem dX4_accelerate_77 : decode cX4_accelerate 77 = .ok (.return_, 1) := by decide +kernel
set_option maxRecDepth 20000 in
theorem ggX4_raise_X4_countAt : GoodIn wsX4_raise wsX4_countAt := goodIn_r _ [8, 3, 9, 10, 11, 12, 13, 14, 15, 16, 17] (by decide +kernel) (by decide +kernel)
set_option maxRecDepth 20000 in
theorem gX4_raise_X4_countAt : GoodIn wsX4_raise (wsV RX4 95 RX4 yX4_countAt wsX4_countAt) := goodIn_app (goodIn_of _ (by decide +kernel)) ggX4_raise_X4_countAt
theorem dX4_raise_0 : decode cX4_raise 0 = .ok (.iconst 0, 1) := by decide +kernel
theorem dX4_raise_1 : decode cX4_raise 1 = .ok (.istore_n 3, 1) := by decide +kernel
theorem dX4_raise_2 : decode cX4_raise 2 = .ok (.iconst 0, 1) := by decide +kernel
theorem dX4_raise_3 : decode cX4_raise 3 = .ok (.istore 4, 2) := by decide +kernel
theorem dX4_raise_5 : decode cX4_raise 5 = .ok (.iload 4, 2) := by decide +kernel
theorem dX4_raise_7 : decode cX4_raise 7 = .ok (.aload_n 0, 1) := by decide +kernel
theorem dX4_raise_8 : decode cX4_raise 8 = .ok (.getfield 15, 3) := by decide +kernel
theorem dX4_raise_11 : decode cX4_raise 11 = .ok (.if_icmp .ge 52, 3) := by decide +kernel
theorem dX4_raise_14 : decode cX4_raise 14 = .ok (.aload_n 0, 1) := by decide +kernel
theorem dX4_raise_15 : decode cX4_raise 15 = .ok (.iload_n 1, 1) := by decide +kernel
theorem dX4_raise_16 : decode cX4_raise 16 = .ok (.iload 4, 2) := by decide +kernel
theorem dX4_raise_18 : decode cX4_raise 18 = .ok (.invokevirtual 95, 3) := by decide +kernel
theorem dX4_raise_21 : decode cX4_raise 21 = .ok (.istore 5, 2) := by decide +kernel
theorem dX4_raise_23 : decode cX4_raise 23 = .ok (.iload 5, 2) := by decide +kernel
theorem dX4_raise_25 : decode cX4_raise 25 = .ok (.ldc 99, 2) := by decide +kernel
theorem dX4_raise_27 : decode cX4_raise 27 = .ok (.if_icmp .eq 30, 3) := by decide +kernel
theorem dX4_raise_30 : decode cX4_raise 30 = .ok (.iload 5, 2) := by decide +kernel
theorem dX4_raise_32 : decode cX4_raise 32 = .ok (.aload_n 0, 1) := by decide +kernel
theorem dX4_raise_33 : decode cX4_raise 33 = .ok (.iload_n 2, 1) := by decide +kernel
theorem dX4_raise_34 : decode cX4_raise 34 = .ok (.iload 4, 2) := by decide +kernel
theorem dX4_raise_36 : decode cX4_raise 36 = .ok (.invokevirtual 95, 3) := by decide +kernel
theorem dX4_raise_39 : decode cX4_raise 39 = .ok (.if_icmp .le 18, 3) := by decide +kernel
theorem dX4_raise_42 : decode cX4_raise 42 = .ok (.aload_n 0, 1) := by decide +kernel
theorem dX4_raise_43 : decode cX4_raise 43 = .ok (.getfield 29, 3) := by decide +kernel
theorem dX4_raise_46 : decode cX4_raise 46 = .ok (.iload_n 1, 1) := by decide +kernel
theorem dX4_raise_47 : decode cX4_raise 47 = .ok (.iconst 5, 1) := by decide +kernel
theorem dX4_raise_48 : decode cX4_raise 48 = .ok (.imul, 1) := by decide +kernel
theorem dX4_raise_49 : decode cX4_raise 49 = .ok (.iload 4, 2) := by decide +kernel
theorem dX4_raise_51 : decode cX4_raise 51 = .ok (.iadd, 1) := by decide +kernel
theorem dX4_raise_52 : decode cX4_raise 52 = .ok (.ldc 99, 2) := by decide +kernel
theorem dX4_raise_54 : decode cX4_raise 54 = .ok (.iastore, 1) := by decide +kernel
theorem dX4_raise_55 : decode cX4_raise 55 = .ok (.iconst 1, 1) := by decide +kernel
theorem dX4_raise_56 : decode cX4_raise 56 = .ok (.istore_n 3, 1) := by decide +kernel
theorem dX4_raise_57 : decode cX4_raise 57 = .ok (.iinc 4 1, 3) := by decide +kernel
theorem dX4_raise_60 : decode cX4_raise 60 = .ok (.goto (-55), 3) := by decide +kernel
theorem dX4_raise_63 : decode cX4_raise 63 = .ok (.iload_n 3, 1) := by decide +kernel
theorem dX4_raise_64 : decode cX4_raise 64 = .ok (.ireturn, 1) := by decide +kernel
set_option maxRecDepth 20000 in
theorem ggX4_gatherLimits_X4_hasLimitOver : GoodIn wsX4_gatherLimits wsX4_hasLimitOver := goodIn_r _ [6, 7, 8, 9, 10, 11, 5, 12, 13, 14, 31, 32, 33, 34, 35, 36, 37, 38, 39] (by decide +kernel) (by decide +kernel)
set_option maxRecDepth 20000 in
theorem gX4_gatherLimits_X4_hasLimitOver : GoodIn wsX4_gatherLimits (wsV RX4 100 RX4 yX4_hasLimitOver wsX4_hasLimitOver) := goodIn_app (goodIn_of _ (by decide +kernel)) ggX4_gatherLimits_X4_hasLimitOver
set_option maxRecDepth 20000 in
theorem ggX4_gatherLimits_X4_dropLimitsUnder : GoodIn wsX4_gatherLimits wsX4_dropLimitsUnder := goodIn_r _ [18, 7, 8, 9, 10, 11, 5, 12, 13, 14, 31, 32, 33, 34, 35, 36, 37, 38, 39] (by decide +kernel) (by decide +kernel)
set_option maxRecDepth 20000 in
theorem gX4_gatherLimits_X4_dropLimitsUnder : GoodIn wsX4_gatherLimits (wsV RX4 103 RX4 yX4_dropLimitsUnder wsX4_dropLimitsUnder) := goodIn_app (goodIn_of _ (by decide +kernel)) ggX4_gatherLimits_X4_dropLimitsUnder
set_option maxRecDepth 20000 in
theorem ggX4_gatherLimits_X4_insertLimit : GoodIn wsX4_gatherLimits wsX4_insertLimit := goodIn_r _ [22, 7, 8, 23, 24, 25, 5, 26, 13, 27, 28, 29, 30, 14, 31, 32, 33, 34, 35, 36, 37, 38, 39] (by decide +kernel) (by decide +kernel)
set_option maxRecDepth 20000 in
theorem gX4_gatherLimits_X4_insertLimit : GoodIn wsX4_gatherLimits (wsV RX4 106 RX4 yX4_insertLimit wsX4_insertLimit) := goodIn_app (goodIn_of _ (by decide +kernel)) ggX4_gatherLimits_X4_insertLimit
theorem dX4_gatherLimits_0 : decode cX4_gatherLimits 0 = .ok (.iconst 0, 1) := by decide +kernel
theorem dX4_gatherLimits_1 : decode cX4_gatherLimits 1 = .ok (.istore_n 1, 1) := by decide +kernel
theorem dX4_gatherLimits_2 : decode cX4_gatherLimits 2 = .ok (.iload_n 1, 1) := by decide +kernel
theorem dX4_gatherLimits_3 : decode cX4_gatherLimits 3 = .ok (.aload_n 0, 1) := by decide +kernel
theorem dX4_gatherLimits_4 : decode cX4_gatherLimits 4 = .ok (.getfield 19, 3) := by decide +kernel
theorem dX4_gatherLimits_7 : decode cX4_gatherLimits 7 = .ok (.if_icmp .ge 27, 3) := by decide +kernel
theorem dX4_gatherLimits_10 : decode cX4_gatherLimits 10 = .ok (.aload_n 0, 1) := by decide +kernel
theorem dX4_gatherLimits_11 : decode cX4_gatherLimits 11 = .ok (.iload_n 1, 1) := by decide +kernel
theorem dX4_gatherLimits_12 : decode cX4_gatherLimits 12 = .ok (.invokevirtual 100, 3) := by decide +kernel
theorem dX4_gatherLimits_15 : decode cX4_gatherLimits 15 = .ok (.ifCond .ne 13, 3) := by decide +kernel
theorem dX4_gatherLimits_18 : decode cX4_gatherLimits 18 = .ok (.aload_n 0, 1) := by decide +kernel
theorem dX4_gatherLimits_19 : decode cX4_gatherLimits 19 = .ok (.iload_n 1, 1) := by decide +kernel
theorem dX4_gatherLimits_20 : decode cX4_gatherLimits 20 = .ok (.invokevirtual 103, 3) := by decide +kernel
theorem dX4_gatherLimits_23 : decode cX4_gatherLimits 23 = .ok (.aload_n 0, 1) := by decide +kernel
theorem dX4_gatherLimits_24 : decode cX4_gatherLimits 24 = .ok (.iload_n 1, 1) := by decide +kernel
theorem dX4_gatherLimits_25 : decode cX4_gatherLimits 25 = .ok (.invokevirtual 106, 3) := by decide +kernel
theorem dX4_gatherLimits_28 : decode cX4_gatherLimits 28 = .ok (.iinc 1 1, 3) := by decide +kernel
theorem dX4_gatherLimits_31 : decode cX4_gatherLimits 31 = .ok (.goto (-29), 3) := by decide +kernel
theorem dX4_gatherLimits_34 : decode cX4_gatherLimits 34 = .ok (.return_, 1) := by decide +kernel
set_option maxRecDepth 20000 in
theorem ggX4_hasLimitOver_X4_isAtLeast : GoodIn wsX4_hasLimitOver wsX4_isAtLeast := goodIn_r _ [7, 8, 9, 10, 11, 12, 13, 14, 15, 16, 17, 18] (by decide +kernel) (by decide +kernel)
set_option maxRecDepth 20000 in
theorem gX4_hasLimitOver_X4_isAtLeast : GoodIn wsX4_hasLimitOver (wsV RX4 69 RX4 yX4_isAtLeast wsX4_isAtLeast) := goodIn_app (goodIn_of _ (by decide +kernel)) ggX4_hasLimitOver_X4_isAtLeast
theorem dX4_hasLimitOver_0 : decode cX4_hasLimitOver 0 = .ok (.iconst 0, 1) := by decide +kernel
theorem dX4_hasLimitOver_1 : decode cX4_hasLimitOver 1 = .ok (.istore_n 2, 1) := by decide +kernel
theorem dX4_hasLimitOver_2 : decode cX4_hasLimitOver 2 = .ok (.iload_n 2, 1) := by decide +kernel
theorem dX4_hasLimitOver_3 : decode cX4_hasLimitOver 3 = .ok (.aload_n 0, 1) := by decide +kernel
theorem dX4_hasLimitOver_4 : decode cX4_hasLimitOver 4 = .ok (.getfield 22, 3) := by decide +kernel
theorem dX4_hasLimitOver_7 : decode cX4_hasLimitOver 7 = .ok (.if_icmp .ge 25, 3) := by decide +kernel
theorem dX4_hasLimitOver_10 : decode cX4_hasLimitOver 10 = .ok (.aload_n 0, 1) := by decide +kernel
theorem dX4_hasLimitOver_11 : decode cX4_hasLimitOver 11 = .ok (.aload_n 0, 1) := by decide +kernel
theorem dX4_hasLimitOver_12 : decode cX4_hasLimitOver 12 = .ok (.getfield 39, 3) := by decide +kernel
theorem dX4_hasLimitOver_15 : decode cX4_hasLimitOver 15 = .ok (.iload_n 2, 1) := by decide +kernel
theorem dX4_hasLimitOver_16 : decode cX4_hasLimitOver 16 = .ok (.iaload, 1) := by decide +kernel
theorem dX4_hasLimitOver_17 : decode cX4_hasLimitOver 17 = .ok (.iload_n 1, 1) := by decide +kernel
theorem dX4_hasLimitOver_18 : decode cX4_hasLimitOver 18 = .ok (.invokevirtual 69, 3) := by decide +kernel
theorem dX4_hasLimitOver_21 : decode cX4_hasLimitOver 21 = .ok (.ifCond .eq 5, 3) := by decide +kernel
theorem dX4_hasLimitOver_24 : decode cX4_hasLimitOver 24 = .ok (.iconst 1, 1) := by decide +kernel
theorem dX4_hasLimitOver_25 : decode cX4_hasLimitOver 25 = .ok (.ireturn, 1) := by decide +kernel
theorem dX4_hasLimitOver_26 : decode cX4_hasLimitOver 26 = .ok (.iinc 2 1, 3) := by decide +kernel
theorem dX4_hasLimitOver_29 : decode cX4_hasLimitOver 29 = .ok (.goto (-27), 3) := by decide +kernel
theorem dX4_hasLimitOver_32 : decode cX4_hasLimitOver 32 = .ok (.iconst 0, 1) := by decide +kernel
theorem dX4_hasLimitOver_33 : decode cX4_hasLimitOver 33 = .ok (.ireturn, 1) := by decide +kernel
set_option maxRecDepth 20000 in
theorem ggX4_dropLimitsUnder_X4_isAtLeast : GoodIn wsX4_dropLimitsUnder wsX4_isAtLeast := goodIn_r _ [7, 8, 9, 10, 11, 12, 13, 14, 15, 16, 17, 18] (by decide +kernel) (by decide +kernel)
set_option maxRecDepth 20000 in
theorem gX4_dropLimitsUnder_X4_isAtLeast : GoodIn wsX4_dropLimitsUnder (wsV RX4 69 RX4 yX4_isAtLeast wsX4_isAtLeast) := goodIn_app (goodIn_of _ (by decide +kernel)) ggX4_dropLimitsUnder_X4_isAtLeast
theorem dX4_dropLimitsUnder_0 : decode cX4_dropLimitsUnder 0 = .ok (.iconst 0, 1) := by decide +kernel
theorem dX4_dropLimitsUnder_1 : decode cX4_dropLimitsUnder 1 = .ok (.istore_n 2, 1) := by decide +kernel
theorem dX4_dropLimitsUnder_2 : decode cX4_dropLimitsUnder 2 = .ok (.iconst 0, 1) := by decide +kernel
theorem dX4_dropLimitsUnder_3 : decode cX4_dropLimitsUnder 3 = .ok (.istore_n 3, 1) := by decide +kernel
theorem dX4_dropLimitsUnder_4 : decode cX4_dropLimitsUnder 4 = .ok (.iload_n 3, 1) := by decide +kernel
theorem dX4_dropLimitsUnder_5 : decode cX4_dropLimitsUnder 5 = .ok (.aload_n 0, 1) := by decide +kernel
theorem dX4_dropLimitsUnder_6 : decode cX4_dropLimitsUnder 6 = .ok (.getfield 22, 3) := by decide +kernel
theorem dX4_dropLimitsUnder_9 : decode cX4_dropLimitsUnder 9 = .ok (.if_icmp .ge 38, 3) := by decide +kernel
theorem dX4_dropLimitsUnder_12 : decode cX4_dropLimitsUnder 12 = .ok (.aload_n 0, 1) := by decide +kernel
theorem dX4_dropLimitsUnder_13 : decode cX4_dropLimitsUnder 13 = .ok (.iload_n 1, 1) := by decide +kernel
theorem dX4_dropLimitsUnder_14 : decode cX4_dropLimitsUnder 14 = .ok (.aload_n 0, 1) := by decide +kernel
theorem dX4_dropLimitsUnder_15 : decode cX4_dropLimitsUnder 15 = .ok (.getfield 39, 3) := by decide +kernel
theorem dX4_dropLimitsUnder_18 : decode cX4_dropLimitsUnder 18 = .ok (.iload_n 3, 1) := by decide +kernel
theorem dX4_dropLimitsUnder_19 : decode cX4_dropLimitsUnder 19 = .ok (.iaload, 1) := by decide +kernel
theorem dX4_dropLimitsUnder_20 : decode cX4_dropLimitsUnder 20 = .ok (.invokevirtual 69, 3) := by decide +kernel
theorem dX4_dropLimitsUnder_23 : decode cX4_dropLimitsUnder 23 = .ok (.ifCond .ne 18, 3) := by decide +kernel
theorem dX4_dropLimitsUnder_26 : decode cX4_dropLimitsUnder 26 = .ok (.aload_n 0, 1) := by decide +kernel
theorem dX4_dropLimitsUnder_27 : decode cX4_dropLimitsUnder 27 = .ok (.getfield 39, 3) := by decide +kernel
theorem dX4_dropLimitsUnder_30 : decode cX4_dropLimitsUnder 30 = .ok (.iload_n 2, 1) := by decide +kernel
theorem dX4_dropLimitsUnder_31 : decode cX4_dropLimitsUnder 31 = .ok (.aload_n 0, 1) := by decide +kernel
theorem dX4_dropLimitsUnder_32 : decode cX4_dropLimitsUnder 32 = .ok (.getfield 39, 3) := by decide +kernel
theorem dX4_dropLimitsUnder_35 : decode cX4_dropLimitsUnder 35 = .ok (.iload_n 3, 1) := by decide +kernel
theorem dX4_dropLimitsUnder_36 : decode cX4_dropLimitsUnder 36 = .ok (.iaload, 1) := by decide +kernel
theorem dX4_dropLimitsUnder_37 : decode cX4_dropLimitsUnder 37 = .ok (.iastore, 1) := by decide +kernel
theorem dX4_dropLimitsUnder_38 : decode cX4_dropLimitsUnder 38 = .ok (.iinc 2 1, 3) := by decide +kernel
theorem dX4_dropLimitsUnder_41 : decode cX4_dropLimitsUnder 41 = .ok (.iinc 3 1, 3) := by decide +kernel
theorem dX4_dropLimitsUnder_44 : decode cX4_dropLimitsUnder 44 = .ok (.goto (-40), 3) := by decide +kernel
theorem dX4_dropLimitsUnder_47 : decode cX4_dropLimitsUnder 47 = .ok (.aload_n 0, 1) := by decide +kernel
theorem dX4_dropLimitsUnder_48 : decode cX4_dropLimitsUnder 48 = .ok (.iload_n 2, 1) := by decide +kernel
theorem dX4_dropLimitsUnder_49 : decode cX4_dropLimitsUnder 49 = .ok (.putfield 22, 3) := by decide +kernel
theorem dX4_dropLimitsUnder_52 : decode cX4_dropLimitsUnder 52 = .ok (.return_, 1) := by decide +kernel
set_option maxRecDepth 20000 in
theorem ggX4_insertLimit_X4_comesBefore : GoodIn wsX4_insertLimit wsX4_comesBefore := goodIn_r _ [7, 8, 9, 10, 11, 6, 12, 13, 14, 15, 16, 17, 18, 19, 20, 21, 22] (by decide +kernel) (by decide +kernel)
set_option maxRecDepth 20000 in
theorem gX4_insertLimit_X4_comesBefore : GoodIn wsX4_insertLimit (wsV RX4 109 RX4 yX4_comesBefore wsX4_comesBefore) := goodIn_app (goodIn_of _ (by decide +kernel)) ggX4_insertLimit_X4_comesBefore
theorem dX4_insertLimit_0 : decode cX4_insertLimit 0 = .ok (.aload_n 0, 1) := by decide +kernel
theorem dX4_insertLimit_1 : decode cX4_insertLimit 1 = .ok (.getfield 22, 3) := by decide +kernel
theorem dX4_insertLimit_4 : decode cX4_insertLimit 4 = .ok (.istore_n 2, 1) := by decide +kernel
theorem dX4_insertLimit_5 : decode cX4_insertLimit 5 = .ok (.iload_n 2, 1) := by decide +kernel
theorem dX4_insertLimit_6 : decode cX4_insertLimit 6 = .ok (.ifCond .le 39, 3) := by decide +kernel
theorem dX4_insertLimit_9 : decode cX4_insertLimit 9 = .ok (.aload_n 0, 1) := by decide +kernel
theorem dX4_insertLimit_10 : decode cX4_insertLimit 10 = .ok (.iload_n 1, 1) := by decide +kernel
theorem dX4_insertLimit_11 : decode cX4_insertLimit 11 = .ok (.aload_n 0, 1) := by decide +kernel
theorem dX4_insertLimit_12 : decode cX4_insertLimit 12 = .ok (.getfield 39, 3) := by decide +kernel
theorem dX4_insertLimit_15 : decode cX4_insertLimit 15 = .ok (.iload_n 2, 1) := by decide +kernel
theorem dX4_insertLimit_16 : decode cX4_insertLimit 16 = .ok (.iconst 1, 1) := by decide +kernel
theorem dX4_insertLimit_17 : decode cX4_insertLimit 17 = .ok (.isub, 1) := by decide +kernel
theorem dX4_insertLimit_18 : decode cX4_insertLimit 18 = .ok (.iaload, 1) := by decide +kernel
theorem dX4_insertLimit_19 : decode cX4_insertLimit 19 = .ok (.invokevirtual 109, 3) := by decide +kernel
theorem dX4_insertLimit_22 : decode cX4_insertLimit 22 = .ok (.ifCond .eq 23, 3) := by decide +kernel
theorem dX4_insertLimit_25 : decode cX4_insertLimit 25 = .ok (.aload_n 0, 1) := by decide +kernel
theorem dX4_insertLimit_26 : decode cX4_insertLimit 26 = .ok (.getfield 39, 3) := by decide +kernel
theorem dX4_insertLimit_29 : decode cX4_insertLimit 29 = .ok (.iload_n 2, 1) := by decide +kernel
theorem dX4_insertLimit_30 : decode cX4_insertLimit 30 = .ok (.aload_n 0, 1) := by decide +kernel
theorem dX4_insertLimit_31 : decode cX4_insertLimit 31 = .ok (.getfield 39, 3) := by decide +kernel
theorem dX4_insertLimit_34 : decode cX4_insertLimit 34 = .ok (.iload_n 2, 1) := by decide +kernel
theorem dX4_insertLimit_35 : decode cX4_insertLimit 35 = .ok (.iconst 1, 1) := by decide +kernel
theorem dX4_insertLimit_36 : decode cX4_insertLimit 36 = .ok (.isub, 1) := by decide +kernel
theorem dX4_insertLimit_37 : decode cX4_insertLimit 37 = .ok (.iaload, 1) := by decide +kernel
theorem dX4_insertLimit_38 : decode cX4_insertLimit 38 = .ok (.iastore, 1) := by decide +kernel
theorem dX4_insertLimit_39 : decode cX4_insertLimit 39 = .ok (.iinc 2 (-1), 3) := by decide +kernel
theorem dX4_insertLimit_42 : decode cX4_insertLimit 42 = .ok (.goto (-37), 3) := by decide +kernel
theorem dX4_insertLimit_45 : decode cX4_insertLimit 45 = .ok (.aload_n 0, 1) := by decide +kernel
theorem dX4_insertLimit_46 : decode cX4_insertLimit 46 = .ok (.getfield 39, 3) := by decide +kernel
theorem dX4_insertLimit_49 : decode cX4_insertLimit 49 = .ok (.iload_n 2, 1) := by decide +kernel
theorem dX4_insertLimit_50 : decode cX4_insertLimit 50 = .ok (.iload_n 1, 1) := by decide +kernel
theorem dX4_insertLimit_51 : decode cX4_insertLimit 51 = .ok (.iastore, 1) := by decide +kernel
theorem dX4_insertLimit_52 : decode cX4_insertLimit 52 = .ok (.aload_n 0, 1) := by decide +kernel
theorem dX4_insertLimit_53 : decode cX4_insertLimit 53 = .ok (.dup, 1) := by decide +kernel
theorem dX4_insertLimit_54 : decode cX4_insertLimit 54 = .ok (.getfield 22, 3) := by decide +kernel
theorem dX4_insertLimit_57 : decode cX4_insertLimit 57 = .ok (.iconst 1, 1) := by decide +kernel
theorem dX4_insertLimit_58 : decode cX4_insertLimit 58 = .ok (.iadd, 1) := by decide +kernel
theorem dX4_insertLimit_59 : decode cX4_insertLimit 59 = .ok (.putfield 22, 3) := by decide +kernel
theorem dX4_insertLimit_62 : decode cX4_insertLimit 62 = .ok (.return_, 1) := by decide +kernel
set_option maxRecDepth 20000 in
theorem ggX4_comesBefore_X4_countAt : GoodIn wsX4_comesBefore wsX4_countAt := goodIn_r _ [6, 7, 8, 9, 10, 11, 12, 13, 14, 15, 16] (by decide +kernel) (by decide +kernel)
set_option maxRecDepth 20000 in
theorem gX4_comesBefore_X4_countAt : GoodIn wsX4_comesBefore (wsV RX4 95 RX4 yX4_countAt wsX4_countAt) := goodIn_app (goodIn_of _ (by decide +kernel)) ggX4_comesBefore_X4_countAt
theorem dX4_comesBefore_0 : decode cX4_comesBefore 0 = .ok (.iconst 0, 1) := by decide +kernel
theorem dX4_comesBefore_1 : decode cX4_comesBefore 1 = .ok (.istore_n 3, 1) := by decide +kernel
theorem dX4_comesBefore_2 : decode cX4_comesBefore 2 = .ok (.iload_n 3, 1) := by decide +kernel
theorem dX4_comesBefore_3 : decode cX4_comesBefore 3 = .ok (.aload_n 0, 1) := by decide +kernel
theorem dX4_comesBefore_4 : decode cX4_comesBefore 4 = .ok (.getfield 15, 3) := by decide +kernel
theorem dX4_comesBefore_7 : decode cX4_comesBefore 7 = .ok (.if_icmp .ge 45, 3) := by decide +kernel
theorem dX4_comesBefore_10 : decode cX4_comesBefore 10 = .ok (.aload_n 0, 1) := by decide +kernel
theorem dX4_comesBefore_11 : decode cX4_comesBefore 11 = .ok (.iload_n 1, 1) := by decide +kernel
theorem dX4_comesBefore_12 : decode cX4_comesBefore 12 = .ok (.iload_n 3, 1) := by decide +kernel
theorem dX4_comesBefore_13 : decode cX4_comesBefore 13 = .ok (.invokevirtual 95, 3) := by decide +kernel
theorem dX4_comesBefore_16 : decode cX4_comesBefore 16 = .ok (.aload_n 0, 1) := by decide +kernel
theorem dX4_comesBefore_17 : decode cX4_comesBefore 17 = .ok (.iload_n 2, 1) := by decide +kernel
theorem dX4_comesBefore_18 : decode cX4_comesBefore 18 = .ok (.iload_n 3, 1) := by decide +kernel
theorem dX4_comesBefore_19 : decode cX4_comesBefore 19 = .ok (.invokevirtual 95, 3) := by decide +kernel
theorem dX4_comesBefore_22 : decode cX4_comesBefore 22 = .ok (.if_icmp .eq 24, 3) := by decide +kernel
theorem dX4_comesBefore_25 : decode cX4_comesBefore 25 = .ok (.aload_n 0, 1) := by decide +kernel
theorem dX4_comesBefore_26 : decode cX4_comesBefore 26 = .ok (.iload_n 1, 1) := by decide +kernel
theorem dX4_comesBefore_27 : decode cX4_comesBefore 27 = .ok (.iload_n 3, 1) := by decide +kernel
theorem dX4_comesBefore_28 : decode cX4_comesBefore 28 = .ok (.invokevirtual 95, 3) := by decide +kernel
theorem dX4_comesBefore_31 : decode cX4_comesBefore 31 = .ok (.aload_n 0, 1) := by decide +kernel
theorem dX4_comesBefore_32 : decode cX4_comesBefore 32 = .ok (.iload_n 2, 1) := by decide +kernel
theorem dX4_comesBefore_33 : decode cX4_comesBefore 33 = .ok (.iload_n 3, 1) := by decide +kernel
theorem dX4_comesBefore_34 : decode cX4_comesBefore 34 = .ok (.invokevirtual 95, 3) := by decide +kernel
theorem dX4_comesBefore_37 : decode cX4_comesBefore 37 = .ok (.if_icmp .ge 7, 3) := by decide +kernel
theorem dX4_comesBefore_40 : decode cX4_comesBefore 40 = .ok (.iconst 1, 1) := by decide +kernel
theorem dX4_comesBefore_41 : decode cX4_comesBefore 41 = .ok (.goto 4, 3) := by decide +kernel
theorem dX4_comesBefore_44 : decode cX4_comesBefore 44 = .ok (.iconst 0, 1) := by decide +kernel
theorem dX4_comesBefore_45 : decode cX4_comesBefore 45 = .ok (.ireturn, 1) := by decide +kernel
theorem dX4_comesBefore_46 : decode cX4_comesBefore 46 = .ok (.iinc 3 1, 3) := by decide +kernel
theorem dX4_comesBefore_49 : decode cX4_comesBefore 49 = .ok (.goto (-47), 3) := by decide +kernel
theorem dX4_comesBefore_52 : decode cX4_comesBefore 52 = .ok (.iconst 0, 1) := by decide +kernel
theorem dX4_comesBefore_53 : decode cX4_comesBefore 53 = .ok (.ireturn, 1) := by decide +kernel
theorem dX4_isAtLeast_0 : decode cX4_isAtLeast 0 = .ok (.iload_n 1, 1) := by decide +kernel
theorem dX4_isAtLeast_1 : decode cX4_isAtLeast 1 = .ok (.iconst 5, 1) := by decide +kernel
theorem dX4_isAtLeast_2 : decode cX4_isAtLeast 2 = .ok (.imul, 1) := by decide +kernel
theorem dX4_isAtLeast_3 : decode cX4_isAtLeast 3 = .ok (.istore_n 3, 1) := by decide +kernel
theorem dX4_isAtLeast_4 : decode cX4_isAtLeast 4 = .ok (.iload_n 2, 1) := by decide +kernel
theorem dX4_isAtLeast_5 : decode cX4_isAtLeast 5 = .ok (.iconst 5, 1) := by decide +kernel
theorem dX4_isAtLeast_6 : decode cX4_isAtLeast 6 = .ok (.imul, 1) := by decide +kernel
theorem dX4_isAtLeast_7 : decode cX4_isAtLeast 7 = .ok (.istore 4, 2) := by decide +kernel
theorem dX4_isAtLeast_9 : decode cX4_isAtLeast 9 = .ok (.iconst 0, 1) := by decide +kernel
theorem dX4_isAtLeast_10 : decode cX4_isAtLeast 10 = .ok (.istore 5, 2) := by decide +kernel
theorem dX4_isAtLeast_12 : decode cX4_isAtLeast 12 = .ok (.iload 5, 2) := by decide +kernel
theorem dX4_isAtLeast_14 : decode cX4_isAtLeast 14 = .ok (.aload_n 0, 1) := by decide +kernel
theorem dX4_isAtLeast_15 : decode cX4_isAtLeast 15 = .ok (.getfield 15, 3) := by decide +kernel
theorem dX4_isAtLeast_18 : decode cX4_isAtLeast 18 = .ok (.if_icmp .ge 33, 3) := by decide +kernel
theorem dX4_isAtLeast_21 : decode cX4_isAtLeast 21 = .ok (.aload_n 0, 1) := by decide +kernel
theorem dX4_isAtLeast_22 : decode cX4_isAtLeast 22 = .ok (.getfield 29, 3) := by decide +kernel
theorem dX4_isAtLeast_25 : decode cX4_isAtLeast 25 = .ok (.iload_n 3, 1) := by decide +kernel
theorem dX4_isAtLeast_26 : decode cX4_isAtLeast 26 = .ok (.iload 5, 2) := by decide +kernel
theorem dX4_isAtLeast_28 : decode cX4_isAtLeast 28 = .ok (.iadd, 1) := by decide +kernel
theorem dX4_isAtLeast_29 : decode cX4_isAtLeast 29 = .ok (.iaload, 1) := by decide +kernel
theorem dX4_isAtLeast_30 : decode cX4_isAtLeast 30 = .ok (.aload_n 0, 1) := by decide +kernel
theorem dX4_isAtLeast_31 : decode cX4_isAtLeast 31 = .ok (.getfield 29, 3) := by decide +kernel
theorem dX4_isAtLeast_34 : decode cX4_isAtLeast 34 = .ok (.iload 4, 2) := by decide +kernel
theorem dX4_isAtLeast_36 : decode cX4_isAtLeast 36 = .ok (.iload 5, 2) := by decide +kernel
theorem dX4_isAtLeast_38 : decode cX4_isAtLeast 38 = .ok (.iadd, 1) := by decide +kernel
theorem dX4_isAtLeast_39 : decode cX4_isAtLeast 39 = .ok (.iaload, 1) := by decide +kernel
theorem dX4_isAtLeast_40 : decode cX4_isAtLeast 40 = .ok (.if_icmp .ge 5, 3) := by decide +kernel
theorem dX4_isAtLeast_43 : decode cX4_isAtLeast 43 = .ok (.iconst 0, 1) := by decide +kernel
theorem dX4_isAtLeast_44 : decode cX4_isAtLeast 44 = .ok (.ireturn, 1) := by decide +kernel
theorem dX4_isAtLeast_45 : decode cX4_isAtLeast 45 = .ok (.iinc 5 1, 3) := by decide +kernel
theorem dX4_isAtLeast_48 : decode cX4_isAtLeast 48 = .ok (.goto (-36), 3) := by decide +kernel
theorem dX4_isAtLeast_51 : decode cX4_isAtLeast 51 = .ok (.iconst 1, 1) := by decide +kernel
theorem dX4_isAtLeast_52 : decode cX4_isAtLeast 52 = .ok (.ireturn, 1) := by decide +kernel
theorem dX4_countAt_0 : decode cX4_countAt 0 = .ok (.aload_n 0, 1) := by decide +kernel
theorem dX4_countAt_1 : decode cX4_countAt 1 = .ok (.getfield 29, 3) := by decide +kernel
theorem dX4_countAt_4 : decode cX4_countAt 4 = .ok (.iload_n 1, 1) := by decide +kernel
theorem dX4_countAt_5 : decode cX4_countAt 5 = .ok (.iconst 5, 1) := by decide +kernel
theorem dX4_countAt_6 : decode cX4_countAt 6 = .ok (.imul, 1) := by decide +kernel
theorem dX4_countAt_7 : decode cX4_countAt 7 = .ok (.iload_n 2, 1) := by decide +kernel
theorem dX4_countAt_8 : decode cX4_countAt 8 = .ok (.iadd, 1) := by decide +kernel
theorem dX4_countAt_9 : decode cX4_countAt 9 = .ok (.iaload, 1) := by decide +kernel
theorem dX4_countAt_10 : decode cX4_countAt 10 = .ok (.ireturn, 1) := by decide +kernel
theorem dX4_hasPlace_0 : decode cX4_hasPlace 0 = .ok (.iload_n 1, 1) := by decide +kernel
theorem dX4_hasPlace_1 : decode cX4_hasPlace 1 = .ok (.ifCond .lt 15, 3) := by decide +kernel
theorem dX4_hasPlace_4 : decode cX4_hasPlace 4 = .ok (.iload_n 1, 1) := by decide +kernel
theorem dX4_hasPlace_5 : decode cX4_hasPlace 5 = .ok (.aload_n 0, 1) := by decide +kernel
theorem dX4_hasPlace_6 : decode cX4_hasPlace 6 = .ok (.getfield 15, 3) := by decide +kernel
theorem dX4_hasPlace_9 : decode cX4_hasPlace 9 = .ok (.if_icmp .ge 7, 3) := by decide +kernel
theorem dX4_hasPlace_12 : decode cX4_hasPlace 12 = .ok (.iconst 1, 1) := by decide +kernel
theorem dX4_hasPlace_13 : decode cX4_hasPlace 13 = .ok (.goto 4, 3) := by decide +kernel
theorem dX4_hasPlace_16 : decode cX4_hasPlace 16 = .ok (.iconst 0, 1) := by decide +kernel
theorem dX4_hasPlace_17 : decode cX4_hasPlace 17 = .ok (.ireturn, 1) := by decide +kernel
set_option maxRecDepth 20000 in
theorem ggX4_limitAt_X4_countAt : GoodIn wsX4_limitAt wsX4_countAt := goodIn_r _ [6, 7, 8, 9, 10, 11, 12, 13, 14, 15, 16] (by decide +kernel) (by decide +kernel)
set_option maxRecDepth 20000 in
theorem gX4_limitAt_X4_countAt : GoodIn wsX4_limitAt (wsV RX4 95 RX4 yX4_countAt wsX4_countAt) := goodIn_app (goodIn_of _ (by decide +kernel)) ggX4_limitAt_X4_countAt
theorem dX4_limitAt_0 : decode cX4_limitAt 0 = .ok (.aload_n 0, 1) := by decide +kernel
theorem dX4_limitAt_1 : decode cX4_limitAt 1 = .ok (.aload_n 0, 1) := by decide +kernel
theorem dX4_limitAt_2 : decode cX4_limitAt 2 = .ok (.getfield 39, 3) := by decide +kernel
theorem dX4_limitAt_5 : decode cX4_limitAt 5 = .ok (.iload_n 1, 1) := by decide +kernel
theorem dX4_limitAt_6 : decode cX4_limitAt 6 = .ok (.iaload, 1) := by decide +kernel
theorem dX4_limitAt_7 : decode cX4_limitAt 7 = .ok (.iload_n 2, 1) := by decide +kernel
theorem dX4_limitAt_8 : decode cX4_limitAt 8 = .ok (.invokevirtual 95, 3) := by decide +kernel
theorem dX4_limitAt_11 : decode cX4_limitAt 11 = .ok (.ireturn, 1) := by decide +kernel
set_option maxRecDepth 20000 in
theorem ggX4_mostAt_X4_limitAt : GoodIn wsX4_mostAt wsX4_limitAt := goodIn_r _ [10, 11, 12, 13, 14, 9, 15, 16, 17, 18, 19, 20, 21, 22, 23, 24, 25] (by decide +kernel) (by decide +kernel)
set_option maxRecDepth 20000 in
theorem gX4_mostAt_X4_limitAt : GoodIn wsX4_mostAt (wsV RX4 112 RX4 yX4_limitAt wsX4_limitAt) := goodIn_app (goodIn_of _ (by decide +kernel)) ggX4_mostAt_X4_limitAt
theorem dX4_mostAt_0 : decode cX4_mostAt 0 = .ok (.iconst 0, 1) := by decide +kernel
theorem dX4_mostAt_1 : decode cX4_mostAt 1 = .ok (.istore_n 2, 1) := by decide +kernel
theorem dX4_mostAt_2 : decode cX4_mostAt 2 = .ok (.iconst 0, 1) := by decide +kernel
theorem dX4_mostAt_3 : decode cX4_mostAt 3 = .ok (.istore_n 3, 1) := by decide +kernel
theorem dX4_mostAt_4 : decode cX4_mostAt 4 = .ok (.iload_n 3, 1) := by decide +kernel
theorem dX4_mostAt_5 : decode cX4_mostAt 5 = .ok (.aload_n 0, 1) := by decide +kernel
theorem dX4_mostAt_6 : decode cX4_mostAt 6 = .ok (.getfield 22, 3) := by decide +kernel
theorem dX4_mostAt_9 : decode cX4_mostAt 9 = .ok (.if_icmp .ge 20, 3) := by decide +kernel
theorem dX4_mostAt_12 : decode cX4_mostAt 12 = .ok (.iload_n 2, 1) := by decide +kernel
theorem dX4_mostAt_13 : decode cX4_mostAt 13 = .ok (.aload_n 0, 1) := by decide +kernel
theorem dX4_mostAt_14 : decode cX4_mostAt 14 = .ok (.iload_n 3, 1) := by decide +kernel
theorem dX4_mostAt_15 : decode cX4_mostAt 15 = .ok (.iload_n 1, 1) := by decide +kernel
theorem dX4_mostAt_16 : decode cX4_mostAt 16 = .ok (.invokevirtual 112, 3) := by decide +kernel
theorem dX4_mostAt_19 : decode cX4_mostAt 19 = .ok (.invokestatic 115, 3) := by decide +kernel
theorem dX4_mostAt_22 : decode cX4_mostAt 22 = .ok (.istore_n 2, 1) := by decide +kernel
theorem dX4_mostAt_23 : decode cX4_mostAt 23 = .ok (.iinc 3 1, 3) := by decide +kernel
theorem dX4_mostAt_26 : decode cX4_mostAt 26 = .ok (.goto (-22), 3) := by decide +kernel
theorem dX4_mostAt_29 : decode cX4_mostAt 29 = .ok (.iload_n 2, 1) := by decide +kernel
theorem dX4_mostAt_30 : decode cX4_mostAt 30 = .ok (.ireturn, 1) := by decide +kernel
set_option maxRecDepth 20000 in
theorem ggX4_reaches_X4_limitReaches : GoodIn wsX4_reaches wsX4_limitReaches := goodIn_r _ [6, 7, 8, 9, 10, 5, 11, 12, 13, 14, 15, 16, 17, 18, 19, 20, 21, 22, 23, 24, 25, 26] (by decide +kernel) (by decide +kernel)
set_option maxRecDepth 20000 in
theorem gX4_reaches_X4_limitReaches : GoodIn wsX4_reaches (wsV RX4 120 RX4 yX4_limitReaches wsX4_limitReaches) := goodIn_app (goodIn_of _ (by decide +kernel)) ggX4_reaches_X4_limitReaches
theorem dX4_reaches_0 : decode cX4_reaches 0 = .ok (.iconst 0, 1) := by decide +kernel
theorem dX4_reaches_1 : decode cX4_reaches 1 = .ok (.istore_n 2, 1) := by decide +kernel
theorem dX4_reaches_2 : decode cX4_reaches 2 = .ok (.iload_n 2, 1) := by decide +kernel
theorem dX4_reaches_3 : decode cX4_reaches 3 = .ok (.aload_n 0, 1) := by decide +kernel
theorem dX4_reaches_4 : decode cX4_reaches 4 = .ok (.getfield 22, 3) := by decide +kernel
theorem dX4_reaches_7 : decode cX4_reaches 7 = .ok (.if_icmp .ge 20, 3) := by decide +kernel
theorem dX4_reaches_10 : decode cX4_reaches 10 = .ok (.aload_n 0, 1) := by decide +kernel
theorem dX4_reaches_11 : decode cX4_reaches 11 = .ok (.iload_n 2, 1) := by decide +kernel
theorem dX4_reaches_12 : decode cX4_reaches 12 = .ok (.aload_n 1, 1) := by decide +kernel
theorem dX4_reaches_13 : decode cX4_reaches 13 = .ok (.invokevirtual 120, 3) := by decide +kernel
theorem dX4_reaches_16 : decode cX4_reaches 16 = .ok (.ifCond .eq 5, 3) := by decide +kernel
theorem dX4_reaches_19 : decode cX4_reaches 19 = .ok (.iconst 1, 1) := by decide +kernel
theorem dX4_reaches_20 : decode cX4_reaches 20 = .ok (.ireturn, 1) := by decide +kernel
theorem dX4_reaches_21 : decode cX4_reaches 21 = .ok (.iinc 2 1, 3) := by decide +kernel
theorem dX4_reaches_24 : decode cX4_reaches 24 = .ok (.goto (-22), 3) := by decide +kernel
theorem dX4_reaches_27 : decode cX4_reaches 27 = .ok (.iconst 0, 1) := by decide +kernel
theorem dX4_reaches_28 : decode cX4_reaches 28 = .ok (.ireturn, 1) := by decide +kernel
set_option maxRecDepth 20000 in
theorem ggX4_limitReaches_X4_limitAt : GoodIn wsX4_limitReaches wsX4_limitAt := goodIn_r _ [6, 7, 8, 9, 10, 5, 11, 12, 13, 14, 15, 16, 17, 18, 19, 20, 21] (by decide +kernel) (by decide +kernel)
set_option maxRecDepth 20000 in
theorem gX4_limitReaches_X4_limitAt : GoodIn wsX4_limitReaches (wsV RX4 112 RX4 yX4_limitAt wsX4_limitAt) := goodIn_app (goodIn_of _ (by decide +kernel)) ggX4_limitReaches_X4_limitAt
theorem dX4_limitReaches_0 : decode cX4_limitReaches 0 = .ok (.iconst 0, 1) := by decide +kernel
theorem dX4_limitReaches_1 : decode cX4_limitReaches 1 = .ok (.istore_n 3, 1) := by decide +kernel
theorem dX4_limitReaches_2 : decode cX4_limitReaches 2 = .ok (.iload_n 3, 1) := by decide +kernel
theorem dX4_limitReaches_3 : decode cX4_limitReaches 3 = .ok (.aload_n 0, 1) := by decide +kernel
theorem dX4_limitReaches_4 : decode cX4_limitReaches 4 = .ok (.getfield 15, 3) := by decide +kernel
theorem dX4_limitReaches_7 : decode cX4_limitReaches 7 = .ok (.if_icmp .ge 23, 3) := by decide +kernel
theorem dX4_limitReaches_10 : decode cX4_limitReaches 10 = .ok (.aload_n 0, 1) := by decide +kernel
theorem dX4_limitReaches_11 : decode cX4_limitReaches 11 = .ok (.iload_n 1, 1) := by decide +kernel
theorem dX4_limitReaches_12 : decode cX4_limitReaches 12 = .ok (.iload_n 3, 1) := by decide +kernel
theorem dX4_limitReaches_13 : decode cX4_limitReaches 13 = .ok (.invokevirtual 112, 3) := by decide +kernel
theorem dX4_limitReaches_16 : decode cX4_limitReaches 16 = .ok (.aload_n 2, 1) := by decide +kernel
theorem dX4_limitReaches_17 : decode cX4_limitReaches 17 = .ok (.iload_n 3, 1) := by decide +kernel
theorem dX4_limitReaches_18 : decode cX4_limitReaches 18 = .ok (.iaload, 1) := by decide +kernel
theorem dX4_limitReaches_19 : decode cX4_limitReaches 19 = .ok (.if_icmp .ge 5, 3) := by decide +kernel
theorem dX4_limitReaches_22 : decode cX4_limitReaches 22 = .ok (.iconst 0, 1) := by decide +kernel
theorem dX4_limitReaches_23 : decode cX4_limitReaches 23 = .ok (.ireturn, 1) := by decide +kernel
theorem dX4_limitReaches_24 : decode cX4_limitReaches 24 = .ok (.iinc 3 1, 3) := by decide +kernel
theorem dX4_limitReaches_27 : decode cX4_limitReaches 27 = .ok (.goto (-25), 3) := by decide +kernel
theorem dX4_limitReaches_30 : decode cX4_limitReaches 30 = .ok (.iconst 1, 1) := by decide +kernel
theorem dX4_limitReaches_31 : decode cX4_limitReaches 31 = .ok (.ireturn, 1) := by decide +kernel
set_option maxRecDepth 20000 in
theorem ggX5_init_X0_init : GoodIn wsX5_init wsX0_init := goodIn_r _ [19, 20, 2, 3, 21, 22, 8, 23, 24, 25, 26, 27, 66, 67, 68, 69, 70, 71] (by decide +kernel) (by decide +kernel)
set_option maxRecDepth 20000 in
theorem gX5_init_X0_init_n11 : GoodIn wsX5_init (wsX0_init) := ggX5_init_X0_init
set_option maxRecDepth 20000 in
theorem ggX5_init_X3_init : GoodIn wsX5_init wsX3_init := goodIn_r _ [29, 30, 2, 3, 31, 32, 8, 33, 34, 35, 36, 37, 38, 39, 40, 41, 42, 43, 44, 45, 46, 47, 48, 49, 50, 51, 52, 76, 77, 78, 79, 80, 81, 82, 83, 84, 85, 86, 87, 88, 98, 99] (by decide +kernel) (by decide +kernel)
set_option maxRecDepth 20000 in
theorem gX5_init_X3_init_n22 : GoodIn wsX5_init (wsX3_init) := ggX5_init_X3_init
set_option maxRecDepth 20000 in
theorem ggX5_init_X4_init : GoodIn wsX5_init wsX4_init := goodIn_r _ [54, 55, 2, 3, 56, 57, 58, 59, 60, 61, 8, 62, 63, 64, 65, 89, 90, 91, 92, 93, 94, 95, 96, 97] (by decide +kernel) (by decide +kernel)
set_option maxRecDepth 20000 in
theorem gX5_init_X4_init_n29 : GoodIn wsX5_init (wsX4_init) := ggX5_init_X4_init
theorem dX5_init_0 : decode cX5_init 0 = .ok (.aload_n 0, 1) := by decide +kernel
theorem dX5_init_1 : decode cX5_init 1 = .ok (.invokespecial 3, 3) := by decide +kernel
theorem dX5_init_4 : decode cX5_init 4 = .ok (.aload_n 0, 1) := by decide +kernel
theorem dX5_init_5 : decode cX5_init 5 = .ok (.new 9, 3) := by decide +kernel
theorem dX5_init_8 : decode cX5_init 8 = .ok (.dup, 1) := by decide +kernel
theorem dX5_init_9 : decode cX5_init 9 = .ok (.invokespecial 11, 3) := by decide +kernel
theorem dX5_init_12 : decode cX5_init 12 = .ok (.putfield 12, 3) := by decide +kernel
theorem dX5_init_15 : decode cX5_init 15 = .ok (.aload_n 0, 1) := by decide +kernel
theorem dX5_init_16 : decode cX5_init 16 = .ok (.iconst 5, 1) := by decide +kernel
theorem dX5_init_17 : decode cX5_init 17 = .ok (.newarray .int, 2) := by decide +kernel
theorem dX5_init_19 : decode cX5_init 19 = .ok (.putfield 16, 3) := by decide +kernel
theorem dX5_init_22 : decode cX5_init 22 = .ok (.aload_n 0, 1) := by decide +kernel
theorem dX5_init_23 : decode cX5_init 23 = .ok (.new 20, 3) := by decide +kernel
theorem dX5_init_26 : decode cX5_init 26 = .ok (.dup, 1) := by decide +kernel
theorem dX5_init_27 : decode cX5_init 27 = .ok (.invokespecial 22, 3) := by decide +kernel
theorem dX5_init_30 : decode cX5_init 30 = .ok (.putfield 23, 3) := by decide +kernel
theorem dX5_init_33 : decode cX5_init 33 = .ok (.aload_n 0, 1) := by decide +kernel
theorem dX5_init_34 : decode cX5_init 34 = .ok (.new 27, 3) := by decide +kernel
theorem dX5_init_37 : decode cX5_init 37 = .ok (.dup, 1) := by decide +kernel
theorem dX5_init_38 : decode cX5_init 38 = .ok (.invokespecial 29, 3) := by decide +kernel
theorem dX5_init_41 : decode cX5_init 41 = .ok (.putfield 30, 3) := by decide +kernel
theorem dX5_init_44 : decode cX5_init 44 = .ok (.return_, 1) := by decide +kernel
set_option maxRecDepth 20000 in
theorem ggX5_place_X5_isWithin : GoodIn wsX5_place wsX5_isWithin := goodIn_r _ [7] (by decide +kernel) (by decide +kernel)
set_option maxRecDepth 20000 in
theorem gX5_place_X5_isWithin : GoodIn wsX5_place (va_wsS RX5 38 yX5_isWithin wsX5_isWithin) := goodIn_app (goodIn_of _ (by decide +kernel)) ggX5_place_X5_isWithin
set_option maxRecDepth 20000 in
theorem ggX5_place_X5_goBackToFirst : GoodIn wsX5_place wsX5_goBackToFirst := goodIn_r _ [11, 1, 3, 12, 13, 14, 15, 16, 17, 18, 19, 20, 21, 22, 23, 24, 25, 26] (by decide +kernel) (by decide +kernel)
set_option maxRecDepth 20000 in
theorem gX5_place_X5_goBackToFirst : GoodIn wsX5_place (wsV RX5 45 RX5 yX5_goBackToFirst wsX5_goBackToFirst) := goodIn_app (goodIn_of _ (by decide +kernel)) ggX5_place_X5_goBackToFirst
theorem dX5_place_0 : decode cX5_place 0 = .ok (.aload_n 0, 1) := by decide +kernel
theorem dX5_place_1 : decode cX5_place 1 = .ok (.getfield 12, 3) := by decide +kernel
theorem dX5_place_4 : decode cX5_place 4 = .ok (.getfield 34, 3) := by decide +kernel
theorem dX5_place_7 : decode cX5_place 7 = .ok (.iconst 5, 1) := by decide +kernel
theorem dX5_place_8 : decode cX5_place 8 = .ok (.if_icmp .ge 12, 3) := by decide +kernel
theorem dX5_place_11 : decode cX5_place 11 = .ok (.iload_n 1, 1) := by decide +kernel
theorem dX5_place_12 : decode cX5_place 12 = .ok (.bipush 20, 2) := by decide +kernel
theorem dX5_place_14 : decode cX5_place 14 = .ok (.invokestatic 38, 3) := by decide +kernel
theorem dX5_place_17 : decode cX5_place 17 = .ok (.ifCond .ne 5, 3) := by decide +kernel
theorem dX5_place_20 : decode cX5_place 20 = .ok (.iconst (-1), 1) := by decide +kernel
theorem dX5_place_21 : decode cX5_place 21 = .ok (.ireturn, 1) := by decide +kernel
theorem dX5_place_22 : decode cX5_place 22 = .ok (.aload_n 0, 1) := by decide +kernel
theorem dX5_place_23 : decode cX5_place 23 = .ok (.getfield 12, 3) := by decide +kernel
theorem dX5_place_26 : decode cX5_place 26 = .ok (.getfield 34, 3) := by decide +kernel
theorem dX5_place_29 : decode cX5_place 29 = .ok (.istore_n 2, 1) := by decide +kernel
theorem dX5_place_30 : decode cX5_place 30 = .ok (.aload_n 0, 1) := by decide +kernel
theorem dX5_place_31 : decode cX5_place 31 = .ok (.getfield 12, 3) := by decide +kernel
theorem dX5_place_34 : decode cX5_place 34 = .ok (.iload_n 2, 1) := by decide +kernel
theorem dX5_place_35 : decode cX5_place 35 = .ok (.iconst 1, 1) := by decide +kernel
theorem dX5_place_36 : decode cX5_place 36 = .ok (.iadd, 1) := by decide +kernel
theorem dX5_place_37 : decode cX5_place 37 = .ok (.putfield 34, 3) := by decide +kernel
theorem dX5_place_40 : decode cX5_place 40 = .ok (.aload_n 0, 1) := by decide +kernel
theorem dX5_place_41 : decode cX5_place 41 = .ok (.getfield 12, 3) := by decide +kernel
theorem dX5_place_44 : decode cX5_place 44 = .ok (.getfield 42, 3) := by decide +kernel
theorem dX5_place_47 : decode cX5_place 47 = .ok (.iload_n 2, 1) := by decide +kernel
theorem dX5_place_48 : decode cX5_place 48 = .ok (.iload_n 1, 1) := by decide +kernel
theorem dX5_place_49 : decode cX5_place 49 = .ok (.iastore, 1) := by decide +kernel
theorem dX5_place_50 : decode cX5_place 50 = .ok (.aload_n 0, 1) := by decide +kernel
theorem dX5_place_51 : decode cX5_place 51 = .ok (.invokevirtual 45, 3) := by decide +kernel
theorem dX5_place_54 : decode cX5_place 54 = .ok (.iload_n 2, 1) := by decide +kernel
theorem dX5_place_55 : decode cX5_place 55 = .ok (.ireturn, 1) := by decide +kernel
set_option maxRecDepth 20000 in
theorem ggX5_transition_X5_goBackToFirst : GoodIn wsX5_transition wsX5_goBackToFirst := goodIn_r _ [7, 1, 8, 9, 10, 11, 12, 13, 14, 15, 16, 17, 18, 19, 20, 21, 22, 23] (by decide +kernel) (by decide +kernel)
set_option maxRecDepth 20000 in
theorem gX5_transition_X5_goBackToFirst : GoodIn wsX5_transition (wsV RX5 45 RX5 yX5_goBackToFirst wsX5_goBackToFirst) := goodIn_app (goodIn_of _ (by decide +kernel)) ggX5_transition_X5_goBackToFirst
theorem dX5_transition_0 : decode cX5_transition 0 = .ok (.aload_n 0, 1) := by decide +kernel
theorem dX5_transition_1 : decode cX5_transition 1 = .ok (.getfield 12, 3) := by decide +kernel
theorem dX5_transition_4 : decode cX5_transition 4 = .ok (.getfield 48, 3) := by decide +kernel
theorem dX5_transition_7 : decode cX5_transition 7 = .ok (.bipush 6, 2) := by decide +kernel
theorem dX5_transition_9 : decode cX5_transition 9 = .ok (.if_icmp .lt 5, 3) := by decide +kernel
theorem dX5_transition_12 : decode cX5_transition 12 = .ok (.iconst (-1), 1) := by decide +kernel
theorem dX5_transition_13 : decode cX5_transition 13 = .ok (.ireturn, 1) := by decide +kernel
theorem dX5_transition_14 : decode cX5_transition 14 = .ok (.aload_n 0, 1) := by decide +kernel
theorem dX5_transition_15 : decode cX5_transition 15 = .ok (.getfield 12, 3) := by decide +kernel
theorem dX5_transition_18 : decode cX5_transition 18 = .ok (.getfield 48, 3) := by decide +kernel
theorem dX5_transition_21 : decode cX5_transition 21 = .ok (.istore_n 1, 1) := by decide +kernel
theorem dX5_transition_22 : decode cX5_transition 22 = .ok (.aload_n 0, 1) := by decide +kernel
theorem dX5_transition_23 : decode cX5_transition 23 = .ok (.getfield 12, 3) := by decide +kernel
theorem dX5_transition_26 : decode cX5_transition 26 = .ok (.iload_n 1, 1) := by decide +kernel
theorem dX5_transition_27 : decode cX5_transition 27 = .ok (.iconst 1, 1) := by decide +kernel
theorem dX5_transition_28 : decode cX5_transition 28 = .ok (.iadd, 1) := by decide +kernel
theorem dX5_transition_29 : decode cX5_transition 29 = .ok (.putfield 48, 3) := by decide +kernel
theorem dX5_transition_32 : decode cX5_transition 32 = .ok (.aload_n 0, 1) := by decide +kernel
theorem dX5_transition_33 : decode cX5_transition 33 = .ok (.invokevirtual 45, 3) := by decide +kernel
theorem dX5_transition_36 : decode cX5_transition 36 = .ok (.iload_n 1, 1) := by decide +kernel
theorem dX5_transition_37 : decode cX5_transition 37 = .ok (.ireturn, 1) := by decide +kernel
set_option maxRecDepth 20000 in
theorem ggX5_arc_X0_hasTransition : GoodIn wsX5_arc wsX0_hasTransition := goodIn_r _ [8, 9, 33, 34, 35, 36, 37, 38] (by decide +kernel) (by decide +kernel)
set_option maxRecDepth 20000 in
theorem gX5_arc_X0_hasTransition : GoodIn wsX5_arc (wsV RX5 51 RX0 yX0_hasTransition wsX0_hasTransition) := goodIn_app (goodIn_of _ (by decide +kernel)) ggX5_arc_X0_hasTransition
set_option maxRecDepth 20000 in
theorem ggX5_arc_X0_hasPlace : GoodIn wsX5_arc wsX0_hasPlace := goodIn_r _ [13, 14, 33, 34, 35, 36, 37, 38] (by decide +kernel) (by decide +kernel)
set_option maxRecDepth 20000 in
theorem gX5_arc_X0_hasPlace : GoodIn wsX5_arc (wsV RX5 55 RX0 yX0_hasPlace wsX0_hasPlace) := goodIn_app (goodIn_of _ (by decide +kernel)) ggX5_arc_X0_hasPlace
set_option maxRecDepth 20000 in
theorem ggX5_arc_X5_isWithin : GoodIn wsX5_arc wsX5_isWithin := goodIn_r _ [18] (by decide +kernel) (by decide +kernel)
set_option maxRecDepth 20000 in
theorem gX5_arc_X5_isWithin : GoodIn wsX5_arc (va_wsS RX5 38 yX5_isWithin wsX5_isWithin) := goodIn_app (goodIn_of _ (by decide +kernel)) ggX5_arc_X5_isWithin
set_option maxRecDepth 20000 in
theorem ggX5_arc_X5_goBackToFirst : GoodIn wsX5_arc wsX5_goBackToFirst := goodIn_r _ [22, 1, 23, 24, 25, 26, 27, 28, 29, 30, 31, 32, 33, 34, 35, 36, 37, 38] (by decide +kernel) (by decide +kernel)
set_option maxRecDepth 20000 in
theorem gX5_arc_X5_goBackToFirst : GoodIn wsX5_arc (wsV RX5 45 RX5 yX5_goBackToFirst wsX5_goBackToFirst) := goodIn_app (goodIn_of _ (by decide +kernel)) ggX5_arc_X5_goBackToFirst
theorem dX5_arc_0 : decode cX5_arc 0 = .ok (.aload_n 0, 1) := by decide +kernel
theorem dX5_arc_1 : decode cX5_arc 1 = .ok (.getfield 12, 3) := by decide +kernel
theorem dX5_arc_4 : decode cX5_arc 4 = .ok (.iload_n 1, 1) := by decide +kernel
theorem dX5_arc_5 : decode cX5_arc 5 = .ok (.invokevirtual 51, 3) := by decide +kernel
theorem dX5_arc_8 : decode cX5_arc 8 = .ok (.ifCond .eq 14, 3) := by decide +kernel
theorem dX5_arc_11 : decode cX5_arc 11 = .ok (.aload_n 0, 1) := by decide +kernel
theorem dX5_arc_12 : decode cX5_arc 12 = .ok (.getfield 12, 3) := by decide +kernel
theorem dX5_arc_15 : decode cX5_arc 15 = .ok (.iload_n 2, 1) := by decide +kernel
theorem dX5_arc_16 : decode cX5_arc 16 = .ok (.invokevirtual 55, 3) := by decide +kernel
theorem dX5_arc_19 : decode cX5_arc 19 = .ok (.ifCond .ne 5, 3) := by decide +kernel
theorem dX5_arc_22 : decode cX5_arc 22 = .ok (.iconst 0, 1) := by decide +kernel
theorem dX5_arc_23 : decode cX5_arc 23 = .ok (.ireturn, 1) := by decide +kernel
theorem dX5_arc_24 : decode cX5_arc 24 = .ok (.iload_n 3, 1) := by decide +kernel
theorem dX5_arc_25 : decode cX5_arc 25 = .ok (.iconst 5, 1) := by decide +kernel
theorem dX5_arc_26 : decode cX5_arc 26 = .ok (.invokestatic 38, 3) := by decide +kernel
theorem dX5_arc_29 : decode cX5_arc 29 = .ok (.ifCond .eq 12, 3) := by decide +kernel
theorem dX5_arc_32 : decode cX5_arc 32 = .ok (.iload 4, 2) := by decide +kernel
theorem dX5_arc_34 : decode cX5_arc 34 = .ok (.iconst 5, 1) := by decide +kernel
theorem dX5_arc_35 : decode cX5_arc 35 = .ok (.invokestatic 38, 3) := by decide +kernel
theorem dX5_arc_38 : decode cX5_arc 38 = .ok (.ifCond .ne 5, 3) := by decide +kernel
theorem dX5_arc_41 : decode cX5_arc 41 = .ok (.iconst 0, 1) := by decide +kernel
theorem dX5_arc_42 : decode cX5_arc 42 = .ok (.ireturn, 1) := by decide +kernel
theorem dX5_arc_43 : decode cX5_arc 43 = .ok (.aload_n 0, 1) := by decide +kernel
theorem dX5_arc_44 : decode cX5_arc 44 = .ok (.getfield 12, 3) := by decide +kernel
theorem dX5_arc_47 : decode cX5_arc 47 = .ok (.getfield 58, 3) := by decide +kernel
theorem dX5_arc_50 : decode cX5_arc 50 = .ok (.iload_n 1, 1) := by decide +kernel
theorem dX5_arc_51 : decode cX5_arc 51 = .ok (.aaload, 1) := by decide +kernel
theorem dX5_arc_52 : decode cX5_arc 52 = .ok (.iload_n 2, 1) := by decide +kernel
theorem dX5_arc_53 : decode cX5_arc 53 = .ok (.iload_n 3, 1) := by decide +kernel
theorem dX5_arc_54 : decode cX5_arc 54 = .ok (.iastore, 1) := by decide +kernel
theorem dX5_arc_55 : decode cX5_arc 55 = .ok (.aload_n 0, 1) := by decide +kernel
theorem dX5_arc_56 : decode cX5_arc 56 = .ok (.getfield 12, 3) := by decide +kernel
theorem dX5_arc_59 : decode cX5_arc 59 = .ok (.getfield 62, 3) := by decide +kernel
theorem dX5_arc_62 : decode cX5_arc 62 = .ok (.iload_n 1, 1) := by decide +kernel
theorem dX5_arc_63 : decode cX5_arc 63 = .ok (.aaload, 1) := by decide +kernel
theorem dX5_arc_64 : decode cX5_arc 64 = .ok (.iload_n 2, 1) := by decide +kernel
theorem dX5_arc_65 : decode cX5_arc 65 = .ok (.iload 4, 2) := by decide +kernel
theorem dX5_arc_67 : decode cX5_arc 67 = .ok (.iastore, 1) := by decide +kernel
theorem dX5_arc_68 : decode cX5_arc 68 = .ok (.aload_n 0, 1) := by decide +kernel
theorem dX5_arc_69 : decode cX5_arc 69 = .ok (.invokevirtual 45, 3) := by decide +kernel
theorem dX5_arc_72 : decode cX5_arc 72 = .ok (.iconst 1, 1) := by decide +kernel
theorem dX5_arc_73 : decode cX5_arc 73 = .ok (.ireturn, 1) := by decide +kernel
set_option maxRecDepth 20000 in
theorem ggX5_target_X0_hasPlace : GoodIn wsX5_target wsX0_hasPlace := goodIn_r _ [7, 8, 17, 18, 19, 20, 21, 22] (by decide +kernel) (by decide +kernel)
set_option maxRecDepth 20000 in
theorem gX5_target_X0_hasPlace : GoodIn wsX5_target (wsV RX5 55 RX0 yX0_hasPlace wsX0_hasPlace) := goodIn_app (goodIn_of _ (by decide +kernel)) ggX5_target_X0_hasPlace
set_option maxRecDepth 20000 in
theorem ggX5_target_X5_isWithin : GoodIn wsX5_target wsX5_isWithin := goodIn_r _ [12] (by decide +kernel) (by decide +kernel)
set_option maxRecDepth 20000 in
theorem gX5_target_X5_isWithin : GoodIn wsX5_target (va_wsS RX5 38 yX5_isWithin wsX5_isWithin) := goodIn_app (goodIn_of _ (by decide +kernel)) ggX5_target_X5_isWithin
theorem dX5_target_0 : decode cX5_target 0 = .ok (.aload_n 0, 1) := by decide +kernel
theorem dX5_target_1 : decode cX5_target 1 = .ok (.getfield 12, 3) := by decide +kernel
theorem dX5_target_4 : decode cX5_target 4 = .ok (.iload_n 1, 1) := by decide +kernel
theorem dX5_target_5 : decode cX5_target 5 = .ok (.invokevirtual 55, 3) := by decide +kernel
theorem dX5_target_8 : decode cX5_target 8 = .ok (.ifCond .eq 12, 3) := by decide +kernel
theorem dX5_target_11 : decode cX5_target 11 = .ok (.iload_n 2, 1) := by decide +kernel
theorem dX5_target_12 : decode cX5_target 12 = .ok (.bipush 20, 2) := by decide +kernel
theorem dX5_target_14 : decode cX5_target 14 = .ok (.invokestatic 38, 3) := by decide +kernel
theorem dX5_target_17 : decode cX5_target 17 = .ok (.ifCond .ne 5, 3) := by decide +kernel
theorem dX5_target_20 : decode cX5_target 20 = .ok (.iconst 0, 1) := by decide +kernel
theorem dX5_target_21 : decode cX5_target 21 = .ok (.ireturn, 1) := by decide +kernel
theorem dX5_target_22 : decode cX5_target 22 = .ok (.aload_n 0, 1) := by decide +kernel
theorem dX5_target_23 : decode cX5_target 23 = .ok (.getfield 12, 3) := by decide +kernel
theorem dX5_target_26 : decode cX5_target 26 = .ok (.getfield 65, 3) := by decide +kernel
theorem dX5_target_29 : decode cX5_target 29 = .ok (.iload_n 1, 1) := by decide +kernel
theorem dX5_target_30 : decode cX5_target 30 = .ok (.iload_n 2, 1) := by decide +kernel
theorem dX5_target_31 : decode cX5_target 31 = .ok (.iastore, 1) := by decide +kernel
theorem dX5_target_32 : decode cX5_target 32 = .ok (.iconst 1, 1) := by decide +kernel
theorem dX5_target_33 : decode cX5_target 33 = .ok (.ireturn, 1) := by decide +kernel
set_option maxRecDepth 20000 in
theorem ggX5_rounds_X3_goRounds : GoodIn wsX5_rounds wsX3_goRounds := goodIn_r _ [8, 9, 10, 11, 12, 13, 14, 15, 16, 7, 17, 18, 19, 20, 21, 22, 23, 24, 25, 26, 27, 28, 29, 30, 31, 32, 33, 34, 35, 36, 37, 38, 39, 40, 41, 42, 43, 44, 45, 46, 47, 48, 49, 50, 51, 52, 53, 54, 55, 56, 57, 58, 59, 60, 61, 62, 63, 64, 65, 66, 67, 68, 69, 70, 71, 72, 73, 74, 75, 76, 77, 78, 79, 80, 81, 82, 83, 84, 85, 86, 87, 88, 89, 90, 91, 92, 93, 94, 99, 100, 101, 102, 103, 104, 105, 106, 107, 108, 109, 110, 111, 112, 113, 114, 115, 116, 117, 118, 119] (by decide +kernel) (by decide +kernel)
set_option maxRecDepth 20000 in
theorem gX5_rounds_X3_goRounds : GoodIn wsX5_rounds (wsV RX5 68 RX3 yX3_goRounds wsX3_goRounds) := goodIn_app (goodIn_of _ (by decide +kernel)) ggX5_rounds_X3_goRounds
theorem dX5_rounds_0 : decode cX5_rounds 0 = .ok (.aload_n 0, 1) := by decide +kernel
theorem dX5_rounds_1 : decode cX5_rounds 1 = .ok (.getfield 23, 3) := by decide +kernel
theorem dX5_rounds_4 : decode cX5_rounds 4 = .ok (.aload_n 0, 1) := by decide +kernel
theorem dX5_rounds_5 : decode cX5_rounds 5 = .ok (.getfield 12, 3) := by decide +kernel
theorem dX5_rounds_8 : decode cX5_rounds 8 = .ok (.invokevirtual 68, 3) := by decide +kernel
theorem dX5_rounds_11 : decode cX5_rounds 11 = .ok (.aload_n 0, 1) := by decide +kernel
theorem dX5_rounds_12 : decode cX5_rounds 12 = .ok (.getfield 23, 3) := by decide +kernel
theorem dX5_rounds_15 : decode cX5_rounds 15 = .ok (.getfield 72, 3) := by decide +kernel
theorem dX5_rounds_18 : decode cX5_rounds 18 = .ok (.ireturn, 1) := by decide +kernel
theorem dX5_steps_0 : decode cX5_steps 0 = .ok (.aload_n 0, 1) := by decide +kernel
theorem dX5_steps_1 : decode cX5_steps 1 = .ok (.getfield 23, 3) := by decide +kernel
theorem dX5_steps_4 : decode cX5_steps 4 = .ok (.getfield 72, 3) := by decide +kernel
theorem dX5_steps_7 : decode cX5_steps 7 = .ok (.iconst 1, 1) := by decide +kernel
theorem dX5_steps_8 : decode cX5_steps 8 = .ok (.if_icmp .ne 13, 3) := by decide +kernel
theorem dX5_steps_11 : decode cX5_steps 11 = .ok (.aload_n 0, 1) := by decide +kernel
theorem dX5_steps_12 : decode cX5_steps 12 = .ok (.getfield 23, 3) := by decide +kernel
theorem dX5_steps_15 : decode cX5_steps 15 = .ok (.getfield 75, 3) := by decide +kernel
theorem dX5_steps_18 : decode cX5_steps 18 = .ok (.goto 4, 3) := by decide +kernel
theorem dX5_steps_21 : decode cX5_steps 21 = .ok (.iconst (-1), 1) := by decide +kernel
theorem dX5_steps_22 : decode cX5_steps 22 = .ok (.ireturn, 1) := by decide +kernel
set_option maxRecDepth 20000 in
theorem ggX5_witness_X5_steps : GoodIn wsX5_witness wsX5_steps := goodIn_r _ [7, 1, 8, 9, 10, 11, 12, 13, 14, 15, 16, 17, 18, 19, 20, 21, 22, 23, 24, 25, 26] (by decide +kernel) (by decide +kernel)
set_option maxRecDepth 20000 in
theorem gX5_witness_X5_steps : GoodIn wsX5_witness (wsV RX5 78 RX5 yX5_steps wsX5_steps) := goodIn_app (goodIn_of _ (by decide +kernel)) ggX5_witness_X5_steps
theorem dX5_witness_0 : decode cX5_witness 0 = .ok (.iload_n 1, 1) := by decide +kernel
theorem dX5_witness_1 : decode cX5_witness 1 = .ok (.ifCond .lt 23, 3) := by decide +kernel
theorem dX5_witness_4 : decode cX5_witness 4 = .ok (.iload_n 1, 1) := by decide +kernel
theorem dX5_witness_5 : decode cX5_witness 5 = .ok (.aload_n 0, 1) := by decide +kernel
theorem dX5_witness_6 : decode cX5_witness 6 = .ok (.invokevirtual 78, 3) := by decide +kernel
theorem dX5_witness_9 : decode cX5_witness 9 = .ok (.if_icmp .ge 15, 3) := by decide +kernel
theorem dX5_witness_12 : decode cX5_witness 12 = .ok (.aload_n 0, 1) := by decide +kernel
theorem dX5_witness_13 : decode cX5_witness 13 = .ok (.getfield 23, 3) := by decide +kernel
theorem dX5_witness_16 : decode cX5_witness 16 = .ok (.getfield 82, 3) := by decide +kernel
theorem dX5_witness_19 : decode cX5_witness 19 = .ok (.iload_n 1, 1) := by decide +kernel
theorem dX5_witness_20 : decode cX5_witness 20 = .ok (.iaload, 1) := by decide +kernel
theorem dX5_witness_21 : decode cX5_witness 21 = .ok (.goto 4, 3) := by decide +kernel
theorem dX5_witness_24 : decode cX5_witness 24 = .ok (.iconst (-1), 1) := by decide +kernel
theorem dX5_witness_25 : decode cX5_witness 25 = .ok (.ireturn, 1) := by decide +kernel
theorem dX5_least_0 : decode cX5_least 0 = .ok (.iload_n 1, 1) := by decide +kernel
theorem dX5_least_1 : decode cX5_least 1 = .ok (.ifCond .lt 26, 3) := by decide +kernel
theorem dX5_least_4 : decode cX5_least 4 = .ok (.iload_n 1, 1) := by decide +kernel
theorem dX5_least_5 : decode cX5_least 5 = .ok (.aload_n 0, 1) := by decide +kernel
theorem dX5_least_6 : decode cX5_least 6 = .ok (.getfield 23, 3) := by decide +kernel
theorem dX5_least_9 : decode cX5_least 9 = .ok (.getfield 75, 3) := by decide +kernel
theorem dX5_least_12 : decode cX5_least 12 = .ok (.if_icmp .gt 15, 3) := by decide +kernel
theorem dX5_least_15 : decode cX5_least 15 = .ok (.aload_n 0, 1) := by decide +kernel
theorem dX5_least_16 : decode cX5_least 16 = .ok (.getfield 23, 3) := by decide +kernel
theorem dX5_least_19 : decode cX5_least 19 = .ok (.getfield 85, 3) := by decide +kernel
theorem dX5_least_22 : decode cX5_least 22 = .ok (.iload_n 1, 1) := by decide +kernel
theorem dX5_least_23 : decode cX5_least 23 = .ok (.iaload, 1) := by decide +kernel
theorem dX5_least_24 : decode cX5_least 24 = .ok (.goto 4, 3) := by decide +kernel
theorem dX5_least_27 : decode cX5_least 27 = .ok (.iconst (-1), 1) := by decide +kernel
theorem dX5_least_28 : decode cX5_least 28 = .ok (.ireturn, 1) := by decide +kernel
set_option maxRecDepth 20000 in
theorem ggX5_grow_X4_growFrom : GoodIn wsX5_grow wsX4_growFrom := goodIn_r _ [9, 10, 11, 12, 13, 14, 8, 15, 16, 17, 18, 19, 20, 21, 22, 23, 24, 25, 26, 27, 28, 29, 30, 31, 32, 33, 34, 35, 36, 37, 38, 39, 40, 41, 42, 43, 44, 45, 46, 47, 48, 49, 50, 51, 52, 53, 54, 55, 56, 57, 58, 59, 60, 61, 62, 63, 64, 65, 66, 67, 68, 69, 70, 71, 72, 73, 74, 75, 76, 77, 78, 79, 80, 81, 82, 83, 84, 85, 86, 87, 88, 89, 90, 91, 96, 97, 98, 99, 100, 101, 102, 103, 104, 105, 106, 107, 108, 109, 110] (by decide +kernel) (by decide +kernel)
set_option maxRecDepth 20000 in
theorem gX5_grow_X4_growFrom : GoodIn wsX5_grow (wsV RX5 88 RX4 yX4_growFrom wsX4_growFrom) := goodIn_app (goodIn_of _ (by decide +kernel)) ggX5_grow_X4_growFrom
theorem dX5_grow_0 : decode cX5_grow 0 = .ok (.aload_n 0, 1) := by decide +kernel
theorem dX5_grow_1 : decode cX5_grow 1 = .ok (.getfield 30, 3) := by decide +kernel
theorem dX5_grow_4 : decode cX5_grow 4 = .ok (.aload_n 0, 1) := by decide +kernel
theorem dX5_grow_5 : decode cX5_grow 5 = .ok (.getfield 12, 3) := by decide +kernel
theorem dX5_grow_8 : decode cX5_grow 8 = .ok (.invokevirtual 88, 3) := by decide +kernel
theorem dX5_grow_11 : decode cX5_grow 11 = .ok (.aload_n 0, 1) := by decide +kernel
theorem dX5_grow_12 : decode cX5_grow 12 = .ok (.getfield 30, 3) := by decide +kernel
theorem dX5_grow_15 : decode cX5_grow 15 = .ok (.getfield 91, 3) := by decide +kernel
theorem dX5_grow_18 : decode cX5_grow 18 = .ok (.ifCond .eq 13, 3) := by decide +kernel
theorem dX5_grow_21 : decode cX5_grow 21 = .ok (.aload_n 0, 1) := by decide +kernel
theorem dX5_grow_22 : decode cX5_grow 22 = .ok (.getfield 30, 3) := by decide +kernel
theorem dX5_grow_25 : decode cX5_grow 25 = .ok (.getfield 95, 3) := by decide +kernel
theorem dX5_grow_28 : decode cX5_grow 28 = .ok (.goto 4, 3) := by decide +kernel
theorem dX5_grow_31 : decode cX5_grow 31 = .ok (.iconst (-1), 1) := by decide +kernel
theorem dX5_grow_32 : decode cX5_grow 32 = .ok (.ireturn, 1) := by decide +kernel
set_option maxRecDepth 20000 in
theorem ggX5_most_X4_hasPlace : GoodIn wsX5_most wsX4_hasPlace := goodIn_r _ [7, 8, 37, 38, 39, 40, 41, 42, 43, 44, 45] (by decide +kernel) (by decide +kernel)
set_option maxRecDepth 20000 in
theorem gX5_most_X4_hasPlace : GoodIn wsX5_most (wsV RX5 98 RX4 yX4_hasPlace wsX4_hasPlace) := goodIn_app (goodIn_of _ (by decide +kernel)) ggX5_most_X4_hasPlace
set_option maxRecDepth 20000 in
theorem ggX5_most_X4_mostAt : GoodIn wsX5_most wsX4_mostAt := goodIn_r _ [12, 13, 14, 15, 16, 17, 18, 19, 20, 6, 21, 22, 23, 24, 25, 26, 27, 37, 38, 39, 40, 41, 42, 43, 44, 45] (by decide +kernel) (by decide +kernel)
set_option maxRecDepth 20000 in
theorem gX5_most_X4_mostAt : GoodIn wsX5_most (wsV RX5 99 RX4 yX4_mostAt wsX4_mostAt) := goodIn_app (goodIn_of _ (by decide +kernel)) ggX5_most_X4_mostAt
set_option maxRecDepth 20000 in
theorem ggX5_most_X5_told : GoodIn wsX5_most wsX5_told := goodIn_r _ [31, 32] (by decide +kernel) (by decide +kernel)
set_option maxRecDepth 20000 in
theorem gX5_most_X5_told : GoodIn wsX5_most (va_wsS RX5 103 yX5_told wsX5_told) := goodIn_app (goodIn_of _ (by decide +kernel)) ggX5_most_X5_told
theorem dX5_most_0 : decode cX5_most 0 = .ok (.aload_n 0, 1) := by decide +kernel
