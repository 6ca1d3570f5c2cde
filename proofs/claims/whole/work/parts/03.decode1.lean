theorem dX0_init_0 : decode cX0_init 0 = .ok (.aload_n 0, 1) := by decide +kernel
theorem dX0_init_1 : decode cX0_init 1 = .ok (.invokespecial 3, 3) := by decide +kernel
theorem dX0_init_4 : decode cX0_init 4 = .ok (.aload_n 0, 1) := by decide +kernel
theorem dX0_init_5 : decode cX0_init 5 = .ok (.iconst 0, 1) := by decide +kernel
theorem dX0_init_6 : decode cX0_init 6 = .ok (.putfield 9, 3) := by decide +kernel
theorem dX0_init_9 : decode cX0_init 9 = .ok (.aload_n 0, 1) := by decide +kernel
theorem dX0_init_10 : decode cX0_init 10 = .ok (.iconst 0, 1) := by decide +kernel
theorem dX0_init_11 : decode cX0_init 11 = .ok (.putfield 15, 3) := by decide +kernel
theorem dX0_init_14 : decode cX0_init 14 = .ok (.aload_n 0, 1) := by decide +kernel
theorem dX0_init_15 : decode cX0_init 15 = .ok (.iconst 5, 1) := by decide +kernel
theorem dX0_init_16 : decode cX0_init 16 = .ok (.newarray .int, 2) := by decide +kernel
theorem dX0_init_18 : decode cX0_init 18 = .ok (.putfield 18, 3) := by decide +kernel
theorem dX0_init_21 : decode cX0_init 21 = .ok (.aload_n 0, 1) := by decide +kernel
theorem dX0_init_22 : decode cX0_init 22 = .ok (.iconst 5, 1) := by decide +kernel
theorem dX0_init_23 : decode cX0_init 23 = .ok (.newarray .int, 2) := by decide +kernel
theorem dX0_init_25 : decode cX0_init 25 = .ok (.putfield 22, 3) := by decide +kernel
theorem dX0_init_28 : decode cX0_init 28 = .ok (.aload_n 0, 1) := by decide +kernel
theorem dX0_init_29 : decode cX0_init 29 = .ok (.bipush 6, 2) := by decide +kernel
theorem dX0_init_31 : decode cX0_init 31 = .ok (.iconst 5, 1) := by decide +kernel
theorem dX0_init_32 : decode cX0_init 32 = .ok (.multianewarray 25 2, 4) := by decide +kernel
theorem dX0_init_36 : decode cX0_init 36 = .ok (.putfield 27, 3) := by decide +kernel
theorem dX0_init_39 : decode cX0_init 39 = .ok (.aload_n 0, 1) := by decide +kernel
theorem dX0_init_40 : decode cX0_init 40 = .ok (.bipush 6, 2) := by decide +kernel
theorem dX0_init_42 : decode cX0_init 42 = .ok (.iconst 5, 1) := by decide +kernel
theorem dX0_init_43 : decode cX0_init 43 = .ok (.multianewarray 25 2, 4) := by decide +kernel
theorem dX0_init_47 : decode cX0_init 47 = .ok (.putfield 30, 3) := by decide +kernel
theorem dX0_init_50 : decode cX0_init 50 = .ok (.return_, 1) := by decide +kernel
theorem dX0_hasPlace_0 : decode cX0_hasPlace 0 = .ok (.iload_n 1, 1) := by decide +kernel
theorem dX0_hasPlace_1 : decode cX0_hasPlace 1 = .ok (.ifCond .lt 15, 3) := by decide +kernel
theorem dX0_hasPlace_4 : decode cX0_hasPlace 4 = .ok (.iload_n 1, 1) := by decide +kernel
theorem dX0_hasPlace_5 : decode cX0_hasPlace 5 = .ok (.aload_n 0, 1) := by decide +kernel
theorem dX0_hasPlace_6 : decode cX0_hasPlace 6 = .ok (.getfield 9, 3) := by decide +kernel
theorem dX0_hasPlace_9 : decode cX0_hasPlace 9 = .ok (.if_icmp .ge 7, 3) := by decide +kernel
theorem dX0_hasPlace_12 : decode cX0_hasPlace 12 = .ok (.iconst 1, 1) := by decide +kernel
theorem dX0_hasPlace_13 : decode cX0_hasPlace 13 = .ok (.goto 4, 3) := by decide +kernel
theorem dX0_hasPlace_16 : decode cX0_hasPlace 16 = .ok (.iconst 0, 1) := by decide +kernel
theorem dX0_hasPlace_17 : decode cX0_hasPlace 17 = .ok (.ireturn, 1) := by decide +kernel
theorem dX0_hasTransition_0 : decode cX0_hasTransition 0 = .ok (.iload_n 1, 1) := by decide +kernel
theorem dX0_hasTransition_1 : decode cX0_hasTransition 1 = .ok (.ifCond .lt 15, 3) := by decide +kernel
theorem dX0_hasTransition_4 : decode cX0_hasTransition 4 = .ok (.iload_n 1, 1) := by decide +kernel
theorem dX0_hasTransition_5 : decode cX0_hasTransition 5 = .ok (.aload_n 0, 1) := by decide +kernel
theorem dX0_hasTransition_6 : decode cX0_hasTransition 6 = .ok (.getfield 15, 3) := by decide +kernel
theorem dX0_hasTransition_9 : decode cX0_hasTransition 9 = .ok (.if_icmp .ge 7, 3) := by decide +kernel
theorem dX0_hasTransition_12 : decode cX0_hasTransition 12 = .ok (.iconst 1, 1) := by decide +kernel
theorem dX0_hasTransition_13 : decode cX0_hasTransition 13 = .ok (.goto 4, 3) := by decide +kernel
theorem dX0_hasTransition_16 : decode cX0_hasTransition 16 = .ok (.iconst 0, 1) := by decide +kernel
theorem dX0_hasTransition_17 : decode cX0_hasTransition 17 = .ok (.ireturn, 1) := by decide +kernel
theorem dX0_canFire_0 : decode cX0_canFire 0 = .ok (.aload_n 0, 1) := by decide +kernel
theorem dX0_canFire_1 : decode cX0_canFire 1 = .ok (.getfield 27, 3) := by decide +kernel
theorem dX0_canFire_4 : decode cX0_canFire 4 = .ok (.iload_n 1, 1) := by decide +kernel
theorem dX0_canFire_5 : decode cX0_canFire 5 = .ok (.aaload, 1) := by decide +kernel
theorem dX0_canFire_6 : decode cX0_canFire 6 = .ok (.astore 4, 2) := by decide +kernel
theorem dX0_canFire_8 : decode cX0_canFire 8 = .ok (.iconst 0, 1) := by decide +kernel
theorem dX0_canFire_9 : decode cX0_canFire 9 = .ok (.istore 5, 2) := by decide +kernel
theorem dX0_canFire_11 : decode cX0_canFire 11 = .ok (.iload 5, 2) := by decide +kernel
theorem dX0_canFire_13 : decode cX0_canFire 13 = .ok (.aload_n 0, 1) := by decide +kernel
theorem dX0_canFire_14 : decode cX0_canFire 14 = .ok (.getfield 9, 3) := by decide +kernel
theorem dX0_canFire_17 : decode cX0_canFire 17 = .ok (.if_icmp .ge 25, 3) := by decide +kernel
theorem dX0_canFire_20 : decode cX0_canFire 20 = .ok (.aload_n 2, 1) := by decide +kernel
theorem dX0_canFire_21 : decode cX0_canFire 21 = .ok (.iload_n 3, 1) := by decide +kernel
theorem dX0_canFire_22 : decode cX0_canFire 22 = .ok (.iload 5, 2) := by decide +kernel
theorem dX0_canFire_24 : decode cX0_canFire 24 = .ok (.iadd, 1) := by decide +kernel
theorem dX0_canFire_25 : decode cX0_canFire 25 = .ok (.iaload, 1) := by decide +kernel
theorem dX0_canFire_26 : decode cX0_canFire 26 = .ok (.aload 4, 2) := by decide +kernel
theorem dX0_canFire_28 : decode cX0_canFire 28 = .ok (.iload 5, 2) := by decide +kernel
theorem dX0_canFire_30 : decode cX0_canFire 30 = .ok (.iaload, 1) := by decide +kernel
theorem dX0_canFire_31 : decode cX0_canFire 31 = .ok (.if_icmp .ge 5, 3) := by decide +kernel
theorem dX0_canFire_34 : decode cX0_canFire 34 = .ok (.iconst 0, 1) := by decide +kernel
theorem dX0_canFire_35 : decode cX0_canFire 35 = .ok (.ireturn, 1) := by decide +kernel
theorem dX0_canFire_36 : decode cX0_canFire 36 = .ok (.iinc 5 1, 3) := by decide +kernel
theorem dX0_canFire_39 : decode cX0_canFire 39 = .ok (.goto (-28), 3) := by decide +kernel
theorem dX0_canFire_42 : decode cX0_canFire 42 = .ok (.iconst 1, 1) := by decide +kernel
theorem dX0_canFire_43 : decode cX0_canFire 43 = .ok (.ireturn, 1) := by decide +kernel
theorem dX0_move_0 : decode cX0_move 0 = .ok (.iconst 0, 1) := by decide +kernel
theorem dX0_move_1 : decode cX0_move 1 = .ok (.istore 4, 2) := by decide +kernel
theorem dX0_move_3 : decode cX0_move 3 = .ok (.iload 4, 2) := by decide +kernel
theorem dX0_move_5 : decode cX0_move 5 = .ok (.aload_n 0, 1) := by decide +kernel
theorem dX0_move_6 : decode cX0_move 6 = .ok (.getfield 9, 3) := by decide +kernel
theorem dX0_move_9 : decode cX0_move 9 = .ok (.if_icmp .ge 48, 3) := by decide +kernel
theorem dX0_move_12 : decode cX0_move 12 = .ok (.aload_n 2, 1) := by decide +kernel
theorem dX0_move_13 : decode cX0_move 13 = .ok (.iload_n 3, 1) := by decide +kernel
theorem dX0_move_14 : decode cX0_move 14 = .ok (.iload 4, 2) := by decide +kernel
theorem dX0_move_16 : decode cX0_move 16 = .ok (.iadd, 1) := by decide +kernel
theorem dX0_move_17 : decode cX0_move 17 = .ok (.iaload, 1) := by decide +kernel
theorem dX0_move_18 : decode cX0_move 18 = .ok (.ldc 33, 2) := by decide +kernel
theorem dX0_move_20 : decode cX0_move 20 = .ok (.if_icmp .eq 31, 3) := by decide +kernel
theorem dX0_move_23 : decode cX0_move 23 = .ok (.aload_n 2, 1) := by decide +kernel
theorem dX0_move_24 : decode cX0_move 24 = .ok (.iload_n 3, 1) := by decide +kernel
theorem dX0_move_25 : decode cX0_move 25 = .ok (.iload 4, 2) := by decide +kernel
theorem dX0_move_27 : decode cX0_move 27 = .ok (.iadd, 1) := by decide +kernel
theorem dX0_move_28 : decode cX0_move 28 = .ok (.dup2, 1) := by decide +kernel
theorem dX0_move_29 : decode cX0_move 29 = .ok (.iaload, 1) := by decide +kernel
theorem dX0_move_30 : decode cX0_move 30 = .ok (.aload_n 0, 1) := by decide +kernel
theorem dX0_move_31 : decode cX0_move 31 = .ok (.getfield 30, 3) := by decide +kernel
theorem dX0_move_34 : decode cX0_move 34 = .ok (.iload_n 1, 1) := by decide +kernel
theorem dX0_move_35 : decode cX0_move 35 = .ok (.aaload, 1) := by decide +kernel
theorem dX0_move_36 : decode cX0_move 36 = .ok (.iload 4, 2) := by decide +kernel
theorem dX0_move_38 : decode cX0_move 38 = .ok (.iaload, 1) := by decide +kernel
theorem dX0_move_39 : decode cX0_move 39 = .ok (.aload_n 0, 1) := by decide +kernel
theorem dX0_move_40 : decode cX0_move 40 = .ok (.getfield 27, 3) := by decide +kernel
theorem dX0_move_43 : decode cX0_move 43 = .ok (.iload_n 1, 1) := by decide +kernel
theorem dX0_move_44 : decode cX0_move 44 = .ok (.aaload, 1) := by decide +kernel
theorem dX0_move_45 : decode cX0_move 45 = .ok (.iload 4, 2) := by decide +kernel
theorem dX0_move_47 : decode cX0_move 47 = .ok (.iaload, 1) := by decide +kernel
theorem dX0_move_48 : decode cX0_move 48 = .ok (.isub, 1) := by decide +kernel
theorem dX0_move_49 : decode cX0_move 49 = .ok (.iadd, 1) := by decide +kernel
theorem dX0_move_50 : decode cX0_move 50 = .ok (.iastore, 1) := by decide +kernel
theorem dX0_move_51 : decode cX0_move 51 = .ok (.iinc 4 1, 3) := by decide +kernel
theorem dX0_move_54 : decode cX0_move 54 = .ok (.goto (-51), 3) := by decide +kernel
theorem dX0_move_57 : decode cX0_move 57 = .ok (.return_, 1) := by decide +kernel
theorem dX1_of_0 : decode cX1_of 0 = .ok (.lconst 0, 1) := by decide +kernel
theorem dX1_of_1 : decode cX1_of 1 = .ok (.lstore_n 1, 1) := by decide +kernel
theorem dX1_of_2 : decode cX1_of 2 = .ok (.iconst 4, 1) := by decide +kernel
theorem dX1_of_3 : decode cX1_of 3 = .ok (.istore_n 3, 1) := by decide +kernel
theorem dX1_of_4 : decode cX1_of 4 = .ok (.iload_n 3, 1) := by decide +kernel
theorem dX1_of_5 : decode cX1_of 5 = .ok (.ifCond .lt 19, 3) := by decide +kernel
theorem dX1_of_8 : decode cX1_of 8 = .ok (.lload_n 1, 1) := by decide +kernel
theorem dX1_of_9 : decode cX1_of 9 = .ok (.bipush 10, 2) := by decide +kernel
theorem dX1_of_11 : decode cX1_of 11 = .ok (.lshl, 1) := by decide +kernel
theorem dX1_of_12 : decode cX1_of 12 = .ok (.aload_n 0, 1) := by decide +kernel
theorem dX1_of_13 : decode cX1_of 13 = .ok (.iload_n 3, 1) := by decide +kernel
theorem dX1_of_14 : decode cX1_of 14 = .ok (.iaload, 1) := by decide +kernel
theorem dX1_of_15 : decode cX1_of 15 = .ok (.i2l, 1) := by decide +kernel
theorem dX1_of_16 : decode cX1_of 16 = .ok (.lor, 1) := by decide +kernel
theorem dX1_of_17 : decode cX1_of 17 = .ok (.lstore_n 1, 1) := by decide +kernel
theorem dX1_of_18 : decode cX1_of 18 = .ok (.iinc 3 (-1), 3) := by decide +kernel
theorem dX1_of_21 : decode cX1_of 21 = .ok (.goto (-17), 3) := by decide +kernel
theorem dX1_of_24 : decode cX1_of 24 = .ok (.lload_n 1, 1) := by decide +kernel
theorem dX1_of_25 : decode cX1_of 25 = .ok (.lreturn, 1) := by decide +kernel
theorem dX1_isAtLeast_0 : decode cX1_isAtLeast 0 = .ok (.lload_n 0, 1) := by decide +kernel
theorem dX1_isAtLeast_1 : decode cX1_isAtLeast 1 = .ok (.ldc2_w 11, 3) := by decide +kernel
theorem dX1_isAtLeast_4 : decode cX1_isAtLeast 4 = .ok (.lor, 1) := by decide +kernel
theorem dX1_isAtLeast_5 : decode cX1_isAtLeast 5 = .ok (.lload_n 2, 1) := by decide +kernel
theorem dX1_isAtLeast_6 : decode cX1_isAtLeast 6 = .ok (.lsub, 1) := by decide +kernel
theorem dX1_isAtLeast_7 : decode cX1_isAtLeast 7 = .ok (.ldc2_w 11, 3) := by decide +kernel
theorem dX1_isAtLeast_10 : decode cX1_isAtLeast 10 = .ok (.land, 1) := by decide +kernel
theorem dX1_isAtLeast_11 : decode cX1_isAtLeast 11 = .ok (.ldc2_w 11, 3) := by decide +kernel
theorem dX1_isAtLeast_14 : decode cX1_isAtLeast 14 = .ok (.lcmp, 1) := by decide +kernel
theorem dX1_isAtLeast_15 : decode cX1_isAtLeast 15 = .ok (.ifCond .ne 7, 3) := by decide +kernel
theorem dX1_isAtLeast_18 : decode cX1_isAtLeast 18 = .ok (.iconst 1, 1) := by decide +kernel
theorem dX1_isAtLeast_19 : decode cX1_isAtLeast 19 = .ok (.goto 4, 3) := by decide +kernel
theorem dX1_isAtLeast_22 : decode cX1_isAtLeast 22 = .ok (.iconst 0, 1) := by decide +kernel
theorem dX1_isAtLeast_23 : decode cX1_isAtLeast 23 = .ok (.ireturn, 1) := by decide +kernel
theorem dX1_lessened_0 : decode cX1_lessened 0 = .ok (.lload_n 0, 1) := by decide +kernel
theorem dX1_lessened_1 : decode cX1_lessened 1 = .ok (.ldc2_w 11, 3) := by decide +kernel
theorem dX1_lessened_4 : decode cX1_lessened 4 = .ok (.lor, 1) := by decide +kernel
theorem dX1_lessened_5 : decode cX1_lessened 5 = .ok (.lload_n 2, 1) := by decide +kernel
theorem dX1_lessened_6 : decode cX1_lessened 6 = .ok (.lsub, 1) := by decide +kernel
theorem dX1_lessened_7 : decode cX1_lessened 7 = .ok (.lstore 4, 2) := by decide +kernel
theorem dX1_lessened_9 : decode cX1_lessened 9 = .ok (.lload 4, 2) := by decide +kernel
theorem dX1_lessened_11 : decode cX1_lessened 11 = .ok (.ldc2_w 11, 3) := by decide +kernel
theorem dX1_lessened_14 : decode cX1_lessened 14 = .ok (.land, 1) := by decide +kernel
theorem dX1_lessened_15 : decode cX1_lessened 15 = .ok (.lstore 6, 2) := by decide +kernel
theorem dX1_lessened_17 : decode cX1_lessened 17 = .ok (.lload 6, 2) := by decide +kernel
theorem dX1_lessened_19 : decode cX1_lessened 19 = .ok (.lload 6, 2) := by decide +kernel
theorem dX1_lessened_21 : decode cX1_lessened 21 = .ok (.bipush 9, 2) := by decide +kernel
theorem dX1_lessened_23 : decode cX1_lessened 23 = .ok (.lushr, 1) := by decide +kernel
theorem dX1_lessened_24 : decode cX1_lessened 24 = .ok (.lsub, 1) := by decide +kernel
theorem dX1_lessened_25 : decode cX1_lessened 25 = .ok (.lstore 8, 2) := by decide +kernel
theorem dX1_lessened_27 : decode cX1_lessened 27 = .ok (.lload 4, 2) := by decide +kernel
theorem dX1_lessened_29 : decode cX1_lessened 29 = .ok (.lload 8, 2) := by decide +kernel
theorem dX1_lessened_31 : decode cX1_lessened 31 = .ok (.land, 1) := by decide +kernel
theorem dX1_lessened_32 : decode cX1_lessened 32 = .ok (.lreturn, 1) := by decide +kernel
theorem dX2_init_0 : decode cX2_init 0 = .ok (.aload_n 0, 1) := by decide +kernel
theorem dX2_init_1 : decode cX2_init 1 = .ok (.invokespecial 1, 3) := by decide +kernel
theorem dX2_init_4 : decode cX2_init 4 = .ok (.aload_n 0, 1) := by decide +kernel
theorem dX2_init_5 : decode cX2_init 5 = .ok (.bipush 64, 2) := by decide +kernel
theorem dX2_init_7 : decode cX2_init 7 = .ok (.newarray .long, 2) := by decide +kernel
theorem dX2_init_9 : decode cX2_init 9 = .ok (.putfield 9, 3) := by decide +kernel
theorem dX2_init_12 : decode cX2_init 12 = .ok (.aload_n 0, 1) := by decide +kernel
theorem dX2_init_13 : decode cX2_init 13 = .ok (.iconst 0, 1) := by decide +kernel
theorem dX2_init_14 : decode cX2_init 14 = .ok (.putfield 13, 3) := by decide +kernel
theorem dX2_init_17 : decode cX2_init 17 = .ok (.return_, 1) := by decide +kernel
set_option maxRecDepth 20000 in
theorem ggX2_add_J7_copyOf_c38d5 : GoodIn wsX2_add wsJ7_copyOf_c38d5 := goodIn_r _ [6, 7, 8, 9, 10, 11, 12, 13, 14, 15, 16, 17, 18, 19, 20, 21] (by decide +kernel) (by decide +kernel)
set_option maxRecDepth 20000 in
theorem gX2_add_J7_copyOf_c38d5 : GoodIn wsX2_add (va_wsS RX2 17 yJ7_copyOf_c38d5 wsJ7_copyOf_c38d5) := goodIn_app (goodIn_of _ (by decide +kernel)) ggX2_add_J7_copyOf_c38d5
theorem dX2_add_0 : decode cX2_add 0 = .ok (.aload_n 0, 1) := by decide +kernel
theorem dX2_add_1 : decode cX2_add 1 = .ok (.getfield 13, 3) := by decide +kernel
theorem dX2_add_4 : decode cX2_add 4 = .ok (.aload_n 0, 1) := by decide +kernel
theorem dX2_add_5 : decode cX2_add 5 = .ok (.getfield 9, 3) := by decide +kernel
theorem dX2_add_8 : decode cX2_add 8 = .ok (.arraylength, 1) := by decide +kernel
theorem dX2_add_9 : decode cX2_add 9 = .ok (.if_icmp .lt 21, 3) := by decide +kernel
theorem dX2_add_12 : decode cX2_add 12 = .ok (.aload_n 0, 1) := by decide +kernel
theorem dX2_add_13 : decode cX2_add 13 = .ok (.aload_n 0, 1) := by decide +kernel
theorem dX2_add_14 : decode cX2_add 14 = .ok (.getfield 9, 3) := by decide +kernel
theorem dX2_add_17 : decode cX2_add 17 = .ok (.iconst 2, 1) := by decide +kernel
theorem dX2_add_18 : decode cX2_add 18 = .ok (.aload_n 0, 1) := by decide +kernel
theorem dX2_add_19 : decode cX2_add 19 = .ok (.getfield 9, 3) := by decide +kernel
theorem dX2_add_22 : decode cX2_add 22 = .ok (.arraylength, 1) := by decide +kernel
theorem dX2_add_23 : decode cX2_add 23 = .ok (.imul, 1) := by decide +kernel
theorem dX2_add_24 : decode cX2_add 24 = .ok (.invokestatic 17, 3) := by decide +kernel
theorem dX2_add_27 : decode cX2_add 27 = .ok (.putfield 9, 3) := by decide +kernel
theorem dX2_add_30 : decode cX2_add 30 = .ok (.aload_n 0, 1) := by decide +kernel
theorem dX2_add_31 : decode cX2_add 31 = .ok (.getfield 9, 3) := by decide +kernel
theorem dX2_add_34 : decode cX2_add 34 = .ok (.aload_n 0, 1) := by decide +kernel
theorem dX2_add_35 : decode cX2_add 35 = .ok (.getfield 13, 3) := by decide +kernel
theorem dX2_add_38 : decode cX2_add 38 = .ok (.lload_n 1, 1) := by decide +kernel
theorem dX2_add_39 : decode cX2_add 39 = .ok (.lastore, 1) := by decide +kernel
theorem dX2_add_40 : decode cX2_add 40 = .ok (.aload_n 0, 1) := by decide +kernel
theorem dX2_add_41 : decode cX2_add 41 = .ok (.dup, 1) := by decide +kernel
theorem dX2_add_42 : decode cX2_add 42 = .ok (.getfield 13, 3) := by decide +kernel
theorem dX2_add_45 : decode cX2_add 45 = .ok (.iconst 1, 1) := by decide +kernel
theorem dX2_add_46 : decode cX2_add 46 = .ok (.iadd, 1) := by decide +kernel
theorem dX2_add_47 : decode cX2_add 47 = .ok (.putfield 13, 3) := by decide +kernel
theorem dX2_add_50 : decode cX2_add 50 = .ok (.return_, 1) := by decide +kernel
set_option maxRecDepth 20000 in
theorem ggX2_hasOneBelow_X1_isAtLeast : GoodIn wsX2_hasOneBelow wsX1_isAtLeast := goodIn_r _ [6, 7] (by decide +kernel) (by decide +kernel)
set_option maxRecDepth 20000 in
theorem gX2_hasOneBelow_X1_isAtLeast : GoodIn wsX2_hasOneBelow (va_wsS RX2 23 yX1_isAtLeast wsX1_isAtLeast) := goodIn_app (goodIn_of _ (by decide +kernel)) ggX2_hasOneBelow_X1_isAtLeast
theorem dX2_hasOneBelow_0 : decode cX2_hasOneBelow 0 = .ok (.iconst 0, 1) := by decide +kernel
theorem dX2_hasOneBelow_1 : decode cX2_hasOneBelow 1 = .ok (.istore 4, 2) := by decide +kernel
theorem dX2_hasOneBelow_3 : decode cX2_hasOneBelow 3 = .ok (.iload 4, 2) := by decide +kernel
theorem dX2_hasOneBelow_5 : decode cX2_hasOneBelow 5 = .ok (.iload_n 3, 1) := by decide +kernel
theorem dX2_hasOneBelow_6 : decode cX2_hasOneBelow 6 = .ok (.if_icmp .ge 34, 3) := by decide +kernel
theorem dX2_hasOneBelow_9 : decode cX2_hasOneBelow 9 = .ok (.iload 4, 2) := by decide +kernel
theorem dX2_hasOneBelow_11 : decode cX2_hasOneBelow 11 = .ok (.aload_n 0, 1) := by decide +kernel
theorem dX2_hasOneBelow_12 : decode cX2_hasOneBelow 12 = .ok (.getfield 13, 3) := by decide +kernel
theorem dX2_hasOneBelow_15 : decode cX2_hasOneBelow 15 = .ok (.if_icmp .ge 25, 3) := by decide +kernel
theorem dX2_hasOneBelow_18 : decode cX2_hasOneBelow 18 = .ok (.lload_n 1, 1) := by decide +kernel
theorem dX2_hasOneBelow_19 : decode cX2_hasOneBelow 19 = .ok (.aload_n 0, 1) := by decide +kernel
theorem dX2_hasOneBelow_20 : decode cX2_hasOneBelow 20 = .ok (.getfield 9, 3) := by decide +kernel
theorem dX2_hasOneBelow_23 : decode cX2_hasOneBelow 23 = .ok (.iload 4, 2) := by decide +kernel
theorem dX2_hasOneBelow_25 : decode cX2_hasOneBelow 25 = .ok (.laload, 1) := by decide +kernel
theorem dX2_hasOneBelow_26 : decode cX2_hasOneBelow 26 = .ok (.invokestatic 23, 3) := by decide +kernel
theorem dX2_hasOneBelow_29 : decode cX2_hasOneBelow 29 = .ok (.ifCond .eq 5, 3) := by decide +kernel
theorem dX2_hasOneBelow_32 : decode cX2_hasOneBelow 32 = .ok (.iconst 1, 1) := by decide +kernel
theorem dX2_hasOneBelow_33 : decode cX2_hasOneBelow 33 = .ok (.ireturn, 1) := by decide +kernel
theorem dX2_hasOneBelow_34 : decode cX2_hasOneBelow 34 = .ok (.iinc 4 1, 3) := by decide +kernel
theorem dX2_hasOneBelow_37 : decode cX2_hasOneBelow 37 = .ok (.goto (-34), 3) := by decide +kernel
theorem dX2_hasOneBelow_40 : decode cX2_hasOneBelow 40 = .ok (.iconst 0, 1) := by decide +kernel
theorem dX2_hasOneBelow_41 : decode cX2_hasOneBelow 41 = .ok (.ireturn, 1) := by decide +kernel
set_option maxRecDepth 20000 in
theorem ggX3_init_X2_init : GoodIn wsX3_init wsX2_init := goodIn_r _ [23, 24, 2, 3, 11, 25, 26, 40, 41] (by decide +kernel) (by decide +kernel)
set_option maxRecDepth 20000 in
theorem gX3_init_X2_init_n41 : GoodIn wsX3_init (wsX2_init) := ggX3_init_X2_init
theorem dX3_init_0 : decode cX3_init 0 = .ok (.aload_n 0, 1) := by decide +kernel
theorem dX3_init_1 : decode cX3_init 1 = .ok (.invokespecial 3, 3) := by decide +kernel
theorem dX3_init_4 : decode cX3_init 4 = .ok (.aload_n 0, 1) := by decide +kernel
theorem dX3_init_5 : decode cX3_init 5 = .ok (.iconst 2, 1) := by decide +kernel
theorem dX3_init_6 : decode cX3_init 6 = .ok (.putfield 9, 3) := by decide +kernel
theorem dX3_init_9 : decode cX3_init 9 = .ok (.aload_n 0, 1) := by decide +kernel
theorem dX3_init_10 : decode cX3_init 10 = .ok (.iconst (-1), 1) := by decide +kernel
theorem dX3_init_11 : decode cX3_init 11 = .ok (.putfield 15, 3) := by decide +kernel
theorem dX3_init_14 : decode cX3_init 14 = .ok (.aload_n 0, 1) := by decide +kernel
theorem dX3_init_15 : decode cX3_init 15 = .ok (.bipush 61, 2) := by decide +kernel
theorem dX3_init_17 : decode cX3_init 17 = .ok (.newarray .int, 2) := by decide +kernel
theorem dX3_init_19 : decode cX3_init 19 = .ok (.putfield 18, 3) := by decide +kernel
theorem dX3_init_22 : decode cX3_init 22 = .ok (.aload_n 0, 1) := by decide +kernel
theorem dX3_init_23 : decode cX3_init 23 = .ok (.bipush 60, 2) := by decide +kernel
theorem dX3_init_25 : decode cX3_init 25 = .ok (.newarray .int, 2) := by decide +kernel
theorem dX3_init_27 : decode cX3_init 27 = .ok (.putfield 22, 3) := by decide +kernel
theorem dX3_init_30 : decode cX3_init 30 = .ok (.aload_n 0, 1) := by decide +kernel
theorem dX3_init_31 : decode cX3_init 31 = .ok (.lconst 0, 1) := by decide +kernel
theorem dX3_init_32 : decode cX3_init 32 = .ok (.putfield 25, 3) := by decide +kernel
theorem dX3_init_35 : decode cX3_init 35 = .ok (.aload_n 0, 1) := by decide +kernel
theorem dX3_init_36 : decode cX3_init 36 = .ok (.iconst 0, 1) := by decide +kernel
theorem dX3_init_37 : decode cX3_init 37 = .ok (.putfield 29, 3) := by decide +kernel
theorem dX3_init_40 : decode cX3_init 40 = .ok (.aload_n 0, 1) := by decide +kernel
theorem dX3_init_41 : decode cX3_init 41 = .ok (.bipush 6, 2) := by decide +kernel
theorem dX3_init_43 : decode cX3_init 43 = .ok (.newarray .long, 2) := by decide +kernel
theorem dX3_init_45 : decode cX3_init 45 = .ok (.putfield 32, 3) := by decide +kernel
theorem dX3_init_48 : decode cX3_init 48 = .ok (.aload_n 0, 1) := by decide +kernel
theorem dX3_init_49 : decode cX3_init 49 = .ok (.bipush 6, 2) := by decide +kernel
theorem dX3_init_51 : decode cX3_init 51 = .ok (.newarray .long, 2) := by decide +kernel
theorem dX3_init_53 : decode cX3_init 53 = .ok (.putfield 36, 3) := by decide +kernel
theorem dX3_init_56 : decode cX3_init 56 = .ok (.aload_n 0, 1) := by decide +kernel
theorem dX3_init_57 : decode cX3_init 57 = .ok (.new 39, 3) := by decide +kernel
theorem dX3_init_60 : decode cX3_init 60 = .ok (.dup, 1) := by decide +kernel
theorem dX3_init_61 : decode cX3_init 61 = .ok (.invokespecial 41, 3) := by decide +kernel
theorem dX3_init_64 : decode cX3_init 64 = .ok (.putfield 42, 3) := by decide +kernel
theorem dX3_init_67 : decode cX3_init 67 = .ok (.aload_n 0, 1) := by decide +kernel
theorem dX3_init_68 : decode cX3_init 68 = .ok (.iconst 0, 1) := by decide +kernel
theorem dX3_init_69 : decode cX3_init 69 = .ok (.putfield 46, 3) := by decide +kernel
theorem dX3_init_72 : decode cX3_init 72 = .ok (.aload_n 0, 1) := by decide +kernel
theorem dX3_init_73 : decode cX3_init 73 = .ok (.new 39, 3) := by decide +kernel
theorem dX3_init_76 : decode cX3_init 76 = .ok (.dup, 1) := by decide +kernel
theorem dX3_init_77 : decode cX3_init 77 = .ok (.invokespecial 41, 3) := by decide +kernel
theorem dX3_init_80 : decode cX3_init 80 = .ok (.putfield 49, 3) := by decide +kernel
theorem dX3_init_83 : decode cX3_init 83 = .ok (.aload_n 0, 1) := by decide +kernel
theorem dX3_init_84 : decode cX3_init 84 = .ok (.bipush 61, 2) := by decide +kernel
theorem dX3_init_86 : decode cX3_init 86 = .ok (.newarray .int, 2) := by decide +kernel
theorem dX3_init_88 : decode cX3_init 88 = .ok (.putfield 52, 3) := by decide +kernel
theorem dX3_init_91 : decode cX3_init 91 = .ok (.aload_n 0, 1) := by decide +kernel
theorem dX3_init_92 : decode cX3_init 92 = .ok (.iconst 0, 1) := by decide +kernel
theorem dX3_init_93 : decode cX3_init 93 = .ok (.putfield 55, 3) := by decide +kernel
theorem dX3_init_96 : decode cX3_init 96 = .ok (.return_, 1) := by decide +kernel
set_option maxRecDepth 20000 in
theorem ggX3_goRounds_X3_begin : GoodIn wsX3_goRounds wsX3_begin := goodIn_r _ [10, 11, 12, 13, 14, 15, 16, 17, 18, 19, 5, 4, 20, 21, 1, 22, 23, 24, 25, 26, 27, 28, 29, 30, 31, 32, 33, 34, 35, 36, 37, 38, 39, 40, 41, 42, 43, 44, 45, 46, 47, 48, 49, 50, 51, 103, 104, 105, 106, 107, 108, 88, 89, 90, 91, 92, 93, 94, 95, 96, 97, 98, 99, 100, 101, 102] (by decide +kernel) (by decide +kernel)
set_option maxRecDepth 20000 in
theorem gX3_goRounds_X3_begin : GoodIn wsX3_goRounds (wsV RX3 58 RX3 yX3_begin wsX3_begin) := goodIn_app (goodIn_of _ (by decide +kernel)) ggX3_goRounds_X3_begin
set_option maxRecDepth 20000 in
theorem ggX3_goRounds_X3_stepBack : GoodIn wsX3_goRounds wsX3_stepBack := goodIn_r _ [55, 4, 5, 21, 56, 19, 14, 57, 17, 15, 58, 59, 24, 60, 61, 62, 63, 64, 9, 65, 66, 67, 68, 29, 69, 31, 32, 70, 71, 72, 73, 26, 27, 28, 30, 33, 34, 35, 36, 37, 38, 39, 40, 41, 42, 43, 44, 45, 46, 47, 48, 49, 50, 51, 88, 89, 90, 91, 92, 93, 94, 95, 96, 97, 98, 99, 100, 101, 102] (by decide +kernel) (by decide +kernel)
set_option maxRecDepth 20000 in
theorem gX3_goRounds_X3_stepBack : GoodIn wsX3_goRounds (wsV RX3 62 RX3 yX3_stepBack wsX3_stepBack) := goodIn_app (goodIn_of _ (by decide +kernel)) ggX3_goRounds_X3_stepBack
set_option maxRecDepth 20000 in
theorem ggX3_goRounds_X3_endingOf : GoodIn wsX3_goRounds wsX3_endingOf := goodIn_r _ [77, 4, 12, 5, 21, 66, 67, 68, 29, 69, 31, 32, 70, 71, 24, 72, 61, 88, 89, 90, 91, 92, 93, 94, 95, 96, 97, 98, 99, 100, 101, 102] (by decide +kernel) (by decide +kernel)
set_option maxRecDepth 20000 in
theorem gX3_goRounds_X3_endingOf : GoodIn wsX3_goRounds (wsV RX3 68 RX3 yX3_endingOf wsX3_endingOf) := goodIn_app (goodIn_of _ (by decide +kernel)) ggX3_goRounds_X3_endingOf
set_option maxRecDepth 20000 in
theorem ggX3_goRounds_X3_keepBorn : GoodIn wsX3_goRounds wsX3_keepBorn := goodIn_r _ [81, 19, 5, 56, 21, 4, 57, 82, 26, 27, 28, 29, 30, 31, 32, 33, 34, 35, 36, 37, 38, 39, 40, 41, 42, 43, 44, 45, 46, 47, 48, 49, 50, 51, 88, 89, 90, 91, 92, 93, 94, 95, 96, 97, 98, 99, 100, 101, 102] (by decide +kernel) (by decide +kernel)
set_option maxRecDepth 20000 in
theorem gX3_goRounds_X3_keepBorn : GoodIn wsX3_goRounds (wsV RX3 72 RX3 yX3_keepBorn wsX3_keepBorn) := goodIn_app (goodIn_of _ (by decide +kernel)) ggX3_goRounds_X3_keepBorn
set_option maxRecDepth 20000 in
theorem ggX3_goRounds_X3_findRow : GoodIn wsX3_goRounds wsX3_findRow := goodIn_r _ [86, 12, 2, 82, 14, 15, 17, 19, 87, 73, 71, 24, 72, 61, 66, 67, 68, 29, 69, 31, 32, 70, 88, 89, 90, 91, 92, 93, 94, 95, 96, 97, 98, 99, 100, 101, 102] (by decide +kernel) (by decide +kernel)
set_option maxRecDepth 20000 in
theorem gX3_goRounds_X3_findRow : GoodIn wsX3_goRounds (wsV RX3 76 RX3 yX3_findRow wsX3_findRow) := goodIn_app (goodIn_of _ (by decide +kernel)) ggX3_goRounds_X3_findRow
theorem dX3_goRounds_0 : decode cX3_goRounds 0 = .ok (.aload_n 0, 1) := by decide +kernel
theorem dX3_goRounds_1 : decode cX3_goRounds 1 = .ok (.aload_n 1, 1) := by decide +kernel
theorem dX3_goRounds_2 : decode cX3_goRounds 2 = .ok (.invokevirtual 58, 3) := by decide +kernel
theorem dX3_goRounds_5 : decode cX3_goRounds 5 = .ok (.iconst 0, 1) := by decide +kernel
theorem dX3_goRounds_6 : decode cX3_goRounds 6 = .ok (.istore_n 2, 1) := by decide +kernel
theorem dX3_goRounds_7 : decode cX3_goRounds 7 = .ok (.iload_n 2, 1) := by decide +kernel
theorem dX3_goRounds_8 : decode cX3_goRounds 8 = .ok (.bipush 60, 2) := by decide +kernel
theorem dX3_goRounds_10 : decode cX3_goRounds 10 = .ok (.if_icmp .gt 65, 3) := by decide +kernel
theorem dX3_goRounds_13 : decode cX3_goRounds 13 = .ok (.aload_n 0, 1) := by decide +kernel
theorem dX3_goRounds_14 : decode cX3_goRounds 14 = .ok (.getfield 9, 3) := by decide +kernel
theorem dX3_goRounds_17 : decode cX3_goRounds 17 = .ok (.iconst 2, 1) := by decide +kernel
theorem dX3_goRounds_18 : decode cX3_goRounds 18 = .ok (.if_icmp .ne 57, 3) := by decide +kernel
theorem dX3_goRounds_21 : decode cX3_goRounds 21 = .ok (.iload_n 2, 1) := by decide +kernel
theorem dX3_goRounds_22 : decode cX3_goRounds 22 = .ok (.ifCond .le 7, 3) := by decide +kernel
theorem dX3_goRounds_25 : decode cX3_goRounds 25 = .ok (.aload_n 0, 1) := by decide +kernel
theorem dX3_goRounds_26 : decode cX3_goRounds 26 = .ok (.invokevirtual 62, 3) := by decide +kernel
theorem dX3_goRounds_29 : decode cX3_goRounds 29 = .ok (.aload_n 0, 1) := by decide +kernel
theorem dX3_goRounds_30 : decode cX3_goRounds 30 = .ok (.iload_n 2, 1) := by decide +kernel
theorem dX3_goRounds_31 : decode cX3_goRounds 31 = .ok (.putfield 15, 3) := by decide +kernel
theorem dX3_goRounds_34 : decode cX3_goRounds 34 = .ok (.aload_n 0, 1) := by decide +kernel
theorem dX3_goRounds_35 : decode cX3_goRounds 35 = .ok (.getfield 18, 3) := by decide +kernel
theorem dX3_goRounds_38 : decode cX3_goRounds 38 = .ok (.iload_n 2, 1) := by decide +kernel
theorem dX3_goRounds_39 : decode cX3_goRounds 39 = .ok (.aload_n 0, 1) := by decide +kernel
theorem dX3_goRounds_40 : decode cX3_goRounds 40 = .ok (.getfield 42, 3) := by decide +kernel
theorem dX3_goRounds_43 : decode cX3_goRounds 43 = .ok (.getfield 65, 3) := by decide +kernel
theorem dX3_goRounds_46 : decode cX3_goRounds 46 = .ok (.iastore, 1) := by decide +kernel
theorem dX3_goRounds_47 : decode cX3_goRounds 47 = .ok (.aload_n 0, 1) := by decide +kernel
theorem dX3_goRounds_48 : decode cX3_goRounds 48 = .ok (.aload_n 0, 1) := by decide +kernel
theorem dX3_goRounds_49 : decode cX3_goRounds 49 = .ok (.iload_n 2, 1) := by decide +kernel
theorem dX3_goRounds_50 : decode cX3_goRounds 50 = .ok (.invokevirtual 68, 3) := by decide +kernel
theorem dX3_goRounds_53 : decode cX3_goRounds 53 = .ok (.putfield 9, 3) := by decide +kernel
theorem dX3_goRounds_56 : decode cX3_goRounds 56 = .ok (.aload_n 0, 1) := by decide +kernel
theorem dX3_goRounds_57 : decode cX3_goRounds 57 = .ok (.getfield 9, 3) := by decide +kernel
theorem dX3_goRounds_60 : decode cX3_goRounds 60 = .ok (.iconst 2, 1) := by decide +kernel
theorem dX3_goRounds_61 : decode cX3_goRounds 61 = .ok (.if_icmp .ne 8, 3) := by decide +kernel
theorem dX3_goRounds_64 : decode cX3_goRounds 64 = .ok (.aload_n 0, 1) := by decide +kernel
theorem dX3_goRounds_65 : decode cX3_goRounds 65 = .ok (.iload_n 2, 1) := by decide +kernel
theorem dX3_goRounds_66 : decode cX3_goRounds 66 = .ok (.invokevirtual 72, 3) := by decide +kernel
theorem dX3_goRounds_69 : decode cX3_goRounds 69 = .ok (.iinc 2 1, 3) := by decide +kernel
theorem dX3_goRounds_72 : decode cX3_goRounds 72 = .ok (.goto (-65), 3) := by decide +kernel
theorem dX3_goRounds_75 : decode cX3_goRounds 75 = .ok (.aload_n 0, 1) := by decide +kernel
theorem dX3_goRounds_76 : decode cX3_goRounds 76 = .ok (.getfield 9, 3) := by decide +kernel
theorem dX3_goRounds_79 : decode cX3_goRounds 79 = .ok (.iconst 1, 1) := by decide +kernel
theorem dX3_goRounds_80 : decode cX3_goRounds 80 = .ok (.if_icmp .ne 7, 3) := by decide +kernel
theorem dX3_goRounds_83 : decode cX3_goRounds 83 = .ok (.aload_n 0, 1) := by decide +kernel
theorem dX3_goRounds_84 : decode cX3_goRounds 84 = .ok (.invokevirtual 76, 3) := by decide +kernel
theorem dX3_goRounds_87 : decode cX3_goRounds 87 = .ok (.return_, 1) := by decide +kernel
set_option maxRecDepth 20000 in
theorem ggX3_begin_X1_of : GoodIn wsX3_begin wsX1_of := goodIn_r _ [18] (by decide +kernel) (by decide +kernel)
set_option maxRecDepth 20000 in
theorem gX3_begin_X1_of : GoodIn wsX3_begin (va_wsS RX3 83 yX1_of wsX1_of) := goodIn_app (goodIn_of _ (by decide +kernel)) ggX3_begin_X1_of
set_option maxRecDepth 20000 in
theorem ggX3_begin_X2_add : GoodIn wsX3_begin wsX2_add := goodIn_r _ [23, 24, 25, 26, 27, 28, 29, 30, 31, 32, 33, 34, 35, 36, 37, 38, 39, 40, 41, 42, 43, 44, 64, 65] (by decide +kernel) (by decide +kernel)
set_option maxRecDepth 20000 in
theorem gX3_begin_X2_add : GoodIn wsX3_begin (wsV RX3 98 RX2 yX2_add wsX2_add) := goodIn_app (goodIn_of _ (by decide +kernel)) ggX3_begin_X2_add
theorem dX3_begin_0 : decode cX3_begin 0 = .ok (.aload_n 0, 1) := by decide +kernel
theorem dX3_begin_1 : decode cX3_begin 1 = .ok (.aload_n 1, 1) := by decide +kernel
theorem dX3_begin_2 : decode cX3_begin 2 = .ok (.getfield 79, 3) := by decide +kernel
theorem dX3_begin_5 : decode cX3_begin 5 = .ok (.invokestatic 83, 3) := by decide +kernel
theorem dX3_begin_8 : decode cX3_begin 8 = .ok (.putfield 25, 3) := by decide +kernel
theorem dX3_begin_11 : decode cX3_begin 11 = .ok (.aload_n 0, 1) := by decide +kernel
theorem dX3_begin_12 : decode cX3_begin 12 = .ok (.aload_n 1, 1) := by decide +kernel
theorem dX3_begin_13 : decode cX3_begin 13 = .ok (.getfield 89, 3) := by decide +kernel
theorem dX3_begin_16 : decode cX3_begin 16 = .ok (.putfield 29, 3) := by decide +kernel
theorem dX3_begin_19 : decode cX3_begin 19 = .ok (.iconst 0, 1) := by decide +kernel
theorem dX3_begin_20 : decode cX3_begin 20 = .ok (.istore_n 2, 1) := by decide +kernel
theorem dX3_begin_21 : decode cX3_begin 21 = .ok (.iload_n 2, 1) := by decide +kernel
theorem dX3_begin_22 : decode cX3_begin 22 = .ok (.aload_n 0, 1) := by decide +kernel
theorem dX3_begin_23 : decode cX3_begin 23 = .ok (.getfield 29, 3) := by decide +kernel
theorem dX3_begin_26 : decode cX3_begin 26 = .ok (.if_icmp .ge 39, 3) := by decide +kernel
theorem dX3_begin_29 : decode cX3_begin 29 = .ok (.aload_n 0, 1) := by decide +kernel
theorem dX3_begin_30 : decode cX3_begin 30 = .ok (.getfield 32, 3) := by decide +kernel
theorem dX3_begin_33 : decode cX3_begin 33 = .ok (.iload_n 2, 1) := by decide +kernel
theorem dX3_begin_34 : decode cX3_begin 34 = .ok (.aload_n 1, 1) := by decide +kernel
theorem dX3_begin_35 : decode cX3_begin 35 = .ok (.getfield 90, 3) := by decide +kernel
theorem dX3_begin_38 : decode cX3_begin 38 = .ok (.iload_n 2, 1) := by decide +kernel
theorem dX3_begin_39 : decode cX3_begin 39 = .ok (.aaload, 1) := by decide +kernel
theorem dX3_begin_40 : decode cX3_begin 40 = .ok (.invokestatic 83, 3) := by decide +kernel
theorem dX3_begin_43 : decode cX3_begin 43 = .ok (.lastore, 1) := by decide +kernel
theorem dX3_begin_44 : decode cX3_begin 44 = .ok (.aload_n 0, 1) := by decide +kernel
theorem dX3_begin_45 : decode cX3_begin 45 = .ok (.getfield 36, 3) := by decide +kernel
theorem dX3_begin_48 : decode cX3_begin 48 = .ok (.iload_n 2, 1) := by decide +kernel
theorem dX3_begin_49 : decode cX3_begin 49 = .ok (.aload_n 1, 1) := by decide +kernel
theorem dX3_begin_50 : decode cX3_begin 50 = .ok (.getfield 93, 3) := by decide +kernel
theorem dX3_begin_53 : decode cX3_begin 53 = .ok (.iload_n 2, 1) := by decide +kernel
theorem dX3_begin_54 : decode cX3_begin 54 = .ok (.aaload, 1) := by decide +kernel
theorem dX3_begin_55 : decode cX3_begin 55 = .ok (.invokestatic 83, 3) := by decide +kernel
theorem dX3_begin_58 : decode cX3_begin 58 = .ok (.lastore, 1) := by decide +kernel
theorem dX3_begin_59 : decode cX3_begin 59 = .ok (.iinc 2 1, 3) := by decide +kernel
theorem dX3_begin_62 : decode cX3_begin 62 = .ok (.goto (-41), 3) := by decide +kernel
theorem dX3_begin_65 : decode cX3_begin 65 = .ok (.aload_n 0, 1) := by decide +kernel
theorem dX3_begin_66 : decode cX3_begin 66 = .ok (.getfield 49, 3) := by decide +kernel
theorem dX3_begin_69 : decode cX3_begin 69 = .ok (.iconst 0, 1) := by decide +kernel
theorem dX3_begin_70 : decode cX3_begin 70 = .ok (.putfield 65, 3) := by decide +kernel
theorem dX3_begin_73 : decode cX3_begin 73 = .ok (.aload_n 0, 1) := by decide +kernel
theorem dX3_begin_74 : decode cX3_begin 74 = .ok (.getfield 42, 3) := by decide +kernel
theorem dX3_begin_77 : decode cX3_begin 77 = .ok (.iconst 0, 1) := by decide +kernel
theorem dX3_begin_78 : decode cX3_begin 78 = .ok (.putfield 65, 3) := by decide +kernel
theorem dX3_begin_81 : decode cX3_begin 81 = .ok (.aload_n 0, 1) := by decide +kernel
theorem dX3_begin_82 : decode cX3_begin 82 = .ok (.getfield 42, 3) := by decide +kernel
theorem dX3_begin_85 : decode cX3_begin 85 = .ok (.aload_n 1, 1) := by decide +kernel
theorem dX3_begin_86 : decode cX3_begin 86 = .ok (.getfield 95, 3) := by decide +kernel
theorem dX3_begin_89 : decode cX3_begin 89 = .ok (.invokestatic 83, 3) := by decide +kernel
theorem dX3_begin_92 : decode cX3_begin 92 = .ok (.invokevirtual 98, 3) := by decide +kernel
theorem dX3_begin_95 : decode cX3_begin 95 = .ok (.aload_n 0, 1) := by decide +kernel
theorem dX3_begin_96 : decode cX3_begin 96 = .ok (.iconst 0, 1) := by decide +kernel
theorem dX3_begin_97 : decode cX3_begin 97 = .ok (.putfield 46, 3) := by decide +kernel
theorem dX3_begin_100 : decode cX3_begin 100 = .ok (.aload_n 0, 1) := by decide +kernel
theorem dX3_begin_101 : decode cX3_begin 101 = .ok (.iconst 2, 1) := by decide +kernel
theorem dX3_begin_102 : decode cX3_begin 102 = .ok (.putfield 9, 3) := by decide +kernel
theorem dX3_begin_105 : decode cX3_begin 105 = .ok (.return_, 1) := by decide +kernel
set_option maxRecDepth 20000 in
theorem ggX3_endingOf_X2_hasOneBelow : GoodIn wsX3_endingOf wsX2_hasOneBelow := goodIn_r _ [9, 10, 11, 12, 13, 14, 15, 16, 30, 31] (by decide +kernel) (by decide +kernel)
set_option maxRecDepth 20000 in
theorem gX3_endingOf_X2_hasOneBelow : GoodIn wsX3_endingOf (wsV RX3 102 RX2 yX2_hasOneBelow wsX2_hasOneBelow) := goodIn_app (goodIn_of _ (by decide +kernel)) ggX3_endingOf_X2_hasOneBelow
theorem dX3_endingOf_0 : decode cX3_endingOf 0 = .ok (.aload_n 0, 1) := by decide +kernel
theorem dX3_endingOf_1 : decode cX3_endingOf 1 = .ok (.getfield 42, 3) := by decide +kernel
theorem dX3_endingOf_4 : decode cX3_endingOf 4 = .ok (.aload_n 0, 1) := by decide +kernel
theorem dX3_endingOf_5 : decode cX3_endingOf 5 = .ok (.getfield 25, 3) := by decide +kernel
theorem dX3_endingOf_8 : decode cX3_endingOf 8 = .ok (.aload_n 0, 1) := by decide +kernel
theorem dX3_endingOf_9 : decode cX3_endingOf 9 = .ok (.getfield 42, 3) := by decide +kernel
theorem dX3_endingOf_12 : decode cX3_endingOf 12 = .ok (.getfield 65, 3) := by decide +kernel
theorem dX3_endingOf_15 : decode cX3_endingOf 15 = .ok (.invokevirtual 102, 3) := by decide +kernel
theorem dX3_endingOf_18 : decode cX3_endingOf 18 = .ok (.ifCond .eq 5, 3) := by decide +kernel
theorem dX3_endingOf_21 : decode cX3_endingOf 21 = .ok (.iconst 1, 1) := by decide +kernel
theorem dX3_endingOf_22 : decode cX3_endingOf 22 = .ok (.ireturn, 1) := by decide +kernel
theorem dX3_endingOf_23 : decode cX3_endingOf 23 = .ok (.aload_n 0, 1) := by decide +kernel
theorem dX3_endingOf_24 : decode cX3_endingOf 24 = .ok (.getfield 42, 3) := by decide +kernel
theorem dX3_endingOf_27 : decode cX3_endingOf 27 = .ok (.getfield 65, 3) := by decide +kernel
theorem dX3_endingOf_30 : decode cX3_endingOf 30 = .ok (.sipush 200, 3) := by decide +kernel
theorem dX3_endingOf_33 : decode cX3_endingOf 33 = .ok (.if_icmp .le 5, 3) := by decide +kernel
theorem dX3_endingOf_36 : decode cX3_endingOf 36 = .ok (.iconst (-1), 1) := by decide +kernel
theorem dX3_endingOf_37 : decode cX3_endingOf 37 = .ok (.ireturn, 1) := by decide +kernel
theorem dX3_endingOf_38 : decode cX3_endingOf 38 = .ok (.aload_n 0, 1) := by decide +kernel
theorem dX3_endingOf_39 : decode cX3_endingOf 39 = .ok (.getfield 46, 3) := by decide +kernel
theorem dX3_endingOf_42 : decode cX3_endingOf 42 = .ok (.aload_n 0, 1) := by decide +kernel
theorem dX3_endingOf_43 : decode cX3_endingOf 43 = .ok (.getfield 42, 3) := by decide +kernel
theorem dX3_endingOf_46 : decode cX3_endingOf 46 = .ok (.getfield 65, 3) := by decide +kernel
theorem dX3_endingOf_49 : decode cX3_endingOf 49 = .ok (.if_icmp .ne 5, 3) := by decide +kernel
theorem dX3_endingOf_52 : decode cX3_endingOf 52 = .ok (.iconst 0, 1) := by decide +kernel
theorem dX3_endingOf_53 : decode cX3_endingOf 53 = .ok (.ireturn, 1) := by decide +kernel
theorem dX3_endingOf_54 : decode cX3_endingOf 54 = .ok (.iload_n 1, 1) := by decide +kernel
theorem dX3_endingOf_55 : decode cX3_endingOf 55 = .ok (.bipush 60, 2) := by decide +kernel
theorem dX3_endingOf_57 : decode cX3_endingOf 57 = .ok (.if_icmp .ne 7, 3) := by decide +kernel
theorem dX3_endingOf_60 : decode cX3_endingOf 60 = .ok (.iconst (-1), 1) := by decide +kernel
theorem dX3_endingOf_61 : decode cX3_endingOf 61 = .ok (.goto 4, 3) := by decide +kernel
theorem dX3_endingOf_64 : decode cX3_endingOf 64 = .ok (.iconst 2, 1) := by decide +kernel
theorem dX3_endingOf_65 : decode cX3_endingOf 65 = .ok (.ireturn, 1) := by decide +kernel
set_option maxRecDepth 20000 in
theorem ggX3_keepBorn_X2_add : GoodIn wsX3_keepBorn wsX2_add := goodIn_r _ [12, 13, 14, 15, 16, 17, 18, 19, 20, 21, 22, 23, 24, 25, 26, 27, 28, 29, 30, 31, 32, 33, 47, 48] (by decide +kernel) (by decide +kernel)
set_option maxRecDepth 20000 in
theorem gX3_keepBorn_X2_add : GoodIn wsX3_keepBorn (wsV RX3 98 RX2 yX2_add wsX2_add) := goodIn_app (goodIn_of _ (by decide +kernel)) ggX3_keepBorn_X2_add
theorem dX3_keepBorn_0 : decode cX3_keepBorn 0 = .ok (.aload_n 0, 1) := by decide +kernel
theorem dX3_keepBorn_1 : decode cX3_keepBorn 1 = .ok (.aload_n 0, 1) := by decide +kernel
theorem dX3_keepBorn_2 : decode cX3_keepBorn 2 = .ok (.getfield 49, 3) := by decide +kernel
theorem dX3_keepBorn_5 : decode cX3_keepBorn 5 = .ok (.getfield 65, 3) := by decide +kernel
theorem dX3_keepBorn_8 : decode cX3_keepBorn 8 = .ok (.putfield 55, 3) := by decide +kernel
theorem dX3_keepBorn_11 : decode cX3_keepBorn 11 = .ok (.aload_n 0, 1) := by decide +kernel
theorem dX3_keepBorn_12 : decode cX3_keepBorn 12 = .ok (.getfield 46, 3) := by decide +kernel
theorem dX3_keepBorn_15 : decode cX3_keepBorn 15 = .ok (.istore_n 2, 1) := by decide +kernel
theorem dX3_keepBorn_16 : decode cX3_keepBorn 16 = .ok (.iload_n 2, 1) := by decide +kernel
theorem dX3_keepBorn_17 : decode cX3_keepBorn 17 = .ok (.aload_n 0, 1) := by decide +kernel
theorem dX3_keepBorn_18 : decode cX3_keepBorn 18 = .ok (.getfield 42, 3) := by decide +kernel
theorem dX3_keepBorn_21 : decode cX3_keepBorn 21 = .ok (.getfield 65, 3) := by decide +kernel
theorem dX3_keepBorn_24 : decode cX3_keepBorn 24 = .ok (.if_icmp .ge 25, 3) := by decide +kernel
theorem dX3_keepBorn_27 : decode cX3_keepBorn 27 = .ok (.aload_n 0, 1) := by decide +kernel
theorem dX3_keepBorn_28 : decode cX3_keepBorn 28 = .ok (.getfield 49, 3) := by decide +kernel
theorem dX3_keepBorn_31 : decode cX3_keepBorn 31 = .ok (.aload_n 0, 1) := by decide +kernel
theorem dX3_keepBorn_32 : decode cX3_keepBorn 32 = .ok (.getfield 42, 3) := by decide +kernel
theorem dX3_keepBorn_35 : decode cX3_keepBorn 35 = .ok (.getfield 106, 3) := by decide +kernel
theorem dX3_keepBorn_38 : decode cX3_keepBorn 38 = .ok (.iload_n 2, 1) := by decide +kernel
theorem dX3_keepBorn_39 : decode cX3_keepBorn 39 = .ok (.laload, 1) := by decide +kernel
theorem dX3_keepBorn_40 : decode cX3_keepBorn 40 = .ok (.invokevirtual 98, 3) := by decide +kernel
theorem dX3_keepBorn_43 : decode cX3_keepBorn 43 = .ok (.iinc 2 1, 3) := by decide +kernel
theorem dX3_keepBorn_46 : decode cX3_keepBorn 46 = .ok (.goto (-30), 3) := by decide +kernel
theorem dX3_keepBorn_49 : decode cX3_keepBorn 49 = .ok (.aload_n 0, 1) := by decide +kernel
theorem dX3_keepBorn_50 : decode cX3_keepBorn 50 = .ok (.getfield 52, 3) := by decide +kernel
theorem dX3_keepBorn_53 : decode cX3_keepBorn 53 = .ok (.iload_n 1, 1) := by decide +kernel
theorem dX3_keepBorn_54 : decode cX3_keepBorn 54 = .ok (.aload_n 0, 1) := by decide +kernel
theorem dX3_keepBorn_55 : decode cX3_keepBorn 55 = .ok (.getfield 49, 3) := by decide +kernel
theorem dX3_keepBorn_58 : decode cX3_keepBorn 58 = .ok (.getfield 65, 3) := by decide +kernel
theorem dX3_keepBorn_61 : decode cX3_keepBorn 61 = .ok (.iastore, 1) := by decide +kernel
theorem dX3_keepBorn_62 : decode cX3_keepBorn 62 = .ok (.return_, 1) := by decide +kernel
set_option maxRecDepth 20000 in
theorem ggX3_stepBack_X1_lessened : GoodIn wsX3_stepBack wsX1_lessened := goodIn_r _ [13, 14] (by decide +kernel) (by decide +kernel)
set_option maxRecDepth 20000 in
theorem gX3_stepBack_X1_lessened : GoodIn wsX3_stepBack (va_wsS RX3 109 yX1_lessened wsX1_lessened) := goodIn_app (goodIn_of _ (by decide +kernel)) ggX3_stepBack_X1_lessened
set_option maxRecDepth 20000 in
theorem ggX3_stepBack_X3_addToLeast : GoodIn wsX3_stepBack wsX3_addToLeast := goodIn_r _ [19, 1, 2, 7, 3, 20, 21, 22, 23, 24, 25, 26, 27, 28, 12, 29, 14, 30, 31, 32, 33, 34, 35, 36, 37, 38, 39, 40, 41, 42, 43, 44, 45, 46, 47, 48, 49, 50, 51, 52, 53, 54, 55, 56, 57, 58, 59, 60, 61, 62, 63, 64, 65, 66, 67, 68] (by decide +kernel) (by decide +kernel)
set_option maxRecDepth 20000 in
theorem gX3_stepBack_X3_addToLeast : GoodIn wsX3_stepBack (wsV RX3 113 RX3 yX3_addToLeast wsX3_addToLeast) := goodIn_app (goodIn_of _ (by decide +kernel)) ggX3_stepBack_X3_addToLeast
theorem dX3_stepBack_0 : decode cX3_stepBack 0 = .ok (.aload_n 0, 1) := by decide +kernel
theorem dX3_stepBack_1 : decode cX3_stepBack 1 = .ok (.aload_n 0, 1) := by decide +kernel
theorem dX3_stepBack_2 : decode cX3_stepBack 2 = .ok (.getfield 42, 3) := by decide +kernel
theorem dX3_stepBack_5 : decode cX3_stepBack 5 = .ok (.getfield 65, 3) := by decide +kernel
theorem dX3_stepBack_8 : decode cX3_stepBack 8 = .ok (.putfield 46, 3) := by decide +kernel
theorem dX3_stepBack_11 : decode cX3_stepBack 11 = .ok (.aload_n 0, 1) := by decide +kernel
theorem dX3_stepBack_12 : decode cX3_stepBack 12 = .ok (.getfield 55, 3) := by decide +kernel
theorem dX3_stepBack_15 : decode cX3_stepBack 15 = .ok (.istore_n 1, 1) := by decide +kernel
theorem dX3_stepBack_16 : decode cX3_stepBack 16 = .ok (.iload_n 1, 1) := by decide +kernel
theorem dX3_stepBack_17 : decode cX3_stepBack 17 = .ok (.aload_n 0, 1) := by decide +kernel
theorem dX3_stepBack_18 : decode cX3_stepBack 18 = .ok (.getfield 49, 3) := by decide +kernel
theorem dX3_stepBack_21 : decode cX3_stepBack 21 = .ok (.getfield 65, 3) := by decide +kernel
theorem dX3_stepBack_24 : decode cX3_stepBack 24 = .ok (.if_icmp .ge 54, 3) := by decide +kernel
theorem dX3_stepBack_27 : decode cX3_stepBack 27 = .ok (.iconst 0, 1) := by decide +kernel
theorem dX3_stepBack_28 : decode cX3_stepBack 28 = .ok (.istore_n 2, 1) := by decide +kernel
theorem dX3_stepBack_29 : decode cX3_stepBack 29 = .ok (.iload_n 2, 1) := by decide +kernel
theorem dX3_stepBack_30 : decode cX3_stepBack 30 = .ok (.aload_n 0, 1) := by decide +kernel
theorem dX3_stepBack_31 : decode cX3_stepBack 31 = .ok (.getfield 29, 3) := by decide +kernel
theorem dX3_stepBack_34 : decode cX3_stepBack 34 = .ok (.if_icmp .ge 38, 3) := by decide +kernel
theorem dX3_stepBack_37 : decode cX3_stepBack 37 = .ok (.aload_n 0, 1) := by decide +kernel
theorem dX3_stepBack_38 : decode cX3_stepBack 38 = .ok (.aload_n 0, 1) := by decide +kernel
theorem dX3_stepBack_39 : decode cX3_stepBack 39 = .ok (.getfield 49, 3) := by decide +kernel
theorem dX3_stepBack_42 : decode cX3_stepBack 42 = .ok (.getfield 106, 3) := by decide +kernel
theorem dX3_stepBack_45 : decode cX3_stepBack 45 = .ok (.iload_n 1, 1) := by decide +kernel
theorem dX3_stepBack_46 : decode cX3_stepBack 46 = .ok (.laload, 1) := by decide +kernel
theorem dX3_stepBack_47 : decode cX3_stepBack 47 = .ok (.aload_n 0, 1) := by decide +kernel
theorem dX3_stepBack_48 : decode cX3_stepBack 48 = .ok (.getfield 36, 3) := by decide +kernel
theorem dX3_stepBack_51 : decode cX3_stepBack 51 = .ok (.iload_n 2, 1) := by decide +kernel
theorem dX3_stepBack_52 : decode cX3_stepBack 52 = .ok (.laload, 1) := by decide +kernel
theorem dX3_stepBack_53 : decode cX3_stepBack 53 = .ok (.invokestatic 109, 3) := by decide +kernel
theorem dX3_stepBack_56 : decode cX3_stepBack 56 = .ok (.aload_n 0, 1) := by decide +kernel
theorem dX3_stepBack_57 : decode cX3_stepBack 57 = .ok (.getfield 32, 3) := by decide +kernel
theorem dX3_stepBack_60 : decode cX3_stepBack 60 = .ok (.iload_n 2, 1) := by decide +kernel
theorem dX3_stepBack_61 : decode cX3_stepBack 61 = .ok (.laload, 1) := by decide +kernel
theorem dX3_stepBack_62 : decode cX3_stepBack 62 = .ok (.ladd, 1) := by decide +kernel
theorem dX3_stepBack_63 : decode cX3_stepBack 63 = .ok (.invokevirtual 113, 3) := by decide +kernel
theorem dX3_stepBack_66 : decode cX3_stepBack 66 = .ok (.iinc 2 1, 3) := by decide +kernel
theorem dX3_stepBack_69 : decode cX3_stepBack 69 = .ok (.goto (-40), 3) := by decide +kernel
theorem dX3_stepBack_72 : decode cX3_stepBack 72 = .ok (.iinc 1 1, 3) := by decide +kernel
theorem dX3_stepBack_75 : decode cX3_stepBack 75 = .ok (.goto (-59), 3) := by decide +kernel
theorem dX3_stepBack_78 : decode cX3_stepBack 78 = .ok (.return_, 1) := by decide +kernel
set_option maxRecDepth 20000 in
theorem ggX3_addToLeast_X2_hasOneBelow : GoodIn wsX3_addToLeast wsX2_hasOneBelow := goodIn_r _ [9, 10, 11, 12, 13, 14, 15, 16, 54, 55] (by decide +kernel) (by decide +kernel)
set_option maxRecDepth 20000 in
theorem gX3_addToLeast_X2_hasOneBelow : GoodIn wsX3_addToLeast (wsV RX3 102 RX2 yX2_hasOneBelow wsX2_hasOneBelow) := goodIn_app (goodIn_of _ (by decide +kernel)) ggX3_addToLeast_X2_hasOneBelow
set_option maxRecDepth 20000 in
theorem ggX3_addToLeast_X1_isAtLeast : GoodIn wsX3_addToLeast wsX1_isAtLeast := goodIn_r _ [15, 16] (by decide +kernel) (by decide +kernel)
set_option maxRecDepth 20000 in
theorem gX3_addToLeast_X1_isAtLeast : GoodIn wsX3_addToLeast (va_wsS RX3 116 yX1_isAtLeast wsX1_isAtLeast) := goodIn_app (goodIn_of _ (by decide +kernel)) ggX3_addToLeast_X1_isAtLeast
set_option maxRecDepth 20000 in
theorem ggX3_addToLeast_X2_add : GoodIn wsX3_addToLeast wsX2_add := goodIn_r _ [21, 10, 11, 22, 23, 24, 25, 26, 27, 28, 29, 30, 31, 32, 33, 34, 35, 36, 37, 38, 39, 40, 54, 55] (by decide +kernel) (by decide +kernel)
set_option maxRecDepth 20000 in
theorem gX3_addToLeast_X2_add : GoodIn wsX3_addToLeast (wsV RX3 98 RX2 yX2_add wsX2_add) := goodIn_app (goodIn_of _ (by decide +kernel)) ggX3_addToLeast_X2_add
theorem dX3_addToLeast_0 : decode cX3_addToLeast 0 = .ok (.aload_n 0, 1) := by decide +kernel
theorem dX3_addToLeast_1 : decode cX3_addToLeast 1 = .ok (.getfield 42, 3) := by decide +kernel
theorem dX3_addToLeast_4 : decode cX3_addToLeast 4 = .ok (.lload_n 1, 1) := by decide +kernel
theorem dX3_addToLeast_5 : decode cX3_addToLeast 5 = .ok (.aload_n 0, 1) := by decide +kernel
theorem dX3_addToLeast_6 : decode cX3_addToLeast 6 = .ok (.getfield 42, 3) := by decide +kernel
theorem dX3_addToLeast_9 : decode cX3_addToLeast 9 = .ok (.getfield 65, 3) := by decide +kernel
theorem dX3_addToLeast_12 : decode cX3_addToLeast 12 = .ok (.invokevirtual 102, 3) := by decide +kernel
theorem dX3_addToLeast_15 : decode cX3_addToLeast 15 = .ok (.ifCond .eq 4, 3) := by decide +kernel
theorem dX3_addToLeast_18 : decode cX3_addToLeast 18 = .ok (.return_, 1) := by decide +kernel
theorem dX3_addToLeast_19 : decode cX3_addToLeast 19 = .ok (.iconst 0, 1) := by decide +kernel
theorem dX3_addToLeast_20 : decode cX3_addToLeast 20 = .ok (.istore_n 3, 1) := by decide +kernel
theorem dX3_addToLeast_21 : decode cX3_addToLeast 21 = .ok (.iconst 0, 1) := by decide +kernel
theorem dX3_addToLeast_22 : decode cX3_addToLeast 22 = .ok (.istore 4, 2) := by decide +kernel
theorem dX3_addToLeast_24 : decode cX3_addToLeast 24 = .ok (.iconst 0, 1) := by decide +kernel
theorem dX3_addToLeast_25 : decode cX3_addToLeast 25 = .ok (.istore 5, 2) := by decide +kernel
theorem dX3_addToLeast_27 : decode cX3_addToLeast 27 = .ok (.iload 5, 2) := by decide +kernel
theorem dX3_addToLeast_29 : decode cX3_addToLeast 29 = .ok (.aload_n 0, 1) := by decide +kernel
theorem dX3_addToLeast_30 : decode cX3_addToLeast 30 = .ok (.getfield 42, 3) := by decide +kernel
theorem dX3_addToLeast_33 : decode cX3_addToLeast 33 = .ok (.getfield 65, 3) := by decide +kernel
theorem dX3_addToLeast_36 : decode cX3_addToLeast 36 = .ok (.if_icmp .ge 67, 3) := by decide +kernel
theorem dX3_addToLeast_39 : decode cX3_addToLeast 39 = .ok (.aload_n 0, 1) := by decide +kernel
theorem dX3_addToLeast_40 : decode cX3_addToLeast 40 = .ok (.getfield 42, 3) := by decide +kernel
theorem dX3_addToLeast_43 : decode cX3_addToLeast 43 = .ok (.getfield 106, 3) := by decide +kernel
theorem dX3_addToLeast_46 : decode cX3_addToLeast 46 = .ok (.iload 5, 2) := by decide +kernel
theorem dX3_addToLeast_48 : decode cX3_addToLeast 48 = .ok (.laload, 1) := by decide +kernel
theorem dX3_addToLeast_49 : decode cX3_addToLeast 49 = .ok (.lload_n 1, 1) := by decide +kernel
theorem dX3_addToLeast_50 : decode cX3_addToLeast 50 = .ok (.invokestatic 116, 3) := by decide +kernel
theorem dX3_addToLeast_53 : decode cX3_addToLeast 53 = .ok (.ifCond .ne 44, 3) := by decide +kernel
theorem dX3_addToLeast_56 : decode cX3_addToLeast 56 = .ok (.aload_n 0, 1) := by decide +kernel
theorem dX3_addToLeast_57 : decode cX3_addToLeast 57 = .ok (.getfield 42, 3) := by decide +kernel
theorem dX3_addToLeast_60 : decode cX3_addToLeast 60 = .ok (.getfield 106, 3) := by decide +kernel
theorem dX3_addToLeast_63 : decode cX3_addToLeast 63 = .ok (.iload_n 3, 1) := by decide +kernel
theorem dX3_addToLeast_64 : decode cX3_addToLeast 64 = .ok (.aload_n 0, 1) := by decide +kernel
theorem dX3_addToLeast_65 : decode cX3_addToLeast 65 = .ok (.getfield 42, 3) := by decide +kernel
theorem dX3_addToLeast_68 : decode cX3_addToLeast 68 = .ok (.getfield 106, 3) := by decide +kernel
theorem dX3_addToLeast_71 : decode cX3_addToLeast 71 = .ok (.iload 5, 2) := by decide +kernel
theorem dX3_addToLeast_73 : decode cX3_addToLeast 73 = .ok (.laload, 1) := by decide +kernel
theorem dX3_addToLeast_74 : decode cX3_addToLeast 74 = .ok (.lastore, 1) := by decide +kernel
theorem dX3_addToLeast_75 : decode cX3_addToLeast 75 = .ok (.iinc 3 1, 3) := by decide +kernel
theorem dX3_addToLeast_78 : decode cX3_addToLeast 78 = .ok (.iload 4, 2) := by decide +kernel
theorem dX3_addToLeast_80 : decode cX3_addToLeast 80 = .ok (.iload 5, 2) := by decide +kernel
theorem dX3_addToLeast_82 : decode cX3_addToLeast 82 = .ok (.aload_n 0, 1) := by decide +kernel
theorem dX3_addToLeast_83 : decode cX3_addToLeast 83 = .ok (.getfield 46, 3) := by decide +kernel
theorem dX3_addToLeast_86 : decode cX3_addToLeast 86 = .ok (.if_icmp .ge 7, 3) := by decide +kernel
theorem dX3_addToLeast_89 : decode cX3_addToLeast 89 = .ok (.iconst 1, 1) := by decide +kernel
theorem dX3_addToLeast_90 : decode cX3_addToLeast 90 = .ok (.goto 4, 3) := by decide +kernel
theorem dX3_addToLeast_93 : decode cX3_addToLeast 93 = .ok (.iconst 0, 1) := by decide +kernel
theorem dX3_addToLeast_94 : decode cX3_addToLeast 94 = .ok (.iadd, 1) := by decide +kernel
theorem dX3_addToLeast_95 : decode cX3_addToLeast 95 = .ok (.istore 4, 2) := by decide +kernel
theorem dX3_addToLeast_97 : decode cX3_addToLeast 97 = .ok (.iinc 5 1, 3) := by decide +kernel
theorem dX3_addToLeast_100 : decode cX3_addToLeast 100 = .ok (.goto (-73), 3) := by decide +kernel
theorem dX3_addToLeast_103 : decode cX3_addToLeast 103 = .ok (.aload_n 0, 1) := by decide +kernel
theorem dX3_addToLeast_104 : decode cX3_addToLeast 104 = .ok (.getfield 42, 3) := by decide +kernel
theorem dX3_addToLeast_107 : decode cX3_addToLeast 107 = .ok (.iload_n 3, 1) := by decide +kernel
theorem dX3_addToLeast_108 : decode cX3_addToLeast 108 = .ok (.putfield 65, 3) := by decide +kernel
theorem dX3_addToLeast_111 : decode cX3_addToLeast 111 = .ok (.aload_n 0, 1) := by decide +kernel
theorem dX3_addToLeast_112 : decode cX3_addToLeast 112 = .ok (.iload 4, 2) := by decide +kernel
theorem dX3_addToLeast_114 : decode cX3_addToLeast 114 = .ok (.putfield 46, 3) := by decide +kernel
theorem dX3_addToLeast_117 : decode cX3_addToLeast 117 = .ok (.aload_n 0, 1) := by decide +kernel
theorem dX3_addToLeast_118 : decode cX3_addToLeast 118 = .ok (.getfield 42, 3) := by decide +kernel
theorem dX3_addToLeast_121 : decode cX3_addToLeast 121 = .ok (.lload_n 1, 1) := by decide +kernel
theorem dX3_addToLeast_122 : decode cX3_addToLeast 122 = .ok (.invokevirtual 98, 3) := by decide +kernel
theorem dX3_addToLeast_125 : decode cX3_addToLeast 125 = .ok (.return_, 1) := by decide +kernel
set_option maxRecDepth 20000 in
theorem ggX3_findRow_X1_isAtLeast : GoodIn wsX3_findRow wsX1_isAtLeast := goodIn_r _ [12, 13] (by decide +kernel) (by decide +kernel)
set_option maxRecDepth 20000 in
theorem gX3_findRow_X1_isAtLeast : GoodIn wsX3_findRow (va_wsS RX3 116 yX1_isAtLeast wsX1_isAtLeast) := goodIn_app (goodIn_of _ (by decide +kernel)) ggX3_findRow_X1_isAtLeast
set_option maxRecDepth 20000 in
theorem ggX3_findRow_X2_hasOneBelow : GoodIn wsX3_findRow wsX2_hasOneBelow := goodIn_r _ [18, 19, 20, 21, 10, 11, 12, 13, 35, 36] (by decide +kernel) (by decide +kernel)
set_option maxRecDepth 20000 in
theorem gX3_findRow_X2_hasOneBelow : GoodIn wsX3_findRow (wsV RX3 102 RX2 yX2_hasOneBelow wsX2_hasOneBelow) := goodIn_app (goodIn_of _ (by decide +kernel)) ggX3_findRow_X2_hasOneBelow
theorem dX3_findRow_0 : decode cX3_findRow 0 = .ok (.aload_n 0, 1) := by decide +kernel
theorem dX3_findRow_1 : decode cX3_findRow 1 = .ok (.getfield 25, 3) := by decide +kernel
theorem dX3_findRow_4 : decode cX3_findRow 4 = .ok (.lstore_n 1, 1) := by decide +kernel
theorem dX3_findRow_5 : decode cX3_findRow 5 = .ok (.iconst 0, 1) := by decide +kernel
theorem dX3_findRow_6 : decode cX3_findRow 6 = .ok (.istore_n 3, 1) := by decide +kernel
theorem dX3_findRow_7 : decode cX3_findRow 7 = .ok (.iload_n 3, 1) := by decide +kernel
theorem dX3_findRow_8 : decode cX3_findRow 8 = .ok (.aload_n 0, 1) := by decide +kernel
theorem dX3_findRow_9 : decode cX3_findRow 9 = .ok (.getfield 15, 3) := by decide +kernel
theorem dX3_findRow_12 : decode cX3_findRow 12 = .ok (.if_icmp .ge 103, 3) := by decide +kernel
theorem dX3_findRow_15 : decode cX3_findRow 15 = .ok (.aload_n 0, 1) := by decide +kernel
theorem dX3_findRow_16 : decode cX3_findRow 16 = .ok (.getfield 52, 3) := by decide +kernel
theorem dX3_findRow_19 : decode cX3_findRow 19 = .ok (.aload_n 0, 1) := by decide +kernel
theorem dX3_findRow_20 : decode cX3_findRow 20 = .ok (.getfield 15, 3) := by decide +kernel
theorem dX3_findRow_23 : decode cX3_findRow 23 = .ok (.iconst 1, 1) := by decide +kernel
theorem dX3_findRow_24 : decode cX3_findRow 24 = .ok (.isub, 1) := by decide +kernel
theorem dX3_findRow_25 : decode cX3_findRow 25 = .ok (.iload_n 3, 1) := by decide +kernel
theorem dX3_findRow_26 : decode cX3_findRow 26 = .ok (.isub, 1) := by decide +kernel
theorem dX3_findRow_27 : decode cX3_findRow 27 = .ok (.iaload, 1) := by decide +kernel
theorem dX3_findRow_28 : decode cX3_findRow 28 = .ok (.istore 4, 2) := by decide +kernel
theorem dX3_findRow_30 : decode cX3_findRow 30 = .ok (.iconst 0, 1) := by decide +kernel
theorem dX3_findRow_31 : decode cX3_findRow 31 = .ok (.istore 5, 2) := by decide +kernel
theorem dX3_findRow_33 : decode cX3_findRow 33 = .ok (.iload 5, 2) := by decide +kernel
theorem dX3_findRow_35 : decode cX3_findRow 35 = .ok (.aload_n 0, 1) := by decide +kernel
theorem dX3_findRow_36 : decode cX3_findRow 36 = .ok (.getfield 29, 3) := by decide +kernel
theorem dX3_findRow_39 : decode cX3_findRow 39 = .ok (.if_icmp .ge 70, 3) := by decide +kernel
theorem dX3_findRow_42 : decode cX3_findRow 42 = .ok (.lload_n 1, 1) := by decide +kernel
theorem dX3_findRow_43 : decode cX3_findRow 43 = .ok (.aload_n 0, 1) := by decide +kernel
theorem dX3_findRow_44 : decode cX3_findRow 44 = .ok (.getfield 32, 3) := by decide +kernel
theorem dX3_findRow_47 : decode cX3_findRow 47 = .ok (.iload 5, 2) := by decide +kernel
theorem dX3_findRow_49 : decode cX3_findRow 49 = .ok (.laload, 1) := by decide +kernel
theorem dX3_findRow_50 : decode cX3_findRow 50 = .ok (.lsub, 1) := by decide +kernel
theorem dX3_findRow_51 : decode cX3_findRow 51 = .ok (.aload_n 0, 1) := by decide +kernel
theorem dX3_findRow_52 : decode cX3_findRow 52 = .ok (.getfield 36, 3) := by decide +kernel
theorem dX3_findRow_55 : decode cX3_findRow 55 = .ok (.iload 5, 2) := by decide +kernel
theorem dX3_findRow_57 : decode cX3_findRow 57 = .ok (.laload, 1) := by decide +kernel
theorem dX3_findRow_58 : decode cX3_findRow 58 = .ok (.ladd, 1) := by decide +kernel
theorem dX3_findRow_59 : decode cX3_findRow 59 = .ok (.lstore 6, 2) := by decide +kernel
theorem dX3_findRow_61 : decode cX3_findRow 61 = .ok (.lload_n 1, 1) := by decide +kernel
theorem dX3_findRow_62 : decode cX3_findRow 62 = .ok (.aload_n 0, 1) := by decide +kernel
theorem dX3_findRow_63 : decode cX3_findRow 63 = .ok (.getfield 32, 3) := by decide +kernel
theorem dX3_findRow_66 : decode cX3_findRow 66 = .ok (.iload 5, 2) := by decide +kernel
theorem dX3_findRow_68 : decode cX3_findRow 68 = .ok (.laload, 1) := by decide +kernel
theorem dX3_findRow_69 : decode cX3_findRow 69 = .ok (.invokestatic 116, 3) := by decide +kernel
theorem dX3_findRow_72 : decode cX3_findRow 72 = .ok (.ifCond .eq 31, 3) := by decide +kernel
theorem dX3_findRow_75 : decode cX3_findRow 75 = .ok (.aload_n 0, 1) := by decide +kernel
theorem dX3_findRow_76 : decode cX3_findRow 76 = .ok (.getfield 49, 3) := by decide +kernel
theorem dX3_findRow_79 : decode cX3_findRow 79 = .ok (.lload 6, 2) := by decide +kernel
theorem dX3_findRow_81 : decode cX3_findRow 81 = .ok (.iload 4, 2) := by decide +kernel
theorem dX3_findRow_83 : decode cX3_findRow 83 = .ok (.invokevirtual 102, 3) := by decide +kernel
theorem dX3_findRow_86 : decode cX3_findRow 86 = .ok (.ifCond .eq 17, 3) := by decide +kernel
theorem dX3_findRow_89 : decode cX3_findRow 89 = .ok (.aload_n 0, 1) := by decide +kernel
theorem dX3_findRow_90 : decode cX3_findRow 90 = .ok (.getfield 22, 3) := by decide +kernel
theorem dX3_findRow_93 : decode cX3_findRow 93 = .ok (.iload_n 3, 1) := by decide +kernel
theorem dX3_findRow_94 : decode cX3_findRow 94 = .ok (.iload 5, 2) := by decide +kernel
theorem dX3_findRow_96 : decode cX3_findRow 96 = .ok (.iastore, 1) := by decide +kernel
theorem dX3_findRow_97 : decode cX3_findRow 97 = .ok (.lload 6, 2) := by decide +kernel
theorem dX3_findRow_99 : decode cX3_findRow 99 = .ok (.lstore_n 1, 1) := by decide +kernel
theorem dX3_findRow_100 : decode cX3_findRow 100 = .ok (.goto 9, 3) := by decide +kernel
theorem dX3_findRow_103 : decode cX3_findRow 103 = .ok (.iinc 5 1, 3) := by decide +kernel
theorem dX3_findRow_106 : decode cX3_findRow 106 = .ok (.goto (-73), 3) := by decide +kernel
theorem dX3_findRow_109 : decode cX3_findRow 109 = .ok (.iinc 3 1, 3) := by decide +kernel
theorem dX3_findRow_112 : decode cX3_findRow 112 = .ok (.goto (-105), 3) := by decide +kernel
theorem dX3_findRow_115 : decode cX3_findRow 115 = .ok (.return_, 1) := by decide +kernel
theorem dX4_init_0 : decode cX4_init 0 = .ok (.aload_n 0, 1) := by decide +kernel
theorem dX4_init_1 : decode cX4_init 1 = .ok (.invokespecial 3, 3) := by decide +kernel
theorem dX4_init_4 : decode cX4_init 4 = .ok (.aload_n 0, 1) := by decide +kernel
theorem dX4_init_5 : decode cX4_init 5 = .ok (.iconst 0, 1) := by decide +kernel
theorem dX4_init_6 : decode cX4_init 6 = .ok (.putfield 9, 3) := by decide +kernel
theorem dX4_init_9 : decode cX4_init 9 = .ok (.aload_n 0, 1) := by decide +kernel
theorem dX4_init_10 : decode cX4_init 10 = .ok (.iconst 0, 1) := by decide +kernel
theorem dX4_init_11 : decode cX4_init 11 = .ok (.putfield 15, 3) := by decide +kernel
theorem dX4_init_14 : decode cX4_init 14 = .ok (.aload_n 0, 1) := by decide +kernel
theorem dX4_init_15 : decode cX4_init 15 = .ok (.iconst 0, 1) := by decide +kernel
theorem dX4_init_16 : decode cX4_init 16 = .ok (.putfield 19, 3) := by decide +kernel
theorem dX4_init_19 : decode cX4_init 19 = .ok (.aload_n 0, 1) := by decide +kernel
theorem dX4_init_20 : decode cX4_init 20 = .ok (.iconst 0, 1) := by decide +kernel
theorem dX4_init_21 : decode cX4_init 21 = .ok (.putfield 22, 3) := by decide +kernel
theorem dX4_init_24 : decode cX4_init 24 = .ok (.aload_n 0, 1) := by decide +kernel
theorem dX4_init_25 : decode cX4_init 25 = .ok (.bipush 6, 2) := by decide +kernel
theorem dX4_init_27 : decode cX4_init 27 = .ok (.newarray .boolean, 2) := by decide +kernel
theorem dX4_init_29 : decode cX4_init 29 = .ok (.putfield 25, 3) := by decide +kernel
theorem dX4_init_32 : decode cX4_init 32 = .ok (.aload_n 0, 1) := by decide +kernel
theorem dX4_init_33 : decode cX4_init 33 = .ok (.sipush 5000, 3) := by decide +kernel
theorem dX4_init_36 : decode cX4_init 36 = .ok (.newarray .int, 2) := by decide +kernel
theorem dX4_init_38 : decode cX4_init 38 = .ok (.putfield 29, 3) := by decide +kernel
theorem dX4_init_41 : decode cX4_init 41 = .ok (.aload_n 0, 1) := by decide +kernel
theorem dX4_init_42 : decode cX4_init 42 = .ok (.sipush 1000, 3) := by decide +kernel
theorem dX4_init_45 : decode cX4_init 45 = .ok (.newarray .int, 2) := by decide +kernel
theorem dX4_init_47 : decode cX4_init 47 = .ok (.putfield 33, 3) := by decide +kernel
theorem dX4_init_50 : decode cX4_init 50 = .ok (.aload_n 0, 1) := by decide +kernel
theorem dX4_init_51 : decode cX4_init 51 = .ok (.sipush 1000, 3) := by decide +kernel
theorem dX4_init_54 : decode cX4_init 54 = .ok (.newarray .int, 2) := by decide +kernel
theorem dX4_init_56 : decode cX4_init 56 = .ok (.putfield 36, 3) := by decide +kernel
theorem dX4_init_59 : decode cX4_init 59 = .ok (.aload_n 0, 1) := by decide +kernel
theorem dX4_init_60 : decode cX4_init 60 = .ok (.sipush 1000, 3) := by decide +kernel
theorem dX4_init_63 : decode cX4_init 63 = .ok (.newarray .int, 2) := by decide +kernel
theorem dX4_init_65 : decode cX4_init 65 = .ok (.putfield 39, 3) := by decide +kernel
theorem dX4_init_68 : decode cX4_init 68 = .ok (.return_, 1) := by decide +kernel
set_option maxRecDepth 20000 in
theorem ggX4_growFrom_X4_begin : GoodIn wsX4_growFrom wsX4_begin := goodIn_r _ [7, 8, 9, 10, 11, 12, 13, 14, 15, 16, 17, 18, 1, 19, 93, 94, 95, 96, 97, 98, 84, 85, 86, 87, 88, 89, 90, 91, 92] (by decide +kernel) (by decide +kernel)
set_option maxRecDepth 20000 in
theorem gX4_growFrom_X4_begin : GoodIn wsX4_growFrom (wsV RX4 42 RX4 yX4_begin wsX4_begin) := goodIn_app (goodIn_of _ (by decide +kernel)) ggX4_growFrom_X4_begin
set_option maxRecDepth 20000 in
theorem ggX4_growFrom_X4_hasTwinAbove : GoodIn wsX4_growFrom wsX4_hasTwinAbove := goodIn_r _ [23, 18, 17, 24, 25, 26, 6, 27, 9, 12, 84, 85, 86, 87, 88, 89, 90, 91, 92] (by decide +kernel) (by decide +kernel)
set_option maxRecDepth 20000 in
theorem gX4_growFrom_X4_hasTwinAbove : GoodIn wsX4_growFrom (wsV RX4 46 RX4 yX4_hasTwinAbove wsX4_hasTwinAbove) := goodIn_app (goodIn_of _ (by decide +kernel)) ggX4_growFrom_X4_hasTwinAbove
set_option maxRecDepth 20000 in
theorem ggX4_growFrom_X4_addChildren : GoodIn wsX4_growFrom wsX4_addChildren := goodIn_r _ [31, 32, 12, 1, 10, 33, 34, 35, 36, 37, 38, 39, 40, 41, 42, 6, 43, 17, 18, 13, 14, 15, 16, 44, 45, 46, 47, 48, 49, 50, 51, 52, 53, 9, 24, 25, 26, 27, 54, 55, 56, 57, 58, 59, 60, 61, 62, 93, 94, 95, 96, 97, 98, 84, 85, 86, 87, 88, 89, 90, 91, 92] (by decide +kernel) (by decide +kernel)
set_option maxRecDepth 20000 in
theorem gX4_growFrom_X4_addChildren : GoodIn wsX4_growFrom (wsV RX4 50 RX4 yX4_addChildren wsX4_addChildren) := goodIn_app (goodIn_of _ (by decide +kernel)) ggX4_growFrom_X4_addChildren
set_option maxRecDepth 20000 in
theorem ggX4_growFrom_X4_gatherLimits : GoodIn wsX4_growFrom wsX4_gatherLimits := goodIn_r _ [66, 1, 67, 68, 69, 6, 70, 19, 71, 24, 25, 26, 27, 9, 12, 72, 73, 74, 75, 76, 77, 78, 79, 80, 81, 82, 83, 59, 60, 61, 62, 84, 85, 86, 87, 88, 89, 90, 91, 92] (by decide +kernel) (by decide +kernel)
set_option maxRecDepth 20000 in
theorem gX4_growFrom_X4_gatherLimits : GoodIn wsX4_growFrom (wsV RX4 54 RX4 yX4_gatherLimits wsX4_gatherLimits) := goodIn_app (goodIn_of _ (by decide +kernel)) ggX4_growFrom_X4_gatherLimits
theorem dX4_growFrom_0 : decode cX4_growFrom 0 = .ok (.aload_n 0, 1) := by decide +kernel
theorem dX4_growFrom_1 : decode cX4_growFrom 1 = .ok (.aload_n 1, 1) := by decide +kernel
theorem dX4_growFrom_2 : decode cX4_growFrom 2 = .ok (.invokevirtual 42, 3) := by decide +kernel
theorem dX4_growFrom_5 : decode cX4_growFrom 5 = .ok (.iconst 1, 1) := by decide +kernel
theorem dX4_growFrom_6 : decode cX4_growFrom 6 = .ok (.istore_n 2, 1) := by decide +kernel
theorem dX4_growFrom_7 : decode cX4_growFrom 7 = .ok (.iconst 0, 1) := by decide +kernel
theorem dX4_growFrom_8 : decode cX4_growFrom 8 = .ok (.istore_n 3, 1) := by decide +kernel
theorem dX4_growFrom_9 : decode cX4_growFrom 9 = .ok (.iload_n 2, 1) := by decide +kernel
theorem dX4_growFrom_10 : decode cX4_growFrom 10 = .ok (.ifCond .eq 47, 3) := by decide +kernel
theorem dX4_growFrom_13 : decode cX4_growFrom 13 = .ok (.iload_n 3, 1) := by decide +kernel
theorem dX4_growFrom_14 : decode cX4_growFrom 14 = .ok (.aload_n 0, 1) := by decide +kernel
theorem dX4_growFrom_15 : decode cX4_growFrom 15 = .ok (.getfield 19, 3) := by decide +kernel
theorem dX4_growFrom_18 : decode cX4_growFrom 18 = .ok (.if_icmp .ge 39, 3) := by decide +kernel
theorem dX4_growFrom_21 : decode cX4_growFrom 21 = .ok (.iload_n 3, 1) := by decide +kernel
theorem dX4_growFrom_22 : decode cX4_growFrom 22 = .ok (.sipush 1000, 3) := by decide +kernel
theorem dX4_growFrom_25 : decode cX4_growFrom 25 = .ok (.if_icmp .ge 32, 3) := by decide +kernel
theorem dX4_growFrom_28 : decode cX4_growFrom 28 = .ok (.aload_n 0, 1) := by decide +kernel
theorem dX4_growFrom_29 : decode cX4_growFrom 29 = .ok (.iload_n 3, 1) := by decide +kernel
theorem dX4_growFrom_30 : decode cX4_growFrom 30 = .ok (.invokevirtual 46, 3) := by decide +kernel
theorem dX4_growFrom_33 : decode cX4_growFrom 33 = .ok (.ifCond .ne 12, 3) := by decide +kernel
theorem dX4_growFrom_36 : decode cX4_growFrom 36 = .ok (.aload_n 0, 1) := by decide +kernel
theorem dX4_growFrom_37 : decode cX4_growFrom 37 = .ok (.aload_n 1, 1) := by decide +kernel
theorem dX4_growFrom_38 : decode cX4_growFrom 38 = .ok (.iload_n 3, 1) := by decide +kernel
theorem dX4_growFrom_39 : decode cX4_growFrom 39 = .ok (.invokevirtual 50, 3) := by decide +kernel
theorem dX4_growFrom_42 : decode cX4_growFrom 42 = .ok (.ifCond .eq 7, 3) := by decide +kernel
theorem dX4_growFrom_45 : decode cX4_growFrom 45 = .ok (.iconst 1, 1) := by decide +kernel
theorem dX4_growFrom_46 : decode cX4_growFrom 46 = .ok (.goto 4, 3) := by decide +kernel
theorem dX4_growFrom_49 : decode cX4_growFrom 49 = .ok (.iconst 0, 1) := by decide +kernel
theorem dX4_growFrom_50 : decode cX4_growFrom 50 = .ok (.istore_n 2, 1) := by decide +kernel
theorem dX4_growFrom_51 : decode cX4_growFrom 51 = .ok (.iinc 3 1, 3) := by decide +kernel
theorem dX4_growFrom_54 : decode cX4_growFrom 54 = .ok (.goto (-45), 3) := by decide +kernel
theorem dX4_growFrom_57 : decode cX4_growFrom 57 = .ok (.iload_n 2, 1) := by decide +kernel
theorem dX4_growFrom_58 : decode cX4_growFrom 58 = .ok (.ifCond .eq 7, 3) := by decide +kernel
theorem dX4_growFrom_61 : decode cX4_growFrom 61 = .ok (.aload_n 0, 1) := by decide +kernel
theorem dX4_growFrom_62 : decode cX4_growFrom 62 = .ok (.invokevirtual 54, 3) := by decide +kernel
theorem dX4_growFrom_65 : decode cX4_growFrom 65 = .ok (.aload_n 0, 1) := by decide +kernel
theorem dX4_growFrom_66 : decode cX4_growFrom 66 = .ok (.iload_n 2, 1) := by decide +kernel
theorem dX4_growFrom_67 : decode cX4_growFrom 67 = .ok (.putfield 9, 3) := by decide +kernel
theorem dX4_growFrom_70 : decode cX4_growFrom 70 = .ok (.return_, 1) := by decide +kernel
theorem dX4_begin_0 : decode cX4_begin 0 = .ok (.aload_n 0, 1) := by decide +kernel
theorem dX4_begin_1 : decode cX4_begin 1 = .ok (.aload_n 1, 1) := by decide +kernel
theorem dX4_begin_2 : decode cX4_begin 2 = .ok (.getfield 57, 3) := by decide +kernel
theorem dX4_begin_5 : decode cX4_begin 5 = .ok (.putfield 15, 3) := by decide +kernel
theorem dX4_begin_8 : decode cX4_begin 8 = .ok (.iconst 0, 1) := by decide +kernel
theorem dX4_begin_9 : decode cX4_begin 9 = .ok (.istore_n 2, 1) := by decide +kernel
theorem dX4_begin_10 : decode cX4_begin 10 = .ok (.iload_n 2, 1) := by decide +kernel
theorem dX4_begin_11 : decode cX4_begin 11 = .ok (.bipush 6, 2) := by decide +kernel
theorem dX4_begin_13 : decode cX4_begin 13 = .ok (.if_icmp .ge 16, 3) := by decide +kernel
theorem dX4_begin_16 : decode cX4_begin 16 = .ok (.aload_n 0, 1) := by decide +kernel
theorem dX4_begin_17 : decode cX4_begin 17 = .ok (.getfield 25, 3) := by decide +kernel
theorem dX4_begin_20 : decode cX4_begin 20 = .ok (.iload_n 2, 1) := by decide +kernel
theorem dX4_begin_21 : decode cX4_begin 21 = .ok (.iconst 0, 1) := by decide +kernel
theorem dX4_begin_22 : decode cX4_begin 22 = .ok (.bastore, 1) := by decide +kernel
theorem dX4_begin_23 : decode cX4_begin 23 = .ok (.iinc 2 1, 3) := by decide +kernel
theorem dX4_begin_26 : decode cX4_begin 26 = .ok (.goto (-16), 3) := by decide +kernel
theorem dX4_begin_29 : decode cX4_begin 29 = .ok (.aload_n 1, 1) := by decide +kernel
theorem dX4_begin_30 : decode cX4_begin 30 = .ok (.getfield 60, 3) := by decide +kernel
theorem dX4_begin_33 : decode cX4_begin 33 = .ok (.iconst 0, 1) := by decide +kernel
theorem dX4_begin_34 : decode cX4_begin 34 = .ok (.aload_n 0, 1) := by decide +kernel
theorem dX4_begin_35 : decode cX4_begin 35 = .ok (.getfield 29, 3) := by decide +kernel
theorem dX4_begin_38 : decode cX4_begin 38 = .ok (.iconst 0, 1) := by decide +kernel
theorem dX4_begin_39 : decode cX4_begin 39 = .ok (.iconst 5, 1) := by decide +kernel
theorem dX4_begin_40 : decode cX4_begin 40 = .ok (.invokestatic 63, 3) := by decide +kernel
theorem dX4_begin_43 : decode cX4_begin 43 = .ok (.aload_n 0, 1) := by decide +kernel
