theorem dX0_init_0 : decode cX0_init 0 = .ok (.aload_n 0, 1) := by decide +kernel
theorem dX0_init_1 : decode cX0_init 1 = .ok (.invokespecial 3, 3) := by decide +kernel
theorem dX0_init_4 : decode cX0_init 4 = .ok (.aload_n 0, 1) := by decide +kernel
theorem dX0_init_5 : decode cX0_init 5 = .ok (.iconst 0, 1) := by decide +kernel
theorem dX0_init_6 : decode cX0_init 6 = .ok (.putfield 9, 3) := by decide +kernel
theorem dX0_init_9 : decode cX0_init 9 = .ok (.aload_n 0, 1) := by decide +kernel
theorem dX0_init_10 : decode cX0_init 10 = .ok (.iconst 0, 1) := by decide +kernel
theorem dX0_init_11 : decode cX0_init 11 = .ok (.putfield 15, 3) := by decide +kernel
theorem dX0_init_14 : decode cX0_init 14 = .ok (.aload_n 0, 1) := by decide +kernel
theorem dX0_init_15 : decode cX0_init 15 = .ok (.lconst 0, 1) := by decide +kernel
theorem dX0_init_16 : decode cX0_init 16 = .ok (.putfield 18, 3) := by decide +kernel
theorem dX0_init_19 : decode cX0_init 19 = .ok (.return_, 1) := by decide +kernel
theorem dX0_gather_0 : decode cX0_gather 0 = .ok (.aload_n 0, 1) := by decide +kernel
theorem dX0_gather_1 : decode cX0_gather 1 = .ok (.iload_n 1, 1) := by decide +kernel
theorem dX0_gather_2 : decode cX0_gather 2 = .ok (.putfield 9, 3) := by decide +kernel
theorem dX0_gather_5 : decode cX0_gather 5 = .ok (.aload_n 0, 1) := by decide +kernel
theorem dX0_gather_6 : decode cX0_gather 6 = .ok (.iconst 1, 1) := by decide +kernel
theorem dX0_gather_7 : decode cX0_gather 7 = .ok (.iload_n 1, 1) := by decide +kernel
theorem dX0_gather_8 : decode cX0_gather 8 = .ok (.ishl, 1) := by decide +kernel
theorem dX0_gather_9 : decode cX0_gather 9 = .ok (.iconst 1, 1) := by decide +kernel
theorem dX0_gather_10 : decode cX0_gather 10 = .ok (.isub, 1) := by decide +kernel
theorem dX0_gather_11 : decode cX0_gather 11 = .ok (.putfield 15, 3) := by decide +kernel
theorem dX0_gather_14 : decode cX0_gather 14 = .ok (.aload_n 0, 1) := by decide +kernel
theorem dX0_gather_15 : decode cX0_gather 15 = .ok (.lload_n 2, 1) := by decide +kernel
theorem dX0_gather_16 : decode cX0_gather 16 = .ok (.putfield 18, 3) := by decide +kernel
theorem dX0_gather_19 : decode cX0_gather 19 = .ok (.return_, 1) := by decide +kernel
set_option maxRecDepth 20000 in
theorem ggX0_draw_X0_liveCount : GoodIn wsX0_draw wsX0_liveCount := goodIn_r _ [8, 9, 10, 11, 12, 13, 14, 15, 16, 21, 22, 23] (by decide +kernel) (by decide +kernel)
set_option maxRecDepth 20000 in
theorem gX0_draw_X0_liveCount : GoodIn wsX0_draw (wsV RX0 22 RX0 yX0_liveCount wsX0_liveCount) := goodIn_app (goodIn_of _ (by decide +kernel)) ggX0_draw_X0_liveCount
set_option maxRecDepth 20000 in
theorem ggX0_draw_X0_liveWorker : GoodIn wsX0_draw wsX0_liveWorker := goodIn_r _ [20, 9, 21, 22, 23] (by decide +kernel) (by decide +kernel)
set_option maxRecDepth 20000 in
theorem gX0_draw_X0_liveWorker : GoodIn wsX0_draw (wsV RX0 30 RX0 yX0_liveWorker wsX0_liveWorker) := goodIn_app (goodIn_of _ (by decide +kernel)) ggX0_draw_X0_liveWorker
theorem dX0_draw_0 : decode cX0_draw 0 = .ok (.aload_n 0, 1) := by decide +kernel
theorem dX0_draw_1 : decode cX0_draw 1 = .ok (.invokevirtual 22, 3) := by decide +kernel
theorem dX0_draw_4 : decode cX0_draw 4 = .ok (.istore_n 1, 1) := by decide +kernel
theorem dX0_draw_5 : decode cX0_draw 5 = .ok (.iload_n 1, 1) := by decide +kernel
theorem dX0_draw_6 : decode cX0_draw 6 = .ok (.ifCond .ne 5, 3) := by decide +kernel
theorem dX0_draw_9 : decode cX0_draw 9 = .ok (.iconst (-1), 1) := by decide +kernel
theorem dX0_draw_10 : decode cX0_draw 10 = .ok (.ireturn, 1) := by decide +kernel
theorem dX0_draw_11 : decode cX0_draw 11 = .ok (.aload_n 0, 1) := by decide +kernel
theorem dX0_draw_12 : decode cX0_draw 12 = .ok (.aload_n 0, 1) := by decide +kernel
theorem dX0_draw_13 : decode cX0_draw 13 = .ok (.getfield 18, 3) := by decide +kernel
theorem dX0_draw_16 : decode cX0_draw 16 = .ok (.ldc2_w 26, 3) := by decide +kernel
theorem dX0_draw_19 : decode cX0_draw 19 = .ok (.lmul, 1) := by decide +kernel
theorem dX0_draw_20 : decode cX0_draw 20 = .ok (.ldc2_w 28, 3) := by decide +kernel
theorem dX0_draw_23 : decode cX0_draw 23 = .ok (.ladd, 1) := by decide +kernel
theorem dX0_draw_24 : decode cX0_draw 24 = .ok (.putfield 18, 3) := by decide +kernel
theorem dX0_draw_27 : decode cX0_draw 27 = .ok (.aload_n 0, 1) := by decide +kernel
theorem dX0_draw_28 : decode cX0_draw 28 = .ok (.aload_n 0, 1) := by decide +kernel
theorem dX0_draw_29 : decode cX0_draw 29 = .ok (.getfield 18, 3) := by decide +kernel
theorem dX0_draw_32 : decode cX0_draw 32 = .ok (.bipush 33, 2) := by decide +kernel
theorem dX0_draw_34 : decode cX0_draw 34 = .ok (.lushr, 1) := by decide +kernel
theorem dX0_draw_35 : decode cX0_draw 35 = .ok (.iload_n 1, 1) := by decide +kernel
theorem dX0_draw_36 : decode cX0_draw 36 = .ok (.i2l, 1) := by decide +kernel
theorem dX0_draw_37 : decode cX0_draw 37 = .ok (.lrem, 1) := by decide +kernel
theorem dX0_draw_38 : decode cX0_draw 38 = .ok (.l2i, 1) := by decide +kernel
theorem dX0_draw_39 : decode cX0_draw 39 = .ok (.invokevirtual 30, 3) := by decide +kernel
theorem dX0_draw_42 : decode cX0_draw 42 = .ok (.ireturn, 1) := by decide +kernel
theorem dX0_dismiss_0 : decode cX0_dismiss 0 = .ok (.aload_n 0, 1) := by decide +kernel
theorem dX0_dismiss_1 : decode cX0_dismiss 1 = .ok (.dup, 1) := by decide +kernel
theorem dX0_dismiss_2 : decode cX0_dismiss 2 = .ok (.getfield 15, 3) := by decide +kernel
theorem dX0_dismiss_5 : decode cX0_dismiss 5 = .ok (.iconst 1, 1) := by decide +kernel
theorem dX0_dismiss_6 : decode cX0_dismiss 6 = .ok (.iload_n 1, 1) := by decide +kernel
theorem dX0_dismiss_7 : decode cX0_dismiss 7 = .ok (.ishl, 1) := by decide +kernel
theorem dX0_dismiss_8 : decode cX0_dismiss 8 = .ok (.iconst (-1), 1) := by decide +kernel
theorem dX0_dismiss_9 : decode cX0_dismiss 9 = .ok (.ixor, 1) := by decide +kernel
theorem dX0_dismiss_10 : decode cX0_dismiss 10 = .ok (.iand, 1) := by decide +kernel
theorem dX0_dismiss_11 : decode cX0_dismiss 11 = .ok (.putfield 15, 3) := by decide +kernel
theorem dX0_dismiss_14 : decode cX0_dismiss 14 = .ok (.return_, 1) := by decide +kernel
set_option maxRecDepth 20000 in
theorem ggX0_liveCount_J6_bitCount_0f7a4 : GoodIn wsX0_liveCount wsJ6_bitCount_0f7a4 := goodIn_r _ [5, 6, 7, 8] (by decide +kernel) (by decide +kernel)
set_option maxRecDepth 20000 in
theorem gX0_liveCount_J6_bitCount_0f7a4 : GoodIn wsX0_liveCount (va_wsS RX0 34 yJ6_bitCount_0f7a4 wsJ6_bitCount_0f7a4) := goodIn_app (goodIn_of _ (by decide +kernel)) ggX0_liveCount_J6_bitCount_0f7a4
theorem dX0_liveCount_0 : decode cX0_liveCount 0 = .ok (.aload_n 0, 1) := by decide +kernel
theorem dX0_liveCount_1 : decode cX0_liveCount 1 = .ok (.getfield 15, 3) := by decide +kernel
theorem dX0_liveCount_4 : decode cX0_liveCount 4 = .ok (.invokestatic 34, 3) := by decide +kernel
theorem dX0_liveCount_7 : decode cX0_liveCount 7 = .ok (.ireturn, 1) := by decide +kernel
set_option maxRecDepth 20000 in
theorem ggX0_brokenCount_X0_liveCount : GoodIn wsX0_brokenCount wsX0_liveCount := goodIn_r _ [6, 7, 8, 9, 10, 11, 12, 13, 14, 15, 16, 17] (by decide +kernel) (by decide +kernel)
set_option maxRecDepth 20000 in
theorem gX0_brokenCount_X0_liveCount : GoodIn wsX0_brokenCount (wsV RX0 22 RX0 yX0_liveCount wsX0_liveCount) := goodIn_app (goodIn_of _ (by decide +kernel)) ggX0_brokenCount_X0_liveCount
theorem dX0_brokenCount_0 : decode cX0_brokenCount 0 = .ok (.aload_n 0, 1) := by decide +kernel
theorem dX0_brokenCount_1 : decode cX0_brokenCount 1 = .ok (.getfield 9, 3) := by decide +kernel
theorem dX0_brokenCount_4 : decode cX0_brokenCount 4 = .ok (.aload_n 0, 1) := by decide +kernel
theorem dX0_brokenCount_5 : decode cX0_brokenCount 5 = .ok (.invokevirtual 22, 3) := by decide +kernel
theorem dX0_brokenCount_8 : decode cX0_brokenCount 8 = .ok (.isub, 1) := by decide +kernel
theorem dX0_brokenCount_9 : decode cX0_brokenCount 9 = .ok (.ireturn, 1) := by decide +kernel
theorem dX0_liveWorker_0 : decode cX0_liveWorker 0 = .ok (.iload_n 1, 1) := by decide +kernel
theorem dX0_liveWorker_1 : decode cX0_liveWorker 1 = .ok (.istore_n 2, 1) := by decide +kernel
theorem dX0_liveWorker_2 : decode cX0_liveWorker 2 = .ok (.iconst 0, 1) := by decide +kernel
theorem dX0_liveWorker_3 : decode cX0_liveWorker 3 = .ok (.istore_n 3, 1) := by decide +kernel
theorem dX0_liveWorker_4 : decode cX0_liveWorker 4 = .ok (.iload_n 3, 1) := by decide +kernel
theorem dX0_liveWorker_5 : decode cX0_liveWorker 5 = .ok (.bipush 16, 2) := by decide +kernel
theorem dX0_liveWorker_7 : decode cX0_liveWorker 7 = .ok (.if_icmp .ge 29, 3) := by decide +kernel
theorem dX0_liveWorker_10 : decode cX0_liveWorker 10 = .ok (.aload_n 0, 1) := by decide +kernel
theorem dX0_liveWorker_11 : decode cX0_liveWorker 11 = .ok (.getfield 15, 3) := by decide +kernel
theorem dX0_liveWorker_14 : decode cX0_liveWorker 14 = .ok (.iconst 1, 1) := by decide +kernel
theorem dX0_liveWorker_15 : decode cX0_liveWorker 15 = .ok (.iload_n 3, 1) := by decide +kernel
theorem dX0_liveWorker_16 : decode cX0_liveWorker 16 = .ok (.ishl, 1) := by decide +kernel
theorem dX0_liveWorker_17 : decode cX0_liveWorker 17 = .ok (.iand, 1) := by decide +kernel
theorem dX0_liveWorker_18 : decode cX0_liveWorker 18 = .ok (.ifCond .eq 12, 3) := by decide +kernel
theorem dX0_liveWorker_21 : decode cX0_liveWorker 21 = .ok (.iload_n 2, 1) := by decide +kernel
theorem dX0_liveWorker_22 : decode cX0_liveWorker 22 = .ok (.ifCond .ne 5, 3) := by decide +kernel
theorem dX0_liveWorker_25 : decode cX0_liveWorker 25 = .ok (.iload_n 3, 1) := by decide +kernel
theorem dX0_liveWorker_26 : decode cX0_liveWorker 26 = .ok (.ireturn, 1) := by decide +kernel
theorem dX0_liveWorker_27 : decode cX0_liveWorker 27 = .ok (.iinc 2 (-1), 3) := by decide +kernel
theorem dX0_liveWorker_30 : decode cX0_liveWorker 30 = .ok (.iinc 3 1, 3) := by decide +kernel
theorem dX0_liveWorker_33 : decode cX0_liveWorker 33 = .ok (.goto (-29), 3) := by decide +kernel
theorem dX0_liveWorker_36 : decode cX0_liveWorker 36 = .ok (.iconst (-1), 1) := by decide +kernel
theorem dX0_liveWorker_37 : decode cX0_liveWorker 37 = .ok (.ireturn, 1) := by decide +kernel
theorem dX1_init_0 : decode cX1_init 0 = .ok (.aload_n 0, 1) := by decide +kernel
theorem dX1_init_1 : decode cX1_init 1 = .ok (.invokespecial 3, 3) := by decide +kernel
theorem dX1_init_4 : decode cX1_init 4 = .ok (.aload_n 0, 1) := by decide +kernel
theorem dX1_init_5 : decode cX1_init 5 = .ok (.bipush 10, 2) := by decide +kernel
theorem dX1_init_7 : decode cX1_init 7 = .ok (.newarray .int, 2) := by decide +kernel
theorem dX1_init_9 : decode cX1_init 9 = .ok (.putfield 11, 3) := by decide +kernel
theorem dX1_init_12 : decode cX1_init 12 = .ok (.aload_n 0, 1) := by decide +kernel
theorem dX1_init_13 : decode cX1_init 13 = .ok (.iconst 0, 1) := by decide +kernel
theorem dX1_init_14 : decode cX1_init 14 = .ok (.putfield 15, 3) := by decide +kernel
theorem dX1_init_17 : decode cX1_init 17 = .ok (.return_, 1) := by decide +kernel
theorem dX1_add_0 : decode cX1_add 0 = .ok (.aload_n 0, 1) := by decide +kernel
theorem dX1_add_1 : decode cX1_add 1 = .ok (.getfield 15, 3) := by decide +kernel
theorem dX1_add_4 : decode cX1_add 4 = .ok (.bipush 20, 2) := by decide +kernel
theorem dX1_add_6 : decode cX1_add 6 = .ok (.if_icmp .lt 5, 3) := by decide +kernel
theorem dX1_add_9 : decode cX1_add 9 = .ok (.iconst (-1), 1) := by decide +kernel
theorem dX1_add_10 : decode cX1_add 10 = .ok (.ireturn, 1) := by decide +kernel
theorem dX1_add_11 : decode cX1_add 11 = .ok (.iconst 0, 1) := by decide +kernel
theorem dX1_add_12 : decode cX1_add 12 = .ok (.istore_n 2, 1) := by decide +kernel
theorem dX1_add_13 : decode cX1_add 13 = .ok (.iload_n 1, 1) := by decide +kernel
theorem dX1_add_14 : decode cX1_add 14 = .ok (.istore_n 3, 1) := by decide +kernel
theorem dX1_add_15 : decode cX1_add 15 = .ok (.iload_n 3, 1) := by decide +kernel
theorem dX1_add_16 : decode cX1_add 16 = .ok (.bipush 10, 2) := by decide +kernel
theorem dX1_add_18 : decode cX1_add 18 = .ok (.if_icmp .ge 18, 3) := by decide +kernel
theorem dX1_add_21 : decode cX1_add 21 = .ok (.iload_n 2, 1) := by decide +kernel
theorem dX1_add_22 : decode cX1_add 22 = .ok (.aload_n 0, 1) := by decide +kernel
theorem dX1_add_23 : decode cX1_add 23 = .ok (.getfield 11, 3) := by decide +kernel
theorem dX1_add_26 : decode cX1_add 26 = .ok (.iload_n 3, 1) := by decide +kernel
theorem dX1_add_27 : decode cX1_add 27 = .ok (.iaload, 1) := by decide +kernel
theorem dX1_add_28 : decode cX1_add 28 = .ok (.iadd, 1) := by decide +kernel
theorem dX1_add_29 : decode cX1_add 29 = .ok (.istore_n 2, 1) := by decide +kernel
theorem dX1_add_30 : decode cX1_add 30 = .ok (.iinc 3 1, 3) := by decide +kernel
theorem dX1_add_33 : decode cX1_add 33 = .ok (.goto (-18), 3) := by decide +kernel
theorem dX1_add_36 : decode cX1_add 36 = .ok (.aload_n 0, 1) := by decide +kernel
theorem dX1_add_37 : decode cX1_add 37 = .ok (.getfield 11, 3) := by decide +kernel
theorem dX1_add_40 : decode cX1_add 40 = .ok (.iload_n 1, 1) := by decide +kernel
theorem dX1_add_41 : decode cX1_add 41 = .ok (.dup2, 1) := by decide +kernel
theorem dX1_add_42 : decode cX1_add 42 = .ok (.iaload, 1) := by decide +kernel
theorem dX1_add_43 : decode cX1_add 43 = .ok (.iconst 1, 1) := by decide +kernel
theorem dX1_add_44 : decode cX1_add 44 = .ok (.iadd, 1) := by decide +kernel
theorem dX1_add_45 : decode cX1_add 45 = .ok (.iastore, 1) := by decide +kernel
theorem dX1_add_46 : decode cX1_add 46 = .ok (.aload_n 0, 1) := by decide +kernel
theorem dX1_add_47 : decode cX1_add 47 = .ok (.dup, 1) := by decide +kernel
theorem dX1_add_48 : decode cX1_add 48 = .ok (.getfield 15, 3) := by decide +kernel
theorem dX1_add_51 : decode cX1_add 51 = .ok (.iconst 1, 1) := by decide +kernel
theorem dX1_add_52 : decode cX1_add 52 = .ok (.iadd, 1) := by decide +kernel
theorem dX1_add_53 : decode cX1_add 53 = .ok (.putfield 15, 3) := by decide +kernel
theorem dX1_add_56 : decode cX1_add 56 = .ok (.iload_n 2, 1) := by decide +kernel
theorem dX1_add_57 : decode cX1_add 57 = .ok (.ireturn, 1) := by decide +kernel
theorem dX1_letOneIn_0 : decode cX1_letOneIn 0 = .ok (.bipush 9, 2) := by decide +kernel
theorem dX1_letOneIn_2 : decode cX1_letOneIn 2 = .ok (.istore_n 1, 1) := by decide +kernel
theorem dX1_letOneIn_3 : decode cX1_letOneIn 3 = .ok (.iload_n 1, 1) := by decide +kernel
theorem dX1_letOneIn_4 : decode cX1_letOneIn 4 = .ok (.ifCond .lt 40, 3) := by decide +kernel
theorem dX1_letOneIn_7 : decode cX1_letOneIn 7 = .ok (.aload_n 0, 1) := by decide +kernel
theorem dX1_letOneIn_8 : decode cX1_letOneIn 8 = .ok (.getfield 11, 3) := by decide +kernel
theorem dX1_letOneIn_11 : decode cX1_letOneIn 11 = .ok (.iload_n 1, 1) := by decide +kernel
theorem dX1_letOneIn_12 : decode cX1_letOneIn 12 = .ok (.iaload, 1) := by decide +kernel
theorem dX1_letOneIn_13 : decode cX1_letOneIn 13 = .ok (.ifCond .le 25, 3) := by decide +kernel
theorem dX1_letOneIn_16 : decode cX1_letOneIn 16 = .ok (.aload_n 0, 1) := by decide +kernel
theorem dX1_letOneIn_17 : decode cX1_letOneIn 17 = .ok (.getfield 11, 3) := by decide +kernel
theorem dX1_letOneIn_20 : decode cX1_letOneIn 20 = .ok (.iload_n 1, 1) := by decide +kernel
theorem dX1_letOneIn_21 : decode cX1_letOneIn 21 = .ok (.dup2, 1) := by decide +kernel
theorem dX1_letOneIn_22 : decode cX1_letOneIn 22 = .ok (.iaload, 1) := by decide +kernel
theorem dX1_letOneIn_23 : decode cX1_letOneIn 23 = .ok (.iconst 1, 1) := by decide +kernel
theorem dX1_letOneIn_24 : decode cX1_letOneIn 24 = .ok (.isub, 1) := by decide +kernel
theorem dX1_letOneIn_25 : decode cX1_letOneIn 25 = .ok (.iastore, 1) := by decide +kernel
theorem dX1_letOneIn_26 : decode cX1_letOneIn 26 = .ok (.aload_n 0, 1) := by decide +kernel
theorem dX1_letOneIn_27 : decode cX1_letOneIn 27 = .ok (.dup, 1) := by decide +kernel
theorem dX1_letOneIn_28 : decode cX1_letOneIn 28 = .ok (.getfield 15, 3) := by decide +kernel
theorem dX1_letOneIn_31 : decode cX1_letOneIn 31 = .ok (.iconst 1, 1) := by decide +kernel
theorem dX1_letOneIn_32 : decode cX1_letOneIn 32 = .ok (.isub, 1) := by decide +kernel
theorem dX1_letOneIn_33 : decode cX1_letOneIn 33 = .ok (.putfield 15, 3) := by decide +kernel
theorem dX1_letOneIn_36 : decode cX1_letOneIn 36 = .ok (.iconst 1, 1) := by decide +kernel
theorem dX1_letOneIn_37 : decode cX1_letOneIn 37 = .ok (.ireturn, 1) := by decide +kernel
theorem dX1_letOneIn_38 : decode cX1_letOneIn 38 = .ok (.iinc 1 (-1), 3) := by decide +kernel
theorem dX1_letOneIn_41 : decode cX1_letOneIn 41 = .ok (.goto (-38), 3) := by decide +kernel
theorem dX1_letOneIn_44 : decode cX1_letOneIn 44 = .ok (.iconst 0, 1) := by decide +kernel
theorem dX1_letOneIn_45 : decode cX1_letOneIn 45 = .ok (.ireturn, 1) := by decide +kernel
set_option maxRecDepth 20000 in
theorem ggX2_init_X0_init : GoodIn wsX2_init wsX0_init := goodIn_r _ [35, 36, 2, 3, 37, 38, 39, 59, 60, 61] (by decide +kernel) (by decide +kernel)
set_option maxRecDepth 20000 in
theorem gX2_init_X0_init : GoodIn wsX2_init (wsX0_init) := ggX2_init_X0_init
set_option maxRecDepth 20000 in
theorem ggX2_init_X1_init : GoodIn wsX2_init wsX1_init := goodIn_r _ [42, 43, 2, 3, 16, 44, 45, 62, 63] (by decide +kernel) (by decide +kernel)
set_option maxRecDepth 20000 in
theorem gX2_init_X1_init : GoodIn wsX2_init (wsX1_init) := ggX2_init_X1_init
theorem dX2_init_0 : decode cX2_init 0 = .ok (.aload_n 0, 1) := by decide +kernel
theorem dX2_init_1 : decode cX2_init 1 = .ok (.invokespecial 1, 3) := by decide +kernel
theorem dX2_init_4 : decode cX2_init 4 = .ok (.iconst 1, 1) := by decide +kernel
theorem dX2_init_5 : decode cX2_init 5 = .ok (.bipush 40, 2) := by decide +kernel
theorem dX2_init_7 : decode cX2_init 7 = .ok (.iload_n 1, 1) := by decide +kernel
theorem dX2_init_8 : decode cX2_init 8 = .ok (.invokestatic 9, 3) := by decide +kernel
theorem dX2_init_11 : decode cX2_init 11 = .ok (.invokestatic 15, 3) := by decide +kernel
theorem dX2_init_14 : decode cX2_init 14 = .ok (.istore_n 2, 1) := by decide +kernel
theorem dX2_init_15 : decode cX2_init 15 = .ok (.aload_n 0, 1) := by decide +kernel
theorem dX2_init_16 : decode cX2_init 16 = .ok (.iload_n 2, 1) := by decide +kernel
theorem dX2_init_17 : decode cX2_init 17 = .ok (.putfield 18, 3) := by decide +kernel
theorem dX2_init_20 : decode cX2_init 20 = .ok (.aload_n 0, 1) := by decide +kernel
theorem dX2_init_21 : decode cX2_init 21 = .ok (.iload_n 2, 1) := by decide +kernel
theorem dX2_init_22 : decode cX2_init 22 = .ok (.newarray .double, 2) := by decide +kernel
theorem dX2_init_24 : decode cX2_init 24 = .ok (.putfield 22, 3) := by decide +kernel
theorem dX2_init_27 : decode cX2_init 27 = .ok (.aload_n 0, 1) := by decide +kernel
theorem dX2_init_28 : decode cX2_init 28 = .ok (.iload_n 2, 1) := by decide +kernel
theorem dX2_init_29 : decode cX2_init 29 = .ok (.newarray .boolean, 2) := by decide +kernel
theorem dX2_init_31 : decode cX2_init 31 = .ok (.putfield 26, 3) := by decide +kernel
theorem dX2_init_34 : decode cX2_init 34 = .ok (.aload_n 0, 1) := by decide +kernel
theorem dX2_init_35 : decode cX2_init 35 = .ok (.iload_n 2, 1) := by decide +kernel
theorem dX2_init_36 : decode cX2_init 36 = .ok (.newarray .int, 2) := by decide +kernel
theorem dX2_init_38 : decode cX2_init 38 = .ok (.putfield 30, 3) := by decide +kernel
theorem dX2_init_41 : decode cX2_init 41 = .ok (.aload_n 0, 1) := by decide +kernel
theorem dX2_init_42 : decode cX2_init 42 = .ok (.iload_n 2, 1) := by decide +kernel
theorem dX2_init_43 : decode cX2_init 43 = .ok (.newarray .int, 2) := by decide +kernel
theorem dX2_init_45 : decode cX2_init 45 = .ok (.putfield 34, 3) := by decide +kernel
theorem dX2_init_48 : decode cX2_init 48 = .ok (.aload_n 0, 1) := by decide +kernel
theorem dX2_init_49 : decode cX2_init 49 = .ok (.iload_n 2, 1) := by decide +kernel
theorem dX2_init_50 : decode cX2_init 50 = .ok (.newarray .int, 2) := by decide +kernel
theorem dX2_init_52 : decode cX2_init 52 = .ok (.putfield 37, 3) := by decide +kernel
theorem dX2_init_55 : decode cX2_init 55 = .ok (.aload_n 0, 1) := by decide +kernel
theorem dX2_init_56 : decode cX2_init 56 = .ok (.iload_n 2, 1) := by decide +kernel
theorem dX2_init_57 : decode cX2_init 57 = .ok (.newarray .int, 2) := by decide +kernel
theorem dX2_init_59 : decode cX2_init 59 = .ok (.putfield 40, 3) := by decide +kernel
theorem dX2_init_62 : decode cX2_init 62 = .ok (.aload_n 0, 1) := by decide +kernel
theorem dX2_init_63 : decode cX2_init 63 = .ok (.iconst 1, 1) := by decide +kernel
theorem dX2_init_64 : decode cX2_init 64 = .ok (.putfield 43, 3) := by decide +kernel
theorem dX2_init_67 : decode cX2_init 67 = .ok (.aload_n 0, 1) := by decide +kernel
theorem dX2_init_68 : decode cX2_init 68 = .ok (.new 46, 3) := by decide +kernel
theorem dX2_init_71 : decode cX2_init 71 = .ok (.dup, 1) := by decide +kernel
theorem dX2_init_72 : decode cX2_init 72 = .ok (.invokespecial 48, 3) := by decide +kernel
theorem dX2_init_75 : decode cX2_init 75 = .ok (.putfield 49, 3) := by decide +kernel
theorem dX2_init_78 : decode cX2_init 78 = .ok (.aload_n 0, 1) := by decide +kernel
theorem dX2_init_79 : decode cX2_init 79 = .ok (.new 53, 3) := by decide +kernel
theorem dX2_init_82 : decode cX2_init 82 = .ok (.dup, 1) := by decide +kernel
theorem dX2_init_83 : decode cX2_init 83 = .ok (.invokespecial 55, 3) := by decide +kernel
theorem dX2_init_86 : decode cX2_init 86 = .ok (.putfield 56, 3) := by decide +kernel
theorem dX2_init_89 : decode cX2_init 89 = .ok (.aload_n 0, 1) := by decide +kernel
theorem dX2_init_90 : decode cX2_init 90 = .ok (.iload_n 2, 1) := by decide +kernel
theorem dX2_init_91 : decode cX2_init 91 = .ok (.newarray .int, 2) := by decide +kernel
theorem dX2_init_93 : decode cX2_init 93 = .ok (.putfield 60, 3) := by decide +kernel
theorem dX2_init_96 : decode cX2_init 96 = .ok (.aload_n 0, 1) := by decide +kernel
theorem dX2_init_97 : decode cX2_init 97 = .ok (.lconst 0, 1) := by decide +kernel
theorem dX2_init_98 : decode cX2_init 98 = .ok (.putfield 63, 3) := by decide +kernel
theorem dX2_init_101 : decode cX2_init 101 = .ok (.aload_n 0, 1) := by decide +kernel
theorem dX2_init_102 : decode cX2_init 102 = .ok (.dconst 0, 1) := by decide +kernel
theorem dX2_init_103 : decode cX2_init 103 = .ok (.putfield 67, 3) := by decide +kernel
theorem dX2_init_106 : decode cX2_init 106 = .ok (.return_, 1) := by decide +kernel
set_option maxRecDepth 20000 in
theorem ggX2_value_X2_requireShare : GoodIn wsX2_value wsX2_requireShare := goodIn_ca (goodIn_r _ [11, 12, 13, 14, 15, 16, 17, 18, 19, 20, 21, 22, 23, 24, 25, 26, 27] (by decide +kernel) (by decide +kernel)) (goodIn_sub (fun _ h => List.mem_cons_of_mem _ (List.mem_append_right _ h)) (by decide +kernel))
set_option maxRecDepth 20000 in
theorem gX2_value_X2_requireShare : GoodIn wsX2_value (wsV RX2 71 RX2 yX2_requireShare wsX2_requireShare) := goodIn_app (goodIn_of _ (by decide +kernel)) ggX2_value_X2_requireShare
theorem dX2_value_0 : decode cX2_value 0 = .ok (.aload_n 0, 1) := by decide +kernel
theorem dX2_value_1 : decode cX2_value 1 = .ok (.iload_n 1, 1) := by decide +kernel
theorem dX2_value_2 : decode cX2_value 2 = .ok (.invokevirtual 71, 3) := by decide +kernel
theorem dX2_value_5 : decode cX2_value 5 = .ok (.dload_n 2, 1) := by decide +kernel
theorem dX2_value_6 : decode cX2_value 6 = .ok (.ldc2_w 75, 3) := by decide +kernel
theorem dX2_value_9 : decode cX2_value 9 = .ok (.dcmp .l, 1) := by decide +kernel
theorem dX2_value_10 : decode cX2_value 10 = .ok (.ifCond .lt 15, 3) := by decide +kernel
theorem dX2_value_13 : decode cX2_value 13 = .ok (.dload_n 2, 1) := by decide +kernel
theorem dX2_value_14 : decode cX2_value 14 = .ok (.ldc2_w 77, 3) := by decide +kernel
theorem dX2_value_17 : decode cX2_value 17 = .ok (.dcmp .g, 1) := by decide +kernel
theorem dX2_value_18 : decode cX2_value 18 = .ok (.ifCond .gt 7, 3) := by decide +kernel
theorem dX2_value_21 : decode cX2_value 21 = .ok (.iconst 1, 1) := by decide +kernel
theorem dX2_value_22 : decode cX2_value 22 = .ok (.goto 4, 3) := by decide +kernel
theorem dX2_value_25 : decode cX2_value 25 = .ok (.iconst 0, 1) := by decide +kernel
theorem dX2_value_26 : decode cX2_value 26 = .ok (.istore 4, 2) := by decide +kernel
theorem dX2_value_28 : decode cX2_value 28 = .ok (.iload 4, 2) := by decide +kernel
theorem dX2_value_30 : decode cX2_value 30 = .ok (.ifCond .ne 13, 3) := by decide +kernel
theorem dX2_value_33 : decode cX2_value 33 = .ok (.new 79, 3) := by decide +kernel
theorem dX2_value_36 : decode cX2_value 36 = .ok (.dup, 1) := by decide +kernel
theorem dX2_value_37 : decode cX2_value 37 = .ok (.ldc 81, 2) := by decide +kernel
theorem dX2_value_39 : decode cX2_value 39 = .ok (.invokespecial 83, 3) := by decide +kernel
theorem dX2_value_42 : decode cX2_value 42 = .ok (.athrow, 1) := by decide +kernel
theorem dX2_value_43 : decode cX2_value 43 = .ok (.dload_n 2, 1) := by decide +kernel
theorem dX2_value_44 : decode cX2_value 44 = .ok (.ldc2_w 86, 3) := by decide +kernel
theorem dX2_value_47 : decode cX2_value 47 = .ok (.dmul, 1) := by decide +kernel
theorem dX2_value_48 : decode cX2_value 48 = .ok (.d2i, 1) := by decide +kernel
theorem dX2_value_49 : decode cX2_value 49 = .ok (.istore 5, 2) := by decide +kernel
theorem dX2_value_51 : decode cX2_value 51 = .ok (.iload 5, 2) := by decide +kernel
theorem dX2_value_53 : decode cX2_value 53 = .ok (.i2d, 1) := by decide +kernel
theorem dX2_value_54 : decode cX2_value 54 = .ok (.ldc2_w 86, 3) := by decide +kernel
theorem dX2_value_57 : decode cX2_value 57 = .ok (.ddiv, 1) := by decide +kernel
theorem dX2_value_58 : decode cX2_value 58 = .ok (.dstore 6, 2) := by decide +kernel
theorem dX2_value_60 : decode cX2_value 60 = .ok (.aload_n 0, 1) := by decide +kernel
theorem dX2_value_61 : decode cX2_value 61 = .ok (.getfield 22, 3) := by decide +kernel
theorem dX2_value_64 : decode cX2_value 64 = .ok (.iload_n 1, 1) := by decide +kernel
theorem dX2_value_65 : decode cX2_value 65 = .ok (.daload, 1) := by decide +kernel
theorem dX2_value_66 : decode cX2_value 66 = .ok (.dload 6, 2) := by decide +kernel
theorem dX2_value_68 : decode cX2_value 68 = .ok (.dcmp .l, 1) := by decide +kernel
theorem dX2_value_69 : decode cX2_value 69 = .ok (.ifCond .eq 7, 3) := by decide +kernel
theorem dX2_value_72 : decode cX2_value 72 = .ok (.iconst 1, 1) := by decide +kernel
theorem dX2_value_73 : decode cX2_value 73 = .ok (.goto 4, 3) := by decide +kernel
theorem dX2_value_76 : decode cX2_value 76 = .ok (.iconst 0, 1) := by decide +kernel
theorem dX2_value_77 : decode cX2_value 77 = .ok (.istore 8, 2) := by decide +kernel
theorem dX2_value_79 : decode cX2_value 79 = .ok (.aload_n 0, 1) := by decide +kernel
theorem dX2_value_80 : decode cX2_value 80 = .ok (.getfield 22, 3) := by decide +kernel
theorem dX2_value_83 : decode cX2_value 83 = .ok (.iload_n 1, 1) := by decide +kernel
theorem dX2_value_84 : decode cX2_value 84 = .ok (.dload 6, 2) := by decide +kernel
theorem dX2_value_86 : decode cX2_value 86 = .ok (.dastore, 1) := by decide +kernel
theorem dX2_value_87 : decode cX2_value 87 = .ok (.iload 8, 2) := by decide +kernel
theorem dX2_value_89 : decode cX2_value 89 = .ok (.ireturn, 1) := by decide +kernel
set_option maxRecDepth 20000 in
theorem ggX2_touches_X2_requireShare : GoodIn wsX2_touches wsX2_requireShare := goodIn_ca (goodIn_r _ [8, 1, 2, 9, 25, 26, 27, 28, 29, 30, 31, 32, 33, 34, 35, 36, 37] (by decide +kernel) (by decide +kernel)) (goodIn_sub (fun _ h => List.mem_cons_of_mem _ (List.mem_append_right _ h)) (by decide +kernel))
set_option maxRecDepth 20000 in
theorem gX2_touches_X2_requireShare : GoodIn wsX2_touches (wsV RX2 71 RX2 yX2_requireShare wsX2_requireShare) := goodIn_app (goodIn_of _ (by decide +kernel)) ggX2_touches_X2_requireShare
set_option maxRecDepth 20000 in
theorem ggX2_touches_X2_sortIntoBatches : GoodIn wsX2_touches wsX2_sortIntoBatches := goodIn_r _ [13, 9, 14, 15, 3, 16, 17, 18, 19, 20, 21, 22, 23, 7, 24, 25, 26, 27, 28, 29, 30, 31, 32, 33, 34, 35, 36, 37] (by decide +kernel) (by decide +kernel)
set_option maxRecDepth 20000 in
theorem gX2_touches_X2_sortIntoBatches : GoodIn wsX2_touches (wsV RX2 93 RX2 yX2_sortIntoBatches wsX2_sortIntoBatches) := goodIn_app (goodIn_of _ (by decide +kernel)) ggX2_touches_X2_sortIntoBatches
theorem dX2_touches_0 : decode cX2_touches 0 = .ok (.aload_n 0, 1) := by decide +kernel
theorem dX2_touches_1 : decode cX2_touches 1 = .ok (.iload_n 1, 1) := by decide +kernel
theorem dX2_touches_2 : decode cX2_touches 2 = .ok (.invokevirtual 71, 3) := by decide +kernel
theorem dX2_touches_5 : decode cX2_touches 5 = .ok (.iload_n 2, 1) := by decide +kernel
theorem dX2_touches_6 : decode cX2_touches 6 = .ok (.ifCond .lt 9, 3) := by decide +kernel
theorem dX2_touches_9 : decode cX2_touches 9 = .ok (.iload_n 2, 1) := by decide +kernel
theorem dX2_touches_10 : decode cX2_touches 10 = .ok (.bipush 31, 2) := by decide +kernel
theorem dX2_touches_12 : decode cX2_touches 12 = .ok (.if_icmp .lt 13, 3) := by decide +kernel
theorem dX2_touches_15 : decode cX2_touches 15 = .ok (.new 88, 3) := by decide +kernel
theorem dX2_touches_18 : decode cX2_touches 18 = .ok (.dup, 1) := by decide +kernel
theorem dX2_touches_19 : decode cX2_touches 19 = .ok (.ldc 90, 2) := by decide +kernel
theorem dX2_touches_21 : decode cX2_touches 21 = .ok (.invokespecial 92, 3) := by decide +kernel
theorem dX2_touches_24 : decode cX2_touches 24 = .ok (.athrow, 1) := by decide +kernel
theorem dX2_touches_25 : decode cX2_touches 25 = .ok (.iconst 1, 1) := by decide +kernel
theorem dX2_touches_26 : decode cX2_touches 26 = .ok (.iload_n 2, 1) := by decide +kernel
theorem dX2_touches_27 : decode cX2_touches 27 = .ok (.ishl, 1) := by decide +kernel
theorem dX2_touches_28 : decode cX2_touches 28 = .ok (.istore_n 3, 1) := by decide +kernel
theorem dX2_touches_29 : decode cX2_touches 29 = .ok (.aload_n 0, 1) := by decide +kernel
theorem dX2_touches_30 : decode cX2_touches 30 = .ok (.getfield 30, 3) := by decide +kernel
theorem dX2_touches_33 : decode cX2_touches 33 = .ok (.iload_n 1, 1) := by decide +kernel
theorem dX2_touches_34 : decode cX2_touches 34 = .ok (.iaload, 1) := by decide +kernel
theorem dX2_touches_35 : decode cX2_touches 35 = .ok (.iload_n 3, 1) := by decide +kernel
theorem dX2_touches_36 : decode cX2_touches 36 = .ok (.iand, 1) := by decide +kernel
theorem dX2_touches_37 : decode cX2_touches 37 = .ok (.ifCond .eq 5, 3) := by decide +kernel
theorem dX2_touches_40 : decode cX2_touches 40 = .ok (.iconst 0, 1) := by decide +kernel
theorem dX2_touches_41 : decode cX2_touches 41 = .ok (.ireturn, 1) := by decide +kernel
theorem dX2_touches_42 : decode cX2_touches 42 = .ok (.aload_n 0, 1) := by decide +kernel
theorem dX2_touches_43 : decode cX2_touches 43 = .ok (.getfield 30, 3) := by decide +kernel
theorem dX2_touches_46 : decode cX2_touches 46 = .ok (.iload_n 1, 1) := by decide +kernel
theorem dX2_touches_47 : decode cX2_touches 47 = .ok (.dup2, 1) := by decide +kernel
theorem dX2_touches_48 : decode cX2_touches 48 = .ok (.iaload, 1) := by decide +kernel
theorem dX2_touches_49 : decode cX2_touches 49 = .ok (.iload_n 3, 1) := by decide +kernel
theorem dX2_touches_50 : decode cX2_touches 50 = .ok (.ior, 1) := by decide +kernel
theorem dX2_touches_51 : decode cX2_touches 51 = .ok (.iastore, 1) := by decide +kernel
theorem dX2_touches_52 : decode cX2_touches 52 = .ok (.aload_n 0, 1) := by decide +kernel
theorem dX2_touches_53 : decode cX2_touches 53 = .ok (.invokevirtual 93, 3) := by decide +kernel
theorem dX2_touches_56 : decode cX2_touches 56 = .ok (.iconst 1, 1) := by decide +kernel
theorem dX2_touches_57 : decode cX2_touches 57 = .ok (.ireturn, 1) := by decide +kernel
theorem dX2_batches_0 : decode cX2_batches 0 = .ok (.aload_n 0, 1) := by decide +kernel
theorem dX2_batches_1 : decode cX2_batches 1 = .ok (.getfield 43, 3) := by decide +kernel
theorem dX2_batches_4 : decode cX2_batches 4 = .ok (.ireturn, 1) := by decide +kernel
set_option maxRecDepth 20000 in
theorem ggX2_batch_X2_requireShare : GoodIn wsX2_batch wsX2_requireShare := goodIn_ca (goodIn_r _ [6, 7, 8, 9, 10, 11, 12, 13, 14, 15, 16, 17, 18, 19, 20, 21, 22] (by decide +kernel) (by decide +kernel)) (goodIn_sub (fun _ h => List.mem_cons_of_mem _ (List.mem_append_right _ h)) (by decide +kernel))
set_option maxRecDepth 20000 in
theorem gX2_batch_X2_requireShare : GoodIn wsX2_batch (wsV RX2 71 RX2 yX2_requireShare wsX2_requireShare) := goodIn_app (goodIn_of _ (by decide +kernel)) ggX2_batch_X2_requireShare
theorem dX2_batch_0 : decode cX2_batch 0 = .ok (.aload_n 0, 1) := by decide +kernel
theorem dX2_batch_1 : decode cX2_batch 1 = .ok (.iload_n 1, 1) := by decide +kernel
theorem dX2_batch_2 : decode cX2_batch 2 = .ok (.invokevirtual 71, 3) := by decide +kernel
theorem dX2_batch_5 : decode cX2_batch 5 = .ok (.aload_n 0, 1) := by decide +kernel
theorem dX2_batch_6 : decode cX2_batch 6 = .ok (.getfield 37, 3) := by decide +kernel
theorem dX2_batch_9 : decode cX2_batch 9 = .ok (.iload_n 1, 1) := by decide +kernel
theorem dX2_batch_10 : decode cX2_batch 10 = .ok (.iaload, 1) := by decide +kernel
theorem dX2_batch_11 : decode cX2_batch 11 = .ok (.ireturn, 1) := by decide +kernel
set_option maxRecDepth 20000 in
theorem ggX2_run_X0_gather : GoodIn wsX2_run wsX0_gather := goodIn_r _ [9, 10, 11, 12, 109, 110, 111] (by decide +kernel) (by decide +kernel)
set_option maxRecDepth 20000 in
theorem gX2_run_X0_gather : GoodIn wsX2_run (wsV RX2 98 RX0 yX0_gather wsX0_gather) := goodIn_app (goodIn_of _ (by decide +kernel)) ggX2_run_X0_gather
set_option maxRecDepth 20000 in
theorem ggX2_run_X2_forgetBegun : GoodIn wsX2_run wsX2_forgetBegun := goodIn_r _ [17, 18, 19, 96, 97, 98, 99, 100, 101, 102, 103, 104, 105, 106, 107, 108] (by decide +kernel) (by decide +kernel)
set_option maxRecDepth 20000 in
theorem gX2_run_X2_forgetBegun : GoodIn wsX2_run (wsV RX2 102 RX2 yX2_forgetBegun wsX2_forgetBegun) := goodIn_app (goodIn_of _ (by decide +kernel)) ggX2_run_X2_forgetBegun
set_option maxRecDepth 20000 in
theorem ggX2_run_X2_batchesAheadOfStop : GoodIn wsX2_run wsX2_batchesAheadOfStop := goodIn_r _ [23, 24, 18, 25, 26, 27, 28, 29, 30, 96, 97, 98, 99, 100, 101, 102, 103, 104, 105, 106, 107, 108] (by decide +kernel) (by decide +kernel)
set_option maxRecDepth 20000 in
theorem gX2_run_X2_batchesAheadOfStop : GoodIn wsX2_run (wsV RX2 105 RX2 yX2_batchesAheadOfStop wsX2_batchesAheadOfStop) := goodIn_app (goodIn_of _ (by decide +kernel)) ggX2_run_X2_batchesAheadOfStop
set_option maxRecDepth 20000 in
theorem ggX2_run_X2_doBatch : GoodIn wsX2_run wsX2_doBatch := goodIn_r _ [34, 18, 26, 35, 36, 37, 16, 38, 3, 19, 39, 40, 41, 42, 8, 43, 12, 44, 45, 46, 47, 48, 49, 11, 50, 51, 52, 53, 54, 55, 56, 57, 58, 59, 60, 61, 62, 63, 64, 65, 66, 67, 68, 69, 96, 97, 98, 99, 100, 101, 102, 103, 104, 105, 106, 107, 108, 109, 110, 111] (by decide +kernel) (by decide +kernel)
set_option maxRecDepth 20000 in
theorem gX2_run_X2_doBatch : GoodIn wsX2_run (wsV RX2 109 RX2 yX2_doBatch wsX2_doBatch) := goodIn_app (goodIn_of _ (by decide +kernel)) ggX2_run_X2_doBatch
set_option maxRecDepth 20000 in
theorem ggX2_run_X2_letActsIn : GoodIn wsX2_run wsX2_letActsIn := goodIn_r _ [73, 74, 39, 75, 76, 77, 78, 79, 80, 81, 96, 97, 98, 99, 100, 101, 102, 103, 104, 105, 106, 107, 108, 112, 113] (by decide +kernel) (by decide +kernel)
set_option maxRecDepth 20000 in
theorem gX2_run_X2_letActsIn : GoodIn wsX2_run (wsV RX2 113 RX2 yX2_letActsIn wsX2_letActsIn) := goodIn_app (goodIn_of _ (by decide +kernel)) ggX2_run_X2_letActsIn
set_option maxRecDepth 20000 in
theorem ggX2_run_X2_sumAheadOf : GoodIn wsX2_run wsX2_sumAheadOf := goodIn_r _ [85, 18, 26, 86, 87, 88, 16, 89, 90, 91, 96, 97, 98, 99, 100, 101, 102, 103, 104, 105, 106, 107, 108] (by decide +kernel) (by decide +kernel)
set_option maxRecDepth 20000 in
theorem gX2_run_X2_sumAheadOf : GoodIn wsX2_run (wsV RX2 116 RX2 yX2_sumAheadOf wsX2_sumAheadOf) := goodIn_app (goodIn_of _ (by decide +kernel)) ggX2_run_X2_sumAheadOf
set_option maxRecDepth 20000 in
theorem ggX2_run_X2_countAheadOf : GoodIn wsX2_run wsX2_countAheadOf := goodIn_r _ [95, 18, 26, 96, 97, 98, 99, 100, 101, 102, 103, 104, 105, 106, 107, 108] (by decide +kernel) (by decide +kernel)
set_option maxRecDepth 20000 in
theorem gX2_run_X2_countAheadOf : GoodIn wsX2_run (wsV RX2 120 RX2 yX2_countAheadOf wsX2_countAheadOf) := goodIn_app (goodIn_of _ (by decide +kernel)) ggX2_run_X2_countAheadOf
theorem dX2_run_0 : decode cX2_run 0 = .ok (.iload_n 1, 1) := by decide +kernel
theorem dX2_run_1 : decode cX2_run 1 = .ok (.iconst 1, 1) := by decide +kernel
theorem dX2_run_2 : decode cX2_run 2 = .ok (.if_icmp .lt 9, 3) := by decide +kernel
theorem dX2_run_5 : decode cX2_run 5 = .ok (.iload_n 1, 1) := by decide +kernel
theorem dX2_run_6 : decode cX2_run 6 = .ok (.bipush 16, 2) := by decide +kernel
theorem dX2_run_8 : decode cX2_run 8 = .ok (.if_icmp .le 13, 3) := by decide +kernel
theorem dX2_run_11 : decode cX2_run 11 = .ok (.new 79, 3) := by decide +kernel
theorem dX2_run_14 : decode cX2_run 14 = .ok (.dup, 1) := by decide +kernel
theorem dX2_run_15 : decode cX2_run 15 = .ok (.ldc 96, 2) := by decide +kernel
theorem dX2_run_17 : decode cX2_run 17 = .ok (.invokespecial 83, 3) := by decide +kernel
theorem dX2_run_20 : decode cX2_run 20 = .ok (.athrow, 1) := by decide +kernel
theorem dX2_run_21 : decode cX2_run 21 = .ok (.aload_n 0, 1) := by decide +kernel
theorem dX2_run_22 : decode cX2_run 22 = .ok (.getfield 49, 3) := by decide +kernel
theorem dX2_run_25 : decode cX2_run 25 = .ok (.iload_n 1, 1) := by decide +kernel
theorem dX2_run_26 : decode cX2_run 26 = .ok (.lload_n 2, 1) := by decide +kernel
theorem dX2_run_27 : decode cX2_run 27 = .ok (.invokevirtual 98, 3) := by decide +kernel
theorem dX2_run_30 : decode cX2_run 30 = .ok (.aload_n 0, 1) := by decide +kernel
theorem dX2_run_31 : decode cX2_run 31 = .ok (.invokevirtual 102, 3) := by decide +kernel
theorem dX2_run_34 : decode cX2_run 34 = .ok (.aload_n 0, 1) := by decide +kernel
theorem dX2_run_35 : decode cX2_run 35 = .ok (.invokevirtual 105, 3) := by decide +kernel
theorem dX2_run_38 : decode cX2_run 38 = .ok (.istore 4, 2) := by decide +kernel
theorem dX2_run_40 : decode cX2_run 40 = .ok (.iconst 0, 1) := by decide +kernel
theorem dX2_run_41 : decode cX2_run 41 = .ok (.istore 5, 2) := by decide +kernel
theorem dX2_run_43 : decode cX2_run 43 = .ok (.iload 5, 2) := by decide +kernel
theorem dX2_run_45 : decode cX2_run 45 = .ok (.iload 4, 2) := by decide +kernel
theorem dX2_run_47 : decode cX2_run 47 = .ok (.if_icmp .ge 20, 3) := by decide +kernel
theorem dX2_run_50 : decode cX2_run 50 = .ok (.aload_n 0, 1) := by decide +kernel
theorem dX2_run_51 : decode cX2_run 51 = .ok (.iload 5, 2) := by decide +kernel
theorem dX2_run_53 : decode cX2_run 53 = .ok (.invokevirtual 109, 3) := by decide +kernel
theorem dX2_run_56 : decode cX2_run 56 = .ok (.ifCond .ne 5, 3) := by decide +kernel
theorem dX2_run_59 : decode cX2_run 59 = .ok (.iconst (-1), 1) := by decide +kernel
theorem dX2_run_60 : decode cX2_run 60 = .ok (.ireturn, 1) := by decide +kernel
theorem dX2_run_61 : decode cX2_run 61 = .ok (.iinc 5 1, 3) := by decide +kernel
theorem dX2_run_64 : decode cX2_run 64 = .ok (.goto (-21), 3) := by decide +kernel
theorem dX2_run_67 : decode cX2_run 67 = .ok (.aload_n 0, 1) := by decide +kernel
theorem dX2_run_68 : decode cX2_run 68 = .ok (.iload 4, 2) := by decide +kernel
theorem dX2_run_70 : decode cX2_run 70 = .ok (.invokevirtual 113, 3) := by decide +kernel
theorem dX2_run_73 : decode cX2_run 73 = .ok (.aload_n 0, 1) := by decide +kernel
theorem dX2_run_74 : decode cX2_run 74 = .ok (.aload_n 0, 1) := by decide +kernel
theorem dX2_run_75 : decode cX2_run 75 = .ok (.iload 4, 2) := by decide +kernel
theorem dX2_run_77 : decode cX2_run 77 = .ok (.invokevirtual 116, 3) := by decide +kernel
theorem dX2_run_80 : decode cX2_run 80 = .ok (.putfield 67, 3) := by decide +kernel
theorem dX2_run_83 : decode cX2_run 83 = .ok (.aload_n 0, 1) := by decide +kernel
theorem dX2_run_84 : decode cX2_run 84 = .ok (.iload 4, 2) := by decide +kernel
theorem dX2_run_86 : decode cX2_run 86 = .ok (.invokevirtual 120, 3) := by decide +kernel
theorem dX2_run_89 : decode cX2_run 89 = .ok (.ireturn, 1) := by decide +kernel
theorem dX2_joined_0 : decode cX2_joined 0 = .ok (.aload_n 0, 1) := by decide +kernel
theorem dX2_joined_1 : decode cX2_joined 1 = .ok (.getfield 67, 3) := by decide +kernel
theorem dX2_joined_4 : decode cX2_joined 4 = .ok (.dreturn, 1) := by decide +kernel
set_option maxRecDepth 20000 in
theorem ggX2_plain_X2_sumAheadOf : GoodIn wsX2_plain wsX2_sumAheadOf := goodIn_r _ [6, 7, 8, 9, 10, 11, 5, 12, 13, 14, 15, 16, 17, 18, 19, 20, 21, 22, 23, 24, 25, 26, 27] (by decide +kernel) (by decide +kernel)
set_option maxRecDepth 20000 in
theorem gX2_plain_X2_sumAheadOf : GoodIn wsX2_plain (wsV RX2 116 RX2 yX2_sumAheadOf wsX2_sumAheadOf) := goodIn_app (goodIn_of _ (by decide +kernel)) ggX2_plain_X2_sumAheadOf
theorem dX2_plain_0 : decode cX2_plain 0 = .ok (.aload_n 0, 1) := by decide +kernel
theorem dX2_plain_1 : decode cX2_plain 1 = .ok (.aload_n 0, 1) := by decide +kernel
theorem dX2_plain_2 : decode cX2_plain 2 = .ok (.getfield 43, 3) := by decide +kernel
theorem dX2_plain_5 : decode cX2_plain 5 = .ok (.invokevirtual 116, 3) := by decide +kernel
theorem dX2_plain_8 : decode cX2_plain 8 = .ok (.dreturn, 1) := by decide +kernel
set_option maxRecDepth 20000 in
theorem ggX2_failAt_X2_requireShare : GoodIn wsX2_failAt wsX2_requireShare := goodIn_ca (goodIn_r _ [8, 1, 2, 9, 14, 15, 16, 17, 18, 19, 20, 21, 22, 23, 24, 25, 26] (by decide +kernel) (by decide +kernel)) (goodIn_sub (fun _ h => List.mem_cons_of_mem _ (List.mem_append_right _ h)) (by decide +kernel))
set_option maxRecDepth 20000 in
theorem gX2_failAt_X2_requireShare : GoodIn wsX2_failAt (wsV RX2 71 RX2 yX2_requireShare wsX2_requireShare) := goodIn_app (goodIn_of _ (by decide +kernel)) ggX2_failAt_X2_requireShare
set_option maxRecDepth 20000 in
theorem ggX2_failAt_X2_breaksAt : GoodIn wsX2_failAt wsX2_breaksAt := goodIn_r _ [13, 3, 14, 15, 16, 17, 18, 19, 20, 21, 22, 23, 24, 25, 26] (by decide +kernel) (by decide +kernel)
set_option maxRecDepth 20000 in
theorem gX2_failAt_X2_breaksAt : GoodIn wsX2_failAt (wsV RX2 126 RX2 yX2_breaksAt wsX2_breaksAt) := goodIn_app (goodIn_of _ (by decide +kernel)) ggX2_failAt_X2_breaksAt
theorem dX2_failAt_0 : decode cX2_failAt 0 = .ok (.iload_n 1, 1) := by decide +kernel
theorem dX2_failAt_1 : decode cX2_failAt 1 = .ok (.ifCond .lt 9, 3) := by decide +kernel
theorem dX2_failAt_4 : decode cX2_failAt 4 = .ok (.iload_n 1, 1) := by decide +kernel
theorem dX2_failAt_5 : decode cX2_failAt 5 = .ok (.bipush 16, 2) := by decide +kernel
theorem dX2_failAt_7 : decode cX2_failAt 7 = .ok (.if_icmp .lt 13, 3) := by decide +kernel
theorem dX2_failAt_10 : decode cX2_failAt 10 = .ok (.new 88, 3) := by decide +kernel
theorem dX2_failAt_13 : decode cX2_failAt 13 = .ok (.dup, 1) := by decide +kernel
theorem dX2_failAt_14 : decode cX2_failAt 14 = .ok (.ldc 124, 2) := by decide +kernel
theorem dX2_failAt_16 : decode cX2_failAt 16 = .ok (.invokespecial 92, 3) := by decide +kernel
theorem dX2_failAt_19 : decode cX2_failAt 19 = .ok (.athrow, 1) := by decide +kernel
theorem dX2_failAt_20 : decode cX2_failAt 20 = .ok (.aload_n 0, 1) := by decide +kernel
theorem dX2_failAt_21 : decode cX2_failAt 21 = .ok (.iload_n 2, 1) := by decide +kernel
theorem dX2_failAt_22 : decode cX2_failAt 22 = .ok (.invokevirtual 71, 3) := by decide +kernel
theorem dX2_failAt_25 : decode cX2_failAt 25 = .ok (.aload_n 0, 1) := by decide +kernel
theorem dX2_failAt_26 : decode cX2_failAt 26 = .ok (.iload_n 1, 1) := by decide +kernel
theorem dX2_failAt_27 : decode cX2_failAt 27 = .ok (.iload_n 2, 1) := by decide +kernel
theorem dX2_failAt_28 : decode cX2_failAt 28 = .ok (.invokevirtual 126, 3) := by decide +kernel
theorem dX2_failAt_31 : decode cX2_failAt 31 = .ok (.ifCond .ne 7, 3) := by decide +kernel
theorem dX2_failAt_34 : decode cX2_failAt 34 = .ok (.iconst 1, 1) := by decide +kernel
theorem dX2_failAt_35 : decode cX2_failAt 35 = .ok (.goto 4, 3) := by decide +kernel
theorem dX2_failAt_38 : decode cX2_failAt 38 = .ok (.iconst 0, 1) := by decide +kernel
theorem dX2_failAt_39 : decode cX2_failAt 39 = .ok (.istore_n 3, 1) := by decide +kernel
theorem dX2_failAt_40 : decode cX2_failAt 40 = .ok (.aload_n 0, 1) := by decide +kernel
theorem dX2_failAt_41 : decode cX2_failAt 41 = .ok (.getfield 34, 3) := by decide +kernel
theorem dX2_failAt_44 : decode cX2_failAt 44 = .ok (.iload_n 2, 1) := by decide +kernel
theorem dX2_failAt_45 : decode cX2_failAt 45 = .ok (.dup2, 1) := by decide +kernel
theorem dX2_failAt_46 : decode cX2_failAt 46 = .ok (.iaload, 1) := by decide +kernel
theorem dX2_failAt_47 : decode cX2_failAt 47 = .ok (.iconst 1, 1) := by decide +kernel
theorem dX2_failAt_48 : decode cX2_failAt 48 = .ok (.iload_n 1, 1) := by decide +kernel
theorem dX2_failAt_49 : decode cX2_failAt 49 = .ok (.ishl, 1) := by decide +kernel
theorem dX2_failAt_50 : decode cX2_failAt 50 = .ok (.ior, 1) := by decide +kernel
theorem dX2_failAt_51 : decode cX2_failAt 51 = .ok (.iastore, 1) := by decide +kernel
theorem dX2_failAt_52 : decode cX2_failAt 52 = .ok (.iload_n 3, 1) := by decide +kernel
theorem dX2_failAt_53 : decode cX2_failAt 53 = .ok (.ireturn, 1) := by decide +kernel
set_option maxRecDepth 20000 in
theorem ggX2_times_X2_requireShare : GoodIn wsX2_times wsX2_requireShare := goodIn_ca (goodIn_r _ [6, 7, 8, 9, 10, 11, 12, 13, 14, 15, 16, 17, 18, 19, 20, 21, 22] (by decide +kernel) (by decide +kernel)) (goodIn_sub (fun _ h => List.mem_cons_of_mem _ (List.mem_append_right _ h)) (by decide +kernel))
set_option maxRecDepth 20000 in
theorem gX2_times_X2_requireShare : GoodIn wsX2_times (wsV RX2 71 RX2 yX2_requireShare wsX2_requireShare) := goodIn_app (goodIn_of _ (by decide +kernel)) ggX2_times_X2_requireShare
theorem dX2_times_0 : decode cX2_times 0 = .ok (.aload_n 0, 1) := by decide +kernel
theorem dX2_times_1 : decode cX2_times 1 = .ok (.iload_n 1, 1) := by decide +kernel
theorem dX2_times_2 : decode cX2_times 2 = .ok (.invokevirtual 71, 3) := by decide +kernel
theorem dX2_times_5 : decode cX2_times 5 = .ok (.aload_n 0, 1) := by decide +kernel
theorem dX2_times_6 : decode cX2_times 6 = .ok (.getfield 60, 3) := by decide +kernel
theorem dX2_times_9 : decode cX2_times 9 = .ok (.iload_n 1, 1) := by decide +kernel
theorem dX2_times_10 : decode cX2_times 10 = .ok (.iaload, 1) := by decide +kernel
theorem dX2_times_11 : decode cX2_times 11 = .ok (.ireturn, 1) := by decide +kernel
set_option maxRecDepth 20000 in
theorem ggX2_act_X1_add : GoodIn wsX2_act wsX1_add := goodIn_r _ [8, 9, 10, 24, 25] (by decide +kernel) (by decide +kernel)
set_option maxRecDepth 20000 in
theorem gX2_act_X1_add : GoodIn wsX2_act (wsV RX2 132 RX1 yX1_add wsX1_add) := goodIn_app (goodIn_of _ (by decide +kernel)) ggX2_act_X1_add
theorem dX2_act_0 : decode cX2_act 0 = .ok (.iload_n 1, 1) := by decide +kernel
theorem dX2_act_1 : decode cX2_act 1 = .ok (.ifCond .lt 9, 3) := by decide +kernel
theorem dX2_act_4 : decode cX2_act 4 = .ok (.iload_n 1, 1) := by decide +kernel
theorem dX2_act_5 : decode cX2_act 5 = .ok (.bipush 10, 2) := by decide +kernel
theorem dX2_act_7 : decode cX2_act 7 = .ok (.if_icmp .lt 13, 3) := by decide +kernel
theorem dX2_act_10 : decode cX2_act 10 = .ok (.new 79, 3) := by decide +kernel
theorem dX2_act_13 : decode cX2_act 13 = .ok (.dup, 1) := by decide +kernel
theorem dX2_act_14 : decode cX2_act 14 = .ok (.ldc 130, 2) := by decide +kernel
theorem dX2_act_16 : decode cX2_act 16 = .ok (.invokespecial 83, 3) := by decide +kernel
theorem dX2_act_19 : decode cX2_act 19 = .ok (.athrow, 1) := by decide +kernel
theorem dX2_act_20 : decode cX2_act 20 = .ok (.aload_n 0, 1) := by decide +kernel
theorem dX2_act_21 : decode cX2_act 21 = .ok (.getfield 56, 3) := by decide +kernel
theorem dX2_act_24 : decode cX2_act 24 = .ok (.iload_n 1, 1) := by decide +kernel
theorem dX2_act_25 : decode cX2_act 25 = .ok (.invokevirtual 132, 3) := by decide +kernel
theorem dX2_act_28 : decode cX2_act 28 = .ok (.ireturn, 1) := by decide +kernel
theorem dX2_work_0 : decode cX2_work 0 = .ok (.aload_n 0, 1) := by decide +kernel
theorem dX2_work_1 : decode cX2_work 1 = .ok (.getfield 63, 3) := by decide +kernel
theorem dX2_work_4 : decode cX2_work 4 = .ok (.lreturn, 1) := by decide +kernel
set_option maxRecDepth 20000 in
theorem ggX2_stop_X2_requireShare : GoodIn wsX2_stop wsX2_requireShare := goodIn_ca (goodIn_r _ [6, 7, 8, 9, 10, 11, 12, 13, 14, 15, 16, 17, 18, 19, 20, 21, 22] (by decide +kernel) (by decide +kernel)) (goodIn_sub (fun _ h => List.mem_cons_of_mem _ (List.mem_append_right _ h)) (by decide +kernel))
set_option maxRecDepth 20000 in
theorem gX2_stop_X2_requireShare : GoodIn wsX2_stop (wsV RX2 71 RX2 yX2_requireShare wsX2_requireShare) := goodIn_app (goodIn_of _ (by decide +kernel)) ggX2_stop_X2_requireShare
theorem dX2_stop_0 : decode cX2_stop 0 = .ok (.aload_n 0, 1) := by decide +kernel
theorem dX2_stop_1 : decode cX2_stop 1 = .ok (.iload_n 1, 1) := by decide +kernel
theorem dX2_stop_2 : decode cX2_stop 2 = .ok (.invokevirtual 71, 3) := by decide +kernel
theorem dX2_stop_5 : decode cX2_stop 5 = .ok (.aload_n 0, 1) := by decide +kernel
theorem dX2_stop_6 : decode cX2_stop 6 = .ok (.getfield 26, 3) := by decide +kernel
theorem dX2_stop_9 : decode cX2_stop 9 = .ok (.iload_n 1, 1) := by decide +kernel
theorem dX2_stop_10 : decode cX2_stop 10 = .ok (.aload_n 0, 1) := by decide +kernel
theorem dX2_stop_11 : decode cX2_stop 11 = .ok (.getfield 26, 3) := by decide +kernel
theorem dX2_stop_14 : decode cX2_stop 14 = .ok (.iload_n 1, 1) := by decide +kernel
theorem dX2_stop_15 : decode cX2_stop 15 = .ok (.baload, 1) := by decide +kernel
theorem dX2_stop_16 : decode cX2_stop 16 = .ok (.ifCond .ne 7, 3) := by decide +kernel
theorem dX2_stop_19 : decode cX2_stop 19 = .ok (.iconst 1, 1) := by decide +kernel
theorem dX2_stop_20 : decode cX2_stop 20 = .ok (.goto 4, 3) := by decide +kernel
theorem dX2_stop_23 : decode cX2_stop 23 = .ok (.iconst 0, 1) := by decide +kernel
theorem dX2_stop_24 : decode cX2_stop 24 = .ok (.bastore, 1) := by decide +kernel
theorem dX2_stop_25 : decode cX2_stop 25 = .ok (.aload_n 0, 1) := by decide +kernel
theorem dX2_stop_26 : decode cX2_stop 26 = .ok (.getfield 26, 3) := by decide +kernel
theorem dX2_stop_29 : decode cX2_stop 29 = .ok (.iload_n 1, 1) := by decide +kernel
theorem dX2_stop_30 : decode cX2_stop 30 = .ok (.baload, 1) := by decide +kernel
theorem dX2_stop_31 : decode cX2_stop 31 = .ok (.ireturn, 1) := by decide +kernel
set_option maxRecDepth 20000 in
theorem ggX2_broken_X0_brokenCount : GoodIn wsX2_broken wsX0_brokenCount := goodIn_r _ [6, 7, 8, 9, 10, 5, 11, 12, 13, 14, 15, 16, 17, 18, 19, 33, 34, 35] (by decide +kernel) (by decide +kernel)
set_option maxRecDepth 20000 in
theorem gX2_broken_X0_brokenCount : GoodIn wsX2_broken (wsV RX2 135 RX0 yX0_brokenCount wsX0_brokenCount) := goodIn_app (goodIn_of _ (by decide +kernel)) ggX2_broken_X0_brokenCount
theorem dX2_broken_0 : decode cX2_broken 0 = .ok (.aload_n 0, 1) := by decide +kernel
theorem dX2_broken_1 : decode cX2_broken 1 = .ok (.getfield 49, 3) := by decide +kernel
theorem dX2_broken_4 : decode cX2_broken 4 = .ok (.invokevirtual 135, 3) := by decide +kernel
theorem dX2_broken_7 : decode cX2_broken 7 = .ok (.ireturn, 1) := by decide +kernel
set_option maxRecDepth 20000 in
theorem ggX2_live_X0_liveCount : GoodIn wsX2_live wsX0_liveCount := goodIn_r _ [6, 7, 8, 9, 10, 11, 12, 13, 14, 28, 29, 30] (by decide +kernel) (by decide +kernel)
set_option maxRecDepth 20000 in
theorem gX2_live_X0_liveCount : GoodIn wsX2_live (wsV RX2 138 RX0 yX0_liveCount wsX0_liveCount) := goodIn_app (goodIn_of _ (by decide +kernel)) ggX2_live_X0_liveCount
theorem dX2_live_0 : decode cX2_live 0 = .ok (.aload_n 0, 1) := by decide +kernel
theorem dX2_live_1 : decode cX2_live 1 = .ok (.getfield 49, 3) := by decide +kernel
theorem dX2_live_4 : decode cX2_live 4 = .ok (.invokevirtual 138, 3) := by decide +kernel
theorem dX2_live_7 : decode cX2_live 7 = .ok (.ireturn, 1) := by decide +kernel
theorem dX2_requireShare_0 : decode cX2_requireShare 0 = .ok (.iload_n 1, 1) := by decide +kernel
theorem dX2_requireShare_1 : decode cX2_requireShare 1 = .ok (.ifCond .lt 11, 3) := by decide +kernel
theorem dX2_requireShare_4 : decode cX2_requireShare 4 = .ok (.iload_n 1, 1) := by decide +kernel
theorem dX2_requireShare_5 : decode cX2_requireShare 5 = .ok (.aload_n 0, 1) := by decide +kernel
theorem dX2_requireShare_6 : decode cX2_requireShare 6 = .ok (.getfield 18, 3) := by decide +kernel
theorem dX2_requireShare_9 : decode cX2_requireShare 9 = .ok (.if_icmp .lt 13, 3) := by decide +kernel
theorem dX2_requireShare_12 : decode cX2_requireShare 12 = .ok (.new 88, 3) := by decide +kernel
theorem dX2_requireShare_15 : decode cX2_requireShare 15 = .ok (.dup, 1) := by decide +kernel
theorem dX2_requireShare_16 : decode cX2_requireShare 16 = .ok (.ldc 141, 2) := by decide +kernel
theorem dX2_requireShare_18 : decode cX2_requireShare 18 = .ok (.invokespecial 92, 3) := by decide +kernel
theorem dX2_requireShare_21 : decode cX2_requireShare 21 = .ok (.athrow, 1) := by decide +kernel
theorem dX2_requireShare_22 : decode cX2_requireShare 22 = .ok (.return_, 1) := by decide +kernel
set_option maxRecDepth 20000 in
theorem ggX2_sortIntoBatches_X2_lowestBatchFor : GoodIn wsX2_sortIntoBatches wsX2_lowestBatchFor := goodIn_r _ [14, 2, 4, 15, 16, 17, 18, 19, 20, 21, 22, 23, 24, 25, 26, 27] (by decide +kernel) (by decide +kernel)
set_option maxRecDepth 20000 in
theorem gX2_sortIntoBatches_X2_lowestBatchFor : GoodIn wsX2_sortIntoBatches (wsV RX2 143 RX2 yX2_lowestBatchFor wsX2_lowestBatchFor) := goodIn_app (goodIn_of _ (by decide +kernel)) ggX2_sortIntoBatches_X2_lowestBatchFor
theorem dX2_sortIntoBatches_0 : decode cX2_sortIntoBatches 0 = .ok (.iconst 0, 1) := by decide +kernel
theorem dX2_sortIntoBatches_1 : decode cX2_sortIntoBatches 1 = .ok (.istore_n 1, 1) := by decide +kernel
theorem dX2_sortIntoBatches_2 : decode cX2_sortIntoBatches 2 = .ok (.iload_n 1, 1) := by decide +kernel
theorem dX2_sortIntoBatches_3 : decode cX2_sortIntoBatches 3 = .ok (.aload_n 0, 1) := by decide +kernel
theorem dX2_sortIntoBatches_4 : decode cX2_sortIntoBatches 4 = .ok (.getfield 18, 3) := by decide +kernel
theorem dX2_sortIntoBatches_7 : decode cX2_sortIntoBatches 7 = .ok (.if_icmp .ge 16, 3) := by decide +kernel
theorem dX2_sortIntoBatches_10 : decode cX2_sortIntoBatches 10 = .ok (.aload_n 0, 1) := by decide +kernel
theorem dX2_sortIntoBatches_11 : decode cX2_sortIntoBatches 11 = .ok (.getfield 40, 3) := by decide +kernel
theorem dX2_sortIntoBatches_14 : decode cX2_sortIntoBatches 14 = .ok (.iload_n 1, 1) := by decide +kernel
theorem dX2_sortIntoBatches_15 : decode cX2_sortIntoBatches 15 = .ok (.iconst 0, 1) := by decide +kernel
theorem dX2_sortIntoBatches_16 : decode cX2_sortIntoBatches 16 = .ok (.iastore, 1) := by decide +kernel
theorem dX2_sortIntoBatches_17 : decode cX2_sortIntoBatches 17 = .ok (.iinc 1 1, 3) := by decide +kernel
theorem dX2_sortIntoBatches_20 : decode cX2_sortIntoBatches 20 = .ok (.goto (-18), 3) := by decide +kernel
theorem dX2_sortIntoBatches_23 : decode cX2_sortIntoBatches 23 = .ok (.aload_n 0, 1) := by decide +kernel
theorem dX2_sortIntoBatches_24 : decode cX2_sortIntoBatches 24 = .ok (.iconst 0, 1) := by decide +kernel
theorem dX2_sortIntoBatches_25 : decode cX2_sortIntoBatches 25 = .ok (.putfield 43, 3) := by decide +kernel
theorem dX2_sortIntoBatches_28 : decode cX2_sortIntoBatches 28 = .ok (.iconst 0, 1) := by decide +kernel
theorem dX2_sortIntoBatches_29 : decode cX2_sortIntoBatches 29 = .ok (.istore_n 1, 1) := by decide +kernel
theorem dX2_sortIntoBatches_30 : decode cX2_sortIntoBatches 30 = .ok (.iload_n 1, 1) := by decide +kernel
theorem dX2_sortIntoBatches_31 : decode cX2_sortIntoBatches 31 = .ok (.aload_n 0, 1) := by decide +kernel
theorem dX2_sortIntoBatches_32 : decode cX2_sortIntoBatches 32 = .ok (.getfield 18, 3) := by decide +kernel
theorem dX2_sortIntoBatches_35 : decode cX2_sortIntoBatches 35 = .ok (.if_icmp .ge 51, 3) := by decide +kernel
theorem dX2_sortIntoBatches_38 : decode cX2_sortIntoBatches 38 = .ok (.aload_n 0, 1) := by decide +kernel
theorem dX2_sortIntoBatches_39 : decode cX2_sortIntoBatches 39 = .ok (.iload_n 1, 1) := by decide +kernel
theorem dX2_sortIntoBatches_40 : decode cX2_sortIntoBatches 40 = .ok (.invokevirtual 143, 3) := by decide +kernel
theorem dX2_sortIntoBatches_43 : decode cX2_sortIntoBatches 43 = .ok (.istore_n 2, 1) := by decide +kernel
theorem dX2_sortIntoBatches_44 : decode cX2_sortIntoBatches 44 = .ok (.aload_n 0, 1) := by decide +kernel
theorem dX2_sortIntoBatches_45 : decode cX2_sortIntoBatches 45 = .ok (.getfield 40, 3) := by decide +kernel
theorem dX2_sortIntoBatches_48 : decode cX2_sortIntoBatches 48 = .ok (.iload_n 2, 1) := by decide +kernel
theorem dX2_sortIntoBatches_49 : decode cX2_sortIntoBatches 49 = .ok (.dup2, 1) := by decide +kernel
theorem dX2_sortIntoBatches_50 : decode cX2_sortIntoBatches 50 = .ok (.iaload, 1) := by decide +kernel
theorem dX2_sortIntoBatches_51 : decode cX2_sortIntoBatches 51 = .ok (.aload_n 0, 1) := by decide +kernel
theorem dX2_sortIntoBatches_52 : decode cX2_sortIntoBatches 52 = .ok (.getfield 30, 3) := by decide +kernel
theorem dX2_sortIntoBatches_55 : decode cX2_sortIntoBatches 55 = .ok (.iload_n 1, 1) := by decide +kernel
theorem dX2_sortIntoBatches_56 : decode cX2_sortIntoBatches 56 = .ok (.iaload, 1) := by decide +kernel
theorem dX2_sortIntoBatches_57 : decode cX2_sortIntoBatches 57 = .ok (.ior, 1) := by decide +kernel
theorem dX2_sortIntoBatches_58 : decode cX2_sortIntoBatches 58 = .ok (.iastore, 1) := by decide +kernel
theorem dX2_sortIntoBatches_59 : decode cX2_sortIntoBatches 59 = .ok (.aload_n 0, 1) := by decide +kernel
theorem dX2_sortIntoBatches_60 : decode cX2_sortIntoBatches 60 = .ok (.getfield 37, 3) := by decide +kernel
theorem dX2_sortIntoBatches_63 : decode cX2_sortIntoBatches 63 = .ok (.iload_n 1, 1) := by decide +kernel
theorem dX2_sortIntoBatches_64 : decode cX2_sortIntoBatches 64 = .ok (.iload_n 2, 1) := by decide +kernel
theorem dX2_sortIntoBatches_65 : decode cX2_sortIntoBatches 65 = .ok (.iastore, 1) := by decide +kernel
theorem dX2_sortIntoBatches_66 : decode cX2_sortIntoBatches 66 = .ok (.aload_n 0, 1) := by decide +kernel
theorem dX2_sortIntoBatches_67 : decode cX2_sortIntoBatches 67 = .ok (.aload_n 0, 1) := by decide +kernel
theorem dX2_sortIntoBatches_68 : decode cX2_sortIntoBatches 68 = .ok (.getfield 43, 3) := by decide +kernel
theorem dX2_sortIntoBatches_71 : decode cX2_sortIntoBatches 71 = .ok (.iload_n 2, 1) := by decide +kernel
theorem dX2_sortIntoBatches_72 : decode cX2_sortIntoBatches 72 = .ok (.iconst 1, 1) := by decide +kernel
theorem dX2_sortIntoBatches_73 : decode cX2_sortIntoBatches 73 = .ok (.iadd, 1) := by decide +kernel
theorem dX2_sortIntoBatches_74 : decode cX2_sortIntoBatches 74 = .ok (.invokestatic 15, 3) := by decide +kernel
theorem dX2_sortIntoBatches_77 : decode cX2_sortIntoBatches 77 = .ok (.putfield 43, 3) := by decide +kernel
theorem dX2_sortIntoBatches_80 : decode cX2_sortIntoBatches 80 = .ok (.iinc 1 1, 3) := by decide +kernel
theorem dX2_sortIntoBatches_83 : decode cX2_sortIntoBatches 83 = .ok (.goto (-53), 3) := by decide +kernel
theorem dX2_sortIntoBatches_86 : decode cX2_sortIntoBatches 86 = .ok (.return_, 1) := by decide +kernel
theorem dX2_lowestBatchFor_0 : decode cX2_lowestBatchFor 0 = .ok (.iconst 0, 1) := by decide +kernel
theorem dX2_lowestBatchFor_1 : decode cX2_lowestBatchFor 1 = .ok (.istore_n 2, 1) := by decide +kernel
theorem dX2_lowestBatchFor_2 : decode cX2_lowestBatchFor 2 = .ok (.iload_n 2, 1) := by decide +kernel
theorem dX2_lowestBatchFor_3 : decode cX2_lowestBatchFor 3 = .ok (.iload_n 1, 1) := by decide +kernel
theorem dX2_lowestBatchFor_4 : decode cX2_lowestBatchFor 4 = .ok (.if_icmp .ge 27, 3) := by decide +kernel
theorem dX2_lowestBatchFor_7 : decode cX2_lowestBatchFor 7 = .ok (.aload_n 0, 1) := by decide +kernel
theorem dX2_lowestBatchFor_8 : decode cX2_lowestBatchFor 8 = .ok (.getfield 40, 3) := by decide +kernel
theorem dX2_lowestBatchFor_11 : decode cX2_lowestBatchFor 11 = .ok (.iload_n 2, 1) := by decide +kernel
theorem dX2_lowestBatchFor_12 : decode cX2_lowestBatchFor 12 = .ok (.iaload, 1) := by decide +kernel
theorem dX2_lowestBatchFor_13 : decode cX2_lowestBatchFor 13 = .ok (.aload_n 0, 1) := by decide +kernel
theorem dX2_lowestBatchFor_14 : decode cX2_lowestBatchFor 14 = .ok (.getfield 30, 3) := by decide +kernel
theorem dX2_lowestBatchFor_17 : decode cX2_lowestBatchFor 17 = .ok (.iload_n 1, 1) := by decide +kernel
theorem dX2_lowestBatchFor_18 : decode cX2_lowestBatchFor 18 = .ok (.iaload, 1) := by decide +kernel
theorem dX2_lowestBatchFor_19 : decode cX2_lowestBatchFor 19 = .ok (.iand, 1) := by decide +kernel
theorem dX2_lowestBatchFor_20 : decode cX2_lowestBatchFor 20 = .ok (.ifCond .ne 5, 3) := by decide +kernel
theorem dX2_lowestBatchFor_23 : decode cX2_lowestBatchFor 23 = .ok (.iload_n 2, 1) := by decide +kernel
theorem dX2_lowestBatchFor_24 : decode cX2_lowestBatchFor 24 = .ok (.ireturn, 1) := by decide +kernel
theorem dX2_lowestBatchFor_25 : decode cX2_lowestBatchFor 25 = .ok (.iinc 2 1, 3) := by decide +kernel
theorem dX2_lowestBatchFor_28 : decode cX2_lowestBatchFor 28 = .ok (.goto (-26), 3) := by decide +kernel
theorem dX2_lowestBatchFor_31 : decode cX2_lowestBatchFor 31 = .ok (.iload_n 1, 1) := by decide +kernel
theorem dX2_lowestBatchFor_32 : decode cX2_lowestBatchFor 32 = .ok (.ireturn, 1) := by decide +kernel
theorem dX2_forgetBegun_0 : decode cX2_forgetBegun 0 = .ok (.iconst 0, 1) := by decide +kernel
theorem dX2_forgetBegun_1 : decode cX2_forgetBegun 1 = .ok (.istore_n 1, 1) := by decide +kernel
theorem dX2_forgetBegun_2 : decode cX2_forgetBegun 2 = .ok (.iload_n 1, 1) := by decide +kernel
theorem dX2_forgetBegun_3 : decode cX2_forgetBegun 3 = .ok (.aload_n 0, 1) := by decide +kernel
theorem dX2_forgetBegun_4 : decode cX2_forgetBegun 4 = .ok (.getfield 18, 3) := by decide +kernel
theorem dX2_forgetBegun_7 : decode cX2_forgetBegun 7 = .ok (.if_icmp .ge 16, 3) := by decide +kernel
theorem dX2_forgetBegun_10 : decode cX2_forgetBegun 10 = .ok (.aload_n 0, 1) := by decide +kernel
theorem dX2_forgetBegun_11 : decode cX2_forgetBegun 11 = .ok (.getfield 60, 3) := by decide +kernel
theorem dX2_forgetBegun_14 : decode cX2_forgetBegun 14 = .ok (.iload_n 1, 1) := by decide +kernel
theorem dX2_forgetBegun_15 : decode cX2_forgetBegun 15 = .ok (.iconst 0, 1) := by decide +kernel
theorem dX2_forgetBegun_16 : decode cX2_forgetBegun 16 = .ok (.iastore, 1) := by decide +kernel
theorem dX2_forgetBegun_17 : decode cX2_forgetBegun 17 = .ok (.iinc 1 1, 3) := by decide +kernel
theorem dX2_forgetBegun_20 : decode cX2_forgetBegun 20 = .ok (.goto (-18), 3) := by decide +kernel
theorem dX2_forgetBegun_23 : decode cX2_forgetBegun 23 = .ok (.return_, 1) := by decide +kernel
theorem dX2_batchesAheadOfStop_0 : decode cX2_batchesAheadOfStop 0 = .ok (.aload_n 0, 1) := by decide +kernel
theorem dX2_batchesAheadOfStop_1 : decode cX2_batchesAheadOfStop 1 = .ok (.getfield 43, 3) := by decide +kernel
theorem dX2_batchesAheadOfStop_4 : decode cX2_batchesAheadOfStop 4 = .ok (.istore_n 1, 1) := by decide +kernel
theorem dX2_batchesAheadOfStop_5 : decode cX2_batchesAheadOfStop 5 = .ok (.iconst 0, 1) := by decide +kernel
theorem dX2_batchesAheadOfStop_6 : decode cX2_batchesAheadOfStop 6 = .ok (.istore_n 2, 1) := by decide +kernel
theorem dX2_batchesAheadOfStop_7 : decode cX2_batchesAheadOfStop 7 = .ok (.iload_n 2, 1) := by decide +kernel
theorem dX2_batchesAheadOfStop_8 : decode cX2_batchesAheadOfStop 8 = .ok (.aload_n 0, 1) := by decide +kernel
theorem dX2_batchesAheadOfStop_9 : decode cX2_batchesAheadOfStop 9 = .ok (.getfield 18, 3) := by decide +kernel
theorem dX2_batchesAheadOfStop_12 : decode cX2_batchesAheadOfStop 12 = .ok (.if_icmp .ge 29, 3) := by decide +kernel
theorem dX2_batchesAheadOfStop_15 : decode cX2_batchesAheadOfStop 15 = .ok (.aload_n 0, 1) := by decide +kernel
theorem dX2_batchesAheadOfStop_16 : decode cX2_batchesAheadOfStop 16 = .ok (.getfield 26, 3) := by decide +kernel
theorem dX2_batchesAheadOfStop_19 : decode cX2_batchesAheadOfStop 19 = .ok (.iload_n 2, 1) := by decide +kernel
theorem dX2_batchesAheadOfStop_20 : decode cX2_batchesAheadOfStop 20 = .ok (.baload, 1) := by decide +kernel
theorem dX2_batchesAheadOfStop_21 : decode cX2_batchesAheadOfStop 21 = .ok (.ifCond .eq 14, 3) := by decide +kernel
theorem dX2_batchesAheadOfStop_24 : decode cX2_batchesAheadOfStop 24 = .ok (.iload_n 1, 1) := by decide +kernel
theorem dX2_batchesAheadOfStop_25 : decode cX2_batchesAheadOfStop 25 = .ok (.aload_n 0, 1) := by decide +kernel
theorem dX2_batchesAheadOfStop_26 : decode cX2_batchesAheadOfStop 26 = .ok (.getfield 37, 3) := by decide +kernel
theorem dX2_batchesAheadOfStop_29 : decode cX2_batchesAheadOfStop 29 = .ok (.iload_n 2, 1) := by decide +kernel
theorem dX2_batchesAheadOfStop_30 : decode cX2_batchesAheadOfStop 30 = .ok (.iaload, 1) := by decide +kernel
theorem dX2_batchesAheadOfStop_31 : decode cX2_batchesAheadOfStop 31 = .ok (.invokestatic 9, 3) := by decide +kernel
theorem dX2_batchesAheadOfStop_34 : decode cX2_batchesAheadOfStop 34 = .ok (.istore_n 1, 1) := by decide +kernel
theorem dX2_batchesAheadOfStop_35 : decode cX2_batchesAheadOfStop 35 = .ok (.iinc 2 1, 3) := by decide +kernel
theorem dX2_batchesAheadOfStop_38 : decode cX2_batchesAheadOfStop 38 = .ok (.goto (-31), 3) := by decide +kernel
theorem dX2_batchesAheadOfStop_41 : decode cX2_batchesAheadOfStop 41 = .ok (.iload_n 1, 1) := by decide +kernel
theorem dX2_batchesAheadOfStop_42 : decode cX2_batchesAheadOfStop 42 = .ok (.ireturn, 1) := by decide +kernel
set_option maxRecDepth 20000 in
theorem ggX2_doBatch_X2_doShare : GoodIn wsX2_doBatch wsX2_doShare := goodIn_r _ [7, 8, 9, 10, 11, 12, 13, 14, 15, 16, 17, 18, 19, 20, 21, 22, 23, 24, 25, 26, 27, 28, 29, 30, 31, 32, 33, 34, 35, 36, 37, 6, 38, 39, 40, 41, 42, 43, 44, 45, 46, 47, 48, 49, 50, 51, 52, 53, 54, 55, 56, 57, 58, 59] (by decide +kernel) (by decide +kernel)
set_option maxRecDepth 20000 in
theorem gX2_doBatch_X2_doShare : GoodIn wsX2_doBatch (wsV RX2 146 RX2 yX2_doShare wsX2_doShare) := goodIn_app (goodIn_of _ (by decide +kernel)) ggX2_doBatch_X2_doShare
theorem dX2_doBatch_0 : decode cX2_doBatch 0 = .ok (.iconst 0, 1) := by decide +kernel
theorem dX2_doBatch_1 : decode cX2_doBatch 1 = .ok (.istore_n 2, 1) := by decide +kernel
theorem dX2_doBatch_2 : decode cX2_doBatch 2 = .ok (.iload_n 2, 1) := by decide +kernel
theorem dX2_doBatch_3 : decode cX2_doBatch 3 = .ok (.aload_n 0, 1) := by decide +kernel
theorem dX2_doBatch_4 : decode cX2_doBatch 4 = .ok (.getfield 18, 3) := by decide +kernel
theorem dX2_doBatch_7 : decode cX2_doBatch 7 = .ok (.if_icmp .ge 29, 3) := by decide +kernel
theorem dX2_doBatch_10 : decode cX2_doBatch 10 = .ok (.aload_n 0, 1) := by decide +kernel
theorem dX2_doBatch_11 : decode cX2_doBatch 11 = .ok (.getfield 37, 3) := by decide +kernel
theorem dX2_doBatch_14 : decode cX2_doBatch 14 = .ok (.iload_n 2, 1) := by decide +kernel
theorem dX2_doBatch_15 : decode cX2_doBatch 15 = .ok (.iaload, 1) := by decide +kernel
theorem dX2_doBatch_16 : decode cX2_doBatch 16 = .ok (.iload_n 1, 1) := by decide +kernel
theorem dX2_doBatch_17 : decode cX2_doBatch 17 = .ok (.if_icmp .ne 13, 3) := by decide +kernel
theorem dX2_doBatch_20 : decode cX2_doBatch 20 = .ok (.aload_n 0, 1) := by decide +kernel
theorem dX2_doBatch_21 : decode cX2_doBatch 21 = .ok (.iload_n 2, 1) := by decide +kernel
theorem dX2_doBatch_22 : decode cX2_doBatch 22 = .ok (.invokevirtual 146, 3) := by decide +kernel
theorem dX2_doBatch_25 : decode cX2_doBatch 25 = .ok (.ifCond .ne 5, 3) := by decide +kernel
theorem dX2_doBatch_28 : decode cX2_doBatch 28 = .ok (.iconst 0, 1) := by decide +kernel
theorem dX2_doBatch_29 : decode cX2_doBatch 29 = .ok (.ireturn, 1) := by decide +kernel
theorem dX2_doBatch_30 : decode cX2_doBatch 30 = .ok (.iinc 2 1, 3) := by decide +kernel
theorem dX2_doBatch_33 : decode cX2_doBatch 33 = .ok (.goto (-31), 3) := by decide +kernel
theorem dX2_doBatch_36 : decode cX2_doBatch 36 = .ok (.iconst 1, 1) := by decide +kernel
theorem dX2_doBatch_37 : decode cX2_doBatch 37 = .ok (.ireturn, 1) := by decide +kernel
set_option maxRecDepth 20000 in
theorem ggX2_doShare_X0_draw : GoodIn wsX2_doShare wsX0_draw := goodIn_r _ [8, 9, 10, 11, 12, 13, 14, 7, 15, 16, 17, 18, 19, 20, 21, 22, 23, 24, 25, 26, 27, 51, 52, 53] (by decide +kernel) (by decide +kernel)
set_option maxRecDepth 20000 in
theorem gX2_doShare_X0_draw : GoodIn wsX2_doShare (wsV RX2 149 RX0 yX0_draw wsX0_draw) := goodIn_app (goodIn_of _ (by decide +kernel)) ggX2_doShare_X0_draw
set_option maxRecDepth 20000 in
theorem ggX2_doShare_X2_breaksAt : GoodIn wsX2_doShare wsX2_breaksAt := goodIn_r _ [32, 33, 38, 39, 40, 41, 42, 43, 44, 45, 46, 47, 48, 49, 50] (by decide +kernel) (by decide +kernel)
set_option maxRecDepth 20000 in
theorem gX2_doShare_X2_breaksAt : GoodIn wsX2_doShare (wsV RX2 126 RX2 yX2_breaksAt wsX2_breaksAt) := goodIn_app (goodIn_of _ (by decide +kernel)) ggX2_doShare_X2_breaksAt
set_option maxRecDepth 20000 in
theorem ggX2_doShare_X0_dismiss : GoodIn wsX2_doShare wsX0_dismiss := goodIn_r _ [37, 16, 51, 52, 53] (by decide +kernel) (by decide +kernel)
set_option maxRecDepth 20000 in
theorem gX2_doShare_X0_dismiss : GoodIn wsX2_doShare (wsV RX2 152 RX0 yX0_dismiss wsX0_dismiss) := goodIn_app (goodIn_of _ (by decide +kernel)) ggX2_doShare_X0_dismiss
theorem dX2_doShare_0 : decode cX2_doShare 0 = .ok (.iconst 0, 1) := by decide +kernel
theorem dX2_doShare_1 : decode cX2_doShare 1 = .ok (.istore_n 2, 1) := by decide +kernel
theorem dX2_doShare_2 : decode cX2_doShare 2 = .ok (.iload_n 2, 1) := by decide +kernel
theorem dX2_doShare_3 : decode cX2_doShare 3 = .ok (.bipush 16, 2) := by decide +kernel
theorem dX2_doShare_5 : decode cX2_doShare 5 = .ok (.if_icmp .ge 63, 3) := by decide +kernel
theorem dX2_doShare_8 : decode cX2_doShare 8 = .ok (.aload_n 0, 1) := by decide +kernel
theorem dX2_doShare_9 : decode cX2_doShare 9 = .ok (.getfield 49, 3) := by decide +kernel
theorem dX2_doShare_12 : decode cX2_doShare 12 = .ok (.invokevirtual 149, 3) := by decide +kernel
theorem dX2_doShare_15 : decode cX2_doShare 15 = .ok (.istore_n 3, 1) := by decide +kernel
theorem dX2_doShare_16 : decode cX2_doShare 16 = .ok (.iload_n 3, 1) := by decide +kernel
theorem dX2_doShare_17 : decode cX2_doShare 17 = .ok (.iconst (-1), 1) := by decide +kernel
theorem dX2_doShare_18 : decode cX2_doShare 18 = .ok (.if_icmp .ne 5, 3) := by decide +kernel
theorem dX2_doShare_21 : decode cX2_doShare 21 = .ok (.iconst 0, 1) := by decide +kernel
theorem dX2_doShare_22 : decode cX2_doShare 22 = .ok (.ireturn, 1) := by decide +kernel
theorem dX2_doShare_23 : decode cX2_doShare 23 = .ok (.aload_n 0, 1) := by decide +kernel
theorem dX2_doShare_24 : decode cX2_doShare 24 = .ok (.getfield 60, 3) := by decide +kernel
theorem dX2_doShare_27 : decode cX2_doShare 27 = .ok (.iload_n 1, 1) := by decide +kernel
theorem dX2_doShare_28 : decode cX2_doShare 28 = .ok (.dup2, 1) := by decide +kernel
theorem dX2_doShare_29 : decode cX2_doShare 29 = .ok (.iaload, 1) := by decide +kernel
theorem dX2_doShare_30 : decode cX2_doShare 30 = .ok (.iconst 1, 1) := by decide +kernel
theorem dX2_doShare_31 : decode cX2_doShare 31 = .ok (.iadd, 1) := by decide +kernel
theorem dX2_doShare_32 : decode cX2_doShare 32 = .ok (.iastore, 1) := by decide +kernel
theorem dX2_doShare_33 : decode cX2_doShare 33 = .ok (.aload_n 0, 1) := by decide +kernel
theorem dX2_doShare_34 : decode cX2_doShare 34 = .ok (.dup, 1) := by decide +kernel
theorem dX2_doShare_35 : decode cX2_doShare 35 = .ok (.getfield 63, 3) := by decide +kernel
theorem dX2_doShare_38 : decode cX2_doShare 38 = .ok (.lconst 1, 1) := by decide +kernel
theorem dX2_doShare_39 : decode cX2_doShare 39 = .ok (.ladd, 1) := by decide +kernel
theorem dX2_doShare_40 : decode cX2_doShare 40 = .ok (.putfield 63, 3) := by decide +kernel
theorem dX2_doShare_43 : decode cX2_doShare 43 = .ok (.aload_n 0, 1) := by decide +kernel
theorem dX2_doShare_44 : decode cX2_doShare 44 = .ok (.iload_n 3, 1) := by decide +kernel
theorem dX2_doShare_45 : decode cX2_doShare 45 = .ok (.iload_n 1, 1) := by decide +kernel
theorem dX2_doShare_46 : decode cX2_doShare 46 = .ok (.invokevirtual 126, 3) := by decide +kernel
theorem dX2_doShare_49 : decode cX2_doShare 49 = .ok (.ifCond .ne 5, 3) := by decide +kernel
theorem dX2_doShare_52 : decode cX2_doShare 52 = .ok (.iconst 1, 1) := by decide +kernel
theorem dX2_doShare_53 : decode cX2_doShare 53 = .ok (.ireturn, 1) := by decide +kernel
theorem dX2_doShare_54 : decode cX2_doShare 54 = .ok (.aload_n 0, 1) := by decide +kernel
theorem dX2_doShare_55 : decode cX2_doShare 55 = .ok (.getfield 49, 3) := by decide +kernel
theorem dX2_doShare_58 : decode cX2_doShare 58 = .ok (.iload_n 3, 1) := by decide +kernel
theorem dX2_doShare_59 : decode cX2_doShare 59 = .ok (.invokevirtual 152, 3) := by decide +kernel
theorem dX2_doShare_62 : decode cX2_doShare 62 = .ok (.iinc 2 1, 3) := by decide +kernel
theorem dX2_doShare_65 : decode cX2_doShare 65 = .ok (.goto (-63), 3) := by decide +kernel
theorem dX2_doShare_68 : decode cX2_doShare 68 = .ok (.iconst 0, 1) := by decide +kernel
theorem dX2_doShare_69 : decode cX2_doShare 69 = .ok (.ireturn, 1) := by decide +kernel
theorem dX2_breaksAt_0 : decode cX2_breaksAt 0 = .ok (.aload_n 0, 1) := by decide +kernel
theorem dX2_breaksAt_1 : decode cX2_breaksAt 1 = .ok (.getfield 34, 3) := by decide +kernel
theorem dX2_breaksAt_4 : decode cX2_breaksAt 4 = .ok (.iload_n 2, 1) := by decide +kernel
theorem dX2_breaksAt_5 : decode cX2_breaksAt 5 = .ok (.iaload, 1) := by decide +kernel
theorem dX2_breaksAt_6 : decode cX2_breaksAt 6 = .ok (.iconst 1, 1) := by decide +kernel
theorem dX2_breaksAt_7 : decode cX2_breaksAt 7 = .ok (.iload_n 1, 1) := by decide +kernel
theorem dX2_breaksAt_8 : decode cX2_breaksAt 8 = .ok (.ishl, 1) := by decide +kernel
theorem dX2_breaksAt_9 : decode cX2_breaksAt 9 = .ok (.iand, 1) := by decide +kernel
theorem dX2_breaksAt_10 : decode cX2_breaksAt 10 = .ok (.ifCond .eq 7, 3) := by decide +kernel
theorem dX2_breaksAt_13 : decode cX2_breaksAt 13 = .ok (.iconst 1, 1) := by decide +kernel
theorem dX2_breaksAt_14 : decode cX2_breaksAt 14 = .ok (.goto 4, 3) := by decide +kernel
theorem dX2_breaksAt_17 : decode cX2_breaksAt 17 = .ok (.iconst 0, 1) := by decide +kernel
theorem dX2_breaksAt_18 : decode cX2_breaksAt 18 = .ok (.ireturn, 1) := by decide +kernel
set_option maxRecDepth 20000 in
theorem ggX2_letActsIn_X1_letOneIn : GoodIn wsX2_letActsIn wsX1_letOneIn := goodIn_r _ [7, 8, 9, 23, 24] (by decide +kernel) (by decide +kernel)
set_option maxRecDepth 20000 in
theorem gX2_letActsIn_X1_letOneIn : GoodIn wsX2_letActsIn (wsV RX2 155 RX1 yX1_letOneIn wsX1_letOneIn) := goodIn_app (goodIn_of _ (by decide +kernel)) ggX2_letActsIn_X1_letOneIn
theorem dX2_letActsIn_0 : decode cX2_letActsIn 0 = .ok (.iconst 0, 1) := by decide +kernel
theorem dX2_letActsIn_1 : decode cX2_letActsIn 1 = .ok (.istore_n 2, 1) := by decide +kernel
theorem dX2_letActsIn_2 : decode cX2_letActsIn 2 = .ok (.iload_n 2, 1) := by decide +kernel
theorem dX2_letActsIn_3 : decode cX2_letActsIn 3 = .ok (.iload_n 1, 1) := by decide +kernel
theorem dX2_letActsIn_4 : decode cX2_letActsIn 4 = .ok (.if_icmp .ge 29, 3) := by decide +kernel
theorem dX2_letActsIn_7 : decode cX2_letActsIn 7 = .ok (.aload_n 0, 1) := by decide +kernel
theorem dX2_letActsIn_8 : decode cX2_letActsIn 8 = .ok (.getfield 56, 3) := by decide +kernel
theorem dX2_letActsIn_11 : decode cX2_letActsIn 11 = .ok (.invokevirtual 155, 3) := by decide +kernel
theorem dX2_letActsIn_14 : decode cX2_letActsIn 14 = .ok (.ifCond .eq 13, 3) := by decide +kernel
theorem dX2_letActsIn_17 : decode cX2_letActsIn 17 = .ok (.aload_n 0, 1) := by decide +kernel
theorem dX2_letActsIn_18 : decode cX2_letActsIn 18 = .ok (.dup, 1) := by decide +kernel
theorem dX2_letActsIn_19 : decode cX2_letActsIn 19 = .ok (.getfield 63, 3) := by decide +kernel
theorem dX2_letActsIn_22 : decode cX2_letActsIn 22 = .ok (.lconst 1, 1) := by decide +kernel
theorem dX2_letActsIn_23 : decode cX2_letActsIn 23 = .ok (.ladd, 1) := by decide +kernel
theorem dX2_letActsIn_24 : decode cX2_letActsIn 24 = .ok (.putfield 63, 3) := by decide +kernel
theorem dX2_letActsIn_27 : decode cX2_letActsIn 27 = .ok (.iinc 2 1, 3) := by decide +kernel
theorem dX2_letActsIn_30 : decode cX2_letActsIn 30 = .ok (.goto (-28), 3) := by decide +kernel
theorem dX2_letActsIn_33 : decode cX2_letActsIn 33 = .ok (.return_, 1) := by decide +kernel
set_option maxRecDepth 20000 in
theorem ggX2_sumAheadOf_X2_resultOf : GoodIn wsX2_sumAheadOf wsX2_resultOf := goodIn_r _ [7, 8, 9, 10, 11, 12, 13, 14, 15, 16, 17, 18, 19, 20, 21, 22] (by decide +kernel) (by decide +kernel)
set_option maxRecDepth 20000 in
theorem gX2_sumAheadOf_X2_resultOf : GoodIn wsX2_sumAheadOf (wsV RX2 159 RX2 yX2_resultOf wsX2_resultOf) := goodIn_app (goodIn_of _ (by decide +kernel)) ggX2_sumAheadOf_X2_resultOf
theorem dX2_sumAheadOf_0 : decode cX2_sumAheadOf 0 = .ok (.dconst 0, 1) := by decide +kernel
theorem dX2_sumAheadOf_1 : decode cX2_sumAheadOf 1 = .ok (.dstore_n 2, 1) := by decide +kernel
theorem dX2_sumAheadOf_2 : decode cX2_sumAheadOf 2 = .ok (.iconst 0, 1) := by decide +kernel
theorem dX2_sumAheadOf_3 : decode cX2_sumAheadOf 3 = .ok (.istore 4, 2) := by decide +kernel
theorem dX2_sumAheadOf_5 : decode cX2_sumAheadOf 5 = .ok (.iload 4, 2) := by decide +kernel
theorem dX2_sumAheadOf_7 : decode cX2_sumAheadOf 7 = .ok (.aload_n 0, 1) := by decide +kernel
theorem dX2_sumAheadOf_8 : decode cX2_sumAheadOf 8 = .ok (.getfield 18, 3) := by decide +kernel
theorem dX2_sumAheadOf_11 : decode cX2_sumAheadOf 11 = .ok (.if_icmp .ge 29, 3) := by decide +kernel
theorem dX2_sumAheadOf_14 : decode cX2_sumAheadOf 14 = .ok (.aload_n 0, 1) := by decide +kernel
theorem dX2_sumAheadOf_15 : decode cX2_sumAheadOf 15 = .ok (.getfield 37, 3) := by decide +kernel
theorem dX2_sumAheadOf_18 : decode cX2_sumAheadOf 18 = .ok (.iload 4, 2) := by decide +kernel
theorem dX2_sumAheadOf_20 : decode cX2_sumAheadOf 20 = .ok (.iaload, 1) := by decide +kernel
theorem dX2_sumAheadOf_21 : decode cX2_sumAheadOf 21 = .ok (.iload_n 1, 1) := by decide +kernel
theorem dX2_sumAheadOf_22 : decode cX2_sumAheadOf 22 = .ok (.if_icmp .ge 12, 3) := by decide +kernel
theorem dX2_sumAheadOf_25 : decode cX2_sumAheadOf 25 = .ok (.dload_n 2, 1) := by decide +kernel
theorem dX2_sumAheadOf_26 : decode cX2_sumAheadOf 26 = .ok (.aload_n 0, 1) := by decide +kernel
theorem dX2_sumAheadOf_27 : decode cX2_sumAheadOf 27 = .ok (.iload 4, 2) := by decide +kernel
theorem dX2_sumAheadOf_29 : decode cX2_sumAheadOf 29 = .ok (.invokevirtual 159, 3) := by decide +kernel
theorem dX2_sumAheadOf_32 : decode cX2_sumAheadOf 32 = .ok (.dadd, 1) := by decide +kernel
theorem dX2_sumAheadOf_33 : decode cX2_sumAheadOf 33 = .ok (.dstore_n 2, 1) := by decide +kernel
theorem dX2_sumAheadOf_34 : decode cX2_sumAheadOf 34 = .ok (.iinc 4 1, 3) := by decide +kernel
theorem dX2_sumAheadOf_37 : decode cX2_sumAheadOf 37 = .ok (.goto (-32), 3) := by decide +kernel
theorem dX2_sumAheadOf_40 : decode cX2_sumAheadOf 40 = .ok (.dload_n 2, 1) := by decide +kernel
theorem dX2_sumAheadOf_41 : decode cX2_sumAheadOf 41 = .ok (.dreturn, 1) := by decide +kernel
theorem dX2_countAheadOf_0 : decode cX2_countAheadOf 0 = .ok (.iconst 0, 1) := by decide +kernel
theorem dX2_countAheadOf_1 : decode cX2_countAheadOf 1 = .ok (.istore_n 2, 1) := by decide +kernel
theorem dX2_countAheadOf_2 : decode cX2_countAheadOf 2 = .ok (.iconst 0, 1) := by decide +kernel
theorem dX2_countAheadOf_3 : decode cX2_countAheadOf 3 = .ok (.istore_n 3, 1) := by decide +kernel
theorem dX2_countAheadOf_4 : decode cX2_countAheadOf 4 = .ok (.iload_n 3, 1) := by decide +kernel
theorem dX2_countAheadOf_5 : decode cX2_countAheadOf 5 = .ok (.aload_n 0, 1) := by decide +kernel
theorem dX2_countAheadOf_6 : decode cX2_countAheadOf 6 = .ok (.getfield 18, 3) := by decide +kernel
theorem dX2_countAheadOf_9 : decode cX2_countAheadOf 9 = .ok (.if_icmp .ge 22, 3) := by decide +kernel
theorem dX2_countAheadOf_12 : decode cX2_countAheadOf 12 = .ok (.aload_n 0, 1) := by decide +kernel
theorem dX2_countAheadOf_13 : decode cX2_countAheadOf 13 = .ok (.getfield 37, 3) := by decide +kernel
theorem dX2_countAheadOf_16 : decode cX2_countAheadOf 16 = .ok (.iload_n 3, 1) := by decide +kernel
theorem dX2_countAheadOf_17 : decode cX2_countAheadOf 17 = .ok (.iaload, 1) := by decide +kernel
theorem dX2_countAheadOf_18 : decode cX2_countAheadOf 18 = .ok (.iload_n 1, 1) := by decide +kernel
theorem dX2_countAheadOf_19 : decode cX2_countAheadOf 19 = .ok (.if_icmp .ge 6, 3) := by decide +kernel
theorem dX2_countAheadOf_22 : decode cX2_countAheadOf 22 = .ok (.iinc 2 1, 3) := by decide +kernel
theorem dX2_countAheadOf_25 : decode cX2_countAheadOf 25 = .ok (.iinc 3 1, 3) := by decide +kernel
theorem dX2_countAheadOf_28 : decode cX2_countAheadOf 28 = .ok (.goto (-24), 3) := by decide +kernel
theorem dX2_countAheadOf_31 : decode cX2_countAheadOf 31 = .ok (.iload_n 2, 1) := by decide +kernel
theorem dX2_countAheadOf_32 : decode cX2_countAheadOf 32 = .ok (.ireturn, 1) := by decide +kernel
theorem dX2_resultOf_0 : decode cX2_resultOf 0 = .ok (.aload_n 0, 1) := by decide +kernel
theorem dX2_resultOf_1 : decode cX2_resultOf 1 = .ok (.getfield 22, 3) := by decide +kernel
theorem dX2_resultOf_4 : decode cX2_resultOf 4 = .ok (.iload_n 1, 1) := by decide +kernel
theorem dX2_resultOf_5 : decode cX2_resultOf 5 = .ok (.daload, 1) := by decide +kernel
theorem dX2_resultOf_6 : decode cX2_resultOf 6 = .ok (.dstore_n 2, 1) := by decide +kernel
theorem dX2_resultOf_7 : decode cX2_resultOf 7 = .ok (.dload_n 2, 1) := by decide +kernel
theorem dX2_resultOf_8 : decode cX2_resultOf 8 = .ok (.dload_n 2, 1) := by decide +kernel
theorem dX2_resultOf_9 : decode cX2_resultOf 9 = .ok (.dmul, 1) := by decide +kernel
theorem dX2_resultOf_10 : decode cX2_resultOf 10 = .ok (.dload_n 2, 1) := by decide +kernel
theorem dX2_resultOf_11 : decode cX2_resultOf 11 = .ok (.ldc2_w 162, 3) := by decide +kernel
theorem dX2_resultOf_14 : decode cX2_resultOf 14 = .ok (.dmul, 1) := by decide +kernel
theorem dX2_resultOf_15 : decode cX2_resultOf 15 = .ok (.dadd, 1) := by decide +kernel
theorem dX2_resultOf_16 : decode cX2_resultOf 16 = .ok (.iload_n 1, 1) := by decide +kernel
theorem dX2_resultOf_17 : decode cX2_resultOf 17 = .ok (.i2d, 1) := by decide +kernel
theorem dX2_resultOf_18 : decode cX2_resultOf 18 = .ok (.dadd, 1) := by decide +kernel
theorem dX2_resultOf_19 : decode cX2_resultOf 19 = .ok (.dreturn, 1) := by decide +kernel
theorem dJ6_bitCount_0f7a4_0 : decode cJ6_bitCount_0f7a4 0 = .ok (.iload_n 0, 1) := by decide +kernel
theorem dJ6_bitCount_0f7a4_1 : decode cJ6_bitCount_0f7a4 1 = .ok (.iload_n 0, 1) := by decide +kernel
theorem dJ6_bitCount_0f7a4_2 : decode cJ6_bitCount_0f7a4 2 = .ok (.iconst 1, 1) := by decide +kernel
theorem dJ6_bitCount_0f7a4_3 : decode cJ6_bitCount_0f7a4 3 = .ok (.iushr, 1) := by decide +kernel
theorem dJ6_bitCount_0f7a4_4 : decode cJ6_bitCount_0f7a4 4 = .ok (.ldc_w 265, 3) := by decide +kernel
theorem dJ6_bitCount_0f7a4_7 : decode cJ6_bitCount_0f7a4 7 = .ok (.iand, 1) := by decide +kernel
theorem dJ6_bitCount_0f7a4_8 : decode cJ6_bitCount_0f7a4 8 = .ok (.isub, 1) := by decide +kernel
theorem dJ6_bitCount_0f7a4_9 : decode cJ6_bitCount_0f7a4 9 = .ok (.istore_n 0, 1) := by decide +kernel
theorem dJ6_bitCount_0f7a4_10 : decode cJ6_bitCount_0f7a4 10 = .ok (.iload_n 0, 1) := by decide +kernel
theorem dJ6_bitCount_0f7a4_11 : decode cJ6_bitCount_0f7a4 11 = .ok (.ldc_w 266, 3) := by decide +kernel
theorem dJ6_bitCount_0f7a4_14 : decode cJ6_bitCount_0f7a4 14 = .ok (.iand, 1) := by decide +kernel
theorem dJ6_bitCount_0f7a4_15 : decode cJ6_bitCount_0f7a4 15 = .ok (.iload_n 0, 1) := by decide +kernel
theorem dJ6_bitCount_0f7a4_16 : decode cJ6_bitCount_0f7a4 16 = .ok (.iconst 2, 1) := by decide +kernel
theorem dJ6_bitCount_0f7a4_17 : decode cJ6_bitCount_0f7a4 17 = .ok (.iushr, 1) := by decide +kernel
theorem dJ6_bitCount_0f7a4_18 : decode cJ6_bitCount_0f7a4 18 = .ok (.ldc_w 266, 3) := by decide +kernel
theorem dJ6_bitCount_0f7a4_21 : decode cJ6_bitCount_0f7a4 21 = .ok (.iand, 1) := by decide +kernel
theorem dJ6_bitCount_0f7a4_22 : decode cJ6_bitCount_0f7a4 22 = .ok (.iadd, 1) := by decide +kernel
theorem dJ6_bitCount_0f7a4_23 : decode cJ6_bitCount_0f7a4 23 = .ok (.istore_n 0, 1) := by decide +kernel
theorem dJ6_bitCount_0f7a4_24 : decode cJ6_bitCount_0f7a4 24 = .ok (.iload_n 0, 1) := by decide +kernel
theorem dJ6_bitCount_0f7a4_25 : decode cJ6_bitCount_0f7a4 25 = .ok (.iload_n 0, 1) := by decide +kernel
theorem dJ6_bitCount_0f7a4_26 : decode cJ6_bitCount_0f7a4 26 = .ok (.iconst 4, 1) := by decide +kernel
theorem dJ6_bitCount_0f7a4_27 : decode cJ6_bitCount_0f7a4 27 = .ok (.iushr, 1) := by decide +kernel
theorem dJ6_bitCount_0f7a4_28 : decode cJ6_bitCount_0f7a4 28 = .ok (.iadd, 1) := by decide +kernel
theorem dJ6_bitCount_0f7a4_29 : decode cJ6_bitCount_0f7a4 29 = .ok (.ldc_w 267, 3) := by decide +kernel
theorem dJ6_bitCount_0f7a4_32 : decode cJ6_bitCount_0f7a4 32 = .ok (.iand, 1) := by decide +kernel
theorem dJ6_bitCount_0f7a4_33 : decode cJ6_bitCount_0f7a4 33 = .ok (.istore_n 0, 1) := by decide +kernel
theorem dJ6_bitCount_0f7a4_34 : decode cJ6_bitCount_0f7a4 34 = .ok (.iload_n 0, 1) := by decide +kernel
theorem dJ6_bitCount_0f7a4_35 : decode cJ6_bitCount_0f7a4 35 = .ok (.iload_n 0, 1) := by decide +kernel
theorem dJ6_bitCount_0f7a4_36 : decode cJ6_bitCount_0f7a4 36 = .ok (.bipush 8, 2) := by decide +kernel
theorem dJ6_bitCount_0f7a4_38 : decode cJ6_bitCount_0f7a4 38 = .ok (.iushr, 1) := by decide +kernel
theorem dJ6_bitCount_0f7a4_39 : decode cJ6_bitCount_0f7a4 39 = .ok (.iadd, 1) := by decide +kernel
theorem dJ6_bitCount_0f7a4_40 : decode cJ6_bitCount_0f7a4 40 = .ok (.istore_n 0, 1) := by decide +kernel
theorem dJ6_bitCount_0f7a4_41 : decode cJ6_bitCount_0f7a4 41 = .ok (.iload_n 0, 1) := by decide +kernel
theorem dJ6_bitCount_0f7a4_42 : decode cJ6_bitCount_0f7a4 42 = .ok (.iload_n 0, 1) := by decide +kernel
theorem dJ6_bitCount_0f7a4_43 : decode cJ6_bitCount_0f7a4 43 = .ok (.bipush 16, 2) := by decide +kernel
theorem dJ6_bitCount_0f7a4_45 : decode cJ6_bitCount_0f7a4 45 = .ok (.iushr, 1) := by decide +kernel
theorem dJ6_bitCount_0f7a4_46 : decode cJ6_bitCount_0f7a4 46 = .ok (.iadd, 1) := by decide +kernel
theorem dJ6_bitCount_0f7a4_47 : decode cJ6_bitCount_0f7a4 47 = .ok (.istore_n 0, 1) := by decide +kernel
theorem dJ6_bitCount_0f7a4_48 : decode cJ6_bitCount_0f7a4 48 = .ok (.iload_n 0, 1) := by decide +kernel
theorem dJ6_bitCount_0f7a4_49 : decode cJ6_bitCount_0f7a4 49 = .ok (.bipush 63, 2) := by decide +kernel
theorem dJ6_bitCount_0f7a4_51 : decode cJ6_bitCount_0f7a4 51 = .ok (.iand, 1) := by decide +kernel
theorem dJ6_bitCount_0f7a4_52 : decode cJ6_bitCount_0f7a4 52 = .ok (.ireturn, 1) := by decide +kernel
theorem dJ9_max_7cf53_0 : decode cJ9_max_7cf53 0 = .ok (.iload_n 0, 1) := by decide +kernel
theorem dJ9_max_7cf53_1 : decode cJ9_max_7cf53 1 = .ok (.iload_n 1, 1) := by decide +kernel
theorem dJ9_max_7cf53_2 : decode cJ9_max_7cf53 2 = .ok (.if_icmp .lt 7, 3) := by decide +kernel
theorem dJ9_max_7cf53_5 : decode cJ9_max_7cf53 5 = .ok (.iload_n 0, 1) := by decide +kernel
theorem dJ9_max_7cf53_6 : decode cJ9_max_7cf53 6 = .ok (.goto 4, 3) := by decide +kernel
theorem dJ9_max_7cf53_9 : decode cJ9_max_7cf53 9 = .ok (.iload_n 1, 1) := by decide +kernel
theorem dJ9_max_7cf53_10 : decode cJ9_max_7cf53 10 = .ok (.ireturn, 1) := by decide +kernel
theorem dJ9_min_7cf53_0 : decode cJ9_min_7cf53 0 = .ok (.iload_n 0, 1) := by decide +kernel
theorem dJ9_min_7cf53_1 : decode cJ9_min_7cf53 1 = .ok (.iload_n 1, 1) := by decide +kernel
theorem dJ9_min_7cf53_2 : decode cJ9_min_7cf53 2 = .ok (.if_icmp .gt 7, 3) := by decide +kernel
theorem dJ9_min_7cf53_5 : decode cJ9_min_7cf53 5 = .ok (.iload_n 0, 1) := by decide +kernel
theorem dJ9_min_7cf53_6 : decode cJ9_min_7cf53 6 = .ok (.goto 4, 3) := by decide +kernel
theorem dJ9_min_7cf53_9 : decode cJ9_min_7cf53 9 = .ok (.iload_n 1, 1) := by decide +kernel
theorem dJ9_min_7cf53_10 : decode cJ9_min_7cf53 10 = .ok (.ireturn, 1) := by decide +kernel
