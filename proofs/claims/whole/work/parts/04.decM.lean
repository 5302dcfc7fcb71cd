theorem dX3_init_0 : decode cX3_init 0 = .ok (.aload_n 0, 1) := by decide +kernel
theorem dX3_init_1 : decode cX3_init 1 = .ok (.invokespecial 1, 3) := by decide +kernel
theorem dX3_init_4 : decode cX3_init 4 = .ok (.aload_n 0, 1) := by decide +kernel
theorem dX3_init_5 : decode cX3_init 5 = .ok (.bipush 40, 2) := by decide +kernel
theorem dX3_init_7 : decode cX3_init 7 = .ok (.newarray .long, 2) := by decide +kernel
theorem dX3_init_9 : decode cX3_init 9 = .ok (.putfield 7, 3) := by decide +kernel
theorem dX3_init_12 : decode cX3_init 12 = .ok (.aload_n 0, 1) := by decide +kernel
theorem dX3_init_13 : decode cX3_init 13 = .ok (.bipush 40, 2) := by decide +kernel
theorem dX3_init_15 : decode cX3_init 15 = .ok (.newarray .int, 2) := by decide +kernel
theorem dX3_init_17 : decode cX3_init 17 = .ok (.putfield 13, 3) := by decide +kernel
theorem dX3_init_20 : decode cX3_init 20 = .ok (.aload_n 0, 1) := by decide +kernel
theorem dX3_init_21 : decode cX3_init 21 = .ok (.bipush 40, 2) := by decide +kernel
theorem dX3_init_23 : decode cX3_init 23 = .ok (.newarray .boolean, 2) := by decide +kernel
theorem dX3_init_25 : decode cX3_init 25 = .ok (.putfield 17, 3) := by decide +kernel
theorem dX3_init_28 : decode cX3_init 28 = .ok (.aload_n 0, 1) := by decide +kernel
theorem dX3_init_29 : decode cX3_init 29 = .ok (.bipush 40, 2) := by decide +kernel
theorem dX3_init_31 : decode cX3_init 31 = .ok (.newarray .int, 2) := by decide +kernel
theorem dX3_init_33 : decode cX3_init 33 = .ok (.putfield 21, 3) := by decide +kernel
theorem dX3_init_36 : decode cX3_init 36 = .ok (.aload_n 0, 1) := by decide +kernel
theorem dX3_init_37 : decode cX3_init 37 = .ok (.bipush 16, 2) := by decide +kernel
theorem dX3_init_39 : decode cX3_init 39 = .ok (.newarray .long, 2) := by decide +kernel
theorem dX3_init_41 : decode cX3_init 41 = .ok (.putfield 24, 3) := by decide +kernel
theorem dX3_init_44 : decode cX3_init 44 = .ok (.aload_n 0, 1) := by decide +kernel
theorem dX3_init_45 : decode cX3_init 45 = .ok (.bipush 20, 2) := by decide +kernel
theorem dX3_init_47 : decode cX3_init 47 = .ok (.newarray .int, 2) := by decide +kernel
theorem dX3_init_49 : decode cX3_init 49 = .ok (.putfield 27, 3) := by decide +kernel
theorem dX3_init_52 : decode cX3_init 52 = .ok (.aload_n 0, 1) := by decide +kernel
theorem dX3_init_53 : decode cX3_init 53 = .ok (.bipush 40, 2) := by decide +kernel
theorem dX3_init_55 : decode cX3_init 55 = .ok (.newarray .int, 2) := by decide +kernel
theorem dX3_init_57 : decode cX3_init 57 = .ok (.putfield 30, 3) := by decide +kernel
theorem dX3_init_60 : decode cX3_init 60 = .ok (.aload_n 0, 1) := by decide +kernel
theorem dX3_init_61 : decode cX3_init 61 = .ok (.iload_n 1, 1) := by decide +kernel
theorem dX3_init_62 : decode cX3_init 62 = .ok (.iconst 1, 1) := by decide +kernel
theorem dX3_init_63 : decode cX3_init 63 = .ok (.if_icmp .ge 7, 3) := by decide +kernel
theorem dX3_init_66 : decode cX3_init 66 = .ok (.iconst 1, 1) := by decide +kernel
theorem dX3_init_67 : decode cX3_init 67 = .ok (.goto 15, 3) := by decide +kernel
theorem dX3_init_70 : decode cX3_init 70 = .ok (.iload_n 1, 1) := by decide +kernel
theorem dX3_init_71 : decode cX3_init 71 = .ok (.bipush 40, 2) := by decide +kernel
theorem dX3_init_73 : decode cX3_init 73 = .ok (.if_icmp .le 8, 3) := by decide +kernel
theorem dX3_init_76 : decode cX3_init 76 = .ok (.bipush 40, 2) := by decide +kernel
theorem dX3_init_78 : decode cX3_init 78 = .ok (.goto 4, 3) := by decide +kernel
theorem dX3_init_81 : decode cX3_init 81 = .ok (.iload_n 1, 1) := by decide +kernel
theorem dX3_init_82 : decode cX3_init 82 = .ok (.putfield 33, 3) := by decide +kernel
theorem dX3_init_85 : decode cX3_init 85 = .ok (.return_, 1) := by decide +kernel
theorem dX3_thrown_0 : decode cX3_thrown 0 = .ok (.aload_n 0, 1) := by decide +kernel
theorem dX3_thrown_1 : decode cX3_thrown 1 = .ok (.getfield 37, 3) := by decide +kernel
theorem dX3_thrown_4 : decode cX3_thrown 4 = .ok (.ireturn, 1) := by decide +kernel
theorem dX3_isShare_0 : decode cX3_isShare 0 = .ok (.iload_n 1, 1) := by decide +kernel
theorem dX3_isShare_1 : decode cX3_isShare 1 = .ok (.ifCond .lt 15, 3) := by decide +kernel
theorem dX3_isShare_4 : decode cX3_isShare 4 = .ok (.iload_n 1, 1) := by decide +kernel
theorem dX3_isShare_5 : decode cX3_isShare 5 = .ok (.aload_n 0, 1) := by decide +kernel
theorem dX3_isShare_6 : decode cX3_isShare 6 = .ok (.getfield 33, 3) := by decide +kernel
theorem dX3_isShare_9 : decode cX3_isShare 9 = .ok (.if_icmp .ge 7, 3) := by decide +kernel
theorem dX3_isShare_12 : decode cX3_isShare 12 = .ok (.iconst 1, 1) := by decide +kernel
theorem dX3_isShare_13 : decode cX3_isShare 13 = .ok (.goto 4, 3) := by decide +kernel
theorem dX3_isShare_16 : decode cX3_isShare 16 = .ok (.iconst 0, 1) := by decide +kernel
theorem dX3_isShare_17 : decode cX3_isShare 17 = .ok (.ireturn, 1) := by decide +kernel
set_option maxRecDepth 20000 in
theorem ggX3_value_X3_isShare : GoodIn wsX3_value wsX3_isShare := goodIn_r _ [10, 11, 12, 13, 14, 15, 16, 17, 18, 19, 20, 21, 22, 23, 24, 25] (by decide +kernel) (by decide +kernel)
set_option maxRecDepth 20000 in
theorem gX3_value_X3_isShare : GoodIn wsX3_value (wsV RX3 40 RX3 yX3_isShare wsX3_isShare) := goodIn_app (goodIn_of _ (by decide +kernel)) ggX3_value_X3_isShare
theorem dX3_value_0 : decode cX3_value 0 = .ok (.aload_n 0, 1) := by decide +kernel
theorem dX3_value_1 : decode cX3_value 1 = .ok (.aload_n 0, 1) := by decide +kernel
theorem dX3_value_2 : decode cX3_value 2 = .ok (.iload_n 1, 1) := by decide +kernel
theorem dX3_value_3 : decode cX3_value 3 = .ok (.invokevirtual 40, 3) := by decide +kernel
theorem dX3_value_6 : decode cX3_value 6 = .ok (.ifCond .ne 7, 3) := by decide +kernel
theorem dX3_value_9 : decode cX3_value 9 = .ok (.iconst 1, 1) := by decide +kernel
theorem dX3_value_10 : decode cX3_value 10 = .ok (.goto 24, 3) := by decide +kernel
theorem dX3_value_13 : decode cX3_value 13 = .ok (.dload_n 2, 1) := by decide +kernel
theorem dX3_value_14 : decode cX3_value 14 = .ok (.ldc2_w 44, 3) := by decide +kernel
theorem dX3_value_17 : decode cX3_value 17 = .ok (.dcmp .l, 1) := by decide +kernel
theorem dX3_value_18 : decode cX3_value 18 = .ok (.ifCond .lt 15, 3) := by decide +kernel
theorem dX3_value_21 : decode cX3_value 21 = .ok (.dload_n 2, 1) := by decide +kernel
theorem dX3_value_22 : decode cX3_value 22 = .ok (.ldc2_w 46, 3) := by decide +kernel
theorem dX3_value_25 : decode cX3_value 25 = .ok (.dcmp .g, 1) := by decide +kernel
theorem dX3_value_26 : decode cX3_value 26 = .ok (.ifCond .gt 7, 3) := by decide +kernel
theorem dX3_value_29 : decode cX3_value 29 = .ok (.iconst 0, 1) := by decide +kernel
theorem dX3_value_30 : decode cX3_value 30 = .ok (.goto 4, 3) := by decide +kernel
theorem dX3_value_33 : decode cX3_value 33 = .ok (.iconst 2, 1) := by decide +kernel
theorem dX3_value_34 : decode cX3_value 34 = .ok (.putfield 37, 3) := by decide +kernel
theorem dX3_value_37 : decode cX3_value 37 = .ok (.aload_n 0, 1) := by decide +kernel
theorem dX3_value_38 : decode cX3_value 38 = .ok (.getfield 37, 3) := by decide +kernel
theorem dX3_value_41 : decode cX3_value 41 = .ok (.ifCond .eq 5, 3) := by decide +kernel
theorem dX3_value_44 : decode cX3_value 44 = .ok (.iconst 0, 1) := by decide +kernel
theorem dX3_value_45 : decode cX3_value 45 = .ok (.ireturn, 1) := by decide +kernel
theorem dX3_value_46 : decode cX3_value 46 = .ok (.dload_n 2, 1) := by decide +kernel
theorem dX3_value_47 : decode cX3_value 47 = .ok (.ldc2_w 48, 3) := by decide +kernel
theorem dX3_value_50 : decode cX3_value 50 = .ok (.dmul, 1) := by decide +kernel
theorem dX3_value_51 : decode cX3_value 51 = .ok (.d2l, 1) := by decide +kernel
theorem dX3_value_52 : decode cX3_value 52 = .ok (.lstore 4, 2) := by decide +kernel
theorem dX3_value_54 : decode cX3_value 54 = .ok (.aload_n 0, 1) := by decide +kernel
theorem dX3_value_55 : decode cX3_value 55 = .ok (.getfield 7, 3) := by decide +kernel
theorem dX3_value_58 : decode cX3_value 58 = .ok (.iload_n 1, 1) := by decide +kernel
theorem dX3_value_59 : decode cX3_value 59 = .ok (.laload, 1) := by decide +kernel
theorem dX3_value_60 : decode cX3_value 60 = .ok (.lload 4, 2) := by decide +kernel
theorem dX3_value_62 : decode cX3_value 62 = .ok (.lcmp, 1) := by decide +kernel
theorem dX3_value_63 : decode cX3_value 63 = .ok (.ifCond .eq 7, 3) := by decide +kernel
theorem dX3_value_66 : decode cX3_value 66 = .ok (.iconst 1, 1) := by decide +kernel
theorem dX3_value_67 : decode cX3_value 67 = .ok (.goto 4, 3) := by decide +kernel
theorem dX3_value_70 : decode cX3_value 70 = .ok (.iconst 0, 1) := by decide +kernel
theorem dX3_value_71 : decode cX3_value 71 = .ok (.istore 6, 2) := by decide +kernel
theorem dX3_value_73 : decode cX3_value 73 = .ok (.aload_n 0, 1) := by decide +kernel
theorem dX3_value_74 : decode cX3_value 74 = .ok (.getfield 7, 3) := by decide +kernel
theorem dX3_value_77 : decode cX3_value 77 = .ok (.iload_n 1, 1) := by decide +kernel
theorem dX3_value_78 : decode cX3_value 78 = .ok (.lload 4, 2) := by decide +kernel
theorem dX3_value_80 : decode cX3_value 80 = .ok (.lastore, 1) := by decide +kernel
theorem dX3_value_81 : decode cX3_value 81 = .ok (.iload 6, 2) := by decide +kernel
theorem dX3_value_83 : decode cX3_value 83 = .ok (.ireturn, 1) := by decide +kernel
set_option maxRecDepth 20000 in
theorem ggX3_touches_X3_isShare : GoodIn wsX3_touches wsX3_isShare := goodIn_r _ [7, 8, 9, 10, 11, 12, 13, 14, 15, 16, 17, 18, 19, 20, 21, 22] (by decide +kernel) (by decide +kernel)
set_option maxRecDepth 20000 in
theorem gX3_touches_X3_isShare : GoodIn wsX3_touches (wsV RX3 40 RX3 yX3_isShare wsX3_isShare) := goodIn_app (goodIn_of _ (by decide +kernel)) ggX3_touches_X3_isShare
theorem dX3_touches_0 : decode cX3_touches 0 = .ok (.aload_n 0, 1) := by decide +kernel
theorem dX3_touches_1 : decode cX3_touches 1 = .ok (.aload_n 0, 1) := by decide +kernel
theorem dX3_touches_2 : decode cX3_touches 2 = .ok (.iload_n 1, 1) := by decide +kernel
theorem dX3_touches_3 : decode cX3_touches 3 = .ok (.invokevirtual 40, 3) := by decide +kernel
theorem dX3_touches_6 : decode cX3_touches 6 = .ok (.ifCond .eq 17, 3) := by decide +kernel
theorem dX3_touches_9 : decode cX3_touches 9 = .ok (.iload_n 2, 1) := by decide +kernel
theorem dX3_touches_10 : decode cX3_touches 10 = .ok (.ifCond .lt 13, 3) := by decide +kernel
theorem dX3_touches_13 : decode cX3_touches 13 = .ok (.iload_n 2, 1) := by decide +kernel
theorem dX3_touches_14 : decode cX3_touches 14 = .ok (.bipush 31, 2) := by decide +kernel
theorem dX3_touches_16 : decode cX3_touches 16 = .ok (.if_icmp .ge 7, 3) := by decide +kernel
theorem dX3_touches_19 : decode cX3_touches 19 = .ok (.iconst 0, 1) := by decide +kernel
theorem dX3_touches_20 : decode cX3_touches 20 = .ok (.goto 4, 3) := by decide +kernel
theorem dX3_touches_23 : decode cX3_touches 23 = .ok (.iconst 1, 1) := by decide +kernel
theorem dX3_touches_24 : decode cX3_touches 24 = .ok (.putfield 37, 3) := by decide +kernel
theorem dX3_touches_27 : decode cX3_touches 27 = .ok (.aload_n 0, 1) := by decide +kernel
theorem dX3_touches_28 : decode cX3_touches 28 = .ok (.getfield 37, 3) := by decide +kernel
theorem dX3_touches_31 : decode cX3_touches 31 = .ok (.ifCond .ne 17, 3) := by decide +kernel
theorem dX3_touches_34 : decode cX3_touches 34 = .ok (.aload_n 0, 1) := by decide +kernel
theorem dX3_touches_35 : decode cX3_touches 35 = .ok (.getfield 13, 3) := by decide +kernel
theorem dX3_touches_38 : decode cX3_touches 38 = .ok (.iload_n 1, 1) := by decide +kernel
theorem dX3_touches_39 : decode cX3_touches 39 = .ok (.iaload, 1) := by decide +kernel
theorem dX3_touches_40 : decode cX3_touches 40 = .ok (.iload_n 2, 1) := by decide +kernel
theorem dX3_touches_41 : decode cX3_touches 41 = .ok (.ishr, 1) := by decide +kernel
theorem dX3_touches_42 : decode cX3_touches 42 = .ok (.iconst 1, 1) := by decide +kernel
theorem dX3_touches_43 : decode cX3_touches 43 = .ok (.iand, 1) := by decide +kernel
theorem dX3_touches_44 : decode cX3_touches 44 = .ok (.iconst 1, 1) := by decide +kernel
theorem dX3_touches_45 : decode cX3_touches 45 = .ok (.if_icmp .ne 5, 3) := by decide +kernel
theorem dX3_touches_48 : decode cX3_touches 48 = .ok (.iconst 0, 1) := by decide +kernel
theorem dX3_touches_49 : decode cX3_touches 49 = .ok (.ireturn, 1) := by decide +kernel
theorem dX3_touches_50 : decode cX3_touches 50 = .ok (.aload_n 0, 1) := by decide +kernel
theorem dX3_touches_51 : decode cX3_touches 51 = .ok (.getfield 13, 3) := by decide +kernel
theorem dX3_touches_54 : decode cX3_touches 54 = .ok (.iload_n 1, 1) := by decide +kernel
theorem dX3_touches_55 : decode cX3_touches 55 = .ok (.aload_n 0, 1) := by decide +kernel
theorem dX3_touches_56 : decode cX3_touches 56 = .ok (.getfield 13, 3) := by decide +kernel
theorem dX3_touches_59 : decode cX3_touches 59 = .ok (.iload_n 1, 1) := by decide +kernel
theorem dX3_touches_60 : decode cX3_touches 60 = .ok (.iaload, 1) := by decide +kernel
theorem dX3_touches_61 : decode cX3_touches 61 = .ok (.iconst 1, 1) := by decide +kernel
theorem dX3_touches_62 : decode cX3_touches 62 = .ok (.iload_n 2, 1) := by decide +kernel
theorem dX3_touches_63 : decode cX3_touches 63 = .ok (.ishl, 1) := by decide +kernel
theorem dX3_touches_64 : decode cX3_touches 64 = .ok (.ior, 1) := by decide +kernel
theorem dX3_touches_65 : decode cX3_touches 65 = .ok (.iastore, 1) := by decide +kernel
theorem dX3_touches_66 : decode cX3_touches 66 = .ok (.iconst 1, 1) := by decide +kernel
theorem dX3_touches_67 : decode cX3_touches 67 = .ok (.ireturn, 1) := by decide +kernel
set_option maxRecDepth 20000 in
theorem ggX3_stop_X3_isShare : GoodIn wsX3_stop wsX3_isShare := goodIn_r _ [7, 8, 9, 10, 11, 12, 13, 14, 15, 16, 17, 18, 19, 20, 21, 22] (by decide +kernel) (by decide +kernel)
set_option maxRecDepth 20000 in
theorem gX3_stop_X3_isShare : GoodIn wsX3_stop (wsV RX3 40 RX3 yX3_isShare wsX3_isShare) := goodIn_app (goodIn_of _ (by decide +kernel)) ggX3_stop_X3_isShare
theorem dX3_stop_0 : decode cX3_stop 0 = .ok (.aload_n 0, 1) := by decide +kernel
theorem dX3_stop_1 : decode cX3_stop 1 = .ok (.aload_n 0, 1) := by decide +kernel
theorem dX3_stop_2 : decode cX3_stop 2 = .ok (.iload_n 1, 1) := by decide +kernel
theorem dX3_stop_3 : decode cX3_stop 3 = .ok (.invokevirtual 40, 3) := by decide +kernel
theorem dX3_stop_6 : decode cX3_stop 6 = .ok (.ifCond .eq 7, 3) := by decide +kernel
theorem dX3_stop_9 : decode cX3_stop 9 = .ok (.iconst 0, 1) := by decide +kernel
theorem dX3_stop_10 : decode cX3_stop 10 = .ok (.goto 4, 3) := by decide +kernel
theorem dX3_stop_13 : decode cX3_stop 13 = .ok (.iconst 1, 1) := by decide +kernel
theorem dX3_stop_14 : decode cX3_stop 14 = .ok (.putfield 37, 3) := by decide +kernel
theorem dX3_stop_17 : decode cX3_stop 17 = .ok (.aload_n 0, 1) := by decide +kernel
theorem dX3_stop_18 : decode cX3_stop 18 = .ok (.getfield 37, 3) := by decide +kernel
theorem dX3_stop_21 : decode cX3_stop 21 = .ok (.ifCond .eq 5, 3) := by decide +kernel
theorem dX3_stop_24 : decode cX3_stop 24 = .ok (.iconst 0, 1) := by decide +kernel
theorem dX3_stop_25 : decode cX3_stop 25 = .ok (.ireturn, 1) := by decide +kernel
theorem dX3_stop_26 : decode cX3_stop 26 = .ok (.aload_n 0, 1) := by decide +kernel
theorem dX3_stop_27 : decode cX3_stop 27 = .ok (.getfield 17, 3) := by decide +kernel
theorem dX3_stop_30 : decode cX3_stop 30 = .ok (.iload_n 1, 1) := by decide +kernel
theorem dX3_stop_31 : decode cX3_stop 31 = .ok (.aload_n 0, 1) := by decide +kernel
theorem dX3_stop_32 : decode cX3_stop 32 = .ok (.getfield 17, 3) := by decide +kernel
theorem dX3_stop_35 : decode cX3_stop 35 = .ok (.iload_n 1, 1) := by decide +kernel
theorem dX3_stop_36 : decode cX3_stop 36 = .ok (.baload, 1) := by decide +kernel
theorem dX3_stop_37 : decode cX3_stop 37 = .ok (.ifCond .ne 7, 3) := by decide +kernel
theorem dX3_stop_40 : decode cX3_stop 40 = .ok (.iconst 1, 1) := by decide +kernel
theorem dX3_stop_41 : decode cX3_stop 41 = .ok (.goto 4, 3) := by decide +kernel
theorem dX3_stop_44 : decode cX3_stop 44 = .ok (.iconst 0, 1) := by decide +kernel
theorem dX3_stop_45 : decode cX3_stop 45 = .ok (.bastore, 1) := by decide +kernel
theorem dX3_stop_46 : decode cX3_stop 46 = .ok (.aload_n 0, 1) := by decide +kernel
theorem dX3_stop_47 : decode cX3_stop 47 = .ok (.getfield 17, 3) := by decide +kernel
theorem dX3_stop_50 : decode cX3_stop 50 = .ok (.iload_n 1, 1) := by decide +kernel
theorem dX3_stop_51 : decode cX3_stop 51 = .ok (.baload, 1) := by decide +kernel
theorem dX3_stop_52 : decode cX3_stop 52 = .ok (.ireturn, 1) := by decide +kernel
set_option maxRecDepth 20000 in
theorem ggX3_failAt_X3_isShare : GoodIn wsX3_failAt wsX3_isShare := goodIn_r _ [7, 8, 9, 10, 11, 12, 13, 14, 15, 16, 17, 18, 19, 20, 21, 22] (by decide +kernel) (by decide +kernel)
set_option maxRecDepth 20000 in
theorem gX3_failAt_X3_isShare : GoodIn wsX3_failAt (wsV RX3 40 RX3 yX3_isShare wsX3_isShare) := goodIn_app (goodIn_of _ (by decide +kernel)) ggX3_failAt_X3_isShare
theorem dX3_failAt_0 : decode cX3_failAt 0 = .ok (.aload_n 0, 1) := by decide +kernel
theorem dX3_failAt_1 : decode cX3_failAt 1 = .ok (.iload_n 1, 1) := by decide +kernel
theorem dX3_failAt_2 : decode cX3_failAt 2 = .ok (.ifCond .lt 21, 3) := by decide +kernel
theorem dX3_failAt_5 : decode cX3_failAt 5 = .ok (.iload_n 1, 1) := by decide +kernel
theorem dX3_failAt_6 : decode cX3_failAt 6 = .ok (.bipush 16, 2) := by decide +kernel
theorem dX3_failAt_8 : decode cX3_failAt 8 = .ok (.if_icmp .ge 15, 3) := by decide +kernel
theorem dX3_failAt_11 : decode cX3_failAt 11 = .ok (.aload_n 0, 1) := by decide +kernel
theorem dX3_failAt_12 : decode cX3_failAt 12 = .ok (.iload_n 2, 1) := by decide +kernel
theorem dX3_failAt_13 : decode cX3_failAt 13 = .ok (.invokevirtual 40, 3) := by decide +kernel
theorem dX3_failAt_16 : decode cX3_failAt 16 = .ok (.ifCond .eq 7, 3) := by decide +kernel
theorem dX3_failAt_19 : decode cX3_failAt 19 = .ok (.iconst 0, 1) := by decide +kernel
theorem dX3_failAt_20 : decode cX3_failAt 20 = .ok (.goto 4, 3) := by decide +kernel
theorem dX3_failAt_23 : decode cX3_failAt 23 = .ok (.iconst 1, 1) := by decide +kernel
theorem dX3_failAt_24 : decode cX3_failAt 24 = .ok (.putfield 37, 3) := by decide +kernel
theorem dX3_failAt_27 : decode cX3_failAt 27 = .ok (.aload_n 0, 1) := by decide +kernel
theorem dX3_failAt_28 : decode cX3_failAt 28 = .ok (.getfield 37, 3) := by decide +kernel
theorem dX3_failAt_31 : decode cX3_failAt 31 = .ok (.ifCond .ne 18, 3) := by decide +kernel
theorem dX3_failAt_34 : decode cX3_failAt 34 = .ok (.aload_n 0, 1) := by decide +kernel
theorem dX3_failAt_35 : decode cX3_failAt 35 = .ok (.getfield 24, 3) := by decide +kernel
theorem dX3_failAt_38 : decode cX3_failAt 38 = .ok (.iload_n 1, 1) := by decide +kernel
theorem dX3_failAt_39 : decode cX3_failAt 39 = .ok (.laload, 1) := by decide +kernel
theorem dX3_failAt_40 : decode cX3_failAt 40 = .ok (.iload_n 2, 1) := by decide +kernel
theorem dX3_failAt_41 : decode cX3_failAt 41 = .ok (.lshr, 1) := by decide +kernel
theorem dX3_failAt_42 : decode cX3_failAt 42 = .ok (.lconst 1, 1) := by decide +kernel
theorem dX3_failAt_43 : decode cX3_failAt 43 = .ok (.land, 1) := by decide +kernel
theorem dX3_failAt_44 : decode cX3_failAt 44 = .ok (.lconst 1, 1) := by decide +kernel
theorem dX3_failAt_45 : decode cX3_failAt 45 = .ok (.lcmp, 1) := by decide +kernel
theorem dX3_failAt_46 : decode cX3_failAt 46 = .ok (.ifCond .ne 5, 3) := by decide +kernel
theorem dX3_failAt_49 : decode cX3_failAt 49 = .ok (.iconst 0, 1) := by decide +kernel
theorem dX3_failAt_50 : decode cX3_failAt 50 = .ok (.ireturn, 1) := by decide +kernel
theorem dX3_failAt_51 : decode cX3_failAt 51 = .ok (.aload_n 0, 1) := by decide +kernel
theorem dX3_failAt_52 : decode cX3_failAt 52 = .ok (.getfield 24, 3) := by decide +kernel
theorem dX3_failAt_55 : decode cX3_failAt 55 = .ok (.iload_n 1, 1) := by decide +kernel
theorem dX3_failAt_56 : decode cX3_failAt 56 = .ok (.aload_n 0, 1) := by decide +kernel
theorem dX3_failAt_57 : decode cX3_failAt 57 = .ok (.getfield 24, 3) := by decide +kernel
theorem dX3_failAt_60 : decode cX3_failAt 60 = .ok (.iload_n 1, 1) := by decide +kernel
theorem dX3_failAt_61 : decode cX3_failAt 61 = .ok (.laload, 1) := by decide +kernel
theorem dX3_failAt_62 : decode cX3_failAt 62 = .ok (.lconst 1, 1) := by decide +kernel
theorem dX3_failAt_63 : decode cX3_failAt 63 = .ok (.iload_n 2, 1) := by decide +kernel
theorem dX3_failAt_64 : decode cX3_failAt 64 = .ok (.lshl, 1) := by decide +kernel
theorem dX3_failAt_65 : decode cX3_failAt 65 = .ok (.lor, 1) := by decide +kernel
theorem dX3_failAt_66 : decode cX3_failAt 66 = .ok (.lastore, 1) := by decide +kernel
theorem dX3_failAt_67 : decode cX3_failAt 67 = .ok (.iconst 1, 1) := by decide +kernel
theorem dX3_failAt_68 : decode cX3_failAt 68 = .ok (.ireturn, 1) := by decide +kernel
set_option maxRecDepth 20000 in
theorem ggX3_findBatches_X3_isTaken : GoodIn wsX3_findBatches wsX3_isTaken := goodIn_r _ [7, 2, 8, 9, 10, 11, 12, 13, 14, 15, 16, 17, 18, 19, 20, 21, 22] (by decide +kernel) (by decide +kernel)
set_option maxRecDepth 20000 in
theorem gX3_findBatches_X3_isTaken : GoodIn wsX3_findBatches (wsV RX3 50 RX3 yX3_isTaken wsX3_isTaken) := goodIn_app (goodIn_of _ (by decide +kernel)) ggX3_findBatches_X3_isTaken
theorem dX3_findBatches_0 : decode cX3_findBatches 0 = .ok (.iconst 0, 1) := by decide +kernel
theorem dX3_findBatches_1 : decode cX3_findBatches 1 = .ok (.istore_n 1, 1) := by decide +kernel
theorem dX3_findBatches_2 : decode cX3_findBatches 2 = .ok (.iconst 0, 1) := by decide +kernel
theorem dX3_findBatches_3 : decode cX3_findBatches 3 = .ok (.istore_n 2, 1) := by decide +kernel
theorem dX3_findBatches_4 : decode cX3_findBatches 4 = .ok (.iload_n 2, 1) := by decide +kernel
theorem dX3_findBatches_5 : decode cX3_findBatches 5 = .ok (.aload_n 0, 1) := by decide +kernel
theorem dX3_findBatches_6 : decode cX3_findBatches 6 = .ok (.getfield 33, 3) := by decide +kernel
theorem dX3_findBatches_9 : decode cX3_findBatches 9 = .ok (.if_icmp .ge 48, 3) := by decide +kernel
theorem dX3_findBatches_12 : decode cX3_findBatches 12 = .ok (.iconst 0, 1) := by decide +kernel
theorem dX3_findBatches_13 : decode cX3_findBatches 13 = .ok (.istore_n 3, 1) := by decide +kernel
theorem dX3_findBatches_14 : decode cX3_findBatches 14 = .ok (.aload_n 0, 1) := by decide +kernel
theorem dX3_findBatches_15 : decode cX3_findBatches 15 = .ok (.iload_n 3, 1) := by decide +kernel
theorem dX3_findBatches_16 : decode cX3_findBatches 16 = .ok (.iload_n 2, 1) := by decide +kernel
theorem dX3_findBatches_17 : decode cX3_findBatches 17 = .ok (.invokevirtual 50, 3) := by decide +kernel
theorem dX3_findBatches_20 : decode cX3_findBatches 20 = .ok (.ifCond .eq 9, 3) := by decide +kernel
theorem dX3_findBatches_23 : decode cX3_findBatches 23 = .ok (.iinc 3 1, 3) := by decide +kernel
theorem dX3_findBatches_26 : decode cX3_findBatches 26 = .ok (.goto (-12), 3) := by decide +kernel
theorem dX3_findBatches_29 : decode cX3_findBatches 29 = .ok (.aload_n 0, 1) := by decide +kernel
theorem dX3_findBatches_30 : decode cX3_findBatches 30 = .ok (.getfield 21, 3) := by decide +kernel
theorem dX3_findBatches_33 : decode cX3_findBatches 33 = .ok (.iload_n 2, 1) := by decide +kernel
theorem dX3_findBatches_34 : decode cX3_findBatches 34 = .ok (.iload_n 3, 1) := by decide +kernel
theorem dX3_findBatches_35 : decode cX3_findBatches 35 = .ok (.iastore, 1) := by decide +kernel
theorem dX3_findBatches_36 : decode cX3_findBatches 36 = .ok (.iload_n 3, 1) := by decide +kernel
theorem dX3_findBatches_37 : decode cX3_findBatches 37 = .ok (.iconst 1, 1) := by decide +kernel
theorem dX3_findBatches_38 : decode cX3_findBatches 38 = .ok (.iadd, 1) := by decide +kernel
theorem dX3_findBatches_39 : decode cX3_findBatches 39 = .ok (.iload_n 1, 1) := by decide +kernel
theorem dX3_findBatches_40 : decode cX3_findBatches 40 = .ok (.if_icmp .le 9, 3) := by decide +kernel
theorem dX3_findBatches_43 : decode cX3_findBatches 43 = .ok (.iload_n 3, 1) := by decide +kernel
theorem dX3_findBatches_44 : decode cX3_findBatches 44 = .ok (.iconst 1, 1) := by decide +kernel
theorem dX3_findBatches_45 : decode cX3_findBatches 45 = .ok (.iadd, 1) := by decide +kernel
theorem dX3_findBatches_46 : decode cX3_findBatches 46 = .ok (.goto 4, 3) := by decide +kernel
theorem dX3_findBatches_49 : decode cX3_findBatches 49 = .ok (.iload_n 1, 1) := by decide +kernel
theorem dX3_findBatches_50 : decode cX3_findBatches 50 = .ok (.istore_n 1, 1) := by decide +kernel
theorem dX3_findBatches_51 : decode cX3_findBatches 51 = .ok (.iinc 2 1, 3) := by decide +kernel
theorem dX3_findBatches_54 : decode cX3_findBatches 54 = .ok (.goto (-50), 3) := by decide +kernel
theorem dX3_findBatches_57 : decode cX3_findBatches 57 = .ok (.iload_n 1, 1) := by decide +kernel
theorem dX3_findBatches_58 : decode cX3_findBatches 58 = .ok (.ireturn, 1) := by decide +kernel
theorem dX3_isTaken_0 : decode cX3_isTaken 0 = .ok (.iconst 0, 1) := by decide +kernel
theorem dX3_isTaken_1 : decode cX3_isTaken 1 = .ok (.istore_n 3, 1) := by decide +kernel
theorem dX3_isTaken_2 : decode cX3_isTaken 2 = .ok (.iconst 0, 1) := by decide +kernel
theorem dX3_isTaken_3 : decode cX3_isTaken 3 = .ok (.istore 4, 2) := by decide +kernel
theorem dX3_isTaken_5 : decode cX3_isTaken 5 = .ok (.iload 4, 2) := by decide +kernel
theorem dX3_isTaken_7 : decode cX3_isTaken 7 = .ok (.iload_n 2, 1) := by decide +kernel
theorem dX3_isTaken_8 : decode cX3_isTaken 8 = .ok (.if_icmp .ge 34, 3) := by decide +kernel
theorem dX3_isTaken_11 : decode cX3_isTaken 11 = .ok (.aload_n 0, 1) := by decide +kernel
theorem dX3_isTaken_12 : decode cX3_isTaken 12 = .ok (.getfield 21, 3) := by decide +kernel
theorem dX3_isTaken_15 : decode cX3_isTaken 15 = .ok (.iload 4, 2) := by decide +kernel
theorem dX3_isTaken_17 : decode cX3_isTaken 17 = .ok (.iaload, 1) := by decide +kernel
theorem dX3_isTaken_18 : decode cX3_isTaken 18 = .ok (.iload_n 1, 1) := by decide +kernel
theorem dX3_isTaken_19 : decode cX3_isTaken 19 = .ok (.if_icmp .ne 15, 3) := by decide +kernel
theorem dX3_isTaken_22 : decode cX3_isTaken 22 = .ok (.iload_n 3, 1) := by decide +kernel
theorem dX3_isTaken_23 : decode cX3_isTaken 23 = .ok (.aload_n 0, 1) := by decide +kernel
theorem dX3_isTaken_24 : decode cX3_isTaken 24 = .ok (.getfield 13, 3) := by decide +kernel
theorem dX3_isTaken_27 : decode cX3_isTaken 27 = .ok (.iload 4, 2) := by decide +kernel
theorem dX3_isTaken_29 : decode cX3_isTaken 29 = .ok (.iaload, 1) := by decide +kernel
theorem dX3_isTaken_30 : decode cX3_isTaken 30 = .ok (.ior, 1) := by decide +kernel
theorem dX3_isTaken_31 : decode cX3_isTaken 31 = .ok (.goto 4, 3) := by decide +kernel
theorem dX3_isTaken_34 : decode cX3_isTaken 34 = .ok (.iload_n 3, 1) := by decide +kernel
theorem dX3_isTaken_35 : decode cX3_isTaken 35 = .ok (.istore_n 3, 1) := by decide +kernel
theorem dX3_isTaken_36 : decode cX3_isTaken 36 = .ok (.iinc 4 1, 3) := by decide +kernel
theorem dX3_isTaken_39 : decode cX3_isTaken 39 = .ok (.goto (-34), 3) := by decide +kernel
theorem dX3_isTaken_42 : decode cX3_isTaken 42 = .ok (.iload_n 3, 1) := by decide +kernel
theorem dX3_isTaken_43 : decode cX3_isTaken 43 = .ok (.aload_n 0, 1) := by decide +kernel
theorem dX3_isTaken_44 : decode cX3_isTaken 44 = .ok (.getfield 13, 3) := by decide +kernel
theorem dX3_isTaken_47 : decode cX3_isTaken 47 = .ok (.iload_n 2, 1) := by decide +kernel
theorem dX3_isTaken_48 : decode cX3_isTaken 48 = .ok (.iaload, 1) := by decide +kernel
theorem dX3_isTaken_49 : decode cX3_isTaken 49 = .ok (.iand, 1) := by decide +kernel
theorem dX3_isTaken_50 : decode cX3_isTaken 50 = .ok (.ifCond .eq 7, 3) := by decide +kernel
theorem dX3_isTaken_53 : decode cX3_isTaken 53 = .ok (.iconst 1, 1) := by decide +kernel
theorem dX3_isTaken_54 : decode cX3_isTaken 54 = .ok (.goto 4, 3) := by decide +kernel
theorem dX3_isTaken_57 : decode cX3_isTaken 57 = .ok (.iconst 0, 1) := by decide +kernel
theorem dX3_isTaken_58 : decode cX3_isTaken 58 = .ok (.ireturn, 1) := by decide +kernel
set_option maxRecDepth 20000 in
theorem ggX3_batches_X3_findBatches : GoodIn wsX3_batches wsX3_findBatches := goodIn_r _ [6, 7, 8, 9, 10, 11, 5, 12, 13, 14, 15, 16, 17, 18, 19, 20, 21, 22, 23, 24, 25, 26, 27] (by decide +kernel) (by decide +kernel)
set_option maxRecDepth 20000 in
theorem gX3_batches_X3_findBatches : GoodIn wsX3_batches (wsV RX3 54 RX3 yX3_findBatches wsX3_findBatches) := goodIn_app (goodIn_of _ (by decide +kernel)) ggX3_batches_X3_findBatches
theorem dX3_batches_0 : decode cX3_batches 0 = .ok (.aload_n 0, 1) := by decide +kernel
theorem dX3_batches_1 : decode cX3_batches 1 = .ok (.iconst 0, 1) := by decide +kernel
theorem dX3_batches_2 : decode cX3_batches 2 = .ok (.putfield 37, 3) := by decide +kernel
theorem dX3_batches_5 : decode cX3_batches 5 = .ok (.aload_n 0, 1) := by decide +kernel
theorem dX3_batches_6 : decode cX3_batches 6 = .ok (.invokevirtual 54, 3) := by decide +kernel
theorem dX3_batches_9 : decode cX3_batches 9 = .ok (.ireturn, 1) := by decide +kernel
set_option maxRecDepth 20000 in
theorem ggX3_batch_X3_isShare : GoodIn wsX3_batch wsX3_isShare := goodIn_r _ [7, 8, 18, 19, 20, 21, 22, 23, 24, 25, 26, 27, 28, 29, 30, 31] (by decide +kernel) (by decide +kernel)
set_option maxRecDepth 20000 in
theorem gX3_batch_X3_isShare : GoodIn wsX3_batch (wsV RX3 40 RX3 yX3_isShare wsX3_isShare) := goodIn_app (goodIn_of _ (by decide +kernel)) ggX3_batch_X3_isShare
set_option maxRecDepth 20000 in
theorem ggX3_batch_X3_findBatches : GoodIn wsX3_batch wsX3_findBatches := goodIn_r _ [12, 8, 2, 13, 14, 15, 6, 16, 17, 18, 19, 20, 21, 22, 23, 24, 25, 26, 27, 28, 29, 30, 31] (by decide +kernel) (by decide +kernel)
set_option maxRecDepth 20000 in
theorem gX3_batch_X3_findBatches : GoodIn wsX3_batch (wsV RX3 54 RX3 yX3_findBatches wsX3_findBatches) := goodIn_app (goodIn_of _ (by decide +kernel)) ggX3_batch_X3_findBatches
theorem dX3_batch_0 : decode cX3_batch 0 = .ok (.aload_n 0, 1) := by decide +kernel
theorem dX3_batch_1 : decode cX3_batch 1 = .ok (.aload_n 0, 1) := by decide +kernel
theorem dX3_batch_2 : decode cX3_batch 2 = .ok (.iload_n 1, 1) := by decide +kernel
theorem dX3_batch_3 : decode cX3_batch 3 = .ok (.invokevirtual 40, 3) := by decide +kernel
theorem dX3_batch_6 : decode cX3_batch 6 = .ok (.ifCond .eq 7, 3) := by decide +kernel
theorem dX3_batch_9 : decode cX3_batch 9 = .ok (.iconst 0, 1) := by decide +kernel
theorem dX3_batch_10 : decode cX3_batch 10 = .ok (.goto 4, 3) := by decide +kernel
theorem dX3_batch_13 : decode cX3_batch 13 = .ok (.iconst 1, 1) := by decide +kernel
theorem dX3_batch_14 : decode cX3_batch 14 = .ok (.putfield 37, 3) := by decide +kernel
theorem dX3_batch_17 : decode cX3_batch 17 = .ok (.aload_n 0, 1) := by decide +kernel
theorem dX3_batch_18 : decode cX3_batch 18 = .ok (.getfield 37, 3) := by decide +kernel
theorem dX3_batch_21 : decode cX3_batch 21 = .ok (.ifCond .eq 5, 3) := by decide +kernel
theorem dX3_batch_24 : decode cX3_batch 24 = .ok (.iconst 0, 1) := by decide +kernel
theorem dX3_batch_25 : decode cX3_batch 25 = .ok (.ireturn, 1) := by decide +kernel
theorem dX3_batch_26 : decode cX3_batch 26 = .ok (.aload_n 0, 1) := by decide +kernel
theorem dX3_batch_27 : decode cX3_batch 27 = .ok (.invokevirtual 54, 3) := by decide +kernel
theorem dX3_batch_30 : decode cX3_batch 30 = .ok (.pop, 1) := by decide +kernel
theorem dX3_batch_31 : decode cX3_batch 31 = .ok (.aload_n 0, 1) := by decide +kernel
theorem dX3_batch_32 : decode cX3_batch 32 = .ok (.getfield 21, 3) := by decide +kernel
theorem dX3_batch_35 : decode cX3_batch 35 = .ok (.iload_n 1, 1) := by decide +kernel
theorem dX3_batch_36 : decode cX3_batch 36 = .ok (.iaload, 1) := by decide +kernel
theorem dX3_batch_37 : decode cX3_batch 37 = .ok (.ireturn, 1) := by decide +kernel
theorem dX3_isStopped_0 : decode cX3_isStopped 0 = .ok (.iconst 0, 1) := by decide +kernel
theorem dX3_isStopped_1 : decode cX3_isStopped 1 = .ok (.istore_n 2, 1) := by decide +kernel
theorem dX3_isStopped_2 : decode cX3_isStopped 2 = .ok (.iconst 0, 1) := by decide +kernel
theorem dX3_isStopped_3 : decode cX3_isStopped 3 = .ok (.istore_n 3, 1) := by decide +kernel
theorem dX3_isStopped_4 : decode cX3_isStopped 4 = .ok (.iload_n 3, 1) := by decide +kernel
theorem dX3_isStopped_5 : decode cX3_isStopped 5 = .ok (.aload_n 0, 1) := by decide +kernel
theorem dX3_isStopped_6 : decode cX3_isStopped 6 = .ok (.getfield 33, 3) := by decide +kernel
theorem dX3_isStopped_9 : decode cX3_isStopped 9 = .ok (.if_icmp .ge 38, 3) := by decide +kernel
theorem dX3_isStopped_12 : decode cX3_isStopped 12 = .ok (.iload_n 2, 1) := by decide +kernel
theorem dX3_isStopped_13 : decode cX3_isStopped 13 = .ok (.ifCond .ne 22, 3) := by decide +kernel
theorem dX3_isStopped_16 : decode cX3_isStopped 16 = .ok (.aload_n 0, 1) := by decide +kernel
theorem dX3_isStopped_17 : decode cX3_isStopped 17 = .ok (.getfield 21, 3) := by decide +kernel
theorem dX3_isStopped_20 : decode cX3_isStopped 20 = .ok (.iload_n 3, 1) := by decide +kernel
theorem dX3_isStopped_21 : decode cX3_isStopped 21 = .ok (.iaload, 1) := by decide +kernel
theorem dX3_isStopped_22 : decode cX3_isStopped 22 = .ok (.iload_n 1, 1) := by decide +kernel
theorem dX3_isStopped_23 : decode cX3_isStopped 23 = .ok (.if_icmp .ne 16, 3) := by decide +kernel
theorem dX3_isStopped_26 : decode cX3_isStopped 26 = .ok (.aload_n 0, 1) := by decide +kernel
theorem dX3_isStopped_27 : decode cX3_isStopped 27 = .ok (.getfield 17, 3) := by decide +kernel
theorem dX3_isStopped_30 : decode cX3_isStopped 30 = .ok (.iload_n 3, 1) := by decide +kernel
theorem dX3_isStopped_31 : decode cX3_isStopped 31 = .ok (.baload, 1) := by decide +kernel
theorem dX3_isStopped_32 : decode cX3_isStopped 32 = .ok (.ifCond .eq 7, 3) := by decide +kernel
theorem dX3_isStopped_35 : decode cX3_isStopped 35 = .ok (.iconst 1, 1) := by decide +kernel
theorem dX3_isStopped_36 : decode cX3_isStopped 36 = .ok (.goto 4, 3) := by decide +kernel
theorem dX3_isStopped_39 : decode cX3_isStopped 39 = .ok (.iconst 0, 1) := by decide +kernel
theorem dX3_isStopped_40 : decode cX3_isStopped 40 = .ok (.istore_n 2, 1) := by decide +kernel
theorem dX3_isStopped_41 : decode cX3_isStopped 41 = .ok (.iinc 3 1, 3) := by decide +kernel
theorem dX3_isStopped_44 : decode cX3_isStopped 44 = .ok (.goto (-40), 3) := by decide +kernel
theorem dX3_isStopped_47 : decode cX3_isStopped 47 = .ok (.iload_n 2, 1) := by decide +kernel
theorem dX3_isStopped_48 : decode cX3_isStopped 48 = .ok (.ireturn, 1) := by decide +kernel
theorem dX3_next_0 : decode cX3_next 0 = .ok (.lload_n 0, 1) := by decide +kernel
theorem dX3_next_1 : decode cX3_next 1 = .ok (.ldc2_w 58, 3) := by decide +kernel
theorem dX3_next_4 : decode cX3_next 4 = .ok (.lmul, 1) := by decide +kernel
theorem dX3_next_5 : decode cX3_next 5 = .ok (.ldc2_w 60, 3) := by decide +kernel
theorem dX3_next_8 : decode cX3_next 8 = .ok (.ladd, 1) := by decide +kernel
theorem dX3_next_9 : decode cX3_next 9 = .ok (.lreturn, 1) := by decide +kernel
theorem dX3_workerAt_0 : decode cX3_workerAt 0 = .ok (.iload_n 1, 1) := by decide +kernel
theorem dX3_workerAt_1 : decode cX3_workerAt 1 = .ok (.istore_n 2, 1) := by decide +kernel
theorem dX3_workerAt_2 : decode cX3_workerAt 2 = .ok (.iconst 0, 1) := by decide +kernel
theorem dX3_workerAt_3 : decode cX3_workerAt 3 = .ok (.istore_n 3, 1) := by decide +kernel
theorem dX3_workerAt_4 : decode cX3_workerAt 4 = .ok (.iload_n 0, 1) := by decide +kernel
theorem dX3_workerAt_5 : decode cX3_workerAt 5 = .ok (.iload_n 3, 1) := by decide +kernel
theorem dX3_workerAt_6 : decode cX3_workerAt 6 = .ok (.ishr, 1) := by decide +kernel
theorem dX3_workerAt_7 : decode cX3_workerAt 7 = .ok (.iconst 1, 1) := by decide +kernel
theorem dX3_workerAt_8 : decode cX3_workerAt 8 = .ok (.iand, 1) := by decide +kernel
theorem dX3_workerAt_9 : decode cX3_workerAt 9 = .ok (.ifCond .eq 7, 3) := by decide +kernel
theorem dX3_workerAt_12 : decode cX3_workerAt 12 = .ok (.iload_n 2, 1) := by decide +kernel
theorem dX3_workerAt_13 : decode cX3_workerAt 13 = .ok (.ifCond .le 17, 3) := by decide +kernel
theorem dX3_workerAt_16 : decode cX3_workerAt 16 = .ok (.iload_n 2, 1) := by decide +kernel
theorem dX3_workerAt_17 : decode cX3_workerAt 17 = .ok (.iload_n 0, 1) := by decide +kernel
theorem dX3_workerAt_18 : decode cX3_workerAt 18 = .ok (.iload_n 3, 1) := by decide +kernel
theorem dX3_workerAt_19 : decode cX3_workerAt 19 = .ok (.ishr, 1) := by decide +kernel
theorem dX3_workerAt_20 : decode cX3_workerAt 20 = .ok (.iconst 1, 1) := by decide +kernel
theorem dX3_workerAt_21 : decode cX3_workerAt 21 = .ok (.iand, 1) := by decide +kernel
theorem dX3_workerAt_22 : decode cX3_workerAt 22 = .ok (.isub, 1) := by decide +kernel
theorem dX3_workerAt_23 : decode cX3_workerAt 23 = .ok (.istore_n 2, 1) := by decide +kernel
theorem dX3_workerAt_24 : decode cX3_workerAt 24 = .ok (.iinc 3 1, 3) := by decide +kernel
theorem dX3_workerAt_27 : decode cX3_workerAt 27 = .ok (.goto (-23), 3) := by decide +kernel
theorem dX3_workerAt_30 : decode cX3_workerAt 30 = .ok (.iload_n 3, 1) := by decide +kernel
theorem dX3_workerAt_31 : decode cX3_workerAt 31 = .ok (.ireturn, 1) := by decide +kernel
theorem dX3_resultOf_0 : decode cX3_resultOf 0 = .ok (.aload_n 0, 1) := by decide +kernel
theorem dX3_resultOf_1 : decode cX3_resultOf 1 = .ok (.getfield 7, 3) := by decide +kernel
theorem dX3_resultOf_4 : decode cX3_resultOf 4 = .ok (.iload_n 1, 1) := by decide +kernel
theorem dX3_resultOf_5 : decode cX3_resultOf 5 = .ok (.laload, 1) := by decide +kernel
theorem dX3_resultOf_6 : decode cX3_resultOf 6 = .ok (.aload_n 0, 1) := by decide +kernel
theorem dX3_resultOf_7 : decode cX3_resultOf 7 = .ok (.getfield 7, 3) := by decide +kernel
theorem dX3_resultOf_10 : decode cX3_resultOf 10 = .ok (.iload_n 1, 1) := by decide +kernel
theorem dX3_resultOf_11 : decode cX3_resultOf 11 = .ok (.laload, 1) := by decide +kernel
theorem dX3_resultOf_12 : decode cX3_resultOf 12 = .ok (.lmul, 1) := by decide +kernel
theorem dX3_resultOf_13 : decode cX3_resultOf 13 = .ok (.ldc2_w 62, 3) := by decide +kernel
theorem dX3_resultOf_16 : decode cX3_resultOf 16 = .ok (.aload_n 0, 1) := by decide +kernel
theorem dX3_resultOf_17 : decode cX3_resultOf 17 = .ok (.getfield 7, 3) := by decide +kernel
theorem dX3_resultOf_20 : decode cX3_resultOf 20 = .ok (.iload_n 1, 1) := by decide +kernel
theorem dX3_resultOf_21 : decode cX3_resultOf 21 = .ok (.laload, 1) := by decide +kernel
theorem dX3_resultOf_22 : decode cX3_resultOf 22 = .ok (.lmul, 1) := by decide +kernel
theorem dX3_resultOf_23 : decode cX3_resultOf 23 = .ok (.ladd, 1) := by decide +kernel
theorem dX3_resultOf_24 : decode cX3_resultOf 24 = .ok (.ldc2_w 64, 3) := by decide +kernel
theorem dX3_resultOf_27 : decode cX3_resultOf 27 = .ok (.iload_n 1, 1) := by decide +kernel
theorem dX3_resultOf_28 : decode cX3_resultOf 28 = .ok (.i2l, 1) := by decide +kernel
theorem dX3_resultOf_29 : decode cX3_resultOf 29 = .ok (.lmul, 1) := by decide +kernel
theorem dX3_resultOf_30 : decode cX3_resultOf 30 = .ok (.ladd, 1) := by decide +kernel
theorem dX3_resultOf_31 : decode cX3_resultOf 31 = .ok (.lreturn, 1) := by decide +kernel
theorem dX3_letIn_0 : decode cX3_letIn 0 = .ok (.iconst 0, 1) := by decide +kernel
theorem dX3_letIn_1 : decode cX3_letIn 1 = .ok (.istore_n 2, 1) := by decide +kernel
theorem dX3_letIn_2 : decode cX3_letIn 2 = .ok (.iload_n 2, 1) := by decide +kernel
theorem dX3_letIn_3 : decode cX3_letIn 3 = .ok (.iload_n 1, 1) := by decide +kernel
theorem dX3_letIn_4 : decode cX3_letIn 4 = .ok (.if_icmp .ge 115, 3) := by decide +kernel
theorem dX3_letIn_7 : decode cX3_letIn 7 = .ok (.aload_n 0, 1) := by decide +kernel
theorem dX3_letIn_8 : decode cX3_letIn 8 = .ok (.getfield 66, 3) := by decide +kernel
theorem dX3_letIn_11 : decode cX3_letIn 11 = .ok (.ifCond .le 108, 3) := by decide +kernel
theorem dX3_letIn_14 : decode cX3_letIn 14 = .ok (.iconst 0, 1) := by decide +kernel
theorem dX3_letIn_15 : decode cX3_letIn 15 = .ok (.istore_n 3, 1) := by decide +kernel
theorem dX3_letIn_16 : decode cX3_letIn 16 = .ok (.iconst 1, 1) := by decide +kernel
theorem dX3_letIn_17 : decode cX3_letIn 17 = .ok (.istore 4, 2) := by decide +kernel
theorem dX3_letIn_19 : decode cX3_letIn 19 = .ok (.iload 4, 2) := by decide +kernel
theorem dX3_letIn_21 : decode cX3_letIn 21 = .ok (.aload_n 0, 1) := by decide +kernel
theorem dX3_letIn_22 : decode cX3_letIn 22 = .ok (.getfield 66, 3) := by decide +kernel
theorem dX3_letIn_25 : decode cX3_letIn 25 = .ok (.if_icmp .ge 32, 3) := by decide +kernel
theorem dX3_letIn_28 : decode cX3_letIn 28 = .ok (.aload_n 0, 1) := by decide +kernel
theorem dX3_letIn_29 : decode cX3_letIn 29 = .ok (.getfield 27, 3) := by decide +kernel
theorem dX3_letIn_32 : decode cX3_letIn 32 = .ok (.iload 4, 2) := by decide +kernel
theorem dX3_letIn_34 : decode cX3_letIn 34 = .ok (.iaload, 1) := by decide +kernel
theorem dX3_letIn_35 : decode cX3_letIn 35 = .ok (.aload_n 0, 1) := by decide +kernel
theorem dX3_letIn_36 : decode cX3_letIn 36 = .ok (.getfield 27, 3) := by decide +kernel
theorem dX3_letIn_39 : decode cX3_letIn 39 = .ok (.iload_n 3, 1) := by decide +kernel
theorem dX3_letIn_40 : decode cX3_letIn 40 = .ok (.iaload, 1) := by decide +kernel
theorem dX3_letIn_41 : decode cX3_letIn 41 = .ok (.if_icmp .le 8, 3) := by decide +kernel
theorem dX3_letIn_44 : decode cX3_letIn 44 = .ok (.iload 4, 2) := by decide +kernel
theorem dX3_letIn_46 : decode cX3_letIn 46 = .ok (.goto 4, 3) := by decide +kernel
theorem dX3_letIn_49 : decode cX3_letIn 49 = .ok (.iload_n 3, 1) := by decide +kernel
theorem dX3_letIn_50 : decode cX3_letIn 50 = .ok (.istore_n 3, 1) := by decide +kernel
theorem dX3_letIn_51 : decode cX3_letIn 51 = .ok (.iinc 4 1, 3) := by decide +kernel
theorem dX3_letIn_54 : decode cX3_letIn 54 = .ok (.goto (-35), 3) := by decide +kernel
theorem dX3_letIn_57 : decode cX3_letIn 57 = .ok (.iload_n 3, 1) := by decide +kernel
theorem dX3_letIn_58 : decode cX3_letIn 58 = .ok (.istore 4, 2) := by decide +kernel
theorem dX3_letIn_60 : decode cX3_letIn 60 = .ok (.iload 4, 2) := by decide +kernel
theorem dX3_letIn_62 : decode cX3_letIn 62 = .ok (.iconst 1, 1) := by decide +kernel
theorem dX3_letIn_63 : decode cX3_letIn 63 = .ok (.iadd, 1) := by decide +kernel
theorem dX3_letIn_64 : decode cX3_letIn 64 = .ok (.aload_n 0, 1) := by decide +kernel
theorem dX3_letIn_65 : decode cX3_letIn 65 = .ok (.getfield 66, 3) := by decide +kernel
theorem dX3_letIn_68 : decode cX3_letIn 68 = .ok (.if_icmp .ge 25, 3) := by decide +kernel
theorem dX3_letIn_71 : decode cX3_letIn 71 = .ok (.aload_n 0, 1) := by decide +kernel
theorem dX3_letIn_72 : decode cX3_letIn 72 = .ok (.getfield 27, 3) := by decide +kernel
theorem dX3_letIn_75 : decode cX3_letIn 75 = .ok (.iload 4, 2) := by decide +kernel
theorem dX3_letIn_77 : decode cX3_letIn 77 = .ok (.aload_n 0, 1) := by decide +kernel
theorem dX3_letIn_78 : decode cX3_letIn 78 = .ok (.getfield 27, 3) := by decide +kernel
theorem dX3_letIn_81 : decode cX3_letIn 81 = .ok (.iload 4, 2) := by decide +kernel
theorem dX3_letIn_83 : decode cX3_letIn 83 = .ok (.iconst 1, 1) := by decide +kernel
theorem dX3_letIn_84 : decode cX3_letIn 84 = .ok (.iadd, 1) := by decide +kernel
theorem dX3_letIn_85 : decode cX3_letIn 85 = .ok (.iaload, 1) := by decide +kernel
theorem dX3_letIn_86 : decode cX3_letIn 86 = .ok (.iastore, 1) := by decide +kernel
theorem dX3_letIn_87 : decode cX3_letIn 87 = .ok (.iinc 4 1, 3) := by decide +kernel
theorem dX3_letIn_90 : decode cX3_letIn 90 = .ok (.goto (-30), 3) := by decide +kernel
theorem dX3_letIn_93 : decode cX3_letIn 93 = .ok (.aload_n 0, 1) := by decide +kernel
theorem dX3_letIn_94 : decode cX3_letIn 94 = .ok (.dup, 1) := by decide +kernel
theorem dX3_letIn_95 : decode cX3_letIn 95 = .ok (.getfield 66, 3) := by decide +kernel
theorem dX3_letIn_98 : decode cX3_letIn 98 = .ok (.iconst 1, 1) := by decide +kernel
theorem dX3_letIn_99 : decode cX3_letIn 99 = .ok (.isub, 1) := by decide +kernel
theorem dX3_letIn_100 : decode cX3_letIn 100 = .ok (.putfield 66, 3) := by decide +kernel
theorem dX3_letIn_103 : decode cX3_letIn 103 = .ok (.aload_n 0, 1) := by decide +kernel
theorem dX3_letIn_104 : decode cX3_letIn 104 = .ok (.dup, 1) := by decide +kernel
theorem dX3_letIn_105 : decode cX3_letIn 105 = .ok (.getfield 69, 3) := by decide +kernel
theorem dX3_letIn_108 : decode cX3_letIn 108 = .ok (.lconst 1, 1) := by decide +kernel
theorem dX3_letIn_109 : decode cX3_letIn 109 = .ok (.ladd, 1) := by decide +kernel
theorem dX3_letIn_110 : decode cX3_letIn 110 = .ok (.putfield 69, 3) := by decide +kernel
theorem dX3_letIn_113 : decode cX3_letIn 113 = .ok (.iinc 2 1, 3) := by decide +kernel
theorem dX3_letIn_116 : decode cX3_letIn 116 = .ok (.goto (-114), 3) := by decide +kernel
theorem dX3_letIn_119 : decode cX3_letIn 119 = .ok (.return_, 1) := by decide +kernel
set_option maxRecDepth 20000 in
theorem ggX3_run_X3_findBatches : GoodIn wsX3_run wsX3_findBatches := goodIn_r _ [14, 5, 6, 15, 16, 17, 13, 18, 19, 46, 47, 48, 49, 50, 51, 52, 53, 54, 55, 56, 57, 58, 59] (by decide +kernel) (by decide +kernel)
set_option maxRecDepth 20000 in
theorem gX3_run_X3_findBatches : GoodIn wsX3_run (wsV RX3 54 RX3 yX3_findBatches wsX3_findBatches) := goodIn_app (goodIn_of _ (by decide +kernel)) ggX3_run_X3_findBatches
set_option maxRecDepth 20000 in
theorem ggX3_run_X3_isStopped : GoodIn wsX3_run wsX3_isStopped := goodIn_r _ [23, 5, 6, 24, 46, 47, 48, 49, 50, 51, 52, 53, 54, 55, 56, 57, 58, 59] (by decide +kernel) (by decide +kernel)
set_option maxRecDepth 20000 in
theorem gX3_run_X3_isStopped : GoodIn wsX3_run (wsV RX3 79 RX3 yX3_isStopped wsX3_isStopped) := goodIn_app (goodIn_of _ (by decide +kernel)) ggX3_run_X3_isStopped
set_option maxRecDepth 20000 in
theorem ggX3_run_X3_next : GoodIn wsX3_run wsX3_next := goodIn_r _ [27, 28, 29] (by decide +kernel) (by decide +kernel)
set_option maxRecDepth 20000 in
theorem gX3_run_X3_next : GoodIn wsX3_run (va_wsS RX3 82 yX3_next wsX3_next) := goodIn_app (goodIn_of _ (by decide +kernel)) ggX3_run_X3_next
set_option maxRecDepth 20000 in
theorem ggX3_run_X3_workerAt : GoodIn wsX3_run wsX3_workerAt := goodIn_r _ [32] (by decide +kernel) (by decide +kernel)
set_option maxRecDepth 20000 in
theorem gX3_run_X3_workerAt : GoodIn wsX3_run (va_wsS RX3 86 yX3_workerAt wsX3_workerAt) := goodIn_app (goodIn_of _ (by decide +kernel)) ggX3_run_X3_workerAt
set_option maxRecDepth 20000 in
theorem ggX3_run_X3_resultOf : GoodIn wsX3_run wsX3_resultOf := goodIn_r _ [36, 37, 38, 39, 46, 47, 48, 49, 50, 51, 52, 53, 54, 55, 56, 57, 58, 59] (by decide +kernel) (by decide +kernel)
set_option maxRecDepth 20000 in
theorem gX3_run_X3_resultOf : GoodIn wsX3_run (wsV RX3 90 RX3 yX3_resultOf wsX3_resultOf) := goodIn_app (goodIn_of _ (by decide +kernel)) ggX3_run_X3_resultOf
set_option maxRecDepth 20000 in
theorem ggX3_run_X3_letIn : GoodIn wsX3_run wsX3_letIn := goodIn_r _ [43, 44, 45, 7, 46, 47, 48, 49, 50, 51, 52, 53, 54, 55, 56, 57, 58, 59] (by decide +kernel) (by decide +kernel)
set_option maxRecDepth 20000 in
theorem gX3_run_X3_letIn : GoodIn wsX3_run (wsV RX3 97 RX3 yX3_letIn wsX3_letIn) := goodIn_app (goodIn_of _ (by decide +kernel)) ggX3_run_X3_letIn
theorem dX3_run_0 : decode cX3_run 0 = .ok (.aload_n 0, 1) := by decide +kernel
theorem dX3_run_1 : decode cX3_run 1 = .ok (.iload_n 1, 1) := by decide +kernel
theorem dX3_run_2 : decode cX3_run 2 = .ok (.iconst 1, 1) := by decide +kernel
theorem dX3_run_3 : decode cX3_run 3 = .ok (.if_icmp .lt 13, 3) := by decide +kernel
theorem dX3_run_6 : decode cX3_run 6 = .ok (.iload_n 1, 1) := by decide +kernel
theorem dX3_run_7 : decode cX3_run 7 = .ok (.bipush 16, 2) := by decide +kernel
theorem dX3_run_9 : decode cX3_run 9 = .ok (.if_icmp .gt 7, 3) := by decide +kernel
theorem dX3_run_12 : decode cX3_run 12 = .ok (.iconst 0, 1) := by decide +kernel
theorem dX3_run_13 : decode cX3_run 13 = .ok (.goto 4, 3) := by decide +kernel
theorem dX3_run_16 : decode cX3_run 16 = .ok (.iconst 1, 1) := by decide +kernel
theorem dX3_run_17 : decode cX3_run 17 = .ok (.putfield 37, 3) := by decide +kernel
theorem dX3_run_20 : decode cX3_run 20 = .ok (.aload_n 0, 1) := by decide +kernel
theorem dX3_run_21 : decode cX3_run 21 = .ok (.getfield 37, 3) := by decide +kernel
theorem dX3_run_24 : decode cX3_run 24 = .ok (.ifCond .eq 5, 3) := by decide +kernel
theorem dX3_run_27 : decode cX3_run 27 = .ok (.iconst 0, 1) := by decide +kernel
theorem dX3_run_28 : decode cX3_run 28 = .ok (.ireturn, 1) := by decide +kernel
theorem dX3_run_29 : decode cX3_run 29 = .ok (.aload_n 0, 1) := by decide +kernel
theorem dX3_run_30 : decode cX3_run 30 = .ok (.invokevirtual 54, 3) := by decide +kernel
theorem dX3_run_33 : decode cX3_run 33 = .ok (.istore 4, 2) := by decide +kernel
theorem dX3_run_35 : decode cX3_run 35 = .ok (.iconst 0, 1) := by decide +kernel
theorem dX3_run_36 : decode cX3_run 36 = .ok (.istore 5, 2) := by decide +kernel
theorem dX3_run_38 : decode cX3_run 38 = .ok (.iload 5, 2) := by decide +kernel
theorem dX3_run_40 : decode cX3_run 40 = .ok (.bipush 40, 2) := by decide +kernel
theorem dX3_run_42 : decode cX3_run 42 = .ok (.if_icmp .ge 17, 3) := by decide +kernel
theorem dX3_run_45 : decode cX3_run 45 = .ok (.aload_n 0, 1) := by decide +kernel
theorem dX3_run_46 : decode cX3_run 46 = .ok (.getfield 30, 3) := by decide +kernel
theorem dX3_run_49 : decode cX3_run 49 = .ok (.iload 5, 2) := by decide +kernel
theorem dX3_run_51 : decode cX3_run 51 = .ok (.iconst 0, 1) := by decide +kernel
theorem dX3_run_52 : decode cX3_run 52 = .ok (.iastore, 1) := by decide +kernel
theorem dX3_run_53 : decode cX3_run 53 = .ok (.iinc 5 1, 3) := by decide +kernel
theorem dX3_run_56 : decode cX3_run 56 = .ok (.goto (-18), 3) := by decide +kernel
theorem dX3_run_59 : decode cX3_run 59 = .ok (.aload_n 0, 1) := by decide +kernel
theorem dX3_run_60 : decode cX3_run 60 = .ok (.iconst 0, 1) := by decide +kernel
theorem dX3_run_61 : decode cX3_run 61 = .ok (.putfield 73, 3) := by decide +kernel
theorem dX3_run_64 : decode cX3_run 64 = .ok (.aload_n 0, 1) := by decide +kernel
theorem dX3_run_65 : decode cX3_run 65 = .ok (.iload_n 1, 1) := by decide +kernel
theorem dX3_run_66 : decode cX3_run 66 = .ok (.putfield 76, 3) := by decide +kernel
theorem dX3_run_69 : decode cX3_run 69 = .ok (.iconst 1, 1) := by decide +kernel
theorem dX3_run_70 : decode cX3_run 70 = .ok (.iload_n 1, 1) := by decide +kernel
theorem dX3_run_71 : decode cX3_run 71 = .ok (.ishl, 1) := by decide +kernel
theorem dX3_run_72 : decode cX3_run 72 = .ok (.iconst 1, 1) := by decide +kernel
theorem dX3_run_73 : decode cX3_run 73 = .ok (.isub, 1) := by decide +kernel
theorem dX3_run_74 : decode cX3_run 74 = .ok (.istore 5, 2) := by decide +kernel
theorem dX3_run_76 : decode cX3_run 76 = .ok (.lload_n 2, 1) := by decide +kernel
theorem dX3_run_77 : decode cX3_run 77 = .ok (.lstore 6, 2) := by decide +kernel
theorem dX3_run_79 : decode cX3_run 79 = .ok (.iconst 0, 1) := by decide +kernel
theorem dX3_run_80 : decode cX3_run 80 = .ok (.istore 8, 2) := by decide +kernel
theorem dX3_run_82 : decode cX3_run 82 = .ok (.iconst 0, 1) := by decide +kernel
theorem dX3_run_83 : decode cX3_run 83 = .ok (.istore 9, 2) := by decide +kernel
theorem dX3_run_85 : decode cX3_run 85 = .ok (.lconst 0, 1) := by decide +kernel
theorem dX3_run_86 : decode cX3_run 86 = .ok (.lstore 10, 2) := by decide +kernel
theorem dX3_run_88 : decode cX3_run 88 = .ok (.iload 8, 2) := by decide +kernel
theorem dX3_run_90 : decode cX3_run 90 = .ok (.iload 4, 2) := by decide +kernel
theorem dX3_run_92 : decode cX3_run 92 = .ok (.if_icmp .ge 192, 3) := by decide +kernel
theorem dX3_run_95 : decode cX3_run 95 = .ok (.aload_n 0, 1) := by decide +kernel
theorem dX3_run_96 : decode cX3_run 96 = .ok (.iload 8, 2) := by decide +kernel
theorem dX3_run_98 : decode cX3_run 98 = .ok (.invokevirtual 79, 3) := by decide +kernel
theorem dX3_run_101 : decode cX3_run 101 = .ok (.ifCond .ne 183, 3) := by decide +kernel
theorem dX3_run_104 : decode cX3_run 104 = .ok (.iconst 0, 1) := by decide +kernel
theorem dX3_run_105 : decode cX3_run 105 = .ok (.istore 12, 2) := by decide +kernel
theorem dX3_run_107 : decode cX3_run 107 = .ok (.iload 12, 2) := by decide +kernel
theorem dX3_run_109 : decode cX3_run 109 = .ok (.aload_n 0, 1) := by decide +kernel
theorem dX3_run_110 : decode cX3_run 110 = .ok (.getfield 33, 3) := by decide +kernel
theorem dX3_run_113 : decode cX3_run 113 = .ok (.if_icmp .ge 165, 3) := by decide +kernel
theorem dX3_run_116 : decode cX3_run 116 = .ok (.aload_n 0, 1) := by decide +kernel
theorem dX3_run_117 : decode cX3_run 117 = .ok (.getfield 21, 3) := by decide +kernel
theorem dX3_run_120 : decode cX3_run 120 = .ok (.iload 12, 2) := by decide +kernel
theorem dX3_run_122 : decode cX3_run 122 = .ok (.iaload, 1) := by decide +kernel
theorem dX3_run_123 : decode cX3_run 123 = .ok (.iload 8, 2) := by decide +kernel
theorem dX3_run_125 : decode cX3_run 125 = .ok (.if_icmp .eq 6, 3) := by decide +kernel
theorem dX3_run_128 : decode cX3_run 128 = .ok (.goto 144, 3) := by decide +kernel
theorem dX3_run_131 : decode cX3_run 131 = .ok (.iconst 0, 1) := by decide +kernel
theorem dX3_run_132 : decode cX3_run 132 = .ok (.istore 13, 2) := by decide +kernel
theorem dX3_run_134 : decode cX3_run 134 = .ok (.iload 13, 2) := by decide +kernel
theorem dX3_run_136 : decode cX3_run 136 = .ok (.ifCond .ne 122, 3) := by decide +kernel
theorem dX3_run_139 : decode cX3_run 139 = .ok (.lload 6, 2) := by decide +kernel
theorem dX3_run_141 : decode cX3_run 141 = .ok (.invokestatic 82, 3) := by decide +kernel
theorem dX3_run_144 : decode cX3_run 144 = .ok (.lstore 6, 2) := by decide +kernel
theorem dX3_run_146 : decode cX3_run 146 = .ok (.iload 5, 2) := by decide +kernel
theorem dX3_run_148 : decode cX3_run 148 = .ok (.lload 6, 2) := by decide +kernel
theorem dX3_run_150 : decode cX3_run 150 = .ok (.bipush 33, 2) := by decide +kernel
theorem dX3_run_152 : decode cX3_run 152 = .ok (.lushr, 1) := by decide +kernel
theorem dX3_run_153 : decode cX3_run 153 = .ok (.aload_n 0, 1) := by decide +kernel
theorem dX3_run_154 : decode cX3_run 154 = .ok (.getfield 76, 3) := by decide +kernel
theorem dX3_run_157 : decode cX3_run 157 = .ok (.i2l, 1) := by decide +kernel
theorem dX3_run_158 : decode cX3_run 158 = .ok (.lrem, 1) := by decide +kernel
theorem dX3_run_159 : decode cX3_run 159 = .ok (.l2i, 1) := by decide +kernel
theorem dX3_run_160 : decode cX3_run 160 = .ok (.invokestatic 86, 3) := by decide +kernel
theorem dX3_run_163 : decode cX3_run 163 = .ok (.istore 14, 2) := by decide +kernel
theorem dX3_run_165 : decode cX3_run 165 = .ok (.aload_n 0, 1) := by decide +kernel
theorem dX3_run_166 : decode cX3_run 166 = .ok (.getfield 30, 3) := by decide +kernel
theorem dX3_run_169 : decode cX3_run 169 = .ok (.iload 12, 2) := by decide +kernel
theorem dX3_run_171 : decode cX3_run 171 = .ok (.dup2, 1) := by decide +kernel
theorem dX3_run_172 : decode cX3_run 172 = .ok (.iaload, 1) := by decide +kernel
theorem dX3_run_173 : decode cX3_run 173 = .ok (.iconst 1, 1) := by decide +kernel
theorem dX3_run_174 : decode cX3_run 174 = .ok (.iadd, 1) := by decide +kernel
theorem dX3_run_175 : decode cX3_run 175 = .ok (.iastore, 1) := by decide +kernel
theorem dX3_run_176 : decode cX3_run 176 = .ok (.aload_n 0, 1) := by decide +kernel
theorem dX3_run_177 : decode cX3_run 177 = .ok (.dup, 1) := by decide +kernel
theorem dX3_run_178 : decode cX3_run 178 = .ok (.getfield 69, 3) := by decide +kernel
theorem dX3_run_181 : decode cX3_run 181 = .ok (.lconst 1, 1) := by decide +kernel
theorem dX3_run_182 : decode cX3_run 182 = .ok (.ladd, 1) := by decide +kernel
theorem dX3_run_183 : decode cX3_run 183 = .ok (.putfield 69, 3) := by decide +kernel
theorem dX3_run_186 : decode cX3_run 186 = .ok (.aload_n 0, 1) := by decide +kernel
theorem dX3_run_187 : decode cX3_run 187 = .ok (.getfield 24, 3) := by decide +kernel
theorem dX3_run_190 : decode cX3_run 190 = .ok (.iload 14, 2) := by decide +kernel
theorem dX3_run_192 : decode cX3_run 192 = .ok (.laload, 1) := by decide +kernel
theorem dX3_run_193 : decode cX3_run 193 = .ok (.iload 12, 2) := by decide +kernel
theorem dX3_run_195 : decode cX3_run 195 = .ok (.lshr, 1) := by decide +kernel
theorem dX3_run_196 : decode cX3_run 196 = .ok (.lconst 1, 1) := by decide +kernel
theorem dX3_run_197 : decode cX3_run 197 = .ok (.land, 1) := by decide +kernel
theorem dX3_run_198 : decode cX3_run 198 = .ok (.lconst 0, 1) := by decide +kernel
theorem dX3_run_199 : decode cX3_run 199 = .ok (.lcmp, 1) := by decide +kernel
theorem dX3_run_200 : decode cX3_run 200 = .ok (.ifCond .ne 7, 3) := by decide +kernel
theorem dX3_run_203 : decode cX3_run 203 = .ok (.iconst 1, 1) := by decide +kernel
theorem dX3_run_204 : decode cX3_run 204 = .ok (.goto 4, 3) := by decide +kernel
theorem dX3_run_207 : decode cX3_run 207 = .ok (.iconst 0, 1) := by decide +kernel
theorem dX3_run_208 : decode cX3_run 208 = .ok (.istore 13, 2) := by decide +kernel
theorem dX3_run_210 : decode cX3_run 210 = .ok (.iload 13, 2) := by decide +kernel
theorem dX3_run_212 : decode cX3_run 212 = .ok (.ifCond .ne 43, 3) := by decide +kernel
theorem dX3_run_215 : decode cX3_run 215 = .ok (.iload 5, 2) := by decide +kernel
theorem dX3_run_217 : decode cX3_run 217 = .ok (.iconst 1, 1) := by decide +kernel
theorem dX3_run_218 : decode cX3_run 218 = .ok (.iload 14, 2) := by decide +kernel
theorem dX3_run_220 : decode cX3_run 220 = .ok (.ishl, 1) := by decide +kernel
theorem dX3_run_221 : decode cX3_run 221 = .ok (.iconst (-1), 1) := by decide +kernel
theorem dX3_run_222 : decode cX3_run 222 = .ok (.ixor, 1) := by decide +kernel
theorem dX3_run_223 : decode cX3_run 223 = .ok (.iand, 1) := by decide +kernel
theorem dX3_run_224 : decode cX3_run 224 = .ok (.istore 5, 2) := by decide +kernel
theorem dX3_run_226 : decode cX3_run 226 = .ok (.aload_n 0, 1) := by decide +kernel
theorem dX3_run_227 : decode cX3_run 227 = .ok (.dup, 1) := by decide +kernel
theorem dX3_run_228 : decode cX3_run 228 = .ok (.getfield 76, 3) := by decide +kernel
theorem dX3_run_231 : decode cX3_run 231 = .ok (.iconst 1, 1) := by decide +kernel
theorem dX3_run_232 : decode cX3_run 232 = .ok (.isub, 1) := by decide +kernel
theorem dX3_run_233 : decode cX3_run 233 = .ok (.putfield 76, 3) := by decide +kernel
theorem dX3_run_236 : decode cX3_run 236 = .ok (.aload_n 0, 1) := by decide +kernel
theorem dX3_run_237 : decode cX3_run 237 = .ok (.dup, 1) := by decide +kernel
theorem dX3_run_238 : decode cX3_run 238 = .ok (.getfield 73, 3) := by decide +kernel
theorem dX3_run_241 : decode cX3_run 241 = .ok (.iconst 1, 1) := by decide +kernel
theorem dX3_run_242 : decode cX3_run 242 = .ok (.iadd, 1) := by decide +kernel
theorem dX3_run_243 : decode cX3_run 243 = .ok (.putfield 73, 3) := by decide +kernel
theorem dX3_run_246 : decode cX3_run 246 = .ok (.aload_n 0, 1) := by decide +kernel
theorem dX3_run_247 : decode cX3_run 247 = .ok (.getfield 76, 3) := by decide +kernel
theorem dX3_run_250 : decode cX3_run 250 = .ok (.ifCond .ne 5, 3) := by decide +kernel
theorem dX3_run_253 : decode cX3_run 253 = .ok (.iconst (-1), 1) := by decide +kernel
theorem dX3_run_254 : decode cX3_run 254 = .ok (.ireturn, 1) := by decide +kernel
theorem dX3_run_255 : decode cX3_run 255 = .ok (.goto (-121), 3) := by decide +kernel
theorem dX3_run_258 : decode cX3_run 258 = .ok (.lload 10, 2) := by decide +kernel
theorem dX3_run_260 : decode cX3_run 260 = .ok (.aload_n 0, 1) := by decide +kernel
theorem dX3_run_261 : decode cX3_run 261 = .ok (.iload 12, 2) := by decide +kernel
theorem dX3_run_263 : decode cX3_run 263 = .ok (.invokevirtual 90, 3) := by decide +kernel
theorem dX3_run_266 : decode cX3_run 266 = .ok (.ladd, 1) := by decide +kernel
theorem dX3_run_267 : decode cX3_run 267 = .ok (.lstore 10, 2) := by decide +kernel
theorem dX3_run_269 : decode cX3_run 269 = .ok (.iinc 9 1, 3) := by decide +kernel
theorem dX3_run_272 : decode cX3_run 272 = .ok (.iinc 12 1, 3) := by decide +kernel
theorem dX3_run_275 : decode cX3_run 275 = .ok (.goto (-168), 3) := by decide +kernel
theorem dX3_run_278 : decode cX3_run 278 = .ok (.iinc 8 1, 3) := by decide +kernel
theorem dX3_run_281 : decode cX3_run 281 = .ok (.goto (-193), 3) := by decide +kernel
theorem dX3_run_284 : decode cX3_run 284 = .ok (.aload_n 0, 1) := by decide +kernel
theorem dX3_run_285 : decode cX3_run 285 = .ok (.lload 10, 2) := by decide +kernel
theorem dX3_run_287 : decode cX3_run 287 = .ok (.putfield 94, 3) := by decide +kernel
theorem dX3_run_290 : decode cX3_run 290 = .ok (.aload_n 0, 1) := by decide +kernel
theorem dX3_run_291 : decode cX3_run 291 = .ok (.iload 8, 2) := by decide +kernel
theorem dX3_run_293 : decode cX3_run 293 = .ok (.invokevirtual 97, 3) := by decide +kernel
theorem dX3_run_296 : decode cX3_run 296 = .ok (.iload 9, 2) := by decide +kernel
theorem dX3_run_298 : decode cX3_run 298 = .ok (.ireturn, 1) := by decide +kernel
theorem dX3_joined_0 : decode cX3_joined 0 = .ok (.aload_n 0, 1) := by decide +kernel
theorem dX3_joined_1 : decode cX3_joined 1 = .ok (.iconst 0, 1) := by decide +kernel
theorem dX3_joined_2 : decode cX3_joined 2 = .ok (.putfield 37, 3) := by decide +kernel
theorem dX3_joined_5 : decode cX3_joined 5 = .ok (.aload_n 0, 1) := by decide +kernel
theorem dX3_joined_6 : decode cX3_joined 6 = .ok (.getfield 94, 3) := by decide +kernel
theorem dX3_joined_9 : decode cX3_joined 9 = .ok (.l2d, 1) := by decide +kernel
theorem dX3_joined_10 : decode cX3_joined 10 = .ok (.ldc2_w 101, 3) := by decide +kernel
theorem dX3_joined_13 : decode cX3_joined 13 = .ok (.ddiv, 1) := by decide +kernel
theorem dX3_joined_14 : decode cX3_joined 14 = .ok (.dreturn, 1) := by decide +kernel
set_option maxRecDepth 20000 in
theorem ggX3_plain_X3_resultOf : GoodIn wsX3_plain wsX3_resultOf := goodIn_r _ [8, 9, 10, 11, 12, 13, 14, 15, 16, 17, 18, 19, 20, 21, 22, 23, 24, 25] (by decide +kernel) (by decide +kernel)
set_option maxRecDepth 20000 in
theorem gX3_plain_X3_resultOf : GoodIn wsX3_plain (wsV RX3 90 RX3 yX3_resultOf wsX3_resultOf) := goodIn_app (goodIn_of _ (by decide +kernel)) ggX3_plain_X3_resultOf
theorem dX3_plain_0 : decode cX3_plain 0 = .ok (.aload_n 0, 1) := by decide +kernel
theorem dX3_plain_1 : decode cX3_plain 1 = .ok (.iconst 0, 1) := by decide +kernel
theorem dX3_plain_2 : decode cX3_plain 2 = .ok (.putfield 37, 3) := by decide +kernel
theorem dX3_plain_5 : decode cX3_plain 5 = .ok (.lconst 0, 1) := by decide +kernel
theorem dX3_plain_6 : decode cX3_plain 6 = .ok (.lstore_n 1, 1) := by decide +kernel
theorem dX3_plain_7 : decode cX3_plain 7 = .ok (.iconst 0, 1) := by decide +kernel
theorem dX3_plain_8 : decode cX3_plain 8 = .ok (.istore_n 3, 1) := by decide +kernel
theorem dX3_plain_9 : decode cX3_plain 9 = .ok (.iload_n 3, 1) := by decide +kernel
theorem dX3_plain_10 : decode cX3_plain 10 = .ok (.aload_n 0, 1) := by decide +kernel
theorem dX3_plain_11 : decode cX3_plain 11 = .ok (.getfield 33, 3) := by decide +kernel
theorem dX3_plain_14 : decode cX3_plain 14 = .ok (.if_icmp .ge 17, 3) := by decide +kernel
theorem dX3_plain_17 : decode cX3_plain 17 = .ok (.lload_n 1, 1) := by decide +kernel
theorem dX3_plain_18 : decode cX3_plain 18 = .ok (.aload_n 0, 1) := by decide +kernel
theorem dX3_plain_19 : decode cX3_plain 19 = .ok (.iload_n 3, 1) := by decide +kernel
theorem dX3_plain_20 : decode cX3_plain 20 = .ok (.invokevirtual 90, 3) := by decide +kernel
theorem dX3_plain_23 : decode cX3_plain 23 = .ok (.ladd, 1) := by decide +kernel
theorem dX3_plain_24 : decode cX3_plain 24 = .ok (.lstore_n 1, 1) := by decide +kernel
theorem dX3_plain_25 : decode cX3_plain 25 = .ok (.iinc 3 1, 3) := by decide +kernel
theorem dX3_plain_28 : decode cX3_plain 28 = .ok (.goto (-19), 3) := by decide +kernel
theorem dX3_plain_31 : decode cX3_plain 31 = .ok (.lload_n 1, 1) := by decide +kernel
theorem dX3_plain_32 : decode cX3_plain 32 = .ok (.l2d, 1) := by decide +kernel
theorem dX3_plain_33 : decode cX3_plain 33 = .ok (.ldc2_w 101, 3) := by decide +kernel
theorem dX3_plain_36 : decode cX3_plain 36 = .ok (.ddiv, 1) := by decide +kernel
theorem dX3_plain_37 : decode cX3_plain 37 = .ok (.dreturn, 1) := by decide +kernel
set_option maxRecDepth 20000 in
theorem ggX3_times_X3_isShare : GoodIn wsX3_times wsX3_isShare := goodIn_r _ [7, 8, 9, 10, 11, 12, 13, 14, 15, 16, 17, 18, 19, 20, 21, 22] (by decide +kernel) (by decide +kernel)
set_option maxRecDepth 20000 in
theorem gX3_times_X3_isShare : GoodIn wsX3_times (wsV RX3 40 RX3 yX3_isShare wsX3_isShare) := goodIn_app (goodIn_of _ (by decide +kernel)) ggX3_times_X3_isShare
theorem dX3_times_0 : decode cX3_times 0 = .ok (.aload_n 0, 1) := by decide +kernel
theorem dX3_times_1 : decode cX3_times 1 = .ok (.aload_n 0, 1) := by decide +kernel
theorem dX3_times_2 : decode cX3_times 2 = .ok (.iload_n 1, 1) := by decide +kernel
theorem dX3_times_3 : decode cX3_times 3 = .ok (.invokevirtual 40, 3) := by decide +kernel
theorem dX3_times_6 : decode cX3_times 6 = .ok (.ifCond .eq 7, 3) := by decide +kernel
theorem dX3_times_9 : decode cX3_times 9 = .ok (.iconst 0, 1) := by decide +kernel
theorem dX3_times_10 : decode cX3_times 10 = .ok (.goto 4, 3) := by decide +kernel
theorem dX3_times_13 : decode cX3_times 13 = .ok (.iconst 1, 1) := by decide +kernel
theorem dX3_times_14 : decode cX3_times 14 = .ok (.putfield 37, 3) := by decide +kernel
theorem dX3_times_17 : decode cX3_times 17 = .ok (.aload_n 0, 1) := by decide +kernel
theorem dX3_times_18 : decode cX3_times 18 = .ok (.getfield 37, 3) := by decide +kernel
theorem dX3_times_21 : decode cX3_times 21 = .ok (.ifCond .ne 12, 3) := by decide +kernel
theorem dX3_times_24 : decode cX3_times 24 = .ok (.aload_n 0, 1) := by decide +kernel
theorem dX3_times_25 : decode cX3_times 25 = .ok (.getfield 30, 3) := by decide +kernel
theorem dX3_times_28 : decode cX3_times 28 = .ok (.iload_n 1, 1) := by decide +kernel
theorem dX3_times_29 : decode cX3_times 29 = .ok (.iaload, 1) := by decide +kernel
theorem dX3_times_30 : decode cX3_times 30 = .ok (.goto 4, 3) := by decide +kernel
theorem dX3_times_33 : decode cX3_times 33 = .ok (.iconst 0, 1) := by decide +kernel
theorem dX3_times_34 : decode cX3_times 34 = .ok (.ireturn, 1) := by decide +kernel
theorem dX3_act_0 : decode cX3_act 0 = .ok (.aload_n 0, 1) := by decide +kernel
theorem dX3_act_1 : decode cX3_act 1 = .ok (.iload_n 1, 1) := by decide +kernel
theorem dX3_act_2 : decode cX3_act 2 = .ok (.ifCond .lt 13, 3) := by decide +kernel
theorem dX3_act_5 : decode cX3_act 5 = .ok (.iload_n 1, 1) := by decide +kernel
theorem dX3_act_6 : decode cX3_act 6 = .ok (.bipush 10, 2) := by decide +kernel
theorem dX3_act_8 : decode cX3_act 8 = .ok (.if_icmp .ge 7, 3) := by decide +kernel
theorem dX3_act_11 : decode cX3_act 11 = .ok (.iconst 0, 1) := by decide +kernel
theorem dX3_act_12 : decode cX3_act 12 = .ok (.goto 4, 3) := by decide +kernel
theorem dX3_act_15 : decode cX3_act 15 = .ok (.iconst 1, 1) := by decide +kernel
theorem dX3_act_16 : decode cX3_act 16 = .ok (.putfield 37, 3) := by decide +kernel
theorem dX3_act_19 : decode cX3_act 19 = .ok (.aload_n 0, 1) := by decide +kernel
theorem dX3_act_20 : decode cX3_act 20 = .ok (.getfield 37, 3) := by decide +kernel
theorem dX3_act_23 : decode cX3_act 23 = .ok (.ifCond .eq 5, 3) := by decide +kernel
theorem dX3_act_26 : decode cX3_act 26 = .ok (.iconst 0, 1) := by decide +kernel
theorem dX3_act_27 : decode cX3_act 27 = .ok (.ireturn, 1) := by decide +kernel
theorem dX3_act_28 : decode cX3_act 28 = .ok (.aload_n 0, 1) := by decide +kernel
theorem dX3_act_29 : decode cX3_act 29 = .ok (.getfield 66, 3) := by decide +kernel
theorem dX3_act_32 : decode cX3_act 32 = .ok (.bipush 20, 2) := by decide +kernel
theorem dX3_act_34 : decode cX3_act 34 = .ok (.if_icmp .ne 5, 3) := by decide +kernel
theorem dX3_act_37 : decode cX3_act 37 = .ok (.iconst (-1), 1) := by decide +kernel
theorem dX3_act_38 : decode cX3_act 38 = .ok (.ireturn, 1) := by decide +kernel
theorem dX3_act_39 : decode cX3_act 39 = .ok (.iconst 0, 1) := by decide +kernel
theorem dX3_act_40 : decode cX3_act 40 = .ok (.istore_n 2, 1) := by decide +kernel
theorem dX3_act_41 : decode cX3_act 41 = .ok (.iconst 0, 1) := by decide +kernel
theorem dX3_act_42 : decode cX3_act 42 = .ok (.istore_n 3, 1) := by decide +kernel
theorem dX3_act_43 : decode cX3_act 43 = .ok (.iload_n 3, 1) := by decide +kernel
theorem dX3_act_44 : decode cX3_act 44 = .ok (.aload_n 0, 1) := by decide +kernel
theorem dX3_act_45 : decode cX3_act 45 = .ok (.getfield 66, 3) := by decide +kernel
theorem dX3_act_48 : decode cX3_act 48 = .ok (.if_icmp .ge 27, 3) := by decide +kernel
theorem dX3_act_51 : decode cX3_act 51 = .ok (.iload_n 2, 1) := by decide +kernel
theorem dX3_act_52 : decode cX3_act 52 = .ok (.aload_n 0, 1) := by decide +kernel
theorem dX3_act_53 : decode cX3_act 53 = .ok (.getfield 27, 3) := by decide +kernel
theorem dX3_act_56 : decode cX3_act 56 = .ok (.iload_n 3, 1) := by decide +kernel
theorem dX3_act_57 : decode cX3_act 57 = .ok (.iaload, 1) := by decide +kernel
theorem dX3_act_58 : decode cX3_act 58 = .ok (.iload_n 1, 1) := by decide +kernel
theorem dX3_act_59 : decode cX3_act 59 = .ok (.if_icmp .lt 7, 3) := by decide +kernel
theorem dX3_act_62 : decode cX3_act 62 = .ok (.iconst 1, 1) := by decide +kernel
theorem dX3_act_63 : decode cX3_act 63 = .ok (.goto 4, 3) := by decide +kernel
theorem dX3_act_66 : decode cX3_act 66 = .ok (.iconst 0, 1) := by decide +kernel
theorem dX3_act_67 : decode cX3_act 67 = .ok (.iadd, 1) := by decide +kernel
theorem dX3_act_68 : decode cX3_act 68 = .ok (.istore_n 2, 1) := by decide +kernel
theorem dX3_act_69 : decode cX3_act 69 = .ok (.iinc 3 1, 3) := by decide +kernel
theorem dX3_act_72 : decode cX3_act 72 = .ok (.goto (-29), 3) := by decide +kernel
theorem dX3_act_75 : decode cX3_act 75 = .ok (.aload_n 0, 1) := by decide +kernel
theorem dX3_act_76 : decode cX3_act 76 = .ok (.getfield 27, 3) := by decide +kernel
theorem dX3_act_79 : decode cX3_act 79 = .ok (.aload_n 0, 1) := by decide +kernel
theorem dX3_act_80 : decode cX3_act 80 = .ok (.getfield 66, 3) := by decide +kernel
theorem dX3_act_83 : decode cX3_act 83 = .ok (.iload_n 1, 1) := by decide +kernel
theorem dX3_act_84 : decode cX3_act 84 = .ok (.iastore, 1) := by decide +kernel
theorem dX3_act_85 : decode cX3_act 85 = .ok (.aload_n 0, 1) := by decide +kernel
theorem dX3_act_86 : decode cX3_act 86 = .ok (.dup, 1) := by decide +kernel
theorem dX3_act_87 : decode cX3_act 87 = .ok (.getfield 66, 3) := by decide +kernel
theorem dX3_act_90 : decode cX3_act 90 = .ok (.iconst 1, 1) := by decide +kernel
theorem dX3_act_91 : decode cX3_act 91 = .ok (.iadd, 1) := by decide +kernel
theorem dX3_act_92 : decode cX3_act 92 = .ok (.putfield 66, 3) := by decide +kernel
theorem dX3_act_95 : decode cX3_act 95 = .ok (.iload_n 2, 1) := by decide +kernel
theorem dX3_act_96 : decode cX3_act 96 = .ok (.ireturn, 1) := by decide +kernel
theorem dX3_work_0 : decode cX3_work 0 = .ok (.aload_n 0, 1) := by decide +kernel
theorem dX3_work_1 : decode cX3_work 1 = .ok (.iconst 0, 1) := by decide +kernel
theorem dX3_work_2 : decode cX3_work 2 = .ok (.putfield 37, 3) := by decide +kernel
theorem dX3_work_5 : decode cX3_work 5 = .ok (.aload_n 0, 1) := by decide +kernel
theorem dX3_work_6 : decode cX3_work 6 = .ok (.getfield 69, 3) := by decide +kernel
theorem dX3_work_9 : decode cX3_work 9 = .ok (.lreturn, 1) := by decide +kernel
theorem dX3_broken_0 : decode cX3_broken 0 = .ok (.aload_n 0, 1) := by decide +kernel
theorem dX3_broken_1 : decode cX3_broken 1 = .ok (.iconst 0, 1) := by decide +kernel
theorem dX3_broken_2 : decode cX3_broken 2 = .ok (.putfield 37, 3) := by decide +kernel
theorem dX3_broken_5 : decode cX3_broken 5 = .ok (.aload_n 0, 1) := by decide +kernel
theorem dX3_broken_6 : decode cX3_broken 6 = .ok (.getfield 73, 3) := by decide +kernel
theorem dX3_broken_9 : decode cX3_broken 9 = .ok (.ireturn, 1) := by decide +kernel
theorem dX3_live_0 : decode cX3_live 0 = .ok (.aload_n 0, 1) := by decide +kernel
theorem dX3_live_1 : decode cX3_live 1 = .ok (.iconst 0, 1) := by decide +kernel
theorem dX3_live_2 : decode cX3_live 2 = .ok (.putfield 37, 3) := by decide +kernel
theorem dX3_live_5 : decode cX3_live 5 = .ok (.aload_n 0, 1) := by decide +kernel
theorem dX3_live_6 : decode cX3_live 6 = .ok (.getfield 76, 3) := by decide +kernel
theorem dX3_live_9 : decode cX3_live 9 = .ok (.ireturn, 1) := by decide +kernel
