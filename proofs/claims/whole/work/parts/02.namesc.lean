theorem dX2_init_5 : decode cX2_init 5 = .ok (.bipush 16, 2) := by decide +kernel
theorem dX2_init_7 : decode cX2_init 7 = .ok (.newarray .int, 2) := by decide +kernel
theorem dX2_init_9 : decode cX2_init 9 = .ok (.putfield 9, 3) := by decide +kernel
theorem dX2_init_12 : decode cX2_init 12 = .ok (.aload_n 0, 1) := by decide +kernel
theorem dX2_init_13 : decode cX2_init 13 = .ok (.bipush 16, 2) := by decide +kernel
theorem dX2_init_15 : decode cX2_init 15 = .ok (.newarray .long, 2) := by decide +kernel
theorem dX2_init_17 : decode cX2_init 17 = .ok (.putfield 15, 3) := by decide +kernel
theorem dX2_init_20 : decode cX2_init 20 = .ok (.aload_n 0, 1) := by decide +kernel
theorem dX2_init_21 : decode cX2_init 21 = .ok (.bipush 16, 2) := by decide +kernel
theorem dX2_init_23 : decode cX2_init 23 = .ok (.newarray .long, 2) := by decide +kernel
theorem dX2_init_25 : decode cX2_init 25 = .ok (.putfield 19, 3) := by decide +kernel
theorem dX2_init_28 : decode cX2_init 28 = .ok (.aload_n 0, 1) := by decide +kernel
theorem dX2_init_29 : decode cX2_init 29 = .ok (.iconst 0, 1) := by decide +kernel
theorem dX2_init_30 : decode cX2_init 30 = .ok (.putfield 22, 3) := by decide +kernel
theorem dX2_init_33 : decode cX2_init 33 = .ok (.return_, 1) := by decide +kernel
set_option maxRecDepth 20000 in
theorem ggX2_put_X3_within : GoodIn wsX2_put wsX3_within := goodIn_r _ [14] (by decide +kernel) (by decide +kernel)
set_option maxRecDepth 20000 in
theorem gX2_put_X3_within_n30 : GoodIn wsX2_put (wsX3_within) := ggX2_put_X3_within
set_option maxRecDepth 20000 in
theorem ggX2_put_X2_placeFor : GoodIn wsX2_put wsX2_placeFor := goodIn_r _ [19, 7, 4, 20, 21, 22, 23] (by decide +kernel) (by decide +kernel)
set_option maxRecDepth 20000 in
theorem gX2_put_X2_placeFor : GoodIn wsX2_put (wsV RX2 36 RX2 yX2_placeFor wsX2_placeFor) := goodIn_app (goodIn_of _ (by decide +kernel)) ggX2_put_X2_placeFor
theorem dX2_put_0 : decode cX2_put 0 = .ok (.iload_n 1, 1) := by decide +kernel
theorem dX2_put_1 : decode cX2_put 1 = .ok (.i2l, 1) := by decide +kernel
theorem dX2_put_2 : decode cX2_put 2 = .ok (.ldc2_w 26, 3) := by decide +kernel
theorem dX2_put_5 : decode cX2_put 5 = .ok (.ldc2_w 28, 3) := by decide +kernel
theorem dX2_put_8 : decode cX2_put 8 = .ok (.invokestatic 30, 3) := by decide +kernel
theorem dX2_put_11 : decode cX2_put 11 = .ok (.ifCond .eq 30, 3) := by decide +kernel
theorem dX2_put_14 : decode cX2_put 14 = .ok (.lload_n 2, 1) := by decide +kernel
theorem dX2_put_15 : decode cX2_put 15 = .ok (.lconst 1, 1) := by decide +kernel
theorem dX2_put_16 : decode cX2_put 16 = .ok (.ldc2_w 34, 3) := by decide +kernel
theorem dX2_put_19 : decode cX2_put 19 = .ok (.invokestatic 30, 3) := by decide +kernel
theorem dX2_put_22 : decode cX2_put 22 = .ok (.ifCond .eq 19, 3) := by decide +kernel
theorem dX2_put_25 : decode cX2_put 25 = .ok (.lload 4, 2) := by decide +kernel
theorem dX2_put_27 : decode cX2_put 27 = .ok (.lconst 1, 1) := by decide +kernel
theorem dX2_put_28 : decode cX2_put 28 = .ok (.ldc2_w 34, 3) := by decide +kernel
theorem dX2_put_31 : decode cX2_put 31 = .ok (.invokestatic 30, 3) := by decide +kernel
theorem dX2_put_34 : decode cX2_put 34 = .ok (.ifCond .eq 7, 3) := by decide +kernel
theorem dX2_put_37 : decode cX2_put 37 = .ok (.iconst 1, 1) := by decide +kernel
theorem dX2_put_38 : decode cX2_put 38 = .ok (.goto 4, 3) := by decide +kernel
theorem dX2_put_41 : decode cX2_put 41 = .ok (.iconst 0, 1) := by decide +kernel
theorem dX2_put_42 : decode cX2_put 42 = .ok (.istore 6, 2) := by decide +kernel
theorem dX2_put_44 : decode cX2_put 44 = .ok (.aload_n 0, 1) := by decide +kernel
theorem dX2_put_45 : decode cX2_put 45 = .ok (.iload_n 1, 1) := by decide +kernel
theorem dX2_put_46 : decode cX2_put 46 = .ok (.invokevirtual 36, 3) := by decide +kernel
theorem dX2_put_49 : decode cX2_put 49 = .ok (.istore 7, 2) := by decide +kernel
theorem dX2_put_51 : decode cX2_put 51 = .ok (.iload 6, 2) := by decide +kernel
theorem dX2_put_53 : decode cX2_put 53 = .ok (.ifCond .eq 10, 3) := by decide +kernel
theorem dX2_put_56 : decode cX2_put 56 = .ok (.iload 7, 2) := by decide +kernel
theorem dX2_put_58 : decode cX2_put 58 = .ok (.bipush 16, 2) := by decide +kernel
theorem dX2_put_60 : decode cX2_put 60 = .ok (.if_icmp .lt 5, 3) := by decide +kernel
theorem dX2_put_63 : decode cX2_put 63 = .ok (.iconst 0, 1) := by decide +kernel
theorem dX2_put_64 : decode cX2_put 64 = .ok (.ireturn, 1) := by decide +kernel
theorem dX2_put_65 : decode cX2_put 65 = .ok (.aload_n 0, 1) := by decide +kernel
theorem dX2_put_66 : decode cX2_put 66 = .ok (.getfield 9, 3) := by decide +kernel
theorem dX2_put_69 : decode cX2_put 69 = .ok (.iload 7, 2) := by decide +kernel
theorem dX2_put_71 : decode cX2_put 71 = .ok (.iload_n 1, 1) := by decide +kernel
theorem dX2_put_72 : decode cX2_put 72 = .ok (.iastore, 1) := by decide +kernel
theorem dX2_put_73 : decode cX2_put 73 = .ok (.aload_n 0, 1) := by decide +kernel
theorem dX2_put_74 : decode cX2_put 74 = .ok (.getfield 15, 3) := by decide +kernel
theorem dX2_put_77 : decode cX2_put 77 = .ok (.iload 7, 2) := by decide +kernel
theorem dX2_put_79 : decode cX2_put 79 = .ok (.lload_n 2, 1) := by decide +kernel
theorem dX2_put_80 : decode cX2_put 80 = .ok (.lastore, 1) := by decide +kernel
theorem dX2_put_81 : decode cX2_put 81 = .ok (.aload_n 0, 1) := by decide +kernel
theorem dX2_put_82 : decode cX2_put 82 = .ok (.getfield 19, 3) := by decide +kernel
theorem dX2_put_85 : decode cX2_put 85 = .ok (.iload 7, 2) := by decide +kernel
theorem dX2_put_87 : decode cX2_put 87 = .ok (.lload 4, 2) := by decide +kernel
theorem dX2_put_89 : decode cX2_put 89 = .ok (.lastore, 1) := by decide +kernel
theorem dX2_put_90 : decode cX2_put 90 = .ok (.aload_n 0, 1) := by decide +kernel
theorem dX2_put_91 : decode cX2_put 91 = .ok (.aload_n 0, 1) := by decide +kernel
theorem dX2_put_92 : decode cX2_put 92 = .ok (.getfield 22, 3) := by decide +kernel
theorem dX2_put_95 : decode cX2_put 95 = .ok (.iload 7, 2) := by decide +kernel
theorem dX2_put_97 : decode cX2_put 97 = .ok (.iconst 1, 1) := by decide +kernel
theorem dX2_put_98 : decode cX2_put 98 = .ok (.iadd, 1) := by decide +kernel
theorem dX2_put_99 : decode cX2_put 99 = .ok (.invokestatic 40, 3) := by decide +kernel
theorem dX2_put_102 : decode cX2_put 102 = .ok (.putfield 22, 3) := by decide +kernel
theorem dX2_put_105 : decode cX2_put 105 = .ok (.iconst 1, 1) := by decide +kernel
theorem dX2_put_106 : decode cX2_put 106 = .ok (.ireturn, 1) := by decide +kernel
set_option maxRecDepth 20000 in
theorem ggX2_aboveAt_X2_lineAt : GoodIn wsX2_aboveAt wsX2_lineAt := goodIn_r _ [6, 7, 8, 9, 10, 5, 11, 12, 13, 14, 15] (by decide +kernel) (by decide +kernel)
set_option maxRecDepth 20000 in
theorem gX2_aboveAt_X2_lineAt : GoodIn wsX2_aboveAt (wsV RX2 46 RX2 yX2_lineAt wsX2_lineAt) := goodIn_app (goodIn_of _ (by decide +kernel)) ggX2_aboveAt_X2_lineAt
theorem dX2_aboveAt_0 : decode cX2_aboveAt 0 = .ok (.aload_n 0, 1) := by decide +kernel
theorem dX2_aboveAt_1 : decode cX2_aboveAt 1 = .ok (.iload_n 1, 1) := by decide +kernel
theorem dX2_aboveAt_2 : decode cX2_aboveAt 2 = .ok (.invokevirtual 46, 3) := by decide +kernel
theorem dX2_aboveAt_5 : decode cX2_aboveAt 5 = .ok (.istore_n 2, 1) := by decide +kernel
theorem dX2_aboveAt_6 : decode cX2_aboveAt 6 = .ok (.iload_n 2, 1) := by decide +kernel
theorem dX2_aboveAt_7 : decode cX2_aboveAt 7 = .ok (.ifCond .ge 7, 3) := by decide +kernel
theorem dX2_aboveAt_10 : decode cX2_aboveAt 10 = .ok (.lconst 0, 1) := by decide +kernel
theorem dX2_aboveAt_11 : decode cX2_aboveAt 11 = .ok (.goto 9, 3) := by decide +kernel
theorem dX2_aboveAt_14 : decode cX2_aboveAt 14 = .ok (.aload_n 0, 1) := by decide +kernel
theorem dX2_aboveAt_15 : decode cX2_aboveAt 15 = .ok (.getfield 15, 3) := by decide +kernel
theorem dX2_aboveAt_18 : decode cX2_aboveAt 18 = .ok (.iload_n 2, 1) := by decide +kernel
theorem dX2_aboveAt_19 : decode cX2_aboveAt 19 = .ok (.laload, 1) := by decide +kernel
theorem dX2_aboveAt_20 : decode cX2_aboveAt 20 = .ok (.lreturn, 1) := by decide +kernel
set_option maxRecDepth 20000 in
theorem ggX2_belowAt_X2_lineAt : GoodIn wsX2_belowAt wsX2_lineAt := goodIn_r _ [6, 7, 8, 9, 10, 5, 11, 12, 13, 14, 15] (by decide +kernel) (by decide +kernel)
set_option maxRecDepth 20000 in
theorem gX2_belowAt_X2_lineAt : GoodIn wsX2_belowAt (wsV RX2 46 RX2 yX2_lineAt wsX2_lineAt) := goodIn_app (goodIn_of _ (by decide +kernel)) ggX2_belowAt_X2_lineAt
theorem dX2_belowAt_0 : decode cX2_belowAt 0 = .ok (.aload_n 0, 1) := by decide +kernel
theorem dX2_belowAt_1 : decode cX2_belowAt 1 = .ok (.iload_n 1, 1) := by decide +kernel
theorem dX2_belowAt_2 : decode cX2_belowAt 2 = .ok (.invokevirtual 46, 3) := by decide +kernel
theorem dX2_belowAt_5 : decode cX2_belowAt 5 = .ok (.istore_n 2, 1) := by decide +kernel
theorem dX2_belowAt_6 : decode cX2_belowAt 6 = .ok (.iload_n 2, 1) := by decide +kernel
theorem dX2_belowAt_7 : decode cX2_belowAt 7 = .ok (.ifCond .ge 7, 3) := by decide +kernel
theorem dX2_belowAt_10 : decode cX2_belowAt 10 = .ok (.lconst 1, 1) := by decide +kernel
theorem dX2_belowAt_11 : decode cX2_belowAt 11 = .ok (.goto 9, 3) := by decide +kernel
theorem dX2_belowAt_14 : decode cX2_belowAt 14 = .ok (.aload_n 0, 1) := by decide +kernel
theorem dX2_belowAt_15 : decode cX2_belowAt 15 = .ok (.getfield 19, 3) := by decide +kernel
theorem dX2_belowAt_18 : decode cX2_belowAt 18 = .ok (.iload_n 2, 1) := by decide +kernel
theorem dX2_belowAt_19 : decode cX2_belowAt 19 = .ok (.laload, 1) := by decide +kernel
theorem dX2_belowAt_20 : decode cX2_belowAt 20 = .ok (.lreturn, 1) := by decide +kernel
theorem dX2_placeFor_0 : decode cX2_placeFor 0 = .ok (.iconst 0, 1) := by decide +kernel
theorem dX2_placeFor_1 : decode cX2_placeFor 1 = .ok (.istore_n 2, 1) := by decide +kernel
theorem dX2_placeFor_2 : decode cX2_placeFor 2 = .ok (.iload_n 2, 1) := by decide +kernel
theorem dX2_placeFor_3 : decode cX2_placeFor 3 = .ok (.aload_n 0, 1) := by decide +kernel
theorem dX2_placeFor_4 : decode cX2_placeFor 4 = .ok (.getfield 22, 3) := by decide +kernel
theorem dX2_placeFor_7 : decode cX2_placeFor 7 = .ok (.if_icmp .ge 21, 3) := by decide +kernel
theorem dX2_placeFor_10 : decode cX2_placeFor 10 = .ok (.aload_n 0, 1) := by decide +kernel
theorem dX2_placeFor_11 : decode cX2_placeFor 11 = .ok (.getfield 9, 3) := by decide +kernel
theorem dX2_placeFor_14 : decode cX2_placeFor 14 = .ok (.iload_n 2, 1) := by decide +kernel
theorem dX2_placeFor_15 : decode cX2_placeFor 15 = .ok (.iaload, 1) := by decide +kernel
theorem dX2_placeFor_16 : decode cX2_placeFor 16 = .ok (.iload_n 1, 1) := by decide +kernel
theorem dX2_placeFor_17 : decode cX2_placeFor 17 = .ok (.if_icmp .ne 5, 3) := by decide +kernel
theorem dX2_placeFor_20 : decode cX2_placeFor 20 = .ok (.iload_n 2, 1) := by decide +kernel
theorem dX2_placeFor_21 : decode cX2_placeFor 21 = .ok (.ireturn, 1) := by decide +kernel
theorem dX2_placeFor_22 : decode cX2_placeFor 22 = .ok (.iinc 2 1, 3) := by decide +kernel
theorem dX2_placeFor_25 : decode cX2_placeFor 25 = .ok (.goto (-23), 3) := by decide +kernel
theorem dX2_placeFor_28 : decode cX2_placeFor 28 = .ok (.aload_n 0, 1) := by decide +kernel
theorem dX2_placeFor_29 : decode cX2_placeFor 29 = .ok (.getfield 22, 3) := by decide +kernel
theorem dX2_placeFor_32 : decode cX2_placeFor 32 = .ok (.ireturn, 1) := by decide +kernel
set_option maxRecDepth 20000 in
theorem ggX2_lineAt_X2_goesBefore : GoodIn wsX2_lineAt wsX2_goesBefore := goodIn_r _ [6] (by decide +kernel) (by decide +kernel)
set_option maxRecDepth 20000 in
theorem gX2_lineAt_X2_goesBefore : GoodIn wsX2_lineAt (va_wsS RX2 49 yX2_goesBefore wsX2_goesBefore) := goodIn_app (goodIn_of _ (by decide +kernel)) ggX2_lineAt_X2_goesBefore
theorem dX2_lineAt_0 : decode cX2_lineAt 0 = .ok (.iconst (-1), 1) := by decide +kernel
theorem dX2_lineAt_1 : decode cX2_lineAt 1 = .ok (.istore_n 2, 1) := by decide +kernel
theorem dX2_lineAt_2 : decode cX2_lineAt 2 = .ok (.iconst 0, 1) := by decide +kernel
theorem dX2_lineAt_3 : decode cX2_lineAt 3 = .ok (.istore_n 3, 1) := by decide +kernel
theorem dX2_lineAt_4 : decode cX2_lineAt 4 = .ok (.iload_n 3, 1) := by decide +kernel
theorem dX2_lineAt_5 : decode cX2_lineAt 5 = .ok (.aload_n 0, 1) := by decide +kernel
theorem dX2_lineAt_6 : decode cX2_lineAt 6 = .ok (.getfield 22, 3) := by decide +kernel
theorem dX2_lineAt_9 : decode cX2_lineAt 9 = .ok (.if_icmp .ge 35, 3) := by decide +kernel
theorem dX2_lineAt_12 : decode cX2_lineAt 12 = .ok (.iload_n 2, 1) := by decide +kernel
theorem dX2_lineAt_13 : decode cX2_lineAt 13 = .ok (.iconst (-1), 1) := by decide +kernel
theorem dX2_lineAt_14 : decode cX2_lineAt 14 = .ok (.if_icmp .eq 22, 3) := by decide +kernel
theorem dX2_lineAt_17 : decode cX2_lineAt 17 = .ok (.aload_n 0, 1) := by decide +kernel
theorem dX2_lineAt_18 : decode cX2_lineAt 18 = .ok (.getfield 9, 3) := by decide +kernel
theorem dX2_lineAt_21 : decode cX2_lineAt 21 = .ok (.iload_n 3, 1) := by decide +kernel
theorem dX2_lineAt_22 : decode cX2_lineAt 22 = .ok (.iaload, 1) := by decide +kernel
theorem dX2_lineAt_23 : decode cX2_lineAt 23 = .ok (.aload_n 0, 1) := by decide +kernel
theorem dX2_lineAt_24 : decode cX2_lineAt 24 = .ok (.getfield 9, 3) := by decide +kernel
theorem dX2_lineAt_27 : decode cX2_lineAt 27 = .ok (.iload_n 2, 1) := by decide +kernel
theorem dX2_lineAt_28 : decode cX2_lineAt 28 = .ok (.iaload, 1) := by decide +kernel
theorem dX2_lineAt_29 : decode cX2_lineAt 29 = .ok (.iload_n 1, 1) := by decide +kernel
theorem dX2_lineAt_30 : decode cX2_lineAt 30 = .ok (.invokestatic 49, 3) := by decide +kernel
theorem dX2_lineAt_33 : decode cX2_lineAt 33 = .ok (.ifCond .eq 5, 3) := by decide +kernel
theorem dX2_lineAt_36 : decode cX2_lineAt 36 = .ok (.iload_n 3, 1) := by decide +kernel
theorem dX2_lineAt_37 : decode cX2_lineAt 37 = .ok (.istore_n 2, 1) := by decide +kernel
theorem dX2_lineAt_38 : decode cX2_lineAt 38 = .ok (.iinc 3 1, 3) := by decide +kernel
theorem dX2_lineAt_41 : decode cX2_lineAt 41 = .ok (.goto (-37), 3) := by decide +kernel
theorem dX2_lineAt_44 : decode cX2_lineAt 44 = .ok (.iload_n 2, 1) := by decide +kernel
theorem dX2_lineAt_45 : decode cX2_lineAt 45 = .ok (.ireturn, 1) := by decide +kernel
theorem dX2_goesBefore_0 : decode cX2_goesBefore 0 = .ok (.iload_n 0, 1) := by decide +kernel
theorem dX2_goesBefore_1 : decode cX2_goesBefore 1 = .ok (.iload_n 2, 1) := by decide +kernel
theorem dX2_goesBefore_2 : decode cX2_goesBefore 2 = .ok (.if_icmp .gt 19, 3) := by decide +kernel
theorem dX2_goesBefore_5 : decode cX2_goesBefore 5 = .ok (.iload_n 1, 1) := by decide +kernel
theorem dX2_goesBefore_6 : decode cX2_goesBefore 6 = .ok (.iload_n 2, 1) := by decide +kernel
theorem dX2_goesBefore_7 : decode cX2_goesBefore 7 = .ok (.if_icmp .gt 8, 3) := by decide +kernel
theorem dX2_goesBefore_10 : decode cX2_goesBefore 10 = .ok (.iload_n 0, 1) := by decide +kernel
theorem dX2_goesBefore_11 : decode cX2_goesBefore 11 = .ok (.iload_n 1, 1) := by decide +kernel
theorem dX2_goesBefore_12 : decode cX2_goesBefore 12 = .ok (.if_icmp .le 7, 3) := by decide +kernel
theorem dX2_goesBefore_15 : decode cX2_goesBefore 15 = .ok (.iconst 1, 1) := by decide +kernel
theorem dX2_goesBefore_16 : decode cX2_goesBefore 16 = .ok (.goto 4, 3) := by decide +kernel
theorem dX2_goesBefore_19 : decode cX2_goesBefore 19 = .ok (.iconst 0, 1) := by decide +kernel
theorem dX2_goesBefore_20 : decode cX2_goesBefore 20 = .ok (.ireturn, 1) := by decide +kernel
theorem dX2_goesBefore_21 : decode cX2_goesBefore 21 = .ok (.iload_n 1, 1) := by decide +kernel
theorem dX2_goesBefore_22 : decode cX2_goesBefore 22 = .ok (.iload_n 2, 1) := by decide +kernel
theorem dX2_goesBefore_23 : decode cX2_goesBefore 23 = .ok (.if_icmp .le 12, 3) := by decide +kernel
theorem dX2_goesBefore_26 : decode cX2_goesBefore 26 = .ok (.iload_n 0, 1) := by decide +kernel
theorem dX2_goesBefore_27 : decode cX2_goesBefore 27 = .ok (.iload_n 1, 1) := by decide +kernel
theorem dX2_goesBefore_28 : decode cX2_goesBefore 28 = .ok (.if_icmp .ge 7, 3) := by decide +kernel
theorem dX2_goesBefore_31 : decode cX2_goesBefore 31 = .ok (.iconst 1, 1) := by decide +kernel
theorem dX2_goesBefore_32 : decode cX2_goesBefore 32 = .ok (.goto 4, 3) := by decide +kernel
theorem dX2_goesBefore_35 : decode cX2_goesBefore 35 = .ok (.iconst 0, 1) := by decide +kernel
theorem dX2_goesBefore_36 : decode cX2_goesBefore 36 = .ok (.ireturn, 1) := by decide +kernel
theorem dX3_init_0 : decode cX3_init 0 = .ok (.aload_n 0, 1) := by decide +kernel
theorem dX3_init_1 : decode cX3_init 1 = .ok (.invokespecial 1, 3) := by decide +kernel
theorem dX3_init_4 : decode cX3_init 4 = .ok (.aload_n 0, 1) := by decide +kernel
theorem dX3_init_5 : decode cX3_init 5 = .ok (.bipush 8, 2) := by decide +kernel
theorem dX3_init_7 : decode cX3_init 7 = .ok (.anewarray 9, 3) := by decide +kernel
theorem dX3_init_10 : decode cX3_init 10 = .ok (.putfield 11, 3) := by decide +kernel
theorem dX3_init_13 : decode cX3_init 13 = .ok (.aload_n 0, 1) := by decide +kernel
theorem dX3_init_14 : decode cX3_init 14 = .ok (.iconst 0, 1) := by decide +kernel
theorem dX3_init_15 : decode cX3_init 15 = .ok (.putfield 15, 3) := by decide +kernel
theorem dX3_init_18 : decode cX3_init 18 = .ok (.return_, 1) := by decide +kernel
set_option maxRecDepth 20000 in
theorem ggX3_meter_X0_init : GoodIn wsX3_meter wsX0_init := goodIn_r _ [8, 9, 10, 11, 12, 13, 14, 15, 16, 17, 18, 19, 20, 21, 22, 23, 24, 25, 26, 27, 28, 29, 30, 31, 32, 33, 34, 35, 36, 37, 38, 39, 40, 41, 42, 43, 50, 51, 52, 53, 46, 47, 48, 49, 54, 55, 56, 57, 58, 59, 60] (by decide +kernel) (by decide +kernel)
set_option maxRecDepth 20000 in
theorem gX3_meter_X0_init : GoodIn wsX3_meter (wsX0_init) := ggX3_meter_X0_init
theorem dX3_meter_0 : decode cX3_meter 0 = .ok (.aload_n 0, 1) := by decide +kernel
theorem dX3_meter_1 : decode cX3_meter 1 = .ok (.getfield 15, 3) := by decide +kernel
theorem dX3_meter_4 : decode cX3_meter 4 = .ok (.bipush 8, 2) := by decide +kernel
theorem dX3_meter_6 : decode cX3_meter 6 = .ok (.if_icmp .lt 6, 3) := by decide +kernel
theorem dX3_meter_9 : decode cX3_meter 9 = .ok (.bipush (-2), 2) := by decide +kernel
theorem dX3_meter_11 : decode cX3_meter 11 = .ok (.ireturn, 1) := by decide +kernel
theorem dX3_meter_12 : decode cX3_meter 12 = .ok (.aload_n 0, 1) := by decide +kernel
theorem dX3_meter_13 : decode cX3_meter 13 = .ok (.getfield 15, 3) := by decide +kernel
theorem dX3_meter_16 : decode cX3_meter 16 = .ok (.istore_n 3, 1) := by decide +kernel
theorem dX3_meter_17 : decode cX3_meter 17 = .ok (.aload_n 0, 1) := by decide +kernel
theorem dX3_meter_18 : decode cX3_meter 18 = .ok (.getfield 11, 3) := by decide +kernel
theorem dX3_meter_21 : decode cX3_meter 21 = .ok (.iload_n 3, 1) := by decide +kernel
theorem dX3_meter_22 : decode cX3_meter 22 = .ok (.new 9, 3) := by decide +kernel
theorem dX3_meter_25 : decode cX3_meter 25 = .ok (.dup, 1) := by decide +kernel
theorem dX3_meter_26 : decode cX3_meter 26 = .ok (.lload_n 1, 1) := by decide +kernel
theorem dX3_meter_27 : decode cX3_meter 27 = .ok (.invokespecial 19, 3) := by decide +kernel
theorem dX3_meter_30 : decode cX3_meter 30 = .ok (.aastore, 1) := by decide +kernel
theorem dX3_meter_31 : decode cX3_meter 31 = .ok (.aload_n 0, 1) := by decide +kernel
theorem dX3_meter_32 : decode cX3_meter 32 = .ok (.dup, 1) := by decide +kernel
theorem dX3_meter_33 : decode cX3_meter 33 = .ok (.getfield 15, 3) := by decide +kernel
theorem dX3_meter_36 : decode cX3_meter 36 = .ok (.iconst 1, 1) := by decide +kernel
theorem dX3_meter_37 : decode cX3_meter 37 = .ok (.iadd, 1) := by decide +kernel
theorem dX3_meter_38 : decode cX3_meter 38 = .ok (.putfield 15, 3) := by decide +kernel
theorem dX3_meter_41 : decode cX3_meter 41 = .ok (.iload_n 3, 1) := by decide +kernel
theorem dX3_meter_42 : decode cX3_meter 42 = .ok (.ireturn, 1) := by decide +kernel
set_option maxRecDepth 20000 in
theorem ggX3_pulses_X3_find : GoodIn wsX3_pulses wsX3_find := goodIn_r _ [5, 6, 7, 48, 49] (by decide +kernel) (by decide +kernel)
set_option maxRecDepth 20000 in
theorem gX3_pulses_X3_find : GoodIn wsX3_pulses (wsV RX3 22 RX3 yX3_find wsX3_find) := goodIn_app (goodIn_of _ (by decide +kernel)) ggX3_pulses_X3_find
set_option maxRecDepth 20000 in
theorem ggX3_pulses_X0_addReading : GoodIn wsX3_pulses wsX0_addReading := goodIn_r _ [12, 13, 14, 15, 16, 17, 18, 19, 20, 21, 4, 22, 23, 24, 25, 26, 27, 28, 29, 30, 31, 32, 33, 34, 35, 36, 37, 38, 39, 40, 41, 42, 43, 44, 45, 46, 47, 50, 51, 52, 53, 54, 55, 56, 57, 58, 59, 60, 61, 62, 63, 64] (by decide +kernel) (by decide +kernel)
set_option maxRecDepth 20000 in
theorem gX3_pulses_X0_addReading : GoodIn wsX3_pulses (wsV RX3 26 RX0 yX0_addReading wsX0_addReading) := goodIn_app (goodIn_of _ (by decide +kernel)) ggX3_pulses_X0_addReading
theorem dX3_pulses_0 : decode cX3_pulses 0 = .ok (.aload_n 0, 1) := by decide +kernel
theorem dX3_pulses_1 : decode cX3_pulses 1 = .ok (.iload_n 1, 1) := by decide +kernel
theorem dX3_pulses_2 : decode cX3_pulses 2 = .ok (.invokevirtual 22, 3) := by decide +kernel
theorem dX3_pulses_5 : decode cX3_pulses 5 = .ok (.astore 7, 2) := by decide +kernel
theorem dX3_pulses_7 : decode cX3_pulses 7 = .ok (.aload 7, 2) := by decide +kernel
theorem dX3_pulses_9 : decode cX3_pulses 9 = .ok (.ifnull 20, 3) := by decide +kernel
theorem dX3_pulses_12 : decode cX3_pulses 12 = .ok (.aload 7, 2) := by decide +kernel
theorem dX3_pulses_14 : decode cX3_pulses 14 = .ok (.lload_n 2, 1) := by decide +kernel
theorem dX3_pulses_15 : decode cX3_pulses 15 = .ok (.lload 4, 2) := by decide +kernel
theorem dX3_pulses_17 : decode cX3_pulses 17 = .ok (.iload 6, 2) := by decide +kernel
theorem dX3_pulses_19 : decode cX3_pulses 19 = .ok (.invokevirtual 26, 3) := by decide +kernel
theorem dX3_pulses_22 : decode cX3_pulses 22 = .ok (.ifCond .eq 7, 3) := by decide +kernel
theorem dX3_pulses_25 : decode cX3_pulses 25 = .ok (.iconst 1, 1) := by decide +kernel
theorem dX3_pulses_26 : decode cX3_pulses 26 = .ok (.goto 4, 3) := by decide +kernel
theorem dX3_pulses_29 : decode cX3_pulses 29 = .ok (.iconst 0, 1) := by decide +kernel
theorem dX3_pulses_30 : decode cX3_pulses 30 = .ok (.ireturn, 1) := by decide +kernel
set_option maxRecDepth 20000 in
theorem ggX3_row_X3_find : GoodIn wsX3_row wsX3_find := goodIn_r _ [5, 6, 7, 34, 35] (by decide +kernel) (by decide +kernel)
set_option maxRecDepth 20000 in
theorem gX3_row_X3_find : GoodIn wsX3_row (wsV RX3 22 RX3 yX3_find wsX3_find) := goodIn_app (goodIn_of _ (by decide +kernel)) ggX3_row_X3_find
set_option maxRecDepth 20000 in
theorem ggX3_row_X2_put : GoodIn wsX3_row wsX2_put := goodIn_r _ [12, 13, 14, 15, 16, 17, 18, 19, 20, 21, 22, 23, 24, 4, 25, 26, 27, 28, 11, 29, 36, 37, 38, 39] (by decide +kernel) (by decide +kernel)
set_option maxRecDepth 20000 in
theorem gX3_row_X2_put : GoodIn wsX3_row (wsV RX3 34 RX2 yX2_put wsX2_put) := goodIn_app (goodIn_of _ (by decide +kernel)) ggX3_row_X2_put
theorem dX3_row_0 : decode cX3_row 0 = .ok (.aload_n 0, 1) := by decide +kernel
theorem dX3_row_1 : decode cX3_row 1 = .ok (.iload_n 1, 1) := by decide +kernel
theorem dX3_row_2 : decode cX3_row 2 = .ok (.invokevirtual 22, 3) := by decide +kernel
theorem dX3_row_5 : decode cX3_row 5 = .ok (.astore 7, 2) := by decide +kernel
theorem dX3_row_7 : decode cX3_row 7 = .ok (.aload 7, 2) := by decide +kernel
theorem dX3_row_9 : decode cX3_row 9 = .ok (.ifnull 22, 3) := by decide +kernel
theorem dX3_row_12 : decode cX3_row 12 = .ok (.aload 7, 2) := by decide +kernel
theorem dX3_row_14 : decode cX3_row 14 = .ok (.getfield 30, 3) := by decide +kernel
theorem dX3_row_17 : decode cX3_row 17 = .ok (.iload_n 2, 1) := by decide +kernel
theorem dX3_row_18 : decode cX3_row 18 = .ok (.lload_n 3, 1) := by decide +kernel
theorem dX3_row_19 : decode cX3_row 19 = .ok (.lload 5, 2) := by decide +kernel
theorem dX3_row_21 : decode cX3_row 21 = .ok (.invokevirtual 34, 3) := by decide +kernel
theorem dX3_row_24 : decode cX3_row 24 = .ok (.ifCond .eq 7, 3) := by decide +kernel
theorem dX3_row_27 : decode cX3_row 27 = .ok (.iconst 1, 1) := by decide +kernel
theorem dX3_row_28 : decode cX3_row 28 = .ok (.goto 4, 3) := by decide +kernel
theorem dX3_row_31 : decode cX3_row 31 = .ok (.iconst 0, 1) := by decide +kernel
theorem dX3_row_32 : decode cX3_row 32 = .ok (.ireturn, 1) := by decide +kernel
set_option maxRecDepth 20000 in
theorem ggX3_litres_X3_find : GoodIn wsX3_litres wsX3_find := goodIn_r _ [9, 10, 11, 84, 85] (by decide +kernel) (by decide +kernel)
set_option maxRecDepth 20000 in
theorem gX3_litres_X3_find : GoodIn wsX3_litres (wsV RX3 22 RX3 yX3_find wsX3_find) := goodIn_app (goodIn_of _ (by decide +kernel)) ggX3_litres_X3_find
set_option maxRecDepth 20000 in
theorem ggX3_litres_X1_holds : GoodIn wsX3_litres wsX1_holds := goodIn_r _ [16, 17, 86, 87, 88, 89, 90, 91, 92] (by decide +kernel) (by decide +kernel)
set_option maxRecDepth 20000 in
theorem gX3_litres_X1_holds : GoodIn wsX3_litres (wsV RX3 46 RX1 yX1_holds wsX1_holds) := goodIn_app (goodIn_of _ (by decide +kernel)) ggX3_litres_X1_holds
set_option maxRecDepth 20000 in
theorem ggX3_litres_X0_fractionPart : GoodIn wsX3_litres wsX0_fractionPart := goodIn_r _ [22, 23, 24, 25, 21, 26, 27, 28, 29, 30, 31, 15, 32, 33, 34, 35, 36, 37, 38, 39, 13, 14, 16, 17, 40, 41, 42, 43, 44, 45, 46, 47, 48, 49, 50, 51, 52, 53, 54, 55, 56, 57, 58, 59, 60, 61, 62, 63, 64, 65, 66, 67, 68, 69, 70, 8, 71, 72, 73, 74, 75, 76, 77, 86, 87, 88, 89, 90, 91, 92, 93, 94, 95, 96] (by decide +kernel) (by decide +kernel)
set_option maxRecDepth 20000 in
theorem gX3_litres_X0_fractionPart : GoodIn wsX3_litres (wsV RX3 59 RX0 yX0_fractionPart wsX0_fractionPart) := goodIn_app (goodIn_of _ (by decide +kernel)) ggX3_litres_X0_fractionPart
theorem dX3_litres_0 : decode cX3_litres 0 = .ok (.aload_n 0, 1) := by decide +kernel
theorem dX3_litres_1 : decode cX3_litres 1 = .ok (.iload_n 1, 1) := by decide +kernel
theorem dX3_litres_2 : decode cX3_litres 2 = .ok (.invokevirtual 22, 3) := by decide +kernel
theorem dX3_litres_5 : decode cX3_litres 5 = .ok (.astore 4, 2) := by decide +kernel
theorem dX3_litres_7 : decode cX3_litres 7 = .ok (.aload 4, 2) := by decide +kernel
theorem dX3_litres_9 : decode cX3_litres 9 = .ok (.ifnull 12, 3) := by decide +kernel
theorem dX3_litres_12 : decode cX3_litres 12 = .ok (.iload_n 3, 1) := by decide +kernel
theorem dX3_litres_13 : decode cX3_litres 13 = .ok (.ifCond .eq 12, 3) := by decide +kernel
theorem dX3_litres_16 : decode cX3_litres 16 = .ok (.iload_n 3, 1) := by decide +kernel
theorem dX3_litres_17 : decode cX3_litres 17 = .ok (.iconst 1, 1) := by decide +kernel
theorem dX3_litres_18 : decode cX3_litres 18 = .ok (.if_icmp .eq 7, 3) := by decide +kernel
theorem dX3_litres_21 : decode cX3_litres 21 = .ok (.ldc2_w 40, 3) := by decide +kernel
theorem dX3_litres_24 : decode cX3_litres 24 = .ok (.lreturn, 1) := by decide +kernel
theorem dX3_litres_25 : decode cX3_litres 25 = .ok (.aload 4, 2) := by decide +kernel
theorem dX3_litres_27 : decode cX3_litres 27 = .ok (.getfield 42, 3) := by decide +kernel
theorem dX3_litres_30 : decode cX3_litres 30 = .ok (.iload_n 2, 1) := by decide +kernel
theorem dX3_litres_31 : decode cX3_litres 31 = .ok (.invokevirtual 46, 3) := by decide +kernel
theorem dX3_litres_34 : decode cX3_litres 34 = .ok (.ifCond .ne 13, 3) := by decide +kernel
theorem dX3_litres_37 : decode cX3_litres 37 = .ok (.new 52, 3) := by decide +kernel
theorem dX3_litres_40 : decode cX3_litres 40 = .ok (.dup, 1) := by decide +kernel
theorem dX3_litres_41 : decode cX3_litres 41 = .ok (.ldc 54, 2) := by decide +kernel
theorem dX3_litres_43 : decode cX3_litres 43 = .ok (.invokespecial 56, 3) := by decide +kernel
theorem dX3_litres_46 : decode cX3_litres 46 = .ok (.athrow, 1) := by decide +kernel
theorem dX3_litres_47 : decode cX3_litres 47 = .ok (.aload 4, 2) := by decide +kernel
theorem dX3_litres_49 : decode cX3_litres 49 = .ok (.iload_n 2, 1) := by decide +kernel
theorem dX3_litres_50 : decode cX3_litres 50 = .ok (.iload_n 3, 1) := by decide +kernel
theorem dX3_litres_51 : decode cX3_litres 51 = .ok (.invokevirtual 59, 3) := by decide +kernel
theorem dX3_litres_54 : decode cX3_litres 54 = .ok (.lreturn, 1) := by decide +kernel
set_option maxRecDepth 20000 in
theorem ggX3_rows_X3_find : GoodIn wsX3_rows wsX3_find := goodIn_r _ [5, 6, 7, 19, 20] (by decide +kernel) (by decide +kernel)
set_option maxRecDepth 20000 in
theorem gX3_rows_X3_find : GoodIn wsX3_rows (wsV RX3 22 RX3 yX3_find wsX3_find) := goodIn_app (goodIn_of _ (by decide +kernel)) ggX3_rows_X3_find
theorem dX3_rows_0 : decode cX3_rows 0 = .ok (.aload_n 0, 1) := by decide +kernel
theorem dX3_rows_1 : decode cX3_rows 1 = .ok (.iload_n 1, 1) := by decide +kernel
theorem dX3_rows_2 : decode cX3_rows 2 = .ok (.invokevirtual 22, 3) := by decide +kernel
theorem dX3_rows_5 : decode cX3_rows 5 = .ok (.astore_n 2, 1) := by decide +kernel
theorem dX3_rows_6 : decode cX3_rows 6 = .ok (.aload_n 2, 1) := by decide +kernel
theorem dX3_rows_7 : decode cX3_rows 7 = .ok (.ifnonnull 7, 3) := by decide +kernel
theorem dX3_rows_10 : decode cX3_rows 10 = .ok (.iconst (-1), 1) := by decide +kernel
theorem dX3_rows_11 : decode cX3_rows 11 = .ok (.goto 10, 3) := by decide +kernel
theorem dX3_rows_14 : decode cX3_rows 14 = .ok (.aload_n 2, 1) := by decide +kernel
theorem dX3_rows_15 : decode cX3_rows 15 = .ok (.getfield 42, 3) := by decide +kernel
theorem dX3_rows_18 : decode cX3_rows 18 = .ok (.getfield 63, 3) := by decide +kernel
theorem dX3_rows_21 : decode cX3_rows 21 = .ok (.ireturn, 1) := by decide +kernel
set_option maxRecDepth 20000 in
theorem ggX3_check_X3_find : GoodIn wsX3_check wsX3_find := goodIn_r _ [5, 6, 7, 36, 37] (by decide +kernel) (by decide +kernel)
set_option maxRecDepth 20000 in
theorem gX3_check_X3_find : GoodIn wsX3_check (wsV RX3 22 RX3 yX3_find wsX3_find) := goodIn_app (goodIn_of _ (by decide +kernel)) ggX3_check_X3_find
set_option maxRecDepth 20000 in
theorem ggX3_check_X1_firstWrong : GoodIn wsX3_check wsX1_firstWrong := goodIn_r _ [12, 13, 14, 15, 16, 17, 11, 18, 19, 20, 21, 22, 23, 24, 25, 26, 27, 28, 29, 30, 31, 38, 39, 40, 41, 42, 43, 44] (by decide +kernel) (by decide +kernel)
set_option maxRecDepth 20000 in
theorem gX3_check_X1_firstWrong : GoodIn wsX3_check (wsV RX3 66 RX1 yX1_firstWrong wsX1_firstWrong) := goodIn_app (goodIn_of _ (by decide +kernel)) ggX3_check_X1_firstWrong
theorem dX3_check_0 : decode cX3_check 0 = .ok (.aload_n 0, 1) := by decide +kernel
theorem dX3_check_1 : decode cX3_check 1 = .ok (.iload_n 1, 1) := by decide +kernel
theorem dX3_check_2 : decode cX3_check 2 = .ok (.invokevirtual 22, 3) := by decide +kernel
theorem dX3_check_5 : decode cX3_check 5 = .ok (.astore_n 3, 1) := by decide +kernel
theorem dX3_check_6 : decode cX3_check 6 = .ok (.aload_n 3, 1) := by decide +kernel
theorem dX3_check_7 : decode cX3_check 7 = .ok (.ifnonnull 7, 3) := by decide +kernel
theorem dX3_check_10 : decode cX3_check 10 = .ok (.iconst (-1), 1) := by decide +kernel
theorem dX3_check_11 : decode cX3_check 11 = .ok (.goto 11, 3) := by decide +kernel
theorem dX3_check_14 : decode cX3_check 14 = .ok (.aload_n 3, 1) := by decide +kernel
theorem dX3_check_15 : decode cX3_check 15 = .ok (.getfield 42, 3) := by decide +kernel
theorem dX3_check_18 : decode cX3_check 18 = .ok (.iload_n 2, 1) := by decide +kernel
theorem dX3_check_19 : decode cX3_check 19 = .ok (.invokevirtual 66, 3) := by decide +kernel
theorem dX3_check_22 : decode cX3_check 22 = .ok (.ireturn, 1) := by decide +kernel
set_option maxRecDepth 20000 in
theorem ggX3_poke_X3_find : GoodIn wsX3_poke wsX3_find := goodIn_r _ [5, 6, 7, 35, 36] (by decide +kernel) (by decide +kernel)
set_option maxRecDepth 20000 in
theorem gX3_poke_X3_find : GoodIn wsX3_poke (wsV RX3 22 RX3 yX3_find wsX3_find) := goodIn_app (goodIn_of _ (by decide +kernel)) ggX3_poke_X3_find
set_option maxRecDepth 20000 in
theorem ggX3_poke_X1_addPulses : GoodIn wsX3_poke wsX1_addPulses := goodIn_r _ [12, 13, 14, 15, 16, 17, 11, 18, 19, 20, 21, 22, 23, 24, 25, 26, 27, 28, 29, 4, 30, 37, 38, 39, 40, 41, 42, 43] (by decide +kernel) (by decide +kernel)
set_option maxRecDepth 20000 in
theorem gX3_poke_X1_addPulses : GoodIn wsX3_poke (wsV RX3 70 RX1 yX1_addPulses wsX1_addPulses) := goodIn_app (goodIn_of _ (by decide +kernel)) ggX3_poke_X1_addPulses
theorem dX3_poke_0 : decode cX3_poke 0 = .ok (.aload_n 0, 1) := by decide +kernel
theorem dX3_poke_1 : decode cX3_poke 1 = .ok (.iload_n 1, 1) := by decide +kernel
theorem dX3_poke_2 : decode cX3_poke 2 = .ok (.invokevirtual 22, 3) := by decide +kernel
theorem dX3_poke_5 : decode cX3_poke 5 = .ok (.astore 5, 2) := by decide +kernel
theorem dX3_poke_7 : decode cX3_poke 7 = .ok (.aload 5, 2) := by decide +kernel
theorem dX3_poke_9 : decode cX3_poke 9 = .ok (.ifnull 20, 3) := by decide +kernel
theorem dX3_poke_12 : decode cX3_poke 12 = .ok (.aload 5, 2) := by decide +kernel
theorem dX3_poke_14 : decode cX3_poke 14 = .ok (.getfield 42, 3) := by decide +kernel
theorem dX3_poke_17 : decode cX3_poke 17 = .ok (.iload_n 2, 1) := by decide +kernel
theorem dX3_poke_18 : decode cX3_poke 18 = .ok (.lload_n 3, 1) := by decide +kernel
theorem dX3_poke_19 : decode cX3_poke 19 = .ok (.invokevirtual 70, 3) := by decide +kernel
theorem dX3_poke_22 : decode cX3_poke 22 = .ok (.ifCond .eq 7, 3) := by decide +kernel
theorem dX3_poke_25 : decode cX3_poke 25 = .ok (.iconst 1, 1) := by decide +kernel
theorem dX3_poke_26 : decode cX3_poke 26 = .ok (.goto 4, 3) := by decide +kernel
theorem dX3_poke_29 : decode cX3_poke 29 = .ok (.iconst 0, 1) := by decide +kernel
theorem dX3_poke_30 : decode cX3_poke 30 = .ok (.ireturn, 1) := by decide +kernel
set_option maxRecDepth 20000 in
theorem ggX3_seal_X3_find : GoodIn wsX3_seal wsX3_find := goodIn_r _ [5, 6, 7, 45, 46] (by decide +kernel) (by decide +kernel)
set_option maxRecDepth 20000 in
theorem gX3_seal_X3_find : GoodIn wsX3_seal (wsV RX3 22 RX3 yX3_find wsX3_find) := goodIn_app (goodIn_of _ (by decide +kernel)) ggX3_seal_X3_find
set_option maxRecDepth 20000 in
theorem ggX3_seal_X0_turnSeal : GoodIn wsX3_seal wsX0_turnSeal := goodIn_r _ [12, 13, 14, 15, 16, 17, 18, 4, 19, 20, 21, 22, 23, 24, 25, 26, 27, 28, 29, 30, 31, 32, 33, 34, 35, 36, 37, 38, 39, 40, 41, 42, 43, 44, 47, 48, 49, 50, 51, 52, 53, 54, 55, 56, 57] (by decide +kernel) (by decide +kernel)
set_option maxRecDepth 20000 in
theorem gX3_seal_X0_turnSeal : GoodIn wsX3_seal (wsV RX3 74 RX0 yX0_turnSeal wsX0_turnSeal) := goodIn_app (goodIn_of _ (by decide +kernel)) ggX3_seal_X0_turnSeal
theorem dX3_seal_0 : decode cX3_seal 0 = .ok (.aload_n 0, 1) := by decide +kernel
theorem dX3_seal_1 : decode cX3_seal 1 = .ok (.iload_n 1, 1) := by decide +kernel
theorem dX3_seal_2 : decode cX3_seal 2 = .ok (.invokevirtual 22, 3) := by decide +kernel
theorem dX3_seal_5 : decode cX3_seal 5 = .ok (.astore 4, 2) := by decide +kernel
theorem dX3_seal_7 : decode cX3_seal 7 = .ok (.aload 4, 2) := by decide +kernel
theorem dX3_seal_9 : decode cX3_seal 9 = .ok (.ifnull 17, 3) := by decide +kernel
theorem dX3_seal_12 : decode cX3_seal 12 = .ok (.aload 4, 2) := by decide +kernel
theorem dX3_seal_14 : decode cX3_seal 14 = .ok (.iload_n 2, 1) := by decide +kernel
theorem dX3_seal_15 : decode cX3_seal 15 = .ok (.iload_n 3, 1) := by decide +kernel
theorem dX3_seal_16 : decode cX3_seal 16 = .ok (.invokevirtual 74, 3) := by decide +kernel
theorem dX3_seal_19 : decode cX3_seal 19 = .ok (.ifCond .eq 7, 3) := by decide +kernel
theorem dX3_seal_22 : decode cX3_seal 22 = .ok (.iconst 1, 1) := by decide +kernel
theorem dX3_seal_23 : decode cX3_seal 23 = .ok (.goto 4, 3) := by decide +kernel
theorem dX3_seal_26 : decode cX3_seal 26 = .ok (.iconst 0, 1) := by decide +kernel
theorem dX3_seal_27 : decode cX3_seal 27 = .ok (.ireturn, 1) := by decide +kernel
set_option maxRecDepth 20000 in
theorem ggX3_marked_X3_find : GoodIn wsX3_marked wsX3_find := goodIn_r _ [5, 6, 7, 23, 24] (by decide +kernel) (by decide +kernel)
set_option maxRecDepth 20000 in
theorem gX3_marked_X3_find : GoodIn wsX3_marked (wsV RX3 22 RX3 yX3_find wsX3_find) := goodIn_app (goodIn_of _ (by decide +kernel)) ggX3_marked_X3_find
set_option maxRecDepth 20000 in
theorem ggX3_marked_X1_hasMark : GoodIn wsX3_marked wsX1_hasMark := goodIn_r _ [12, 13, 14, 15, 16, 11, 17, 18, 25, 26, 27, 28, 29, 30, 31] (by decide +kernel) (by decide +kernel)
set_option maxRecDepth 20000 in
theorem gX3_marked_X1_hasMark : GoodIn wsX3_marked (wsV RX3 78 RX1 yX1_hasMark wsX1_hasMark) := goodIn_app (goodIn_of _ (by decide +kernel)) ggX3_marked_X1_hasMark
theorem dX3_marked_0 : decode cX3_marked 0 = .ok (.aload_n 0, 1) := by decide +kernel
theorem dX3_marked_1 : decode cX3_marked 1 = .ok (.iload_n 1, 1) := by decide +kernel
theorem dX3_marked_2 : decode cX3_marked 2 = .ok (.invokevirtual 22, 3) := by decide +kernel
theorem dX3_marked_5 : decode cX3_marked 5 = .ok (.astore_n 3, 1) := by decide +kernel
theorem dX3_marked_6 : decode cX3_marked 6 = .ok (.aload_n 3, 1) := by decide +kernel
theorem dX3_marked_7 : decode cX3_marked 7 = .ok (.ifnull 18, 3) := by decide +kernel
theorem dX3_marked_10 : decode cX3_marked 10 = .ok (.aload_n 3, 1) := by decide +kernel
theorem dX3_marked_11 : decode cX3_marked 11 = .ok (.getfield 42, 3) := by decide +kernel
theorem dX3_marked_14 : decode cX3_marked 14 = .ok (.iload_n 2, 1) := by decide +kernel
theorem dX3_marked_15 : decode cX3_marked 15 = .ok (.invokevirtual 78, 3) := by decide +kernel
theorem dX3_marked_18 : decode cX3_marked 18 = .ok (.ifCond .eq 7, 3) := by decide +kernel
theorem dX3_marked_21 : decode cX3_marked 21 = .ok (.iconst 1, 1) := by decide +kernel
theorem dX3_marked_22 : decode cX3_marked 22 = .ok (.goto 4, 3) := by decide +kernel
theorem dX3_marked_25 : decode cX3_marked 25 = .ok (.iconst 0, 1) := by decide +kernel
theorem dX3_marked_26 : decode cX3_marked 26 = .ok (.ireturn, 1) := by decide +kernel
set_option maxRecDepth 20000 in
theorem ggX3_gap_X3_find : GoodIn wsX3_gap wsX3_find := goodIn_r _ [5, 6, 7, 38, 39] (by decide +kernel) (by decide +kernel)
set_option maxRecDepth 20000 in
theorem gX3_gap_X3_find : GoodIn wsX3_gap (wsV RX3 22 RX3 yX3_find wsX3_find) := goodIn_app (goodIn_of _ (by decide +kernel)) ggX3_gap_X3_find
set_option maxRecDepth 20000 in
theorem ggX3_gap_X1_findGap : GoodIn wsX3_gap wsX1_findGap := goodIn_r _ [12, 13, 14, 15, 16, 17, 18, 19, 11, 20, 21, 22, 23, 24, 25, 26, 27, 28, 29, 30, 31, 32, 33, 40, 41, 42, 43, 44, 45, 46] (by decide +kernel) (by decide +kernel)
set_option maxRecDepth 20000 in
theorem gX3_gap_X1_findGap : GoodIn wsX3_gap (wsV RX3 81 RX1 yX1_findGap wsX1_findGap) := goodIn_app (goodIn_of _ (by decide +kernel)) ggX3_gap_X1_findGap
theorem dX3_gap_0 : decode cX3_gap 0 = .ok (.aload_n 0, 1) := by decide +kernel
theorem dX3_gap_1 : decode cX3_gap 1 = .ok (.iload_n 1, 1) := by decide +kernel
theorem dX3_gap_2 : decode cX3_gap 2 = .ok (.invokevirtual 22, 3) := by decide +kernel
theorem dX3_gap_5 : decode cX3_gap 5 = .ok (.astore 4, 2) := by decide +kernel
theorem dX3_gap_7 : decode cX3_gap 7 = .ok (.aload 4, 2) := by decide +kernel
theorem dX3_gap_9 : decode cX3_gap 9 = .ok (.ifnull 16, 3) := by decide +kernel
theorem dX3_gap_12 : decode cX3_gap 12 = .ok (.iload_n 2, 1) := by decide +kernel
theorem dX3_gap_13 : decode cX3_gap 13 = .ok (.ifCond .lt 12, 3) := by decide +kernel
theorem dX3_gap_16 : decode cX3_gap 16 = .ok (.iload_n 3, 1) := by decide +kernel
theorem dX3_gap_17 : decode cX3_gap 17 = .ok (.ifCond .eq 10, 3) := by decide +kernel
theorem dX3_gap_20 : decode cX3_gap 20 = .ok (.iload_n 3, 1) := by decide +kernel
theorem dX3_gap_21 : decode cX3_gap 21 = .ok (.iconst 1, 1) := by decide +kernel
theorem dX3_gap_22 : decode cX3_gap 22 = .ok (.if_icmp .eq 5, 3) := by decide +kernel
theorem dX3_gap_25 : decode cX3_gap 25 = .ok (.iconst (-1), 1) := by decide +kernel
theorem dX3_gap_26 : decode cX3_gap 26 = .ok (.ireturn, 1) := by decide +kernel
theorem dX3_gap_27 : decode cX3_gap 27 = .ok (.aload 4, 2) := by decide +kernel
theorem dX3_gap_29 : decode cX3_gap 29 = .ok (.getfield 42, 3) := by decide +kernel
theorem dX3_gap_32 : decode cX3_gap 32 = .ok (.iload_n 2, 1) := by decide +kernel
theorem dX3_gap_33 : decode cX3_gap 33 = .ok (.iload_n 3, 1) := by decide +kernel
theorem dX3_gap_34 : decode cX3_gap 34 = .ok (.invokevirtual 81, 3) := by decide +kernel
theorem dX3_gap_37 : decode cX3_gap 37 = .ok (.ireturn, 1) := by decide +kernel
set_option maxRecDepth 20000 in
theorem ggX3_rest_X3_find : GoodIn wsX3_rest wsX3_find := goodIn_r _ [8, 9, 10, 74, 75] (by decide +kernel) (by decide +kernel)
set_option maxRecDepth 20000 in
theorem gX3_rest_X3_find : GoodIn wsX3_rest (wsV RX3 22 RX3 yX3_find wsX3_find) := goodIn_app (goodIn_of _ (by decide +kernel)) ggX3_rest_X3_find
set_option maxRecDepth 20000 in
theorem ggX3_rest_X3_within : GoodIn wsX3_rest wsX3_within := goodIn_r _ [13] (by decide +kernel) (by decide +kernel)
set_option maxRecDepth 20000 in
theorem gX3_rest_X3_within : GoodIn wsX3_rest (va_wsS RX3 87 yX3_within wsX3_within) := goodIn_app (goodIn_of _ (by decide +kernel)) ggX3_rest_X3_within
set_option maxRecDepth 20000 in
theorem ggX3_rest_X0_allThousandths : GoodIn wsX3_rest wsX0_allThousandths := goodIn_r _ [18, 19, 20, 21, 22, 23, 17, 24, 25, 26, 27, 28, 29, 30, 31, 32, 33, 34, 35, 36, 37, 38, 39, 40, 41, 42, 43, 44, 45, 46, 47, 48, 49, 50, 51, 52, 53, 54, 55, 56, 57, 58, 59, 60, 61, 62, 63, 64, 65, 66, 67, 68, 69, 70, 71, 72, 7, 73, 76, 77, 78, 79, 80, 81, 82, 83, 84, 85, 86, 87, 88, 89, 90] (by decide +kernel) (by decide +kernel)
set_option maxRecDepth 20000 in
theorem gX3_rest_X0_allThousandths : GoodIn wsX3_rest (wsV RX3 93 RX0 yX0_allThousandths wsX0_allThousandths) := goodIn_app (goodIn_of _ (by decide +kernel)) ggX3_rest_X0_allThousandths
theorem dX3_rest_0 : decode cX3_rest 0 = .ok (.aload_n 0, 1) := by decide +kernel
theorem dX3_rest_1 : decode cX3_rest 1 = .ok (.iload_n 1, 1) := by decide +kernel
theorem dX3_rest_2 : decode cX3_rest 2 = .ok (.invokevirtual 22, 3) := by decide +kernel
theorem dX3_rest_5 : decode cX3_rest 5 = .ok (.astore 4, 2) := by decide +kernel
theorem dX3_rest_7 : decode cX3_rest 7 = .ok (.aload 4, 2) := by decide +kernel
theorem dX3_rest_9 : decode cX3_rest 9 = .ok (.ifnull 14, 3) := by decide +kernel
theorem dX3_rest_12 : decode cX3_rest 12 = .ok (.lload_n 2, 1) := by decide +kernel
theorem dX3_rest_13 : decode cX3_rest 13 = .ok (.lconst 0, 1) := by decide +kernel
theorem dX3_rest_14 : decode cX3_rest 14 = .ok (.ldc2_w 85, 3) := by decide +kernel
theorem dX3_rest_17 : decode cX3_rest 17 = .ok (.invokestatic 87, 3) := by decide +kernel
theorem dX3_rest_20 : decode cX3_rest 20 = .ok (.ifCond .ne 7, 3) := by decide +kernel
theorem dX3_rest_23 : decode cX3_rest 23 = .ok (.ldc2_w 91, 3) := by decide +kernel
theorem dX3_rest_26 : decode cX3_rest 26 = .ok (.lreturn, 1) := by decide +kernel
theorem dX3_rest_27 : decode cX3_rest 27 = .ok (.aload 4, 2) := by decide +kernel
theorem dX3_rest_29 : decode cX3_rest 29 = .ok (.invokevirtual 93, 3) := by decide +kernel
theorem dX3_rest_32 : decode cX3_rest 32 = .ok (.lload_n 2, 1) := by decide +kernel
theorem dX3_rest_33 : decode cX3_rest 33 = .ok (.ldc2_w 97, 3) := by decide +kernel
theorem dX3_rest_36 : decode cX3_rest 36 = .ok (.lmul, 1) := by decide +kernel
theorem dX3_rest_37 : decode cX3_rest 37 = .ok (.lsub, 1) := by decide +kernel
theorem dX3_rest_38 : decode cX3_rest 38 = .ok (.lreturn, 1) := by decide +kernel
set_option maxRecDepth 20000 in
theorem ggX3_reset_X3_find : GoodIn wsX3_reset wsX3_find := goodIn_r _ [5, 6, 7, 44, 45] (by decide +kernel) (by decide +kernel)
set_option maxRecDepth 20000 in
theorem gX3_reset_X3_find : GoodIn wsX3_reset (wsV RX3 22 RX3 yX3_find wsX3_find) := goodIn_app (goodIn_of _ (by decide +kernel)) ggX3_reset_X3_find
set_option maxRecDepth 20000 in
theorem ggX3_reset_X0_addReset : GoodIn wsX3_reset wsX0_addReset := goodIn_r _ [12, 13, 14, 15, 16, 17, 4, 18, 19, 20, 21, 22, 23, 24, 25, 26, 27, 28, 29, 30, 31, 32, 33, 34, 35, 36, 37, 38, 39, 40, 41, 42, 43, 46, 47, 48, 49, 50, 51, 52, 53, 54, 55, 56] (by decide +kernel) (by decide +kernel)
set_option maxRecDepth 20000 in
theorem gX3_reset_X0_addReset : GoodIn wsX3_reset (wsV RX3 99 RX0 yX0_addReset wsX0_addReset) := goodIn_app (goodIn_of _ (by decide +kernel)) ggX3_reset_X0_addReset
theorem dX3_reset_0 : decode cX3_reset 0 = .ok (.aload_n 0, 1) := by decide +kernel
theorem dX3_reset_1 : decode cX3_reset 1 = .ok (.iload_n 1, 1) := by decide +kernel
theorem dX3_reset_2 : decode cX3_reset 2 = .ok (.invokevirtual 22, 3) := by decide +kernel
theorem dX3_reset_5 : decode cX3_reset 5 = .ok (.astore 4, 2) := by decide +kernel
theorem dX3_reset_7 : decode cX3_reset 7 = .ok (.aload 4, 2) := by decide +kernel
theorem dX3_reset_9 : decode cX3_reset 9 = .ok (.ifnull 16, 3) := by decide +kernel
theorem dX3_reset_12 : decode cX3_reset 12 = .ok (.aload 4, 2) := by decide +kernel
theorem dX3_reset_14 : decode cX3_reset 14 = .ok (.lload_n 2, 1) := by decide +kernel
theorem dX3_reset_15 : decode cX3_reset 15 = .ok (.invokevirtual 99, 3) := by decide +kernel
theorem dX3_reset_18 : decode cX3_reset 18 = .ok (.ifCond .eq 7, 3) := by decide +kernel
theorem dX3_reset_21 : decode cX3_reset 21 = .ok (.iconst 1, 1) := by decide +kernel
theorem dX3_reset_22 : decode cX3_reset 22 = .ok (.goto 4, 3) := by decide +kernel
theorem dX3_reset_25 : decode cX3_reset 25 = .ok (.iconst 0, 1) := by decide +kernel
theorem dX3_reset_26 : decode cX3_reset 26 = .ok (.ireturn, 1) := by decide +kernel
set_option maxRecDepth 20000 in
theorem ggX3_roll_X3_find : GoodIn wsX3_roll wsX3_find := goodIn_r _ [5, 6, 7, 66, 67] (by decide +kernel) (by decide +kernel)
set_option maxRecDepth 20000 in
theorem gX3_roll_X3_find : GoodIn wsX3_roll (wsV RX3 22 RX3 yX3_find wsX3_find) := goodIn_app (goodIn_of _ (by decide +kernel)) ggX3_roll_X3_find
set_option maxRecDepth 20000 in
theorem ggX3_roll_X1_rollByte : GoodIn wsX3_roll wsX1_rollByte := goodIn_r _ [12, 13, 14, 15, 16, 11, 17, 18, 19, 20, 21, 22, 23, 24, 25, 26, 27, 28, 29, 30, 31, 32, 33, 34, 35, 36, 37, 4, 38, 39, 40, 41, 42, 43, 44, 45, 46, 47, 48, 49, 50, 51, 52, 53, 54, 55, 56, 57, 58, 59, 60, 61, 68, 69, 70, 71, 72, 73, 74] (by decide +kernel) (by decide +kernel)
set_option maxRecDepth 20000 in
theorem gX3_roll_X1_rollByte : GoodIn wsX3_roll (wsV RX3 103 RX1 yX1_rollByte wsX1_rollByte) := goodIn_app (goodIn_of _ (by decide +kernel)) ggX3_roll_X1_rollByte
theorem dX3_roll_0 : decode cX3_roll 0 = .ok (.aload_n 0, 1) := by decide +kernel
theorem dX3_roll_1 : decode cX3_roll 1 = .ok (.iload_n 1, 1) := by decide +kernel
theorem dX3_roll_2 : decode cX3_roll 2 = .ok (.invokevirtual 22, 3) := by decide +kernel
theorem dX3_roll_5 : decode cX3_roll 5 = .ok (.astore_n 3, 1) := by decide +kernel
theorem dX3_roll_6 : decode cX3_roll 6 = .ok (.aload_n 3, 1) := by decide +kernel
theorem dX3_roll_7 : decode cX3_roll 7 = .ok (.ifnonnull 7, 3) := by decide +kernel
theorem dX3_roll_10 : decode cX3_roll 10 = .ok (.iconst (-1), 1) := by decide +kernel
theorem dX3_roll_11 : decode cX3_roll 11 = .ok (.goto 11, 3) := by decide +kernel
theorem dX3_roll_14 : decode cX3_roll 14 = .ok (.aload_n 3, 1) := by decide +kernel
theorem dX3_roll_15 : decode cX3_roll 15 = .ok (.getfield 42, 3) := by decide +kernel
theorem dX3_roll_18 : decode cX3_roll 18 = .ok (.iload_n 2, 1) := by decide +kernel
theorem dX3_roll_19 : decode cX3_roll 19 = .ok (.invokevirtual 103, 3) := by decide +kernel
theorem dX3_roll_22 : decode cX3_roll 22 = .ok (.ireturn, 1) := by decide +kernel
theorem dX3_find_0 : decode cX3_find 0 = .ok (.iload_n 1, 1) := by decide +kernel
theorem dX3_find_1 : decode cX3_find 1 = .ok (.ifCond .lt 20, 3) := by decide +kernel
theorem dX3_find_4 : decode cX3_find 4 = .ok (.iload_n 1, 1) := by decide +kernel
theorem dX3_find_5 : decode cX3_find 5 = .ok (.aload_n 0, 1) := by decide +kernel
theorem dX3_find_6 : decode cX3_find 6 = .ok (.getfield 15, 3) := by decide +kernel
theorem dX3_find_9 : decode cX3_find 9 = .ok (.if_icmp .ge 12, 3) := by decide +kernel
theorem dX3_find_12 : decode cX3_find 12 = .ok (.aload_n 0, 1) := by decide +kernel
theorem dX3_find_13 : decode cX3_find 13 = .ok (.getfield 11, 3) := by decide +kernel
theorem dX3_find_16 : decode cX3_find 16 = .ok (.iload_n 1, 1) := by decide +kernel
theorem dX3_find_17 : decode cX3_find 17 = .ok (.aaload, 1) := by decide +kernel
theorem dX3_find_18 : decode cX3_find 18 = .ok (.goto 4, 3) := by decide +kernel
theorem dX3_find_21 : decode cX3_find 21 = .ok (.aconst_null, 1) := by decide +kernel
theorem dX3_find_22 : decode cX3_find 22 = .ok (.areturn, 1) := by decide +kernel
theorem dX3_within_0 : decode cX3_within 0 = .ok (.lload_n 0, 1) := by decide +kernel
theorem dX3_within_1 : decode cX3_within 1 = .ok (.lload_n 2, 1) := by decide +kernel
theorem dX3_within_2 : decode cX3_within 2 = .ok (.lcmp, 1) := by decide +kernel
theorem dX3_within_3 : decode cX3_within 3 = .ok (.ifCond .lt 14, 3) := by decide +kernel
theorem dX3_within_6 : decode cX3_within 6 = .ok (.lload_n 0, 1) := by decide +kernel
theorem dX3_within_7 : decode cX3_within 7 = .ok (.lload 4, 2) := by decide +kernel
theorem dX3_within_9 : decode cX3_within 9 = .ok (.lcmp, 1) := by decide +kernel
theorem dX3_within_10 : decode cX3_within 10 = .ok (.ifCond .gt 7, 3) := by decide +kernel
theorem dX3_within_13 : decode cX3_within 13 = .ok (.iconst 1, 1) := by decide +kernel
theorem dX3_within_14 : decode cX3_within 14 = .ok (.goto 4, 3) := by decide +kernel
theorem dX3_within_17 : decode cX3_within 17 = .ok (.iconst 0, 1) := by decide +kernel
theorem dX3_within_18 : decode cX3_within 18 = .ok (.ireturn, 1) := by decide +kernel
theorem dX3_quotient_0 : decode cX3_quotient 0 = .ok (.lload_n 2, 1) := by decide +kernel
theorem dX3_quotient_1 : decode cX3_quotient 1 = .ok (.lconst 0, 1) := by decide +kernel
theorem dX3_quotient_2 : decode cX3_quotient 2 = .ok (.lcmp, 1) := by decide +kernel
theorem dX3_quotient_3 : decode cX3_quotient 3 = .ok (.ifCond .ne 7, 3) := by decide +kernel
theorem dX3_quotient_6 : decode cX3_quotient 6 = .ok (.lconst 0, 1) := by decide +kernel
theorem dX3_quotient_7 : decode cX3_quotient 7 = .ok (.goto 6, 3) := by decide +kernel
theorem dX3_quotient_10 : decode cX3_quotient 10 = .ok (.lload_n 0, 1) := by decide +kernel
theorem dX3_quotient_11 : decode cX3_quotient 11 = .ok (.lload_n 2, 1) := by decide +kernel
theorem dX3_quotient_12 : decode cX3_quotient 12 = .ok (.ldiv, 1) := by decide +kernel
theorem dX3_quotient_13 : decode cX3_quotient 13 = .ok (.lreturn, 1) := by decide +kernel
theorem dX3_commonDivisor_0 : decode cX3_commonDivisor 0 = .ok (.lload_n 0, 1) := by decide +kernel
theorem dX3_commonDivisor_1 : decode cX3_commonDivisor 1 = .ok (.lstore 4, 2) := by decide +kernel
theorem dX3_commonDivisor_3 : decode cX3_commonDivisor 3 = .ok (.lload_n 2, 1) := by decide +kernel
theorem dX3_commonDivisor_4 : decode cX3_commonDivisor 4 = .ok (.lstore 6, 2) := by decide +kernel
theorem dX3_commonDivisor_6 : decode cX3_commonDivisor 6 = .ok (.iconst 0, 1) := by decide +kernel
theorem dX3_commonDivisor_7 : decode cX3_commonDivisor 7 = .ok (.istore 8, 2) := by decide +kernel
theorem dX3_commonDivisor_9 : decode cX3_commonDivisor 9 = .ok (.iload 8, 2) := by decide +kernel
theorem dX3_commonDivisor_11 : decode cX3_commonDivisor 11 = .ok (.bipush 100, 2) := by decide +kernel
theorem dX3_commonDivisor_13 : decode cX3_commonDivisor 13 = .ok (.if_icmp .ge 31, 3) := by decide +kernel
theorem dX3_commonDivisor_16 : decode cX3_commonDivisor 16 = .ok (.lload 6, 2) := by decide +kernel
theorem dX3_commonDivisor_18 : decode cX3_commonDivisor 18 = .ok (.lconst 0, 1) := by decide +kernel
theorem dX3_commonDivisor_19 : decode cX3_commonDivisor 19 = .ok (.lcmp, 1) := by decide +kernel
theorem dX3_commonDivisor_20 : decode cX3_commonDivisor 20 = .ok (.ifCond .eq 24, 3) := by decide +kernel
theorem dX3_commonDivisor_23 : decode cX3_commonDivisor 23 = .ok (.lload 4, 2) := by decide +kernel
theorem dX3_commonDivisor_25 : decode cX3_commonDivisor 25 = .ok (.lload 6, 2) := by decide +kernel
theorem dX3_commonDivisor_27 : decode cX3_commonDivisor 27 = .ok (.lrem, 1) := by decide +kernel
theorem dX3_commonDivisor_28 : decode cX3_commonDivisor 28 = .ok (.lstore 9, 2) := by decide +kernel
theorem dX3_commonDivisor_30 : decode cX3_commonDivisor 30 = .ok (.lload 6, 2) := by decide +kernel
theorem dX3_commonDivisor_32 : decode cX3_commonDivisor 32 = .ok (.lstore 4, 2) := by decide +kernel
theorem dX3_commonDivisor_34 : decode cX3_commonDivisor 34 = .ok (.lload 9, 2) := by decide +kernel
theorem dX3_commonDivisor_36 : decode cX3_commonDivisor 36 = .ok (.lstore 6, 2) := by decide +kernel
theorem dX3_commonDivisor_38 : decode cX3_commonDivisor 38 = .ok (.iinc 8 1, 3) := by decide +kernel
theorem dX3_commonDivisor_41 : decode cX3_commonDivisor 41 = .ok (.goto (-32), 3) := by decide +kernel
theorem dX3_commonDivisor_44 : decode cX3_commonDivisor 44 = .ok (.lload 4, 2) := by decide +kernel
theorem dX3_commonDivisor_46 : decode cX3_commonDivisor 46 = .ok (.lreturn, 1) := by decide +kernel
theorem dX3_textLength_0 : decode cX3_textLength 0 = .ok (.lload_n 0, 1) := by decide +kernel
theorem dX3_textLength_1 : decode cX3_textLength 1 = .ok (.lconst 0, 1) := by decide +kernel
theorem dX3_textLength_2 : decode cX3_textLength 2 = .ok (.lcmp, 1) := by decide +kernel
theorem dX3_textLength_3 : decode cX3_textLength 3 = .ok (.ifCond .ge 7, 3) := by decide +kernel
theorem dX3_textLength_6 : decode cX3_textLength 6 = .ok (.iconst 2, 1) := by decide +kernel
theorem dX3_textLength_7 : decode cX3_textLength 7 = .ok (.goto 4, 3) := by decide +kernel
theorem dX3_textLength_10 : decode cX3_textLength 10 = .ok (.iconst 1, 1) := by decide +kernel
theorem dX3_textLength_11 : decode cX3_textLength 11 = .ok (.istore_n 2, 1) := by decide +kernel
theorem dX3_textLength_12 : decode cX3_textLength 12 = .ok (.lload_n 0, 1) := by decide +kernel
theorem dX3_textLength_13 : decode cX3_textLength 13 = .ok (.ldc2_w 106, 3) := by decide +kernel
theorem dX3_textLength_16 : decode cX3_textLength 16 = .ok (.ldiv, 1) := by decide +kernel
theorem dX3_textLength_17 : decode cX3_textLength 17 = .ok (.lstore_n 3, 1) := by decide +kernel
theorem dX3_textLength_18 : decode cX3_textLength 18 = .ok (.iconst 0, 1) := by decide +kernel
theorem dX3_textLength_19 : decode cX3_textLength 19 = .ok (.istore 5, 2) := by decide +kernel
theorem dX3_textLength_21 : decode cX3_textLength 21 = .ok (.iload 5, 2) := by decide +kernel
theorem dX3_textLength_23 : decode cX3_textLength 23 = .ok (.bipush 19, 2) := by decide +kernel
theorem dX3_textLength_25 : decode cX3_textLength 25 = .ok (.if_icmp .ge 24, 3) := by decide +kernel
theorem dX3_textLength_28 : decode cX3_textLength 28 = .ok (.lload_n 3, 1) := by decide +kernel
theorem dX3_textLength_29 : decode cX3_textLength 29 = .ok (.lconst 0, 1) := by decide +kernel
theorem dX3_textLength_30 : decode cX3_textLength 30 = .ok (.lcmp, 1) := by decide +kernel
theorem dX3_textLength_31 : decode cX3_textLength 31 = .ok (.ifCond .eq 18, 3) := by decide +kernel
theorem dX3_textLength_34 : decode cX3_textLength 34 = .ok (.iinc 2 1, 3) := by decide +kernel
theorem dX3_textLength_37 : decode cX3_textLength 37 = .ok (.lload_n 3, 1) := by decide +kernel
theorem dX3_textLength_38 : decode cX3_textLength 38 = .ok (.ldc2_w 106, 3) := by decide +kernel
theorem dX3_textLength_41 : decode cX3_textLength 41 = .ok (.ldiv, 1) := by decide +kernel
theorem dX3_textLength_42 : decode cX3_textLength 42 = .ok (.lstore_n 3, 1) := by decide +kernel
theorem dX3_textLength_43 : decode cX3_textLength 43 = .ok (.iinc 5 1, 3) := by decide +kernel
theorem dX3_textLength_46 : decode cX3_textLength 46 = .ok (.goto (-25), 3) := by decide +kernel
theorem dX3_textLength_49 : decode cX3_textLength 49 = .ok (.iload_n 2, 1) := by decide +kernel
theorem dX3_textLength_50 : decode cX3_textLength 50 = .ok (.ireturn, 1) := by decide +kernel
set_option maxRecDepth 20000 in
theorem ggX3_textByte_X3_textLength : GoodIn wsX3_textByte wsX3_textLength := goodIn_r _ [9, 1] (by decide +kernel) (by decide +kernel)
set_option maxRecDepth 20000 in
theorem gX3_textByte_X3_textLength : GoodIn wsX3_textByte (va_wsS RX3 108 yX3_textLength wsX3_textLength) := goodIn_app (goodIn_of _ (by decide +kernel)) ggX3_textByte_X3_textLength
theorem dX3_textByte_0 : decode cX3_textByte 0 = .ok (.lload_n 0, 1) := by decide +kernel
theorem dX3_textByte_1 : decode cX3_textByte 1 = .ok (.lconst 0, 1) := by decide +kernel
theorem dX3_textByte_2 : decode cX3_textByte 2 = .ok (.lcmp, 1) := by decide +kernel
theorem dX3_textByte_3 : decode cX3_textByte 3 = .ok (.ifCond .ge 10, 3) := by decide +kernel
theorem dX3_textByte_6 : decode cX3_textByte 6 = .ok (.iload_n 2, 1) := by decide +kernel
theorem dX3_textByte_7 : decode cX3_textByte 7 = .ok (.ifCond .ne 6, 3) := by decide +kernel
theorem dX3_textByte_10 : decode cX3_textByte 10 = .ok (.bipush 45, 2) := by decide +kernel
theorem dX3_textByte_12 : decode cX3_textByte 12 = .ok (.ireturn, 1) := by decide +kernel
theorem dX3_textByte_13 : decode cX3_textByte 13 = .ok (.lload_n 0, 1) := by decide +kernel
theorem dX3_textByte_14 : decode cX3_textByte 14 = .ok (.lstore_n 3, 1) := by decide +kernel
theorem dX3_textByte_15 : decode cX3_textByte 15 = .ok (.lload_n 0, 1) := by decide +kernel
theorem dX3_textByte_16 : decode cX3_textByte 16 = .ok (.invokestatic 108, 3) := by decide +kernel
theorem dX3_textByte_19 : decode cX3_textByte 19 = .ok (.iconst 1, 1) := by decide +kernel
theorem dX3_textByte_20 : decode cX3_textByte 20 = .ok (.isub, 1) := by decide +kernel
theorem dX3_textByte_21 : decode cX3_textByte 21 = .ok (.iload_n 2, 1) := by decide +kernel
theorem dX3_textByte_22 : decode cX3_textByte 22 = .ok (.isub, 1) := by decide +kernel
theorem dX3_textByte_23 : decode cX3_textByte 23 = .ok (.istore 5, 2) := by decide +kernel
theorem dX3_textByte_25 : decode cX3_textByte 25 = .ok (.iload 5, 2) := by decide +kernel
theorem dX3_textByte_27 : decode cX3_textByte 27 = .ok (.ifCond .le 15, 3) := by decide +kernel
theorem dX3_textByte_30 : decode cX3_textByte 30 = .ok (.lload_n 3, 1) := by decide +kernel
theorem dX3_textByte_31 : decode cX3_textByte 31 = .ok (.ldc2_w 106, 3) := by decide +kernel
theorem dX3_textByte_34 : decode cX3_textByte 34 = .ok (.ldiv, 1) := by decide +kernel
theorem dX3_textByte_35 : decode cX3_textByte 35 = .ok (.lstore_n 3, 1) := by decide +kernel
theorem dX3_textByte_36 : decode cX3_textByte 36 = .ok (.iinc 5 (-1), 3) := by decide +kernel
theorem dX3_textByte_39 : decode cX3_textByte 39 = .ok (.goto (-14), 3) := by decide +kernel
theorem dX3_textByte_42 : decode cX3_textByte 42 = .ok (.bipush 48, 2) := by decide +kernel
theorem dX3_textByte_44 : decode cX3_textByte 44 = .ok (.lload_n 3, 1) := by decide +kernel
theorem dX3_textByte_45 : decode cX3_textByte 45 = .ok (.ldc2_w 106, 3) := by decide +kernel
theorem dX3_textByte_48 : decode cX3_textByte 48 = .ok (.lrem, 1) := by decide +kernel
theorem dX3_textByte_49 : decode cX3_textByte 49 = .ok (.invokestatic 112, 3) := by decide +kernel
theorem dX3_textByte_52 : decode cX3_textByte 52 = .ok (.l2i, 1) := by decide +kernel
theorem dX3_textByte_53 : decode cX3_textByte 53 = .ok (.iadd, 1) := by decide +kernel
theorem dX3_textByte_54 : decode cX3_textByte 54 = .ok (.ireturn, 1) := by decide +kernel
theorem dX4_init_0 : decode cX4_init 0 = .ok (.aload_n 0, 1) := by decide +kernel
theorem dX4_init_1 : decode cX4_init 1 = .ok (.invokespecial 1, 3) := by decide +kernel
theorem dX4_init_4 : decode cX4_init 4 = .ok (.aload_n 0, 1) := by decide +kernel
theorem dX4_init_5 : decode cX4_init 5 = .ok (.bipush 8, 2) := by decide +kernel
theorem dX4_init_7 : decode cX4_init 7 = .ok (.newarray .long, 2) := by decide +kernel
theorem dX4_init_9 : decode cX4_init 9 = .ok (.putfield 9, 3) := by decide +kernel
theorem dX4_init_12 : decode cX4_init 12 = .ok (.aload_n 0, 1) := by decide +kernel
theorem dX4_init_13 : decode cX4_init 13 = .ok (.bipush 8, 2) := by decide +kernel
theorem dX4_init_15 : decode cX4_init 15 = .ok (.newarray .int, 2) := by decide +kernel
theorem dX4_init_17 : decode cX4_init 17 = .ok (.putfield 13, 3) := by decide +kernel
theorem dX4_init_20 : decode cX4_init 20 = .ok (.aload_n 0, 1) := by decide +kernel
theorem dX4_init_21 : decode cX4_init 21 = .ok (.bipush 8, 2) := by decide +kernel
theorem dX4_init_23 : decode cX4_init 23 = .ok (.newarray .int, 2) := by decide +kernel
theorem dX4_init_25 : decode cX4_init 25 = .ok (.putfield 17, 3) := by decide +kernel
theorem dX4_init_28 : decode cX4_init 28 = .ok (.aload_n 0, 1) := by decide +kernel
theorem dX4_init_29 : decode cX4_init 29 = .ok (.sipush 1600, 3) := by decide +kernel
theorem dX4_init_32 : decode cX4_init 32 = .ok (.newarray .int, 2) := by decide +kernel
theorem dX4_init_34 : decode cX4_init 34 = .ok (.putfield 20, 3) := by decide +kernel
theorem dX4_init_37 : decode cX4_init 37 = .ok (.aload_n 0, 1) := by decide +kernel
theorem dX4_init_38 : decode cX4_init 38 = .ok (.sipush 1600, 3) := by decide +kernel
theorem dX4_init_41 : decode cX4_init 41 = .ok (.newarray .long, 2) := by decide +kernel
theorem dX4_init_43 : decode cX4_init 43 = .ok (.putfield 23, 3) := by decide +kernel
theorem dX4_init_46 : decode cX4_init 46 = .ok (.aload_n 0, 1) := by decide +kernel
theorem dX4_init_47 : decode cX4_init 47 = .ok (.sipush 1600, 3) := by decide +kernel
theorem dX4_init_50 : decode cX4_init 50 = .ok (.newarray .long, 2) := by decide +kernel
theorem dX4_init_52 : decode cX4_init 52 = .ok (.putfield 26, 3) := by decide +kernel
theorem dX4_init_55 : decode cX4_init 55 = .ok (.aload_n 0, 1) := by decide +kernel
theorem dX4_init_56 : decode cX4_init 56 = .ok (.sipush 1600, 3) := by decide +kernel
theorem dX4_init_59 : decode cX4_init 59 = .ok (.newarray .int, 2) := by decide +kernel
theorem dX4_init_61 : decode cX4_init 61 = .ok (.putfield 29, 3) := by decide +kernel
theorem dX4_init_64 : decode cX4_init 64 = .ok (.aload_n 0, 1) := by decide +kernel
theorem dX4_init_65 : decode cX4_init 65 = .ok (.sipush 1600, 3) := by decide +kernel
theorem dX4_init_68 : decode cX4_init 68 = .ok (.newarray .long, 2) := by decide +kernel
theorem dX4_init_70 : decode cX4_init 70 = .ok (.putfield 32, 3) := by decide +kernel
theorem dX4_init_73 : decode cX4_init 73 = .ok (.aload_n 0, 1) := by decide +kernel
theorem dX4_init_74 : decode cX4_init 74 = .ok (.sipush 128, 3) := by decide +kernel
theorem dX4_init_77 : decode cX4_init 77 = .ok (.newarray .int, 2) := by decide +kernel
theorem dX4_init_79 : decode cX4_init 79 = .ok (.putfield 35, 3) := by decide +kernel
theorem dX4_init_82 : decode cX4_init 82 = .ok (.aload_n 0, 1) := by decide +kernel
theorem dX4_init_83 : decode cX4_init 83 = .ok (.sipush 128, 3) := by decide +kernel
theorem dX4_init_86 : decode cX4_init 86 = .ok (.newarray .long, 2) := by decide +kernel
theorem dX4_init_88 : decode cX4_init 88 = .ok (.putfield 38, 3) := by decide +kernel
theorem dX4_init_91 : decode cX4_init 91 = .ok (.aload_n 0, 1) := by decide +kernel
theorem dX4_init_92 : decode cX4_init 92 = .ok (.sipush 128, 3) := by decide +kernel
theorem dX4_init_95 : decode cX4_init 95 = .ok (.newarray .long, 2) := by decide +kernel
theorem dX4_init_97 : decode cX4_init 97 = .ok (.putfield 41, 3) := by decide +kernel
theorem dX4_init_100 : decode cX4_init 100 = .ok (.aload_n 0, 1) := by decide +kernel
