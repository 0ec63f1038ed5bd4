theorem dX4_init_101 : decode cX4_init 101 = .ok (.bipush 80, 2) := by decide +kernel
theorem dX4_init_103 : decode cX4_init 103 = .ok (.newarray .int, 2) := by decide +kernel
theorem dX4_init_105 : decode cX4_init 105 = .ok (.putfield 44, 3) := by decide +kernel
theorem dX4_init_108 : decode cX4_init 108 = .ok (.return_, 1) := by decide +kernel
theorem dX4_thrown_0 : decode cX4_thrown 0 = .ok (.aload_n 0, 1) := by decide +kernel
theorem dX4_thrown_1 : decode cX4_thrown 1 = .ok (.getfield 47, 3) := by decide +kernel
theorem dX4_thrown_4 : decode cX4_thrown 4 = .ok (.ireturn, 1) := by decide +kernel
theorem dX4_isMeter_0 : decode cX4_isMeter 0 = .ok (.iload_n 1, 1) := by decide +kernel
theorem dX4_isMeter_1 : decode cX4_isMeter 1 = .ok (.ifCond .lt 15, 3) := by decide +kernel
theorem dX4_isMeter_4 : decode cX4_isMeter 4 = .ok (.iload_n 1, 1) := by decide +kernel
theorem dX4_isMeter_5 : decode cX4_isMeter 5 = .ok (.aload_n 0, 1) := by decide +kernel
theorem dX4_isMeter_6 : decode cX4_isMeter 6 = .ok (.getfield 51, 3) := by decide +kernel
theorem dX4_isMeter_9 : decode cX4_isMeter 9 = .ok (.if_icmp .ge 7, 3) := by decide +kernel
theorem dX4_isMeter_12 : decode cX4_isMeter 12 = .ok (.iconst 1, 1) := by decide +kernel
theorem dX4_isMeter_13 : decode cX4_isMeter 13 = .ok (.goto 4, 3) := by decide +kernel
theorem dX4_isMeter_16 : decode cX4_isMeter 16 = .ok (.iconst 0, 1) := by decide +kernel
theorem dX4_isMeter_17 : decode cX4_isMeter 17 = .ok (.ireturn, 1) := by decide +kernel
set_option maxRecDepth 20000 in
theorem ggX4_isRow_X4_isMeter : GoodIn wsX4_isRow wsX4_isMeter := goodIn_r _ [6, 7, 8, 9, 10, 11, 12, 13, 14, 15, 16, 17, 18, 19, 20, 21, 22] (by decide +kernel) (by decide +kernel)
set_option maxRecDepth 20000 in
theorem gX4_isRow_X4_isMeter : GoodIn wsX4_isRow (wsV RX4 54 RX4 yX4_isMeter wsX4_isMeter) := goodIn_app (goodIn_of _ (by decide +kernel)) ggX4_isRow_X4_isMeter
theorem dX4_isRow_0 : decode cX4_isRow 0 = .ok (.aload_n 0, 1) := by decide +kernel
theorem dX4_isRow_1 : decode cX4_isRow 1 = .ok (.iload_n 1, 1) := by decide +kernel
theorem dX4_isRow_2 : decode cX4_isRow 2 = .ok (.invokevirtual 54, 3) := by decide +kernel
theorem dX4_isRow_5 : decode cX4_isRow 5 = .ok (.ifCond .eq 21, 3) := by decide +kernel
theorem dX4_isRow_8 : decode cX4_isRow 8 = .ok (.iload_n 2, 1) := by decide +kernel
theorem dX4_isRow_9 : decode cX4_isRow 9 = .ok (.ifCond .lt 17, 3) := by decide +kernel
theorem dX4_isRow_12 : decode cX4_isRow 12 = .ok (.iload_n 2, 1) := by decide +kernel
theorem dX4_isRow_13 : decode cX4_isRow 13 = .ok (.aload_n 0, 1) := by decide +kernel
theorem dX4_isRow_14 : decode cX4_isRow 14 = .ok (.getfield 13, 3) := by decide +kernel
theorem dX4_isRow_17 : decode cX4_isRow 17 = .ok (.iload_n 1, 1) := by decide +kernel
theorem dX4_isRow_18 : decode cX4_isRow 18 = .ok (.iaload, 1) := by decide +kernel
theorem dX4_isRow_19 : decode cX4_isRow 19 = .ok (.if_icmp .ge 7, 3) := by decide +kernel
theorem dX4_isRow_22 : decode cX4_isRow 22 = .ok (.iconst 1, 1) := by decide +kernel
theorem dX4_isRow_23 : decode cX4_isRow 23 = .ok (.goto 4, 3) := by decide +kernel
theorem dX4_isRow_26 : decode cX4_isRow 26 = .ok (.iconst 0, 1) := by decide +kernel
theorem dX4_isRow_27 : decode cX4_isRow 27 = .ok (.ireturn, 1) := by decide +kernel
theorem dX4_meter_0 : decode cX4_meter 0 = .ok (.aload_n 0, 1) := by decide +kernel
theorem dX4_meter_1 : decode cX4_meter 1 = .ok (.iconst 0, 1) := by decide +kernel
theorem dX4_meter_2 : decode cX4_meter 2 = .ok (.putfield 47, 3) := by decide +kernel
theorem dX4_meter_5 : decode cX4_meter 5 = .ok (.aload_n 0, 1) := by decide +kernel
theorem dX4_meter_6 : decode cX4_meter 6 = .ok (.getfield 51, 3) := by decide +kernel
theorem dX4_meter_9 : decode cX4_meter 9 = .ok (.bipush 8, 2) := by decide +kernel
theorem dX4_meter_11 : decode cX4_meter 11 = .ok (.if_icmp .ne 6, 3) := by decide +kernel
theorem dX4_meter_14 : decode cX4_meter 14 = .ok (.bipush (-2), 2) := by decide +kernel
theorem dX4_meter_16 : decode cX4_meter 16 = .ok (.ireturn, 1) := by decide +kernel
theorem dX4_meter_17 : decode cX4_meter 17 = .ok (.aload_n 0, 1) := by decide +kernel
theorem dX4_meter_18 : decode cX4_meter 18 = .ok (.getfield 9, 3) := by decide +kernel
theorem dX4_meter_21 : decode cX4_meter 21 = .ok (.aload_n 0, 1) := by decide +kernel
theorem dX4_meter_22 : decode cX4_meter 22 = .ok (.getfield 51, 3) := by decide +kernel
theorem dX4_meter_25 : decode cX4_meter 25 = .ok (.lload_n 1, 1) := by decide +kernel
theorem dX4_meter_26 : decode cX4_meter 26 = .ok (.lastore, 1) := by decide +kernel
theorem dX4_meter_27 : decode cX4_meter 27 = .ok (.aload_n 0, 1) := by decide +kernel
theorem dX4_meter_28 : decode cX4_meter 28 = .ok (.dup, 1) := by decide +kernel
theorem dX4_meter_29 : decode cX4_meter 29 = .ok (.getfield 51, 3) := by decide +kernel
theorem dX4_meter_32 : decode cX4_meter 32 = .ok (.iconst 1, 1) := by decide +kernel
theorem dX4_meter_33 : decode cX4_meter 33 = .ok (.iadd, 1) := by decide +kernel
theorem dX4_meter_34 : decode cX4_meter 34 = .ok (.putfield 51, 3) := by decide +kernel
theorem dX4_meter_37 : decode cX4_meter 37 = .ok (.aload_n 0, 1) := by decide +kernel
theorem dX4_meter_38 : decode cX4_meter 38 = .ok (.getfield 51, 3) := by decide +kernel
theorem dX4_meter_41 : decode cX4_meter 41 = .ok (.iconst 1, 1) := by decide +kernel
theorem dX4_meter_42 : decode cX4_meter 42 = .ok (.isub, 1) := by decide +kernel
theorem dX4_meter_43 : decode cX4_meter 43 = .ok (.ireturn, 1) := by decide +kernel
theorem dX4_mixed_0 : decode cX4_mixed 0 = .ok (.lload_n 0, 1) := by decide +kernel
theorem dX4_mixed_1 : decode cX4_mixed 1 = .ok (.lload_n 2, 1) := by decide +kernel
theorem dX4_mixed_2 : decode cX4_mixed 2 = .ok (.lxor, 1) := by decide +kernel
theorem dX4_mixed_3 : decode cX4_mixed 3 = .ok (.ldc2_w 58, 3) := by decide +kernel
theorem dX4_mixed_6 : decode cX4_mixed 6 = .ok (.lmul, 1) := by decide +kernel
theorem dX4_mixed_7 : decode cX4_mixed 7 = .ok (.lstore 4, 2) := by decide +kernel
theorem dX4_mixed_9 : decode cX4_mixed 9 = .ok (.lload 4, 2) := by decide +kernel
theorem dX4_mixed_11 : decode cX4_mixed 11 = .ok (.lload 4, 2) := by decide +kernel
theorem dX4_mixed_13 : decode cX4_mixed 13 = .ok (.bipush 29, 2) := by decide +kernel
theorem dX4_mixed_15 : decode cX4_mixed 15 = .ok (.lushr, 1) := by decide +kernel
theorem dX4_mixed_16 : decode cX4_mixed 16 = .ok (.lxor, 1) := by decide +kernel
theorem dX4_mixed_17 : decode cX4_mixed 17 = .ok (.lreturn, 1) := by decide +kernel
set_option maxRecDepth 20000 in
theorem ggX4_due_X4_mixed : GoodIn wsX4_due wsX4_mixed := goodIn_r _ [11, 12] (by decide +kernel) (by decide +kernel)
set_option maxRecDepth 20000 in
theorem gX4_due_X4_mixed : GoodIn wsX4_due (va_wsS RX4 62 yX4_mixed wsX4_mixed) := goodIn_app (goodIn_of _ (by decide +kernel)) ggX4_due_X4_mixed
theorem dX4_due_0 : decode cX4_due 0 = .ok (.iload_n 1, 1) := by decide +kernel
theorem dX4_due_1 : decode cX4_due 1 = .ok (.sipush 200, 3) := by decide +kernel
theorem dX4_due_4 : decode cX4_due 4 = .ok (.imul, 1) := by decide +kernel
theorem dX4_due_5 : decode cX4_due 5 = .ok (.iload_n 2, 1) := by decide +kernel
theorem dX4_due_6 : decode cX4_due 6 = .ok (.iadd, 1) := by decide +kernel
theorem dX4_due_7 : decode cX4_due 7 = .ok (.istore_n 3, 1) := by decide +kernel
theorem dX4_due_8 : decode cX4_due 8 = .ok (.ldc2_w 60, 3) := by decide +kernel
theorem dX4_due_11 : decode cX4_due 11 = .ok (.iload_n 2, 1) := by decide +kernel
theorem dX4_due_12 : decode cX4_due 12 = .ok (.ifCond .ne 12, 3) := by decide +kernel
theorem dX4_due_15 : decode cX4_due 15 = .ok (.aload_n 0, 1) := by decide +kernel
theorem dX4_due_16 : decode cX4_due 16 = .ok (.getfield 9, 3) := by decide +kernel
theorem dX4_due_19 : decode cX4_due 19 = .ok (.iload_n 1, 1) := by decide +kernel
theorem dX4_due_20 : decode cX4_due 20 = .ok (.laload, 1) := by decide +kernel
theorem dX4_due_21 : decode cX4_due 21 = .ok (.goto 11, 3) := by decide +kernel
theorem dX4_due_24 : decode cX4_due 24 = .ok (.aload_n 0, 1) := by decide +kernel
theorem dX4_due_25 : decode cX4_due 25 = .ok (.getfield 32, 3) := by decide +kernel
theorem dX4_due_28 : decode cX4_due 28 = .ok (.iload_n 3, 1) := by decide +kernel
theorem dX4_due_29 : decode cX4_due 29 = .ok (.iconst 1, 1) := by decide +kernel
theorem dX4_due_30 : decode cX4_due 30 = .ok (.isub, 1) := by decide +kernel
theorem dX4_due_31 : decode cX4_due 31 = .ok (.laload, 1) := by decide +kernel
theorem dX4_due_32 : decode cX4_due 32 = .ok (.lmul, 1) := by decide +kernel
theorem dX4_due_33 : decode cX4_due 33 = .ok (.aload_n 0, 1) := by decide +kernel
theorem dX4_due_34 : decode cX4_due 34 = .ok (.getfield 9, 3) := by decide +kernel
theorem dX4_due_37 : decode cX4_due 37 = .ok (.iload_n 1, 1) := by decide +kernel
theorem dX4_due_38 : decode cX4_due 38 = .ok (.laload, 1) := by decide +kernel
theorem dX4_due_39 : decode cX4_due 39 = .ok (.ladd, 1) := by decide +kernel
theorem dX4_due_40 : decode cX4_due 40 = .ok (.lstore 4, 2) := by decide +kernel
theorem dX4_due_42 : decode cX4_due 42 = .ok (.lload 4, 2) := by decide +kernel
theorem dX4_due_44 : decode cX4_due 44 = .ok (.aload_n 0, 1) := by decide +kernel
theorem dX4_due_45 : decode cX4_due 45 = .ok (.getfield 23, 3) := by decide +kernel
theorem dX4_due_48 : decode cX4_due 48 = .ok (.iload_n 3, 1) := by decide +kernel
theorem dX4_due_49 : decode cX4_due 49 = .ok (.laload, 1) := by decide +kernel
theorem dX4_due_50 : decode cX4_due 50 = .ok (.invokestatic 62, 3) := by decide +kernel
theorem dX4_due_53 : decode cX4_due 53 = .ok (.lstore 4, 2) := by decide +kernel
theorem dX4_due_55 : decode cX4_due 55 = .ok (.lload 4, 2) := by decide +kernel
theorem dX4_due_57 : decode cX4_due 57 = .ok (.aload_n 0, 1) := by decide +kernel
theorem dX4_due_58 : decode cX4_due 58 = .ok (.getfield 20, 3) := by decide +kernel
theorem dX4_due_61 : decode cX4_due 61 = .ok (.iload_n 3, 1) := by decide +kernel
theorem dX4_due_62 : decode cX4_due 62 = .ok (.iaload, 1) := by decide +kernel
theorem dX4_due_63 : decode cX4_due 63 = .ok (.ifCond .ne 12, 3) := by decide +kernel
theorem dX4_due_66 : decode cX4_due 66 = .ok (.aload_n 0, 1) := by decide +kernel
theorem dX4_due_67 : decode cX4_due 67 = .ok (.getfield 26, 3) := by decide +kernel
theorem dX4_due_70 : decode cX4_due 70 = .ok (.iload_n 3, 1) := by decide +kernel
theorem dX4_due_71 : decode cX4_due 71 = .ok (.laload, 1) := by decide +kernel
theorem dX4_due_72 : decode cX4_due 72 = .ok (.goto 11, 3) := by decide +kernel
theorem dX4_due_75 : decode cX4_due 75 = .ok (.aload_n 0, 1) := by decide +kernel
theorem dX4_due_76 : decode cX4_due 76 = .ok (.getfield 20, 3) := by decide +kernel
theorem dX4_due_79 : decode cX4_due 79 = .ok (.iload_n 3, 1) := by decide +kernel
theorem dX4_due_80 : decode cX4_due 80 = .ok (.iaload, 1) := by decide +kernel
theorem dX4_due_81 : decode cX4_due 81 = .ok (.ineg, 1) := by decide +kernel
theorem dX4_due_82 : decode cX4_due 82 = .ok (.i2l, 1) := by decide +kernel
theorem dX4_due_83 : decode cX4_due 83 = .ok (.invokestatic 62, 3) := by decide +kernel
theorem dX4_due_86 : decode cX4_due 86 = .ok (.lstore 4, 2) := by decide +kernel
theorem dX4_due_88 : decode cX4_due 88 = .ok (.lload 4, 2) := by decide +kernel
theorem dX4_due_90 : decode cX4_due 90 = .ok (.aload_n 0, 1) := by decide +kernel
theorem dX4_due_91 : decode cX4_due 91 = .ok (.getfield 20, 3) := by decide +kernel
theorem dX4_due_94 : decode cX4_due 94 = .ok (.iload_n 3, 1) := by decide +kernel
theorem dX4_due_95 : decode cX4_due 95 = .ok (.iaload, 1) := by decide +kernel
theorem dX4_due_96 : decode cX4_due 96 = .ok (.ifCond .ne 13, 3) := by decide +kernel
theorem dX4_due_99 : decode cX4_due 99 = .ok (.aload_n 0, 1) := by decide +kernel
theorem dX4_due_100 : decode cX4_due 100 = .ok (.getfield 29, 3) := by decide +kernel
theorem dX4_due_103 : decode cX4_due 103 = .ok (.iload_n 3, 1) := by decide +kernel
theorem dX4_due_104 : decode cX4_due 104 = .ok (.iaload, 1) := by decide +kernel
theorem dX4_due_105 : decode cX4_due 105 = .ok (.i2l, 1) := by decide +kernel
theorem dX4_due_106 : decode cX4_due 106 = .ok (.goto 4, 3) := by decide +kernel
theorem dX4_due_109 : decode cX4_due 109 = .ok (.lconst 0, 1) := by decide +kernel
theorem dX4_due_110 : decode cX4_due 110 = .ok (.invokestatic 62, 3) := by decide +kernel
theorem dX4_due_113 : decode cX4_due 113 = .ok (.lreturn, 1) := by decide +kernel
set_option maxRecDepth 20000 in
theorem ggX4_add_X4_due : GoodIn wsX4_add wsX4_due := goodIn_r _ [11, 12, 13, 6, 3, 2, 4, 5, 14, 15, 10, 16, 17, 18, 19, 20, 21, 22, 23, 24, 25, 26, 27, 28, 29, 30, 31, 32] (by decide +kernel) (by decide +kernel)
set_option maxRecDepth 20000 in
theorem gX4_add_X4_due : GoodIn wsX4_add (wsV RX4 66 RX4 yX4_due wsX4_due) := goodIn_app (goodIn_of _ (by decide +kernel)) ggX4_add_X4_due
theorem dX4_add_0 : decode cX4_add 0 = .ok (.iload_n 1, 1) := by decide +kernel
theorem dX4_add_1 : decode cX4_add 1 = .ok (.sipush 200, 3) := by decide +kernel
theorem dX4_add_4 : decode cX4_add 4 = .ok (.imul, 1) := by decide +kernel
theorem dX4_add_5 : decode cX4_add 5 = .ok (.aload_n 0, 1) := by decide +kernel
theorem dX4_add_6 : decode cX4_add 6 = .ok (.getfield 13, 3) := by decide +kernel
theorem dX4_add_9 : decode cX4_add 9 = .ok (.iload_n 1, 1) := by decide +kernel
theorem dX4_add_10 : decode cX4_add 10 = .ok (.iaload, 1) := by decide +kernel
theorem dX4_add_11 : decode cX4_add 11 = .ok (.iadd, 1) := by decide +kernel
theorem dX4_add_12 : decode cX4_add 12 = .ok (.istore 8, 2) := by decide +kernel
theorem dX4_add_14 : decode cX4_add 14 = .ok (.aload_n 0, 1) := by decide +kernel
theorem dX4_add_15 : decode cX4_add 15 = .ok (.getfield 20, 3) := by decide +kernel
theorem dX4_add_18 : decode cX4_add 18 = .ok (.iload 8, 2) := by decide +kernel
theorem dX4_add_20 : decode cX4_add 20 = .ok (.iload_n 2, 1) := by decide +kernel
theorem dX4_add_21 : decode cX4_add 21 = .ok (.iastore, 1) := by decide +kernel
theorem dX4_add_22 : decode cX4_add 22 = .ok (.aload_n 0, 1) := by decide +kernel
theorem dX4_add_23 : decode cX4_add 23 = .ok (.getfield 23, 3) := by decide +kernel
theorem dX4_add_26 : decode cX4_add 26 = .ok (.iload 8, 2) := by decide +kernel
theorem dX4_add_28 : decode cX4_add 28 = .ok (.lload_n 3, 1) := by decide +kernel
theorem dX4_add_29 : decode cX4_add 29 = .ok (.lastore, 1) := by decide +kernel
theorem dX4_add_30 : decode cX4_add 30 = .ok (.aload_n 0, 1) := by decide +kernel
theorem dX4_add_31 : decode cX4_add 31 = .ok (.getfield 26, 3) := by decide +kernel
theorem dX4_add_34 : decode cX4_add 34 = .ok (.iload 8, 2) := by decide +kernel
theorem dX4_add_36 : decode cX4_add 36 = .ok (.lload 5, 2) := by decide +kernel
theorem dX4_add_38 : decode cX4_add 38 = .ok (.lastore, 1) := by decide +kernel
theorem dX4_add_39 : decode cX4_add 39 = .ok (.aload_n 0, 1) := by decide +kernel
theorem dX4_add_40 : decode cX4_add 40 = .ok (.getfield 29, 3) := by decide +kernel
theorem dX4_add_43 : decode cX4_add 43 = .ok (.iload 8, 2) := by decide +kernel
theorem dX4_add_45 : decode cX4_add 45 = .ok (.iload 7, 2) := by decide +kernel
theorem dX4_add_47 : decode cX4_add 47 = .ok (.iastore, 1) := by decide +kernel
theorem dX4_add_48 : decode cX4_add 48 = .ok (.aload_n 0, 1) := by decide +kernel
theorem dX4_add_49 : decode cX4_add 49 = .ok (.getfield 13, 3) := by decide +kernel
theorem dX4_add_52 : decode cX4_add 52 = .ok (.iload_n 1, 1) := by decide +kernel
theorem dX4_add_53 : decode cX4_add 53 = .ok (.dup2, 1) := by decide +kernel
theorem dX4_add_54 : decode cX4_add 54 = .ok (.iaload, 1) := by decide +kernel
theorem dX4_add_55 : decode cX4_add 55 = .ok (.iconst 1, 1) := by decide +kernel
theorem dX4_add_56 : decode cX4_add 56 = .ok (.iadd, 1) := by decide +kernel
theorem dX4_add_57 : decode cX4_add 57 = .ok (.iastore, 1) := by decide +kernel
theorem dX4_add_58 : decode cX4_add 58 = .ok (.aload_n 0, 1) := by decide +kernel
theorem dX4_add_59 : decode cX4_add 59 = .ok (.getfield 32, 3) := by decide +kernel
theorem dX4_add_62 : decode cX4_add 62 = .ok (.iload 8, 2) := by decide +kernel
theorem dX4_add_64 : decode cX4_add 64 = .ok (.aload_n 0, 1) := by decide +kernel
theorem dX4_add_65 : decode cX4_add 65 = .ok (.iload_n 1, 1) := by decide +kernel
theorem dX4_add_66 : decode cX4_add 66 = .ok (.aload_n 0, 1) := by decide +kernel
theorem dX4_add_67 : decode cX4_add 67 = .ok (.getfield 13, 3) := by decide +kernel
theorem dX4_add_70 : decode cX4_add 70 = .ok (.iload_n 1, 1) := by decide +kernel
theorem dX4_add_71 : decode cX4_add 71 = .ok (.iaload, 1) := by decide +kernel
theorem dX4_add_72 : decode cX4_add 72 = .ok (.iconst 1, 1) := by decide +kernel
theorem dX4_add_73 : decode cX4_add 73 = .ok (.isub, 1) := by decide +kernel
theorem dX4_add_74 : decode cX4_add 74 = .ok (.invokevirtual 66, 3) := by decide +kernel
theorem dX4_add_77 : decode cX4_add 77 = .ok (.lastore, 1) := by decide +kernel
theorem dX4_add_78 : decode cX4_add 78 = .ok (.return_, 1) := by decide +kernel
set_option maxRecDepth 20000 in
theorem ggX4_pulses_X4_isMeter : GoodIn wsX4_pulses wsX4_isMeter := goodIn_r _ [12, 13, 31, 32, 33, 34, 35, 36, 37, 38, 39, 40, 41, 42, 43, 44, 45] (by decide +kernel) (by decide +kernel)
set_option maxRecDepth 20000 in
theorem gX4_pulses_X4_isMeter : GoodIn wsX4_pulses (wsV RX4 54 RX4 yX4_isMeter wsX4_isMeter) := goodIn_app (goodIn_of _ (by decide +kernel)) ggX4_pulses_X4_isMeter
set_option maxRecDepth 20000 in
theorem ggX4_pulses_X4_add : GoodIn wsX4_pulses wsX4_add := goodIn_r _ [17, 5, 6, 18, 7, 19, 20, 21, 22, 23, 11, 24, 25, 26, 27, 28, 29, 30, 31, 32, 33, 34, 35, 36, 37, 38, 39, 40, 41, 42, 43, 44, 45] (by decide +kernel) (by decide +kernel)
set_option maxRecDepth 20000 in
theorem gX4_pulses_X4_add : GoodIn wsX4_pulses (wsV RX4 74 RX4 yX4_add wsX4_add) := goodIn_app (goodIn_of _ (by decide +kernel)) ggX4_pulses_X4_add
theorem dX4_pulses_0 : decode cX4_pulses 0 = .ok (.aload_n 0, 1) := by decide +kernel
theorem dX4_pulses_1 : decode cX4_pulses 1 = .ok (.iconst 0, 1) := by decide +kernel
theorem dX4_pulses_2 : decode cX4_pulses 2 = .ok (.putfield 47, 3) := by decide +kernel
theorem dX4_pulses_5 : decode cX4_pulses 5 = .ok (.aload_n 0, 1) := by decide +kernel
theorem dX4_pulses_6 : decode cX4_pulses 6 = .ok (.iload_n 1, 1) := by decide +kernel
theorem dX4_pulses_7 : decode cX4_pulses 7 = .ok (.invokevirtual 54, 3) := by decide +kernel
theorem dX4_pulses_10 : decode cX4_pulses 10 = .ok (.ifCond .eq 73, 3) := by decide +kernel
theorem dX4_pulses_13 : decode cX4_pulses 13 = .ok (.aload_n 0, 1) := by decide +kernel
theorem dX4_pulses_14 : decode cX4_pulses 14 = .ok (.getfield 17, 3) := by decide +kernel
theorem dX4_pulses_17 : decode cX4_pulses 17 = .ok (.iload_n 1, 1) := by decide +kernel
theorem dX4_pulses_18 : decode cX4_pulses 18 = .ok (.iaload, 1) := by decide +kernel
theorem dX4_pulses_19 : decode cX4_pulses 19 = .ok (.ifCond .le 64, 3) := by decide +kernel
theorem dX4_pulses_22 : decode cX4_pulses 22 = .ok (.lload_n 2, 1) := by decide +kernel
theorem dX4_pulses_23 : decode cX4_pulses 23 = .ok (.lconst 0, 1) := by decide +kernel
theorem dX4_pulses_24 : decode cX4_pulses 24 = .ok (.lcmp, 1) := by decide +kernel
theorem dX4_pulses_25 : decode cX4_pulses 25 = .ok (.ifCond .lt 58, 3) := by decide +kernel
theorem dX4_pulses_28 : decode cX4_pulses 28 = .ok (.lload_n 2, 1) := by decide +kernel
theorem dX4_pulses_29 : decode cX4_pulses 29 = .ok (.ldc2_w 70, 3) := by decide +kernel
theorem dX4_pulses_32 : decode cX4_pulses 32 = .ok (.lcmp, 1) := by decide +kernel
theorem dX4_pulses_33 : decode cX4_pulses 33 = .ok (.ifCond .gt 50, 3) := by decide +kernel
theorem dX4_pulses_36 : decode cX4_pulses 36 = .ok (.lload 4, 2) := by decide +kernel
theorem dX4_pulses_38 : decode cX4_pulses 38 = .ok (.lconst 0, 1) := by decide +kernel
theorem dX4_pulses_39 : decode cX4_pulses 39 = .ok (.lcmp, 1) := by decide +kernel
theorem dX4_pulses_40 : decode cX4_pulses 40 = .ok (.ifCond .lt 43, 3) := by decide +kernel
theorem dX4_pulses_43 : decode cX4_pulses 43 = .ok (.lload 4, 2) := by decide +kernel
theorem dX4_pulses_45 : decode cX4_pulses 45 = .ok (.ldc2_w 72, 3) := by decide +kernel
theorem dX4_pulses_48 : decode cX4_pulses 48 = .ok (.lcmp, 1) := by decide +kernel
theorem dX4_pulses_49 : decode cX4_pulses 49 = .ok (.ifCond .gt 34, 3) := by decide +kernel
theorem dX4_pulses_52 : decode cX4_pulses 52 = .ok (.iload 6, 2) := by decide +kernel
theorem dX4_pulses_54 : decode cX4_pulses 54 = .ok (.bipush (-50), 2) := by decide +kernel
theorem dX4_pulses_56 : decode cX4_pulses 56 = .ok (.if_icmp .lt 27, 3) := by decide +kernel
theorem dX4_pulses_59 : decode cX4_pulses 59 = .ok (.iload 6, 2) := by decide +kernel
theorem dX4_pulses_61 : decode cX4_pulses 61 = .ok (.sipush 150, 3) := by decide +kernel
theorem dX4_pulses_64 : decode cX4_pulses 64 = .ok (.if_icmp .gt 19, 3) := by decide +kernel
theorem dX4_pulses_67 : decode cX4_pulses 67 = .ok (.aload_n 0, 1) := by decide +kernel
theorem dX4_pulses_68 : decode cX4_pulses 68 = .ok (.getfield 13, 3) := by decide +kernel
theorem dX4_pulses_71 : decode cX4_pulses 71 = .ok (.iload_n 1, 1) := by decide +kernel
theorem dX4_pulses_72 : decode cX4_pulses 72 = .ok (.iaload, 1) := by decide +kernel
theorem dX4_pulses_73 : decode cX4_pulses 73 = .ok (.sipush 200, 3) := by decide +kernel
theorem dX4_pulses_76 : decode cX4_pulses 76 = .ok (.if_icmp .ge 7, 3) := by decide +kernel
theorem dX4_pulses_79 : decode cX4_pulses 79 = .ok (.iconst 1, 1) := by decide +kernel
theorem dX4_pulses_80 : decode cX4_pulses 80 = .ok (.goto 4, 3) := by decide +kernel
theorem dX4_pulses_83 : decode cX4_pulses 83 = .ok (.iconst 0, 1) := by decide +kernel
theorem dX4_pulses_84 : decode cX4_pulses 84 = .ok (.istore 7, 2) := by decide +kernel
theorem dX4_pulses_86 : decode cX4_pulses 86 = .ok (.iconst 0, 1) := by decide +kernel
theorem dX4_pulses_87 : decode cX4_pulses 87 = .ok (.istore 8, 2) := by decide +kernel
theorem dX4_pulses_89 : decode cX4_pulses 89 = .ok (.iload 7, 2) := by decide +kernel
theorem dX4_pulses_91 : decode cX4_pulses 91 = .ok (.ifCond .eq 62, 3) := by decide +kernel
theorem dX4_pulses_94 : decode cX4_pulses 94 = .ok (.iload 8, 2) := by decide +kernel
theorem dX4_pulses_96 : decode cX4_pulses 96 = .ok (.aload_n 0, 1) := by decide +kernel
theorem dX4_pulses_97 : decode cX4_pulses 97 = .ok (.getfield 13, 3) := by decide +kernel
theorem dX4_pulses_100 : decode cX4_pulses 100 = .ok (.iload_n 1, 1) := by decide +kernel
theorem dX4_pulses_101 : decode cX4_pulses 101 = .ok (.iaload, 1) := by decide +kernel
theorem dX4_pulses_102 : decode cX4_pulses 102 = .ok (.if_icmp .ge 51, 3) := by decide +kernel
theorem dX4_pulses_105 : decode cX4_pulses 105 = .ok (.aload_n 0, 1) := by decide +kernel
theorem dX4_pulses_106 : decode cX4_pulses 106 = .ok (.getfield 20, 3) := by decide +kernel
theorem dX4_pulses_109 : decode cX4_pulses 109 = .ok (.iload_n 1, 1) := by decide +kernel
theorem dX4_pulses_110 : decode cX4_pulses 110 = .ok (.sipush 200, 3) := by decide +kernel
theorem dX4_pulses_113 : decode cX4_pulses 113 = .ok (.imul, 1) := by decide +kernel
theorem dX4_pulses_114 : decode cX4_pulses 114 = .ok (.iload 8, 2) := by decide +kernel
theorem dX4_pulses_116 : decode cX4_pulses 116 = .ok (.iadd, 1) := by decide +kernel
theorem dX4_pulses_117 : decode cX4_pulses 117 = .ok (.iaload, 1) := by decide +kernel
theorem dX4_pulses_118 : decode cX4_pulses 118 = .ok (.ifCond .ne 22, 3) := by decide +kernel
theorem dX4_pulses_121 : decode cX4_pulses 121 = .ok (.aload_n 0, 1) := by decide +kernel
theorem dX4_pulses_122 : decode cX4_pulses 122 = .ok (.getfield 26, 3) := by decide +kernel
theorem dX4_pulses_125 : decode cX4_pulses 125 = .ok (.iload_n 1, 1) := by decide +kernel
theorem dX4_pulses_126 : decode cX4_pulses 126 = .ok (.sipush 200, 3) := by decide +kernel
theorem dX4_pulses_129 : decode cX4_pulses 129 = .ok (.imul, 1) := by decide +kernel
theorem dX4_pulses_130 : decode cX4_pulses 130 = .ok (.iload 8, 2) := by decide +kernel
theorem dX4_pulses_132 : decode cX4_pulses 132 = .ok (.iadd, 1) := by decide +kernel
theorem dX4_pulses_133 : decode cX4_pulses 133 = .ok (.laload, 1) := by decide +kernel
theorem dX4_pulses_134 : decode cX4_pulses 134 = .ok (.lload 4, 2) := by decide +kernel
theorem dX4_pulses_136 : decode cX4_pulses 136 = .ok (.lcmp, 1) := by decide +kernel
theorem dX4_pulses_137 : decode cX4_pulses 137 = .ok (.ifCond .gt 7, 3) := by decide +kernel
theorem dX4_pulses_140 : decode cX4_pulses 140 = .ok (.iconst 1, 1) := by decide +kernel
theorem dX4_pulses_141 : decode cX4_pulses 141 = .ok (.goto 4, 3) := by decide +kernel
theorem dX4_pulses_144 : decode cX4_pulses 144 = .ok (.iconst 0, 1) := by decide +kernel
theorem dX4_pulses_145 : decode cX4_pulses 145 = .ok (.istore 7, 2) := by decide +kernel
theorem dX4_pulses_147 : decode cX4_pulses 147 = .ok (.iinc 8 1, 3) := by decide +kernel
theorem dX4_pulses_150 : decode cX4_pulses 150 = .ok (.goto (-61), 3) := by decide +kernel
theorem dX4_pulses_153 : decode cX4_pulses 153 = .ok (.iload 7, 2) := by decide +kernel
theorem dX4_pulses_155 : decode cX4_pulses 155 = .ok (.ifCond .eq 14, 3) := by decide +kernel
theorem dX4_pulses_158 : decode cX4_pulses 158 = .ok (.aload_n 0, 1) := by decide +kernel
theorem dX4_pulses_159 : decode cX4_pulses 159 = .ok (.iload_n 1, 1) := by decide +kernel
theorem dX4_pulses_160 : decode cX4_pulses 160 = .ok (.iconst 0, 1) := by decide +kernel
theorem dX4_pulses_161 : decode cX4_pulses 161 = .ok (.lload_n 2, 1) := by decide +kernel
theorem dX4_pulses_162 : decode cX4_pulses 162 = .ok (.lload 4, 2) := by decide +kernel
theorem dX4_pulses_164 : decode cX4_pulses 164 = .ok (.iload 6, 2) := by decide +kernel
theorem dX4_pulses_166 : decode cX4_pulses 166 = .ok (.invokevirtual 74, 3) := by decide +kernel
theorem dX4_pulses_169 : decode cX4_pulses 169 = .ok (.iload 7, 2) := by decide +kernel
theorem dX4_pulses_171 : decode cX4_pulses 171 = .ok (.ireturn, 1) := by decide +kernel
set_option maxRecDepth 20000 in
theorem ggX4_reset_X4_isMeter : GoodIn wsX4_reset wsX4_isMeter := goodIn_r _ [8, 9, 29, 30, 31, 32, 33, 34, 35, 36, 37, 38, 39, 40, 41, 42, 43] (by decide +kernel) (by decide +kernel)
set_option maxRecDepth 20000 in
theorem gX4_reset_X4_isMeter : GoodIn wsX4_reset (wsV RX4 54 RX4 yX4_isMeter wsX4_isMeter) := goodIn_app (goodIn_of _ (by decide +kernel)) ggX4_reset_X4_isMeter
set_option maxRecDepth 20000 in
theorem ggX4_reset_X4_add : GoodIn wsX4_reset wsX4_add := goodIn_r _ [13, 3, 14, 15, 16, 17, 18, 19, 20, 21, 7, 22, 23, 24, 25, 26, 27, 28, 29, 30, 31, 32, 33, 34, 35, 36, 37, 38, 39, 40, 41, 42, 43] (by decide +kernel) (by decide +kernel)
set_option maxRecDepth 20000 in
theorem gX4_reset_X4_add : GoodIn wsX4_reset (wsV RX4 74 RX4 yX4_add wsX4_add) := goodIn_app (goodIn_of _ (by decide +kernel)) ggX4_reset_X4_add
theorem dX4_reset_0 : decode cX4_reset 0 = .ok (.aload_n 0, 1) := by decide +kernel
theorem dX4_reset_1 : decode cX4_reset 1 = .ok (.iconst 0, 1) := by decide +kernel
theorem dX4_reset_2 : decode cX4_reset 2 = .ok (.putfield 47, 3) := by decide +kernel
theorem dX4_reset_5 : decode cX4_reset 5 = .ok (.aload_n 0, 1) := by decide +kernel
theorem dX4_reset_6 : decode cX4_reset 6 = .ok (.iload_n 1, 1) := by decide +kernel
theorem dX4_reset_7 : decode cX4_reset 7 = .ok (.invokevirtual 54, 3) := by decide +kernel
theorem dX4_reset_10 : decode cX4_reset 10 = .ok (.ifCond .eq 33, 3) := by decide +kernel
theorem dX4_reset_13 : decode cX4_reset 13 = .ok (.lload_n 2, 1) := by decide +kernel
theorem dX4_reset_14 : decode cX4_reset 14 = .ok (.lconst 0, 1) := by decide +kernel
theorem dX4_reset_15 : decode cX4_reset 15 = .ok (.lcmp, 1) := by decide +kernel
theorem dX4_reset_16 : decode cX4_reset 16 = .ok (.ifCond .lt 27, 3) := by decide +kernel
theorem dX4_reset_19 : decode cX4_reset 19 = .ok (.lload_n 2, 1) := by decide +kernel
theorem dX4_reset_20 : decode cX4_reset 20 = .ok (.ldc2_w 72, 3) := by decide +kernel
theorem dX4_reset_23 : decode cX4_reset 23 = .ok (.lcmp, 1) := by decide +kernel
theorem dX4_reset_24 : decode cX4_reset 24 = .ok (.ifCond .gt 19, 3) := by decide +kernel
theorem dX4_reset_27 : decode cX4_reset 27 = .ok (.aload_n 0, 1) := by decide +kernel
theorem dX4_reset_28 : decode cX4_reset 28 = .ok (.getfield 13, 3) := by decide +kernel
theorem dX4_reset_31 : decode cX4_reset 31 = .ok (.iload_n 1, 1) := by decide +kernel
theorem dX4_reset_32 : decode cX4_reset 32 = .ok (.iaload, 1) := by decide +kernel
theorem dX4_reset_33 : decode cX4_reset 33 = .ok (.sipush 200, 3) := by decide +kernel
theorem dX4_reset_36 : decode cX4_reset 36 = .ok (.if_icmp .ge 7, 3) := by decide +kernel
theorem dX4_reset_39 : decode cX4_reset 39 = .ok (.iconst 1, 1) := by decide +kernel
theorem dX4_reset_40 : decode cX4_reset 40 = .ok (.goto 4, 3) := by decide +kernel
theorem dX4_reset_43 : decode cX4_reset 43 = .ok (.iconst 0, 1) := by decide +kernel
theorem dX4_reset_44 : decode cX4_reset 44 = .ok (.istore 4, 2) := by decide +kernel
theorem dX4_reset_46 : decode cX4_reset 46 = .ok (.iload 4, 2) := by decide +kernel
theorem dX4_reset_48 : decode cX4_reset 48 = .ok (.ifCond .eq 12, 3) := by decide +kernel
theorem dX4_reset_51 : decode cX4_reset 51 = .ok (.aload_n 0, 1) := by decide +kernel
theorem dX4_reset_52 : decode cX4_reset 52 = .ok (.iload_n 1, 1) := by decide +kernel
theorem dX4_reset_53 : decode cX4_reset 53 = .ok (.iconst 1, 1) := by decide +kernel
theorem dX4_reset_54 : decode cX4_reset 54 = .ok (.lload_n 2, 1) := by decide +kernel
theorem dX4_reset_55 : decode cX4_reset 55 = .ok (.lconst 0, 1) := by decide +kernel
theorem dX4_reset_56 : decode cX4_reset 56 = .ok (.iconst 0, 1) := by decide +kernel
theorem dX4_reset_57 : decode cX4_reset 57 = .ok (.invokevirtual 74, 3) := by decide +kernel
theorem dX4_reset_60 : decode cX4_reset 60 = .ok (.iload 4, 2) := by decide +kernel
theorem dX4_reset_62 : decode cX4_reset 62 = .ok (.ireturn, 1) := by decide +kernel
theorem dX4_isSet_0 : decode cX4_isSet 0 = .ok (.iconst 1, 1) := by decide +kernel
theorem dX4_isSet_1 : decode cX4_isSet 1 = .ok (.istore_n 3, 1) := by decide +kernel
theorem dX4_isSet_2 : decode cX4_isSet 2 = .ok (.iconst 0, 1) := by decide +kernel
theorem dX4_isSet_3 : decode cX4_isSet 3 = .ok (.istore 4, 2) := by decide +kernel
theorem dX4_isSet_5 : decode cX4_isSet 5 = .ok (.iload 4, 2) := by decide +kernel
theorem dX4_isSet_7 : decode cX4_isSet 7 = .ok (.iload_n 2, 1) := by decide +kernel
theorem dX4_isSet_8 : decode cX4_isSet 8 = .ok (.if_icmp .ge 50, 3) := by decide +kernel
theorem dX4_isSet_11 : decode cX4_isSet 11 = .ok (.aload_n 0, 1) := by decide +kernel
theorem dX4_isSet_12 : decode cX4_isSet 12 = .ok (.getfield 20, 3) := by decide +kernel
theorem dX4_isSet_15 : decode cX4_isSet 15 = .ok (.iload_n 1, 1) := by decide +kernel
theorem dX4_isSet_16 : decode cX4_isSet 16 = .ok (.sipush 200, 3) := by decide +kernel
theorem dX4_isSet_19 : decode cX4_isSet 19 = .ok (.imul, 1) := by decide +kernel
theorem dX4_isSet_20 : decode cX4_isSet 20 = .ok (.iload 4, 2) := by decide +kernel
theorem dX4_isSet_22 : decode cX4_isSet 22 = .ok (.iadd, 1) := by decide +kernel
theorem dX4_isSet_23 : decode cX4_isSet 23 = .ok (.iaload, 1) := by decide +kernel
theorem dX4_isSet_24 : decode cX4_isSet 24 = .ok (.istore 5, 2) := by decide +kernel
theorem dX4_isSet_26 : decode cX4_isSet 26 = .ok (.iload 5, 2) := by decide +kernel
theorem dX4_isSet_28 : decode cX4_isSet 28 = .ok (.iconst 2, 1) := by decide +kernel
theorem dX4_isSet_29 : decode cX4_isSet 29 = .ok (.if_icmp .ne 7, 3) := by decide +kernel
theorem dX4_isSet_32 : decode cX4_isSet 32 = .ok (.iconst 0, 1) := by decide +kernel
theorem dX4_isSet_33 : decode cX4_isSet 33 = .ok (.goto 18, 3) := by decide +kernel
theorem dX4_isSet_36 : decode cX4_isSet 36 = .ok (.iload 5, 2) := by decide +kernel
theorem dX4_isSet_38 : decode cX4_isSet 38 = .ok (.iconst 3, 1) := by decide +kernel
theorem dX4_isSet_39 : decode cX4_isSet 39 = .ok (.if_icmp .eq 7, 3) := by decide +kernel
theorem dX4_isSet_42 : decode cX4_isSet 42 = .ok (.iload_n 3, 1) := by decide +kernel
theorem dX4_isSet_43 : decode cX4_isSet 43 = .ok (.ifCond .eq 7, 3) := by decide +kernel
theorem dX4_isSet_46 : decode cX4_isSet 46 = .ok (.iconst 1, 1) := by decide +kernel
theorem dX4_isSet_47 : decode cX4_isSet 47 = .ok (.goto 4, 3) := by decide +kernel
theorem dX4_isSet_50 : decode cX4_isSet 50 = .ok (.iconst 0, 1) := by decide +kernel
theorem dX4_isSet_51 : decode cX4_isSet 51 = .ok (.istore_n 3, 1) := by decide +kernel
theorem dX4_isSet_52 : decode cX4_isSet 52 = .ok (.iinc 4 1, 3) := by decide +kernel
theorem dX4_isSet_55 : decode cX4_isSet 55 = .ok (.goto (-50), 3) := by decide +kernel
theorem dX4_isSet_58 : decode cX4_isSet 58 = .ok (.iload_n 3, 1) := by decide +kernel
theorem dX4_isSet_59 : decode cX4_isSet 59 = .ok (.ireturn, 1) := by decide +kernel
set_option maxRecDepth 20000 in
theorem ggX4_seal_X4_isMeter : GoodIn wsX4_seal wsX4_isMeter := goodIn_r _ [7, 8, 32, 33, 34, 35, 36, 37, 38, 39, 40, 41, 42, 43, 44, 45, 46] (by decide +kernel) (by decide +kernel)
set_option maxRecDepth 20000 in
theorem gX4_seal_X4_isMeter : GoodIn wsX4_seal (wsV RX4 54 RX4 yX4_isMeter wsX4_isMeter) := goodIn_app (goodIn_of _ (by decide +kernel)) ggX4_seal_X4_isMeter
set_option maxRecDepth 20000 in
theorem ggX4_seal_X4_isSet : GoodIn wsX4_seal wsX4_isSet := goodIn_r _ [12, 13, 32, 33, 34, 35, 36, 37, 38, 39, 40, 41, 42, 43, 44, 45, 46] (by decide +kernel) (by decide +kernel)
set_option maxRecDepth 20000 in
theorem gX4_seal_X4_isSet : GoodIn wsX4_seal (wsV RX4 78 RX4 yX4_isSet wsX4_isSet) := goodIn_app (goodIn_of _ (by decide +kernel)) ggX4_seal_X4_isSet
set_option maxRecDepth 20000 in
theorem ggX4_seal_X4_add : GoodIn wsX4_seal wsX4_add := goodIn_r _ [17, 2, 13, 18, 19, 20, 21, 22, 23, 24, 6, 25, 26, 27, 28, 29, 30, 31, 32, 33, 34, 35, 36, 37, 38, 39, 40, 41, 42, 43, 44, 45, 46] (by decide +kernel) (by decide +kernel)
set_option maxRecDepth 20000 in
theorem gX4_seal_X4_add : GoodIn wsX4_seal (wsV RX4 74 RX4 yX4_add wsX4_add) := goodIn_app (goodIn_of _ (by decide +kernel)) ggX4_seal_X4_add
theorem dX4_seal_0 : decode cX4_seal 0 = .ok (.aload_n 0, 1) := by decide +kernel
theorem dX4_seal_1 : decode cX4_seal 1 = .ok (.iconst 0, 1) := by decide +kernel
theorem dX4_seal_2 : decode cX4_seal 2 = .ok (.putfield 47, 3) := by decide +kernel
theorem dX4_seal_5 : decode cX4_seal 5 = .ok (.aload_n 0, 1) := by decide +kernel
theorem dX4_seal_6 : decode cX4_seal 6 = .ok (.iload_n 1, 1) := by decide +kernel
theorem dX4_seal_7 : decode cX4_seal 7 = .ok (.invokevirtual 54, 3) := by decide +kernel
theorem dX4_seal_10 : decode cX4_seal 10 = .ok (.ifCond .eq 46, 3) := by decide +kernel
theorem dX4_seal_13 : decode cX4_seal 13 = .ok (.iload_n 2, 1) := by decide +kernel
theorem dX4_seal_14 : decode cX4_seal 14 = .ok (.iconst 1, 1) := by decide +kernel
theorem dX4_seal_15 : decode cX4_seal 15 = .ok (.if_icmp .lt 41, 3) := by decide +kernel
theorem dX4_seal_18 : decode cX4_seal 18 = .ok (.iload_n 2, 1) := by decide +kernel
theorem dX4_seal_19 : decode cX4_seal 19 = .ok (.sipush 999, 3) := by decide +kernel
theorem dX4_seal_22 : decode cX4_seal 22 = .ok (.if_icmp .gt 34, 3) := by decide +kernel
theorem dX4_seal_25 : decode cX4_seal 25 = .ok (.aload_n 0, 1) := by decide +kernel
theorem dX4_seal_26 : decode cX4_seal 26 = .ok (.getfield 13, 3) := by decide +kernel
theorem dX4_seal_29 : decode cX4_seal 29 = .ok (.iload_n 1, 1) := by decide +kernel
theorem dX4_seal_30 : decode cX4_seal 30 = .ok (.iaload, 1) := by decide +kernel
theorem dX4_seal_31 : decode cX4_seal 31 = .ok (.sipush 200, 3) := by decide +kernel
theorem dX4_seal_34 : decode cX4_seal 34 = .ok (.if_icmp .ge 22, 3) := by decide +kernel
theorem dX4_seal_37 : decode cX4_seal 37 = .ok (.aload_n 0, 1) := by decide +kernel
theorem dX4_seal_38 : decode cX4_seal 38 = .ok (.iload_n 1, 1) := by decide +kernel
theorem dX4_seal_39 : decode cX4_seal 39 = .ok (.aload_n 0, 1) := by decide +kernel
theorem dX4_seal_40 : decode cX4_seal 40 = .ok (.getfield 13, 3) := by decide +kernel
theorem dX4_seal_43 : decode cX4_seal 43 = .ok (.iload_n 1, 1) := by decide +kernel
theorem dX4_seal_44 : decode cX4_seal 44 = .ok (.iaload, 1) := by decide +kernel
theorem dX4_seal_45 : decode cX4_seal 45 = .ok (.invokevirtual 78, 3) := by decide +kernel
theorem dX4_seal_48 : decode cX4_seal 48 = .ok (.iload_n 3, 1) := by decide +kernel
theorem dX4_seal_49 : decode cX4_seal 49 = .ok (.if_icmp .eq 7, 3) := by decide +kernel
theorem dX4_seal_52 : decode cX4_seal 52 = .ok (.iconst 1, 1) := by decide +kernel
theorem dX4_seal_53 : decode cX4_seal 53 = .ok (.goto 4, 3) := by decide +kernel
theorem dX4_seal_56 : decode cX4_seal 56 = .ok (.iconst 0, 1) := by decide +kernel
theorem dX4_seal_57 : decode cX4_seal 57 = .ok (.istore 4, 2) := by decide +kernel
theorem dX4_seal_59 : decode cX4_seal 59 = .ok (.iload 4, 2) := by decide +kernel
theorem dX4_seal_61 : decode cX4_seal 61 = .ok (.ifCond .eq 21, 3) := by decide +kernel
theorem dX4_seal_64 : decode cX4_seal 64 = .ok (.aload_n 0, 1) := by decide +kernel
theorem dX4_seal_65 : decode cX4_seal 65 = .ok (.iload_n 1, 1) := by decide +kernel
theorem dX4_seal_66 : decode cX4_seal 66 = .ok (.iload_n 3, 1) := by decide +kernel
theorem dX4_seal_67 : decode cX4_seal 67 = .ok (.ifCond .eq 7, 3) := by decide +kernel
theorem dX4_seal_70 : decode cX4_seal 70 = .ok (.iconst 3, 1) := by decide +kernel
theorem dX4_seal_71 : decode cX4_seal 71 = .ok (.goto 4, 3) := by decide +kernel
theorem dX4_seal_74 : decode cX4_seal 74 = .ok (.iconst 2, 1) := by decide +kernel
theorem dX4_seal_75 : decode cX4_seal 75 = .ok (.iload_n 2, 1) := by decide +kernel
theorem dX4_seal_76 : decode cX4_seal 76 = .ok (.i2l, 1) := by decide +kernel
theorem dX4_seal_77 : decode cX4_seal 77 = .ok (.lconst 0, 1) := by decide +kernel
theorem dX4_seal_78 : decode cX4_seal 78 = .ok (.iconst 0, 1) := by decide +kernel
theorem dX4_seal_79 : decode cX4_seal 79 = .ok (.invokevirtual 74, 3) := by decide +kernel
theorem dX4_seal_82 : decode cX4_seal 82 = .ok (.iload 4, 2) := by decide +kernel
theorem dX4_seal_84 : decode cX4_seal 84 = .ok (.ireturn, 1) := by decide +kernel
set_option maxRecDepth 20000 in
theorem ggX4_row_X4_isMeter : GoodIn wsX4_row wsX4_isMeter := goodIn_r _ [11, 12, 13, 14, 15, 16, 17, 18, 19, 20, 21, 22, 23, 24, 25, 26, 27] (by decide +kernel) (by decide +kernel)
set_option maxRecDepth 20000 in
theorem gX4_row_X4_isMeter : GoodIn wsX4_row (wsV RX4 54 RX4 yX4_isMeter wsX4_isMeter) := goodIn_app (goodIn_of _ (by decide +kernel)) ggX4_row_X4_isMeter
theorem dX4_row_0 : decode cX4_row 0 = .ok (.aload_n 0, 1) := by decide +kernel
theorem dX4_row_1 : decode cX4_row 1 = .ok (.iconst 0, 1) := by decide +kernel
theorem dX4_row_2 : decode cX4_row 2 = .ok (.putfield 47, 3) := by decide +kernel
theorem dX4_row_5 : decode cX4_row 5 = .ok (.aload_n 0, 1) := by decide +kernel
theorem dX4_row_6 : decode cX4_row 6 = .ok (.iload_n 1, 1) := by decide +kernel
theorem dX4_row_7 : decode cX4_row 7 = .ok (.invokevirtual 54, 3) := by decide +kernel
theorem dX4_row_10 : decode cX4_row 10 = .ok (.ifCond .eq 46, 3) := by decide +kernel
theorem dX4_row_13 : decode cX4_row 13 = .ok (.iload_n 2, 1) := by decide +kernel
theorem dX4_row_14 : decode cX4_row 14 = .ok (.bipush (-50), 2) := by decide +kernel
theorem dX4_row_16 : decode cX4_row 16 = .ok (.if_icmp .lt 40, 3) := by decide +kernel
theorem dX4_row_19 : decode cX4_row 19 = .ok (.iload_n 2, 1) := by decide +kernel
theorem dX4_row_20 : decode cX4_row 20 = .ok (.sipush 150, 3) := by decide +kernel
theorem dX4_row_23 : decode cX4_row 23 = .ok (.if_icmp .gt 33, 3) := by decide +kernel
theorem dX4_row_26 : decode cX4_row 26 = .ok (.lload_n 3, 1) := by decide +kernel
theorem dX4_row_27 : decode cX4_row 27 = .ok (.lconst 1, 1) := by decide +kernel
theorem dX4_row_28 : decode cX4_row 28 = .ok (.lcmp, 1) := by decide +kernel
theorem dX4_row_29 : decode cX4_row 29 = .ok (.ifCond .lt 27, 3) := by decide +kernel
theorem dX4_row_32 : decode cX4_row 32 = .ok (.lload_n 3, 1) := by decide +kernel
theorem dX4_row_33 : decode cX4_row 33 = .ok (.ldc2_w 82, 3) := by decide +kernel
theorem dX4_row_36 : decode cX4_row 36 = .ok (.lcmp, 1) := by decide +kernel
theorem dX4_row_37 : decode cX4_row 37 = .ok (.ifCond .gt 19, 3) := by decide +kernel
theorem dX4_row_40 : decode cX4_row 40 = .ok (.lload 5, 2) := by decide +kernel
theorem dX4_row_42 : decode cX4_row 42 = .ok (.lconst 1, 1) := by decide +kernel
theorem dX4_row_43 : decode cX4_row 43 = .ok (.lcmp, 1) := by decide +kernel
theorem dX4_row_44 : decode cX4_row 44 = .ok (.ifCond .lt 12, 3) := by decide +kernel
theorem dX4_row_47 : decode cX4_row 47 = .ok (.lload 5, 2) := by decide +kernel
theorem dX4_row_49 : decode cX4_row 49 = .ok (.ldc2_w 82, 3) := by decide +kernel
theorem dX4_row_52 : decode cX4_row 52 = .ok (.lcmp, 1) := by decide +kernel
theorem dX4_row_53 : decode cX4_row 53 = .ok (.ifCond .le 5, 3) := by decide +kernel
theorem dX4_row_56 : decode cX4_row 56 = .ok (.iconst 0, 1) := by decide +kernel
theorem dX4_row_57 : decode cX4_row 57 = .ok (.ireturn, 1) := by decide +kernel
theorem dX4_row_58 : decode cX4_row 58 = .ok (.iconst 0, 1) := by decide +kernel
theorem dX4_row_59 : decode cX4_row 59 = .ok (.istore 7, 2) := by decide +kernel
theorem dX4_row_61 : decode cX4_row 61 = .ok (.iload 7, 2) := by decide +kernel
theorem dX4_row_63 : decode cX4_row 63 = .ok (.aload_n 0, 1) := by decide +kernel
theorem dX4_row_64 : decode cX4_row 64 = .ok (.getfield 17, 3) := by decide +kernel
theorem dX4_row_67 : decode cX4_row 67 = .ok (.iload_n 1, 1) := by decide +kernel
theorem dX4_row_68 : decode cX4_row 68 = .ok (.iaload, 1) := by decide +kernel
theorem dX4_row_69 : decode cX4_row 69 = .ok (.if_icmp .ge 25, 3) := by decide +kernel
theorem dX4_row_72 : decode cX4_row 72 = .ok (.aload_n 0, 1) := by decide +kernel
theorem dX4_row_73 : decode cX4_row 73 = .ok (.getfield 35, 3) := by decide +kernel
theorem dX4_row_76 : decode cX4_row 76 = .ok (.iload_n 1, 1) := by decide +kernel
theorem dX4_row_77 : decode cX4_row 77 = .ok (.bipush 16, 2) := by decide +kernel
theorem dX4_row_79 : decode cX4_row 79 = .ok (.imul, 1) := by decide +kernel
theorem dX4_row_80 : decode cX4_row 80 = .ok (.iload 7, 2) := by decide +kernel
theorem dX4_row_82 : decode cX4_row 82 = .ok (.iadd, 1) := by decide +kernel
theorem dX4_row_83 : decode cX4_row 83 = .ok (.iaload, 1) := by decide +kernel
theorem dX4_row_84 : decode cX4_row 84 = .ok (.iload_n 2, 1) := by decide +kernel
theorem dX4_row_85 : decode cX4_row 85 = .ok (.if_icmp .eq 9, 3) := by decide +kernel
theorem dX4_row_88 : decode cX4_row 88 = .ok (.iinc 7 1, 3) := by decide +kernel
theorem dX4_row_91 : decode cX4_row 91 = .ok (.goto (-30), 3) := by decide +kernel
theorem dX4_row_94 : decode cX4_row 94 = .ok (.iload 7, 2) := by decide +kernel
theorem dX4_row_96 : decode cX4_row 96 = .ok (.bipush 16, 2) := by decide +kernel
theorem dX4_row_98 : decode cX4_row 98 = .ok (.if_icmp .ne 5, 3) := by decide +kernel
theorem dX4_row_101 : decode cX4_row 101 = .ok (.iconst 0, 1) := by decide +kernel
theorem dX4_row_102 : decode cX4_row 102 = .ok (.ireturn, 1) := by decide +kernel
theorem dX4_row_103 : decode cX4_row 103 = .ok (.aload_n 0, 1) := by decide +kernel
theorem dX4_row_104 : decode cX4_row 104 = .ok (.getfield 35, 3) := by decide +kernel
theorem dX4_row_107 : decode cX4_row 107 = .ok (.iload_n 1, 1) := by decide +kernel
theorem dX4_row_108 : decode cX4_row 108 = .ok (.bipush 16, 2) := by decide +kernel
theorem dX4_row_110 : decode cX4_row 110 = .ok (.imul, 1) := by decide +kernel
theorem dX4_row_111 : decode cX4_row 111 = .ok (.iload 7, 2) := by decide +kernel
theorem dX4_row_113 : decode cX4_row 113 = .ok (.iadd, 1) := by decide +kernel
theorem dX4_row_114 : decode cX4_row 114 = .ok (.iload_n 2, 1) := by decide +kernel
theorem dX4_row_115 : decode cX4_row 115 = .ok (.iastore, 1) := by decide +kernel
theorem dX4_row_116 : decode cX4_row 116 = .ok (.aload_n 0, 1) := by decide +kernel
theorem dX4_row_117 : decode cX4_row 117 = .ok (.getfield 38, 3) := by decide +kernel
theorem dX4_row_120 : decode cX4_row 120 = .ok (.iload_n 1, 1) := by decide +kernel
theorem dX4_row_121 : decode cX4_row 121 = .ok (.bipush 16, 2) := by decide +kernel
theorem dX4_row_123 : decode cX4_row 123 = .ok (.imul, 1) := by decide +kernel
theorem dX4_row_124 : decode cX4_row 124 = .ok (.iload 7, 2) := by decide +kernel
theorem dX4_row_126 : decode cX4_row 126 = .ok (.iadd, 1) := by decide +kernel
theorem dX4_row_127 : decode cX4_row 127 = .ok (.lload_n 3, 1) := by decide +kernel
theorem dX4_row_128 : decode cX4_row 128 = .ok (.lastore, 1) := by decide +kernel
theorem dX4_row_129 : decode cX4_row 129 = .ok (.aload_n 0, 1) := by decide +kernel
theorem dX4_row_130 : decode cX4_row 130 = .ok (.getfield 41, 3) := by decide +kernel
theorem dX4_row_133 : decode cX4_row 133 = .ok (.iload_n 1, 1) := by decide +kernel
theorem dX4_row_134 : decode cX4_row 134 = .ok (.bipush 16, 2) := by decide +kernel
theorem dX4_row_136 : decode cX4_row 136 = .ok (.imul, 1) := by decide +kernel
theorem dX4_row_137 : decode cX4_row 137 = .ok (.iload 7, 2) := by decide +kernel
theorem dX4_row_139 : decode cX4_row 139 = .ok (.iadd, 1) := by decide +kernel
theorem dX4_row_140 : decode cX4_row 140 = .ok (.lload 5, 2) := by decide +kernel
theorem dX4_row_142 : decode cX4_row 142 = .ok (.lastore, 1) := by decide +kernel
theorem dX4_row_143 : decode cX4_row 143 = .ok (.aload_n 0, 1) := by decide +kernel
theorem dX4_row_144 : decode cX4_row 144 = .ok (.getfield 17, 3) := by decide +kernel
theorem dX4_row_147 : decode cX4_row 147 = .ok (.iload_n 1, 1) := by decide +kernel
theorem dX4_row_148 : decode cX4_row 148 = .ok (.iload 7, 2) := by decide +kernel
theorem dX4_row_150 : decode cX4_row 150 = .ok (.aload_n 0, 1) := by decide +kernel
theorem dX4_row_151 : decode cX4_row 151 = .ok (.getfield 17, 3) := by decide +kernel
theorem dX4_row_154 : decode cX4_row 154 = .ok (.iload_n 1, 1) := by decide +kernel
theorem dX4_row_155 : decode cX4_row 155 = .ok (.iaload, 1) := by decide +kernel
theorem dX4_row_156 : decode cX4_row 156 = .ok (.if_icmp .ne 10, 3) := by decide +kernel
theorem dX4_row_159 : decode cX4_row 159 = .ok (.iload 7, 2) := by decide +kernel
theorem dX4_row_161 : decode cX4_row 161 = .ok (.iconst 1, 1) := by decide +kernel
theorem dX4_row_162 : decode cX4_row 162 = .ok (.iadd, 1) := by decide +kernel
theorem dX4_row_163 : decode cX4_row 163 = .ok (.goto 9, 3) := by decide +kernel
theorem dX4_row_166 : decode cX4_row 166 = .ok (.aload_n 0, 1) := by decide +kernel
theorem dX4_row_167 : decode cX4_row 167 = .ok (.getfield 17, 3) := by decide +kernel
theorem dX4_row_170 : decode cX4_row 170 = .ok (.iload_n 1, 1) := by decide +kernel
theorem dX4_row_171 : decode cX4_row 171 = .ok (.iaload, 1) := by decide +kernel
theorem dX4_row_172 : decode cX4_row 172 = .ok (.iastore, 1) := by decide +kernel
theorem dX4_row_173 : decode cX4_row 173 = .ok (.iconst 1, 1) := by decide +kernel
theorem dX4_row_174 : decode cX4_row 174 = .ok (.ireturn, 1) := by decide +kernel
theorem dX4_line_0 : decode cX4_line 0 = .ok (.iconst (-1), 1) := by decide +kernel
theorem dX4_line_1 : decode cX4_line 1 = .ok (.istore_n 3, 1) := by decide +kernel
theorem dX4_line_2 : decode cX4_line 2 = .ok (.iconst (-1), 1) := by decide +kernel
theorem dX4_line_3 : decode cX4_line 3 = .ok (.istore 4, 2) := by decide +kernel
theorem dX4_line_5 : decode cX4_line 5 = .ok (.iload_n 1, 1) := by decide +kernel
theorem dX4_line_6 : decode cX4_line 6 = .ok (.bipush 16, 2) := by decide +kernel
theorem dX4_line_8 : decode cX4_line 8 = .ok (.imul, 1) := by decide +kernel
theorem dX4_line_9 : decode cX4_line 9 = .ok (.istore 5, 2) := by decide +kernel
theorem dX4_line_11 : decode cX4_line 11 = .ok (.iload 5, 2) := by decide +kernel
theorem dX4_line_13 : decode cX4_line 13 = .ok (.iload_n 1, 1) := by decide +kernel
theorem dX4_line_14 : decode cX4_line 14 = .ok (.bipush 16, 2) := by decide +kernel
theorem dX4_line_16 : decode cX4_line 16 = .ok (.imul, 1) := by decide +kernel
theorem dX4_line_17 : decode cX4_line 17 = .ok (.aload_n 0, 1) := by decide +kernel
theorem dX4_line_18 : decode cX4_line 18 = .ok (.getfield 17, 3) := by decide +kernel
theorem dX4_line_21 : decode cX4_line 21 = .ok (.iload_n 1, 1) := by decide +kernel
theorem dX4_line_22 : decode cX4_line 22 = .ok (.iaload, 1) := by decide +kernel
theorem dX4_line_23 : decode cX4_line 23 = .ok (.iadd, 1) := by decide +kernel
theorem dX4_line_24 : decode cX4_line 24 = .ok (.if_icmp .ge 74, 3) := by decide +kernel
theorem dX4_line_27 : decode cX4_line 27 = .ok (.aload_n 0, 1) := by decide +kernel
theorem dX4_line_28 : decode cX4_line 28 = .ok (.getfield 35, 3) := by decide +kernel
theorem dX4_line_31 : decode cX4_line 31 = .ok (.iload 5, 2) := by decide +kernel
theorem dX4_line_33 : decode cX4_line 33 = .ok (.iaload, 1) := by decide +kernel
theorem dX4_line_34 : decode cX4_line 34 = .ok (.istore 6, 2) := by decide +kernel
theorem dX4_line_36 : decode cX4_line 36 = .ok (.iload 4, 2) := by decide +kernel
theorem dX4_line_38 : decode cX4_line 38 = .ok (.iconst (-1), 1) := by decide +kernel
theorem dX4_line_39 : decode cX4_line 39 = .ok (.if_icmp .eq 15, 3) := by decide +kernel
theorem dX4_line_42 : decode cX4_line 42 = .ok (.iload 6, 2) := by decide +kernel
theorem dX4_line_44 : decode cX4_line 44 = .ok (.aload_n 0, 1) := by decide +kernel
theorem dX4_line_45 : decode cX4_line 45 = .ok (.getfield 35, 3) := by decide +kernel
theorem dX4_line_48 : decode cX4_line 48 = .ok (.iload 4, 2) := by decide +kernel
theorem dX4_line_50 : decode cX4_line 50 = .ok (.iaload, 1) := by decide +kernel
theorem dX4_line_51 : decode cX4_line 51 = .ok (.if_icmp .ge 8, 3) := by decide +kernel
theorem dX4_line_54 : decode cX4_line 54 = .ok (.iload 5, 2) := by decide +kernel
theorem dX4_line_56 : decode cX4_line 56 = .ok (.goto 5, 3) := by decide +kernel
theorem dX4_line_59 : decode cX4_line 59 = .ok (.iload 4, 2) := by decide +kernel
theorem dX4_line_61 : decode cX4_line 61 = .ok (.istore 4, 2) := by decide +kernel
theorem dX4_line_63 : decode cX4_line 63 = .ok (.iload 6, 2) := by decide +kernel
theorem dX4_line_65 : decode cX4_line 65 = .ok (.iload_n 2, 1) := by decide +kernel
theorem dX4_line_66 : decode cX4_line 66 = .ok (.if_icmp .gt 24, 3) := by decide +kernel
theorem dX4_line_69 : decode cX4_line 69 = .ok (.iload_n 3, 1) := by decide +kernel
theorem dX4_line_70 : decode cX4_line 70 = .ok (.iconst (-1), 1) := by decide +kernel
theorem dX4_line_71 : decode cX4_line 71 = .ok (.if_icmp .eq 14, 3) := by decide +kernel
theorem dX4_line_74 : decode cX4_line 74 = .ok (.iload 6, 2) := by decide +kernel
theorem dX4_line_76 : decode cX4_line 76 = .ok (.aload_n 0, 1) := by decide +kernel
theorem dX4_line_77 : decode cX4_line 77 = .ok (.getfield 35, 3) := by decide +kernel
theorem dX4_line_80 : decode cX4_line 80 = .ok (.iload_n 3, 1) := by decide +kernel
theorem dX4_line_81 : decode cX4_line 81 = .ok (.iaload, 1) := by decide +kernel
theorem dX4_line_82 : decode cX4_line 82 = .ok (.if_icmp .le 8, 3) := by decide +kernel
theorem dX4_line_85 : decode cX4_line 85 = .ok (.iload 5, 2) := by decide +kernel
theorem dX4_line_87 : decode cX4_line 87 = .ok (.goto 4, 3) := by decide +kernel
theorem dX4_line_90 : decode cX4_line 90 = .ok (.iload_n 3, 1) := by decide +kernel
theorem dX4_line_91 : decode cX4_line 91 = .ok (.istore_n 3, 1) := by decide +kernel
theorem dX4_line_92 : decode cX4_line 92 = .ok (.iinc 5 1, 3) := by decide +kernel
theorem dX4_line_95 : decode cX4_line 95 = .ok (.goto (-84), 3) := by decide +kernel
theorem dX4_line_98 : decode cX4_line 98 = .ok (.iload_n 3, 1) := by decide +kernel
theorem dX4_line_99 : decode cX4_line 99 = .ok (.iconst (-1), 1) := by decide +kernel
theorem dX4_line_100 : decode cX4_line 100 = .ok (.if_icmp .ne 8, 3) := by decide +kernel
theorem dX4_line_103 : decode cX4_line 103 = .ok (.iload 4, 2) := by decide +kernel
theorem dX4_line_105 : decode cX4_line 105 = .ok (.goto 4, 3) := by decide +kernel
theorem dX4_line_108 : decode cX4_line 108 = .ok (.iload_n 3, 1) := by decide +kernel
theorem dX4_line_109 : decode cX4_line 109 = .ok (.ireturn, 1) := by decide +kernel
theorem dX4_divisor_0 : decode cX4_divisor 0 = .ok (.lload_n 0, 1) := by decide +kernel
theorem dX4_divisor_1 : decode cX4_divisor 1 = .ok (.lstore 4, 2) := by decide +kernel
theorem dX4_divisor_3 : decode cX4_divisor 3 = .ok (.lload_n 2, 1) := by decide +kernel
theorem dX4_divisor_4 : decode cX4_divisor 4 = .ok (.lstore 6, 2) := by decide +kernel
theorem dX4_divisor_6 : decode cX4_divisor 6 = .ok (.lload 6, 2) := by decide +kernel
theorem dX4_divisor_8 : decode cX4_divisor 8 = .ok (.lconst 0, 1) := by decide +kernel
theorem dX4_divisor_9 : decode cX4_divisor 9 = .ok (.lcmp, 1) := by decide +kernel
theorem dX4_divisor_10 : decode cX4_divisor 10 = .ok (.ifCond .eq 21, 3) := by decide +kernel
theorem dX4_divisor_13 : decode cX4_divisor 13 = .ok (.lload 4, 2) := by decide +kernel
theorem dX4_divisor_15 : decode cX4_divisor 15 = .ok (.lload 6, 2) := by decide +kernel
theorem dX4_divisor_17 : decode cX4_divisor 17 = .ok (.lrem, 1) := by decide +kernel
theorem dX4_divisor_18 : decode cX4_divisor 18 = .ok (.lstore 8, 2) := by decide +kernel
theorem dX4_divisor_20 : decode cX4_divisor 20 = .ok (.lload 6, 2) := by decide +kernel
theorem dX4_divisor_22 : decode cX4_divisor 22 = .ok (.lstore 4, 2) := by decide +kernel
theorem dX4_divisor_24 : decode cX4_divisor 24 = .ok (.lload 8, 2) := by decide +kernel
theorem dX4_divisor_26 : decode cX4_divisor 26 = .ok (.lstore 6, 2) := by decide +kernel
theorem dX4_divisor_28 : decode cX4_divisor 28 = .ok (.goto (-22), 3) := by decide +kernel
theorem dX4_divisor_31 : decode cX4_divisor 31 = .ok (.lload 4, 2) := by decide +kernel
theorem dX4_divisor_33 : decode cX4_divisor 33 = .ok (.lreturn, 1) := by decide +kernel
set_option maxRecDepth 20000 in
theorem ggX4_litres_X4_isMeter : GoodIn wsX4_litres wsX4_isMeter := goodIn_r _ [12, 13, 28, 29, 30, 31, 32, 33, 34, 35, 36, 37, 38, 39, 40, 41, 42] (by decide +kernel) (by decide +kernel)
set_option maxRecDepth 20000 in
theorem gX4_litres_X4_isMeter : GoodIn wsX4_litres (wsV RX4 54 RX4 yX4_isMeter wsX4_isMeter) := goodIn_app (goodIn_of _ (by decide +kernel)) ggX4_litres_X4_isMeter
set_option maxRecDepth 20000 in
theorem ggX4_litres_X4_isRow : GoodIn wsX4_litres wsX4_isRow := goodIn_r _ [17, 18, 8, 9, 10, 11, 12, 13, 28, 29, 30, 31, 32, 33, 34, 35, 36, 37, 38, 39, 40, 41, 42] (by decide +kernel) (by decide +kernel)
set_option maxRecDepth 20000 in
theorem gX4_litres_X4_isRow : GoodIn wsX4_litres (wsV RX4 86 RX4 yX4_isRow wsX4_isRow) := goodIn_app (goodIn_of _ (by decide +kernel)) ggX4_litres_X4_isRow
set_option maxRecDepth 20000 in
theorem ggX4_litres_X4_line : GoodIn wsX4_litres wsX4_line := goodIn_r _ [22, 23, 24, 28, 29, 30, 31, 32, 33, 34, 35, 36, 37, 38, 39, 40, 41, 42] (by decide +kernel) (by decide +kernel)
set_option maxRecDepth 20000 in
theorem gX4_litres_X4_line : GoodIn wsX4_litres (wsV RX4 89 RX4 yX4_line wsX4_line) := goodIn_app (goodIn_of _ (by decide +kernel)) ggX4_litres_X4_line
set_option maxRecDepth 20000 in
theorem ggX4_litres_X4_divisor : GoodIn wsX4_litres wsX4_divisor := goodIn_r _ [27] (by decide +kernel) (by decide +kernel)
set_option maxRecDepth 20000 in
theorem gX4_litres_X4_divisor : GoodIn wsX4_litres (va_wsS RX4 93 yX4_divisor wsX4_divisor) := goodIn_app (goodIn_of _ (by decide +kernel)) ggX4_litres_X4_divisor
theorem dX4_litres_0 : decode cX4_litres 0 = .ok (.aload_n 0, 1) := by decide +kernel
theorem dX4_litres_1 : decode cX4_litres 1 = .ok (.iconst 0, 1) := by decide +kernel
theorem dX4_litres_2 : decode cX4_litres 2 = .ok (.putfield 47, 3) := by decide +kernel
theorem dX4_litres_5 : decode cX4_litres 5 = .ok (.aload_n 0, 1) := by decide +kernel
theorem dX4_litres_6 : decode cX4_litres 6 = .ok (.iload_n 1, 1) := by decide +kernel
theorem dX4_litres_7 : decode cX4_litres 7 = .ok (.invokevirtual 54, 3) := by decide +kernel
theorem dX4_litres_10 : decode cX4_litres 10 = .ok (.ifCond .eq 12, 3) := by decide +kernel
theorem dX4_litres_13 : decode cX4_litres 13 = .ok (.iload_n 3, 1) := by decide +kernel
theorem dX4_litres_14 : decode cX4_litres 14 = .ok (.ifCond .lt 8, 3) := by decide +kernel
theorem dX4_litres_17 : decode cX4_litres 17 = .ok (.iload_n 3, 1) := by decide +kernel
theorem dX4_litres_18 : decode cX4_litres 18 = .ok (.iconst 1, 1) := by decide +kernel
theorem dX4_litres_19 : decode cX4_litres 19 = .ok (.if_icmp .le 7, 3) := by decide +kernel
theorem dX4_litres_22 : decode cX4_litres 22 = .ok (.ldc2_w 84, 3) := by decide +kernel
theorem dX4_litres_25 : decode cX4_litres 25 = .ok (.lreturn, 1) := by decide +kernel
theorem dX4_litres_26 : decode cX4_litres 26 = .ok (.aload_n 0, 1) := by decide +kernel
theorem dX4_litres_27 : decode cX4_litres 27 = .ok (.iload_n 1, 1) := by decide +kernel
theorem dX4_litres_28 : decode cX4_litres 28 = .ok (.iload_n 2, 1) := by decide +kernel
theorem dX4_litres_29 : decode cX4_litres 29 = .ok (.invokevirtual 86, 3) := by decide +kernel
theorem dX4_litres_32 : decode cX4_litres 32 = .ok (.ifCond .ne 12, 3) := by decide +kernel
theorem dX4_litres_35 : decode cX4_litres 35 = .ok (.aload_n 0, 1) := by decide +kernel
theorem dX4_litres_36 : decode cX4_litres 36 = .ok (.iconst 1, 1) := by decide +kernel
theorem dX4_litres_37 : decode cX4_litres 37 = .ok (.putfield 47, 3) := by decide +kernel
theorem dX4_litres_40 : decode cX4_litres 40 = .ok (.ldc2_w 84, 3) := by decide +kernel
theorem dX4_litres_43 : decode cX4_litres 43 = .ok (.lreturn, 1) := by decide +kernel
theorem dX4_litres_44 : decode cX4_litres 44 = .ok (.iload_n 1, 1) := by decide +kernel
theorem dX4_litres_45 : decode cX4_litres 45 = .ok (.sipush 200, 3) := by decide +kernel
theorem dX4_litres_48 : decode cX4_litres 48 = .ok (.imul, 1) := by decide +kernel
theorem dX4_litres_49 : decode cX4_litres 49 = .ok (.iload_n 2, 1) := by decide +kernel
theorem dX4_litres_50 : decode cX4_litres 50 = .ok (.iadd, 1) := by decide +kernel
theorem dX4_litres_51 : decode cX4_litres 51 = .ok (.istore 4, 2) := by decide +kernel
theorem dX4_litres_53 : decode cX4_litres 53 = .ok (.aload_n 0, 1) := by decide +kernel
theorem dX4_litres_54 : decode cX4_litres 54 = .ok (.getfield 20, 3) := by decide +kernel
theorem dX4_litres_57 : decode cX4_litres 57 = .ok (.iload 4, 2) := by decide +kernel
theorem dX4_litres_59 : decode cX4_litres 59 = .ok (.iaload, 1) := by decide +kernel
theorem dX4_litres_60 : decode cX4_litres 60 = .ok (.ifCond .eq 6, 3) := by decide +kernel
theorem dX4_litres_63 : decode cX4_litres 63 = .ok (.iload_n 3, 1) := by decide +kernel
theorem dX4_litres_64 : decode cX4_litres 64 = .ok (.i2l, 1) := by decide +kernel
theorem dX4_litres_65 : decode cX4_litres 65 = .ok (.lreturn, 1) := by decide +kernel
theorem dX4_litres_66 : decode cX4_litres 66 = .ok (.aload_n 0, 1) := by decide +kernel
theorem dX4_litres_67 : decode cX4_litres 67 = .ok (.iload_n 1, 1) := by decide +kernel
theorem dX4_litres_68 : decode cX4_litres 68 = .ok (.aload_n 0, 1) := by decide +kernel
theorem dX4_litres_69 : decode cX4_litres 69 = .ok (.getfield 29, 3) := by decide +kernel
theorem dX4_litres_72 : decode cX4_litres 72 = .ok (.iload 4, 2) := by decide +kernel
theorem dX4_litres_74 : decode cX4_litres 74 = .ok (.iaload, 1) := by decide +kernel
theorem dX4_litres_75 : decode cX4_litres 75 = .ok (.invokevirtual 89, 3) := by decide +kernel
theorem dX4_litres_78 : decode cX4_litres 78 = .ok (.istore 5, 2) := by decide +kernel
theorem dX4_litres_80 : decode cX4_litres 80 = .ok (.aload_n 0, 1) := by decide +kernel
theorem dX4_litres_81 : decode cX4_litres 81 = .ok (.getfield 23, 3) := by decide +kernel
theorem dX4_litres_84 : decode cX4_litres 84 = .ok (.iload 4, 2) := by decide +kernel
theorem dX4_litres_86 : decode cX4_litres 86 = .ok (.laload, 1) := by decide +kernel
theorem dX4_litres_87 : decode cX4_litres 87 = .ok (.aload_n 0, 1) := by decide +kernel
theorem dX4_litres_88 : decode cX4_litres 88 = .ok (.getfield 38, 3) := by decide +kernel
theorem dX4_litres_91 : decode cX4_litres 91 = .ok (.iload 5, 2) := by decide +kernel
theorem dX4_litres_93 : decode cX4_litres 93 = .ok (.laload, 1) := by decide +kernel
theorem dX4_litres_94 : decode cX4_litres 94 = .ok (.lmul, 1) := by decide +kernel
theorem dX4_litres_95 : decode cX4_litres 95 = .ok (.lstore 6, 2) := by decide +kernel
theorem dX4_litres_97 : decode cX4_litres 97 = .ok (.lload 6, 2) := by decide +kernel
theorem dX4_litres_99 : decode cX4_litres 99 = .ok (.aload_n 0, 1) := by decide +kernel
