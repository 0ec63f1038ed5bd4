set_option maxRecDepth 20000 in
theorem ggX0_allThousandths_X3_quotient : GoodIn wsX0_allThousandths wsX3_quotient := goodIn_r _ [57] (by decide +kernel) (by decide +kernel)
set_option maxRecDepth 20000 in
theorem gX0_allThousandths_X3_quotient_n74 : GoodIn wsX0_allThousandths (wsX3_quotient) := ggX0_allThousandths_X3_quotient
theorem dX0_allThousandths_0 : decode cX0_allThousandths 0 = .ok (.lconst 0, 1) := by decide +kernel
theorem dX0_allThousandths_1 : decode cX0_allThousandths 1 = .ok (.lstore_n 1, 1) := by decide +kernel
theorem dX0_allThousandths_2 : decode cX0_allThousandths 2 = .ok (.iconst 0, 1) := by decide +kernel
theorem dX0_allThousandths_3 : decode cX0_allThousandths 3 = .ok (.istore_n 3, 1) := by decide +kernel
theorem dX0_allThousandths_4 : decode cX0_allThousandths 4 = .ok (.iload_n 3, 1) := by decide +kernel
theorem dX0_allThousandths_5 : decode cX0_allThousandths 5 = .ok (.aload_n 0, 1) := by decide +kernel
theorem dX0_allThousandths_6 : decode cX0_allThousandths 6 = .ok (.getfield 23, 3) := by decide +kernel
theorem dX0_allThousandths_9 : decode cX0_allThousandths 9 = .ok (.getfield 77, 3) := by decide +kernel
theorem dX0_allThousandths_12 : decode cX0_allThousandths 12 = .ok (.if_icmp .ge 29, 3) := by decide +kernel
theorem dX0_allThousandths_15 : decode cX0_allThousandths 15 = .ok (.lload_n 1, 1) := by decide +kernel
theorem dX0_allThousandths_16 : decode cX0_allThousandths 16 = .ok (.aload_n 0, 1) := by decide +kernel
theorem dX0_allThousandths_17 : decode cX0_allThousandths 17 = .ok (.iload_n 3, 1) := by decide +kernel
theorem dX0_allThousandths_18 : decode cX0_allThousandths 18 = .ok (.invokevirtual 63, 3) := by decide +kernel
theorem dX0_allThousandths_21 : decode cX0_allThousandths 21 = .ok (.ldc2_w 78, 3) := by decide +kernel
theorem dX0_allThousandths_24 : decode cX0_allThousandths 24 = .ok (.lmul, 1) := by decide +kernel
theorem dX0_allThousandths_25 : decode cX0_allThousandths 25 = .ok (.aload_n 0, 1) := by decide +kernel
theorem dX0_allThousandths_26 : decode cX0_allThousandths 26 = .ok (.iload_n 3, 1) := by decide +kernel
theorem dX0_allThousandths_27 : decode cX0_allThousandths 27 = .ok (.invokevirtual 67, 3) := by decide +kernel
theorem dX0_allThousandths_30 : decode cX0_allThousandths 30 = .ok (.invokestatic 74, 3) := by decide +kernel
theorem dX0_allThousandths_33 : decode cX0_allThousandths 33 = .ok (.ladd, 1) := by decide +kernel
theorem dX0_allThousandths_34 : decode cX0_allThousandths 34 = .ok (.lstore_n 1, 1) := by decide +kernel
theorem dX0_allThousandths_35 : decode cX0_allThousandths 35 = .ok (.iinc 3 1, 3) := by decide +kernel
theorem dX0_allThousandths_38 : decode cX0_allThousandths 38 = .ok (.goto (-34), 3) := by decide +kernel
theorem dX0_allThousandths_41 : decode cX0_allThousandths 41 = .ok (.lload_n 1, 1) := by decide +kernel
theorem dX0_allThousandths_42 : decode cX0_allThousandths 42 = .ok (.lreturn, 1) := by decide +kernel
set_option maxRecDepth 20000 in
theorem ggX0_litresAbove_X1_pulsesOf : GoodIn wsX0_litresAbove wsX1_pulsesOf := goodIn_r _ [7, 8, 9, 10, 11, 6, 12, 13, 14, 15, 16, 17, 18, 43, 44, 45, 46, 47, 48, 49] (by decide +kernel) (by decide +kernel)
set_option maxRecDepth 20000 in
theorem gX0_litresAbove_X1_pulsesOf : GoodIn wsX0_litresAbove (wsV RX0 80 RX1 yX1_pulsesOf wsX1_pulsesOf) := goodIn_app (goodIn_of _ (by decide +kernel)) ggX0_litresAbove_X1_pulsesOf
set_option maxRecDepth 20000 in
theorem ggX0_litresAbove_X1_degreesOf : GoodIn wsX0_litresAbove wsX1_degreesOf := goodIn_r _ [22, 23, 14, 15, 16, 6, 17, 18, 43, 44, 45, 46, 47, 48, 49] (by decide +kernel) (by decide +kernel)
set_option maxRecDepth 20000 in
theorem gX0_litresAbove_X1_degreesOf : GoodIn wsX0_litresAbove (wsV RX0 83 RX1 yX1_degreesOf wsX1_degreesOf) := goodIn_app (goodIn_of _ (by decide +kernel)) ggX0_litresAbove_X1_degreesOf
set_option maxRecDepth 20000 in
theorem ggX0_litresAbove_X2_aboveAt : GoodIn wsX0_litresAbove wsX2_aboveAt := goodIn_r _ [28, 29, 30, 31, 32, 27, 33, 34, 35, 36, 37, 38, 50, 51, 52, 53] (by decide +kernel) (by decide +kernel)
set_option maxRecDepth 20000 in
theorem gX0_litresAbove_X2_aboveAt : GoodIn wsX0_litresAbove (wsV RX0 87 RX2 yX2_aboveAt wsX2_aboveAt) := goodIn_app (goodIn_of _ (by decide +kernel)) ggX0_litresAbove_X2_aboveAt
theorem dX0_litresAbove_0 : decode cX0_litresAbove 0 = .ok (.aload_n 0, 1) := by decide +kernel
theorem dX0_litresAbove_1 : decode cX0_litresAbove 1 = .ok (.getfield 23, 3) := by decide +kernel
theorem dX0_litresAbove_4 : decode cX0_litresAbove 4 = .ok (.iload_n 1, 1) := by decide +kernel
theorem dX0_litresAbove_5 : decode cX0_litresAbove 5 = .ok (.invokevirtual 80, 3) := by decide +kernel
theorem dX0_litresAbove_8 : decode cX0_litresAbove 8 = .ok (.aload_n 0, 1) := by decide +kernel
theorem dX0_litresAbove_9 : decode cX0_litresAbove 9 = .ok (.getfield 12, 3) := by decide +kernel
theorem dX0_litresAbove_12 : decode cX0_litresAbove 12 = .ok (.aload_n 0, 1) := by decide +kernel
theorem dX0_litresAbove_13 : decode cX0_litresAbove 13 = .ok (.getfield 23, 3) := by decide +kernel
theorem dX0_litresAbove_16 : decode cX0_litresAbove 16 = .ok (.iload_n 1, 1) := by decide +kernel
theorem dX0_litresAbove_17 : decode cX0_litresAbove 17 = .ok (.invokevirtual 83, 3) := by decide +kernel
theorem dX0_litresAbove_20 : decode cX0_litresAbove 20 = .ok (.invokevirtual 87, 3) := by decide +kernel
theorem dX0_litresAbove_23 : decode cX0_litresAbove 23 = .ok (.lmul, 1) := by decide +kernel
theorem dX0_litresAbove_24 : decode cX0_litresAbove 24 = .ok (.lreturn, 1) := by decide +kernel
set_option maxRecDepth 20000 in
theorem ggX0_litresBelow_X1_isReading : GoodIn wsX0_litresBelow wsX1_isReading := goodIn_r _ [7, 8, 9, 10, 11, 6, 12, 13, 38, 39, 40, 41, 42, 43, 44] (by decide +kernel) (by decide +kernel)
set_option maxRecDepth 20000 in
theorem gX0_litresBelow_X1_isReading : GoodIn wsX0_litresBelow (wsV RX0 90 RX1 yX1_isReading wsX1_isReading) := goodIn_app (goodIn_of _ (by decide +kernel)) ggX0_litresBelow_X1_isReading
set_option maxRecDepth 20000 in
theorem ggX0_litresBelow_X1_degreesOf : GoodIn wsX0_litresBelow wsX1_degreesOf := goodIn_r _ [17, 18, 9, 10, 11, 6, 12, 13, 38, 39, 40, 41, 42, 43, 44] (by decide +kernel) (by decide +kernel)
set_option maxRecDepth 20000 in
theorem gX0_litresBelow_X1_degreesOf : GoodIn wsX0_litresBelow (wsV RX0 83 RX1 yX1_degreesOf wsX1_degreesOf) := goodIn_app (goodIn_of _ (by decide +kernel)) ggX0_litresBelow_X1_degreesOf
set_option maxRecDepth 20000 in
theorem ggX0_litresBelow_X2_belowAt : GoodIn wsX0_litresBelow wsX2_belowAt := goodIn_r _ [23, 24, 25, 26, 27, 22, 28, 29, 30, 31, 32, 33, 45, 46, 47, 48] (by decide +kernel) (by decide +kernel)
set_option maxRecDepth 20000 in
theorem gX0_litresBelow_X2_belowAt : GoodIn wsX0_litresBelow (wsV RX0 94 RX2 yX2_belowAt wsX2_belowAt) := goodIn_app (goodIn_of _ (by decide +kernel)) ggX0_litresBelow_X2_belowAt
theorem dX0_litresBelow_0 : decode cX0_litresBelow 0 = .ok (.aload_n 0, 1) := by decide +kernel
theorem dX0_litresBelow_1 : decode cX0_litresBelow 1 = .ok (.getfield 23, 3) := by decide +kernel
theorem dX0_litresBelow_4 : decode cX0_litresBelow 4 = .ok (.iload_n 1, 1) := by decide +kernel
theorem dX0_litresBelow_5 : decode cX0_litresBelow 5 = .ok (.invokevirtual 90, 3) := by decide +kernel
theorem dX0_litresBelow_8 : decode cX0_litresBelow 8 = .ok (.ifCond .eq 21, 3) := by decide +kernel
theorem dX0_litresBelow_11 : decode cX0_litresBelow 11 = .ok (.aload_n 0, 1) := by decide +kernel
theorem dX0_litresBelow_12 : decode cX0_litresBelow 12 = .ok (.getfield 12, 3) := by decide +kernel
theorem dX0_litresBelow_15 : decode cX0_litresBelow 15 = .ok (.aload_n 0, 1) := by decide +kernel
theorem dX0_litresBelow_16 : decode cX0_litresBelow 16 = .ok (.getfield 23, 3) := by decide +kernel
theorem dX0_litresBelow_19 : decode cX0_litresBelow 19 = .ok (.iload_n 1, 1) := by decide +kernel
theorem dX0_litresBelow_20 : decode cX0_litresBelow 20 = .ok (.invokevirtual 83, 3) := by decide +kernel
theorem dX0_litresBelow_23 : decode cX0_litresBelow 23 = .ok (.invokevirtual 94, 3) := by decide +kernel
theorem dX0_litresBelow_26 : decode cX0_litresBelow 26 = .ok (.goto 4, 3) := by decide +kernel
theorem dX0_litresBelow_29 : decode cX0_litresBelow 29 = .ok (.lconst 1, 1) := by decide +kernel
theorem dX0_litresBelow_30 : decode cX0_litresBelow 30 = .ok (.lreturn, 1) := by decide +kernel
theorem dX1_init_0 : decode cX1_init 0 = .ok (.aload_n 0, 1) := by decide +kernel
theorem dX1_init_1 : decode cX1_init 1 = .ok (.invokespecial 3, 3) := by decide +kernel
theorem dX1_init_4 : decode cX1_init 4 = .ok (.aload_n 0, 1) := by decide +kernel
theorem dX1_init_5 : decode cX1_init 5 = .ok (.lload_n 1, 1) := by decide +kernel
theorem dX1_init_6 : decode cX1_init 6 = .ok (.putfield 9, 3) := by decide +kernel
theorem dX1_init_9 : decode cX1_init 9 = .ok (.aload_n 0, 1) := by decide +kernel
theorem dX1_init_10 : decode cX1_init 10 = .ok (.sipush 200, 3) := by decide +kernel
theorem dX1_init_13 : decode cX1_init 13 = .ok (.newarray .long, 2) := by decide +kernel
theorem dX1_init_15 : decode cX1_init 15 = .ok (.putfield 15, 3) := by decide +kernel
theorem dX1_init_18 : decode cX1_init 18 = .ok (.aload_n 0, 1) := by decide +kernel
theorem dX1_init_19 : decode cX1_init 19 = .ok (.sipush 200, 3) := by decide +kernel
theorem dX1_init_22 : decode cX1_init 22 = .ok (.newarray .long, 2) := by decide +kernel
theorem dX1_init_24 : decode cX1_init 24 = .ok (.putfield 19, 3) := by decide +kernel
theorem dX1_init_27 : decode cX1_init 27 = .ok (.aload_n 0, 1) := by decide +kernel
theorem dX1_init_28 : decode cX1_init 28 = .ok (.sipush 200, 3) := by decide +kernel
theorem dX1_init_31 : decode cX1_init 31 = .ok (.newarray .int, 2) := by decide +kernel
theorem dX1_init_33 : decode cX1_init 33 = .ok (.putfield 22, 3) := by decide +kernel
theorem dX1_init_36 : decode cX1_init 36 = .ok (.aload_n 0, 1) := by decide +kernel
theorem dX1_init_37 : decode cX1_init 37 = .ok (.sipush 200, 3) := by decide +kernel
theorem dX1_init_40 : decode cX1_init 40 = .ok (.newarray .long, 2) := by decide +kernel
theorem dX1_init_42 : decode cX1_init 42 = .ok (.putfield 26, 3) := by decide +kernel
theorem dX1_init_45 : decode cX1_init 45 = .ok (.aload_n 0, 1) := by decide +kernel
theorem dX1_init_46 : decode cX1_init 46 = .ok (.sipush 200, 3) := by decide +kernel
theorem dX1_init_49 : decode cX1_init 49 = .ok (.newarray .boolean, 2) := by decide +kernel
theorem dX1_init_51 : decode cX1_init 51 = .ok (.putfield 29, 3) := by decide +kernel
theorem dX1_init_54 : decode cX1_init 54 = .ok (.aload_n 0, 1) := by decide +kernel
theorem dX1_init_55 : decode cX1_init 55 = .ok (.iconst 0, 1) := by decide +kernel
theorem dX1_init_56 : decode cX1_init 56 = .ok (.putfield 33, 3) := by decide +kernel
theorem dX1_init_59 : decode cX1_init 59 = .ok (.return_, 1) := by decide +kernel
set_option maxRecDepth 20000 in
theorem ggX1_add_X1_dueSum : GoodIn wsX1_add wsX1_dueSum := goodIn_r _ [11, 12, 6, 13, 2, 3, 4, 14, 15, 16, 10, 17, 1, 18, 19, 20, 21, 22, 23, 24, 25, 26, 27, 28] (by decide +kernel) (by decide +kernel)
set_option maxRecDepth 20000 in
theorem gX1_add_X1_dueSum : GoodIn wsX1_add (wsV RX1 37 RX1 yX1_dueSum wsX1_dueSum) := goodIn_app (goodIn_of _ (by decide +kernel)) ggX1_add_X1_dueSum
theorem dX1_add_0 : decode cX1_add 0 = .ok (.aload_n 0, 1) := by decide +kernel
theorem dX1_add_1 : decode cX1_add 1 = .ok (.getfield 33, 3) := by decide +kernel
theorem dX1_add_4 : decode cX1_add 4 = .ok (.sipush 200, 3) := by decide +kernel
theorem dX1_add_7 : decode cX1_add 7 = .ok (.if_icmp .lt 5, 3) := by decide +kernel
theorem dX1_add_10 : decode cX1_add 10 = .ok (.iconst 0, 1) := by decide +kernel
theorem dX1_add_11 : decode cX1_add 11 = .ok (.ireturn, 1) := by decide +kernel
theorem dX1_add_12 : decode cX1_add 12 = .ok (.aload_n 0, 1) := by decide +kernel
theorem dX1_add_13 : decode cX1_add 13 = .ok (.getfield 33, 3) := by decide +kernel
theorem dX1_add_16 : decode cX1_add 16 = .ok (.istore 7, 2) := by decide +kernel
theorem dX1_add_18 : decode cX1_add 18 = .ok (.aload_n 0, 1) := by decide +kernel
theorem dX1_add_19 : decode cX1_add 19 = .ok (.getfield 15, 3) := by decide +kernel
theorem dX1_add_22 : decode cX1_add 22 = .ok (.iload 7, 2) := by decide +kernel
theorem dX1_add_24 : decode cX1_add 24 = .ok (.lload_n 1, 1) := by decide +kernel
theorem dX1_add_25 : decode cX1_add 25 = .ok (.lastore, 1) := by decide +kernel
theorem dX1_add_26 : decode cX1_add 26 = .ok (.aload_n 0, 1) := by decide +kernel
theorem dX1_add_27 : decode cX1_add 27 = .ok (.getfield 19, 3) := by decide +kernel
theorem dX1_add_30 : decode cX1_add 30 = .ok (.iload 7, 2) := by decide +kernel
theorem dX1_add_32 : decode cX1_add 32 = .ok (.lload_n 3, 1) := by decide +kernel
theorem dX1_add_33 : decode cX1_add 33 = .ok (.lastore, 1) := by decide +kernel
theorem dX1_add_34 : decode cX1_add 34 = .ok (.aload_n 0, 1) := by decide +kernel
theorem dX1_add_35 : decode cX1_add 35 = .ok (.getfield 22, 3) := by decide +kernel
theorem dX1_add_38 : decode cX1_add 38 = .ok (.iload 7, 2) := by decide +kernel
theorem dX1_add_40 : decode cX1_add 40 = .ok (.iload 5, 2) := by decide +kernel
theorem dX1_add_42 : decode cX1_add 42 = .ok (.iastore, 1) := by decide +kernel
theorem dX1_add_43 : decode cX1_add 43 = .ok (.aload_n 0, 1) := by decide +kernel
theorem dX1_add_44 : decode cX1_add 44 = .ok (.getfield 29, 3) := by decide +kernel
theorem dX1_add_47 : decode cX1_add 47 = .ok (.iload 7, 2) := by decide +kernel
theorem dX1_add_49 : decode cX1_add 49 = .ok (.iload 6, 2) := by decide +kernel
theorem dX1_add_51 : decode cX1_add 51 = .ok (.bastore, 1) := by decide +kernel
theorem dX1_add_52 : decode cX1_add 52 = .ok (.aload_n 0, 1) := by decide +kernel
theorem dX1_add_53 : decode cX1_add 53 = .ok (.dup, 1) := by decide +kernel
theorem dX1_add_54 : decode cX1_add 54 = .ok (.getfield 33, 3) := by decide +kernel
theorem dX1_add_57 : decode cX1_add 57 = .ok (.iconst 1, 1) := by decide +kernel
theorem dX1_add_58 : decode cX1_add 58 = .ok (.iadd, 1) := by decide +kernel
theorem dX1_add_59 : decode cX1_add 59 = .ok (.putfield 33, 3) := by decide +kernel
theorem dX1_add_62 : decode cX1_add 62 = .ok (.aload_n 0, 1) := by decide +kernel
theorem dX1_add_63 : decode cX1_add 63 = .ok (.getfield 26, 3) := by decide +kernel
theorem dX1_add_66 : decode cX1_add 66 = .ok (.iload 7, 2) := by decide +kernel
theorem dX1_add_68 : decode cX1_add 68 = .ok (.aload_n 0, 1) := by decide +kernel
theorem dX1_add_69 : decode cX1_add 69 = .ok (.iload 7, 2) := by decide +kernel
theorem dX1_add_71 : decode cX1_add 71 = .ok (.invokevirtual 37, 3) := by decide +kernel
theorem dX1_add_74 : decode cX1_add 74 = .ok (.lastore, 1) := by decide +kernel
theorem dX1_add_75 : decode cX1_add 75 = .ok (.iconst 1, 1) := by decide +kernel
theorem dX1_add_76 : decode cX1_add 76 = .ok (.ireturn, 1) := by decide +kernel
theorem dX1_holds_0 : decode cX1_holds 0 = .ok (.iload_n 1, 1) := by decide +kernel
theorem dX1_holds_1 : decode cX1_holds 1 = .ok (.ifCond .lt 15, 3) := by decide +kernel
theorem dX1_holds_4 : decode cX1_holds 4 = .ok (.iload_n 1, 1) := by decide +kernel
theorem dX1_holds_5 : decode cX1_holds 5 = .ok (.aload_n 0, 1) := by decide +kernel
theorem dX1_holds_6 : decode cX1_holds 6 = .ok (.getfield 33, 3) := by decide +kernel
theorem dX1_holds_9 : decode cX1_holds 9 = .ok (.if_icmp .ge 7, 3) := by decide +kernel
theorem dX1_holds_12 : decode cX1_holds 12 = .ok (.iconst 1, 1) := by decide +kernel
theorem dX1_holds_13 : decode cX1_holds 13 = .ok (.goto 4, 3) := by decide +kernel
theorem dX1_holds_16 : decode cX1_holds 16 = .ok (.iconst 0, 1) := by decide +kernel
theorem dX1_holds_17 : decode cX1_holds 17 = .ok (.ireturn, 1) := by decide +kernel
set_option maxRecDepth 20000 in
theorem ggX1_isReading_X1_holds : GoodIn wsX1_isReading wsX1_holds := goodIn_r _ [6, 7, 8, 9, 10, 11, 12, 13, 14] (by decide +kernel) (by decide +kernel)
set_option maxRecDepth 20000 in
theorem gX1_isReading_X1_holds : GoodIn wsX1_isReading (wsV RX1 41 RX1 yX1_holds wsX1_holds) := goodIn_app (goodIn_of _ (by decide +kernel)) ggX1_isReading_X1_holds
theorem dX1_isReading_0 : decode cX1_isReading 0 = .ok (.aload_n 0, 1) := by decide +kernel
theorem dX1_isReading_1 : decode cX1_isReading 1 = .ok (.iload_n 1, 1) := by decide +kernel
theorem dX1_isReading_2 : decode cX1_isReading 2 = .ok (.invokevirtual 41, 3) := by decide +kernel
theorem dX1_isReading_5 : decode cX1_isReading 5 = .ok (.ifCond .eq 18, 3) := by decide +kernel
theorem dX1_isReading_8 : decode cX1_isReading 8 = .ok (.aload_n 0, 1) := by decide +kernel
theorem dX1_isReading_9 : decode cX1_isReading 9 = .ok (.getfield 19, 3) := by decide +kernel
theorem dX1_isReading_12 : decode cX1_isReading 12 = .ok (.iload_n 1, 1) := by decide +kernel
theorem dX1_isReading_13 : decode cX1_isReading 13 = .ok (.laload, 1) := by decide +kernel
theorem dX1_isReading_14 : decode cX1_isReading 14 = .ok (.lconst 0, 1) := by decide +kernel
theorem dX1_isReading_15 : decode cX1_isReading 15 = .ok (.lcmp, 1) := by decide +kernel
theorem dX1_isReading_16 : decode cX1_isReading 16 = .ok (.ifCond .lt 7, 3) := by decide +kernel
theorem dX1_isReading_19 : decode cX1_isReading 19 = .ok (.iconst 1, 1) := by decide +kernel
theorem dX1_isReading_20 : decode cX1_isReading 20 = .ok (.goto 4, 3) := by decide +kernel
theorem dX1_isReading_23 : decode cX1_isReading 23 = .ok (.iconst 0, 1) := by decide +kernel
theorem dX1_isReading_24 : decode cX1_isReading 24 = .ok (.ireturn, 1) := by decide +kernel
set_option maxRecDepth 20000 in
theorem ggX1_hasMark_X1_holds : GoodIn wsX1_hasMark wsX1_holds := goodIn_r _ [6, 7, 8, 9, 10, 11, 12, 13, 14] (by decide +kernel) (by decide +kernel)
set_option maxRecDepth 20000 in
theorem gX1_hasMark_X1_holds : GoodIn wsX1_hasMark (wsV RX1 41 RX1 yX1_holds wsX1_holds) := goodIn_app (goodIn_of _ (by decide +kernel)) ggX1_hasMark_X1_holds
theorem dX1_hasMark_0 : decode cX1_hasMark 0 = .ok (.aload_n 0, 1) := by decide +kernel
theorem dX1_hasMark_1 : decode cX1_hasMark 1 = .ok (.iload_n 1, 1) := by decide +kernel
theorem dX1_hasMark_2 : decode cX1_hasMark 2 = .ok (.invokevirtual 41, 3) := by decide +kernel
theorem dX1_hasMark_5 : decode cX1_hasMark 5 = .ok (.ifCond .eq 16, 3) := by decide +kernel
theorem dX1_hasMark_8 : decode cX1_hasMark 8 = .ok (.aload_n 0, 1) := by decide +kernel
theorem dX1_hasMark_9 : decode cX1_hasMark 9 = .ok (.getfield 29, 3) := by decide +kernel
theorem dX1_hasMark_12 : decode cX1_hasMark 12 = .ok (.iload_n 1, 1) := by decide +kernel
theorem dX1_hasMark_13 : decode cX1_hasMark 13 = .ok (.baload, 1) := by decide +kernel
theorem dX1_hasMark_14 : decode cX1_hasMark 14 = .ok (.ifCond .eq 7, 3) := by decide +kernel
theorem dX1_hasMark_17 : decode cX1_hasMark 17 = .ok (.iconst 1, 1) := by decide +kernel
theorem dX1_hasMark_18 : decode cX1_hasMark 18 = .ok (.goto 4, 3) := by decide +kernel
theorem dX1_hasMark_21 : decode cX1_hasMark 21 = .ok (.iconst 0, 1) := by decide +kernel
theorem dX1_hasMark_22 : decode cX1_hasMark 22 = .ok (.ireturn, 1) := by decide +kernel
set_option maxRecDepth 20000 in
theorem ggX1_pulsesOf_X1_isReading : GoodIn wsX1_pulsesOf wsX1_isReading := goodIn_r _ [6, 7, 8, 9, 10, 5, 11, 12, 13, 14, 15, 16, 17, 18, 19] (by decide +kernel) (by decide +kernel)
set_option maxRecDepth 20000 in
theorem gX1_pulsesOf_X1_isReading : GoodIn wsX1_pulsesOf (wsV RX1 45 RX1 yX1_isReading wsX1_isReading) := goodIn_app (goodIn_of _ (by decide +kernel)) ggX1_pulsesOf_X1_isReading
theorem dX1_pulsesOf_0 : decode cX1_pulsesOf 0 = .ok (.aload_n 0, 1) := by decide +kernel
theorem dX1_pulsesOf_1 : decode cX1_pulsesOf 1 = .ok (.iload_n 1, 1) := by decide +kernel
theorem dX1_pulsesOf_2 : decode cX1_pulsesOf 2 = .ok (.invokevirtual 45, 3) := by decide +kernel
theorem dX1_pulsesOf_5 : decode cX1_pulsesOf 5 = .ok (.ifCond .eq 12, 3) := by decide +kernel
theorem dX1_pulsesOf_8 : decode cX1_pulsesOf 8 = .ok (.aload_n 0, 1) := by decide +kernel
theorem dX1_pulsesOf_9 : decode cX1_pulsesOf 9 = .ok (.getfield 15, 3) := by decide +kernel
theorem dX1_pulsesOf_12 : decode cX1_pulsesOf 12 = .ok (.iload_n 1, 1) := by decide +kernel
theorem dX1_pulsesOf_13 : decode cX1_pulsesOf 13 = .ok (.laload, 1) := by decide +kernel
theorem dX1_pulsesOf_14 : decode cX1_pulsesOf 14 = .ok (.goto 4, 3) := by decide +kernel
theorem dX1_pulsesOf_17 : decode cX1_pulsesOf 17 = .ok (.lconst 0, 1) := by decide +kernel
theorem dX1_pulsesOf_18 : decode cX1_pulsesOf 18 = .ok (.lreturn, 1) := by decide +kernel
set_option maxRecDepth 20000 in
theorem ggX1_degreesOf_X1_holds : GoodIn wsX1_degreesOf wsX1_holds := goodIn_r _ [6, 7, 8, 9, 10, 11, 12, 13, 14] (by decide +kernel) (by decide +kernel)
set_option maxRecDepth 20000 in
theorem gX1_degreesOf_X1_holds : GoodIn wsX1_degreesOf (wsV RX1 41 RX1 yX1_holds wsX1_holds) := goodIn_app (goodIn_of _ (by decide +kernel)) ggX1_degreesOf_X1_holds
theorem dX1_degreesOf_0 : decode cX1_degreesOf 0 = .ok (.aload_n 0, 1) := by decide +kernel
theorem dX1_degreesOf_1 : decode cX1_degreesOf 1 = .ok (.iload_n 1, 1) := by decide +kernel
theorem dX1_degreesOf_2 : decode cX1_degreesOf 2 = .ok (.invokevirtual 41, 3) := by decide +kernel
theorem dX1_degreesOf_5 : decode cX1_degreesOf 5 = .ok (.ifCond .eq 12, 3) := by decide +kernel
theorem dX1_degreesOf_8 : decode cX1_degreesOf 8 = .ok (.aload_n 0, 1) := by decide +kernel
theorem dX1_degreesOf_9 : decode cX1_degreesOf 9 = .ok (.getfield 22, 3) := by decide +kernel
theorem dX1_degreesOf_12 : decode cX1_degreesOf 12 = .ok (.iload_n 1, 1) := by decide +kernel
theorem dX1_degreesOf_13 : decode cX1_degreesOf 13 = .ok (.iaload, 1) := by decide +kernel
theorem dX1_degreesOf_14 : decode cX1_degreesOf 14 = .ok (.goto 4, 3) := by decide +kernel
theorem dX1_degreesOf_17 : decode cX1_degreesOf 17 = .ok (.iconst 0, 1) := by decide +kernel
theorem dX1_degreesOf_18 : decode cX1_degreesOf 18 = .ok (.ireturn, 1) := by decide +kernel
set_option maxRecDepth 20000 in
theorem ggX1_addPulses_X1_pulsesOf : GoodIn wsX1_addPulses wsX1_pulsesOf := goodIn_r _ [7, 2, 8, 9, 10, 6, 11, 12, 13, 14, 15, 16, 17, 21, 22, 23, 24, 25, 26, 27] (by decide +kernel) (by decide +kernel)
set_option maxRecDepth 20000 in
theorem gX1_addPulses_X1_pulsesOf : GoodIn wsX1_addPulses (wsV RX1 48 RX1 yX1_pulsesOf wsX1_pulsesOf) := goodIn_app (goodIn_of _ (by decide +kernel)) ggX1_addPulses_X1_pulsesOf
set_option maxRecDepth 20000 in
theorem ggX1_addPulses_X1_isReading : GoodIn wsX1_addPulses wsX1_isReading := goodIn_r _ [11, 12, 13, 14, 15, 6, 16, 17, 21, 22, 23, 24, 25, 26, 27] (by decide +kernel) (by decide +kernel)
set_option maxRecDepth 20000 in
theorem gX1_addPulses_X1_isReading : GoodIn wsX1_addPulses (wsV RX1 45 RX1 yX1_isReading wsX1_isReading) := goodIn_app (goodIn_of _ (by decide +kernel)) ggX1_addPulses_X1_isReading
set_option maxRecDepth 20000 in
theorem ggX1_addPulses_X3_within : GoodIn wsX1_addPulses wsX3_within := goodIn_r _ [20] (by decide +kernel) (by decide +kernel)
set_option maxRecDepth 20000 in
theorem gX1_addPulses_X3_within_n53 : GoodIn wsX1_addPulses (wsX3_within) := ggX1_addPulses_X3_within
theorem dX1_addPulses_0 : decode cX1_addPulses 0 = .ok (.aload_n 0, 1) := by decide +kernel
theorem dX1_addPulses_1 : decode cX1_addPulses 1 = .ok (.iload_n 1, 1) := by decide +kernel
theorem dX1_addPulses_2 : decode cX1_addPulses 2 = .ok (.invokevirtual 48, 3) := by decide +kernel
theorem dX1_addPulses_5 : decode cX1_addPulses 5 = .ok (.lstore 4, 2) := by decide +kernel
theorem dX1_addPulses_7 : decode cX1_addPulses 7 = .ok (.aload_n 0, 1) := by decide +kernel
theorem dX1_addPulses_8 : decode cX1_addPulses 8 = .ok (.iload_n 1, 1) := by decide +kernel
theorem dX1_addPulses_9 : decode cX1_addPulses 9 = .ok (.invokevirtual 45, 3) := by decide +kernel
theorem dX1_addPulses_12 : decode cX1_addPulses 12 = .ok (.ifCond .eq 19, 3) := by decide +kernel
theorem dX1_addPulses_15 : decode cX1_addPulses 15 = .ok (.lload_n 2, 1) := by decide +kernel
theorem dX1_addPulses_16 : decode cX1_addPulses 16 = .ok (.lload 4, 2) := by decide +kernel
theorem dX1_addPulses_18 : decode cX1_addPulses 18 = .ok (.lneg, 1) := by decide +kernel
theorem dX1_addPulses_19 : decode cX1_addPulses 19 = .ok (.ldc2_w 51, 3) := by decide +kernel
theorem dX1_addPulses_22 : decode cX1_addPulses 22 = .ok (.lload 4, 2) := by decide +kernel
theorem dX1_addPulses_24 : decode cX1_addPulses 24 = .ok (.lsub, 1) := by decide +kernel
theorem dX1_addPulses_25 : decode cX1_addPulses 25 = .ok (.invokestatic 53, 3) := by decide +kernel
theorem dX1_addPulses_28 : decode cX1_addPulses 28 = .ok (.ifCond .ne 5, 3) := by decide +kernel
theorem dX1_addPulses_31 : decode cX1_addPulses 31 = .ok (.iconst 0, 1) := by decide +kernel
theorem dX1_addPulses_32 : decode cX1_addPulses 32 = .ok (.ireturn, 1) := by decide +kernel
theorem dX1_addPulses_33 : decode cX1_addPulses 33 = .ok (.aload_n 0, 1) := by decide +kernel
theorem dX1_addPulses_34 : decode cX1_addPulses 34 = .ok (.getfield 15, 3) := by decide +kernel
theorem dX1_addPulses_37 : decode cX1_addPulses 37 = .ok (.iload_n 1, 1) := by decide +kernel
theorem dX1_addPulses_38 : decode cX1_addPulses 38 = .ok (.lload 4, 2) := by decide +kernel
theorem dX1_addPulses_40 : decode cX1_addPulses 40 = .ok (.lload_n 2, 1) := by decide +kernel
theorem dX1_addPulses_41 : decode cX1_addPulses 41 = .ok (.ladd, 1) := by decide +kernel
theorem dX1_addPulses_42 : decode cX1_addPulses 42 = .ok (.lastore, 1) := by decide +kernel
theorem dX1_addPulses_43 : decode cX1_addPulses 43 = .ok (.iconst 1, 1) := by decide +kernel
theorem dX1_addPulses_44 : decode cX1_addPulses 44 = .ok (.ireturn, 1) := by decide +kernel
set_option maxRecDepth 20000 in
theorem ggX1_firstWrong_X1_dueSum : GoodIn wsX1_firstWrong wsX1_dueSum := goodIn_r _ [7, 8, 2, 9, 10, 11, 12, 13, 14, 15, 6, 16, 1, 17, 18, 19, 20, 21, 22, 23, 24, 25, 26, 27] (by decide +kernel) (by decide +kernel)
set_option maxRecDepth 20000 in
theorem gX1_firstWrong_X1_dueSum : GoodIn wsX1_firstWrong (wsV RX1 37 RX1 yX1_dueSum wsX1_dueSum) := goodIn_app (goodIn_of _ (by decide +kernel)) ggX1_firstWrong_X1_dueSum
theorem dX1_firstWrong_0 : decode cX1_firstWrong 0 = .ok (.iload_n 1, 1) := by decide +kernel
theorem dX1_firstWrong_1 : decode cX1_firstWrong 1 = .ok (.ifCond .lt 11, 3) := by decide +kernel
theorem dX1_firstWrong_4 : decode cX1_firstWrong 4 = .ok (.iload_n 1, 1) := by decide +kernel
theorem dX1_firstWrong_5 : decode cX1_firstWrong 5 = .ok (.aload_n 0, 1) := by decide +kernel
theorem dX1_firstWrong_6 : decode cX1_firstWrong 6 = .ok (.getfield 33, 3) := by decide +kernel
theorem dX1_firstWrong_9 : decode cX1_firstWrong 9 = .ok (.if_icmp .le 5, 3) := by decide +kernel
theorem dX1_firstWrong_12 : decode cX1_firstWrong 12 = .ok (.iconst (-1), 1) := by decide +kernel
theorem dX1_firstWrong_13 : decode cX1_firstWrong 13 = .ok (.ireturn, 1) := by decide +kernel
theorem dX1_firstWrong_14 : decode cX1_firstWrong 14 = .ok (.iload_n 1, 1) := by decide +kernel
theorem dX1_firstWrong_15 : decode cX1_firstWrong 15 = .ok (.istore_n 2, 1) := by decide +kernel
theorem dX1_firstWrong_16 : decode cX1_firstWrong 16 = .ok (.iload_n 2, 1) := by decide +kernel
theorem dX1_firstWrong_17 : decode cX1_firstWrong 17 = .ok (.aload_n 0, 1) := by decide +kernel
theorem dX1_firstWrong_18 : decode cX1_firstWrong 18 = .ok (.getfield 33, 3) := by decide +kernel
theorem dX1_firstWrong_21 : decode cX1_firstWrong 21 = .ok (.if_icmp .ge 28, 3) := by decide +kernel
theorem dX1_firstWrong_24 : decode cX1_firstWrong 24 = .ok (.aload_n 0, 1) := by decide +kernel
theorem dX1_firstWrong_25 : decode cX1_firstWrong 25 = .ok (.getfield 26, 3) := by decide +kernel
theorem dX1_firstWrong_28 : decode cX1_firstWrong 28 = .ok (.iload_n 2, 1) := by decide +kernel
theorem dX1_firstWrong_29 : decode cX1_firstWrong 29 = .ok (.laload, 1) := by decide +kernel
theorem dX1_firstWrong_30 : decode cX1_firstWrong 30 = .ok (.aload_n 0, 1) := by decide +kernel
theorem dX1_firstWrong_31 : decode cX1_firstWrong 31 = .ok (.iload_n 2, 1) := by decide +kernel
theorem dX1_firstWrong_32 : decode cX1_firstWrong 32 = .ok (.invokevirtual 37, 3) := by decide +kernel
theorem dX1_firstWrong_35 : decode cX1_firstWrong 35 = .ok (.lcmp, 1) := by decide +kernel
theorem dX1_firstWrong_36 : decode cX1_firstWrong 36 = .ok (.ifCond .eq 7, 3) := by decide +kernel
theorem dX1_firstWrong_39 : decode cX1_firstWrong 39 = .ok (.iload_n 2, 1) := by decide +kernel
theorem dX1_firstWrong_40 : decode cX1_firstWrong 40 = .ok (.iconst 1, 1) := by decide +kernel
theorem dX1_firstWrong_41 : decode cX1_firstWrong 41 = .ok (.iadd, 1) := by decide +kernel
theorem dX1_firstWrong_42 : decode cX1_firstWrong 42 = .ok (.ireturn, 1) := by decide +kernel
theorem dX1_firstWrong_43 : decode cX1_firstWrong 43 = .ok (.iinc 2 1, 3) := by decide +kernel
theorem dX1_firstWrong_46 : decode cX1_firstWrong 46 = .ok (.goto (-30), 3) := by decide +kernel
theorem dX1_firstWrong_49 : decode cX1_firstWrong 49 = .ok (.iconst 0, 1) := by decide +kernel
theorem dX1_firstWrong_50 : decode cX1_firstWrong 50 = .ok (.ireturn, 1) := by decide +kernel
set_option maxRecDepth 20000 in
theorem ggX1_dueSum_X1_holds : GoodIn wsX1_dueSum wsX1_holds := goodIn_r _ [11, 12, 17, 18, 19, 20, 21, 22, 23] (by decide +kernel) (by decide +kernel)
set_option maxRecDepth 20000 in
theorem gX1_dueSum_X1_holds : GoodIn wsX1_dueSum (wsV RX1 41 RX1 yX1_holds wsX1_holds) := goodIn_app (goodIn_of _ (by decide +kernel)) ggX1_dueSum_X1_holds
set_option maxRecDepth 20000 in
theorem ggX1_dueSum_X1_stir : GoodIn wsX1_dueSum wsX1_stir := goodIn_r _ [15, 16] (by decide +kernel) (by decide +kernel)
set_option maxRecDepth 20000 in
theorem gX1_dueSum_X1_stir : GoodIn wsX1_dueSum (va_wsS RX1 59 yX1_stir wsX1_stir) := goodIn_app (goodIn_of _ (by decide +kernel)) ggX1_dueSum_X1_stir
theorem dX1_dueSum_0 : decode cX1_dueSum 0 = .ok (.aload_n 0, 1) := by decide +kernel
theorem dX1_dueSum_1 : decode cX1_dueSum 1 = .ok (.iload_n 1, 1) := by decide +kernel
theorem dX1_dueSum_2 : decode cX1_dueSum 2 = .ok (.invokevirtual 41, 3) := by decide +kernel
theorem dX1_dueSum_5 : decode cX1_dueSum 5 = .ok (.ifCond .ne 5, 3) := by decide +kernel
theorem dX1_dueSum_8 : decode cX1_dueSum 8 = .ok (.lconst 0, 1) := by decide +kernel
theorem dX1_dueSum_9 : decode cX1_dueSum 9 = .ok (.lreturn, 1) := by decide +kernel
theorem dX1_dueSum_10 : decode cX1_dueSum 10 = .ok (.iload_n 1, 1) := by decide +kernel
theorem dX1_dueSum_11 : decode cX1_dueSum 11 = .ok (.ifCond .ne 10, 3) := by decide +kernel
theorem dX1_dueSum_14 : decode cX1_dueSum 14 = .ok (.aload_n 0, 1) := by decide +kernel
theorem dX1_dueSum_15 : decode cX1_dueSum 15 = .ok (.getfield 9, 3) := by decide +kernel
theorem dX1_dueSum_18 : decode cX1_dueSum 18 = .ok (.goto 11, 3) := by decide +kernel
theorem dX1_dueSum_21 : decode cX1_dueSum 21 = .ok (.aload_n 0, 1) := by decide +kernel
theorem dX1_dueSum_22 : decode cX1_dueSum 22 = .ok (.getfield 26, 3) := by decide +kernel
theorem dX1_dueSum_25 : decode cX1_dueSum 25 = .ok (.iload_n 1, 1) := by decide +kernel
theorem dX1_dueSum_26 : decode cX1_dueSum 26 = .ok (.iconst 1, 1) := by decide +kernel
theorem dX1_dueSum_27 : decode cX1_dueSum 27 = .ok (.isub, 1) := by decide +kernel
theorem dX1_dueSum_28 : decode cX1_dueSum 28 = .ok (.laload, 1) := by decide +kernel
theorem dX1_dueSum_29 : decode cX1_dueSum 29 = .ok (.lstore_n 2, 1) := by decide +kernel
theorem dX1_dueSum_30 : decode cX1_dueSum 30 = .ok (.ldc2_w 57, 3) := by decide +kernel
theorem dX1_dueSum_33 : decode cX1_dueSum 33 = .ok (.lload_n 2, 1) := by decide +kernel
theorem dX1_dueSum_34 : decode cX1_dueSum 34 = .ok (.lmul, 1) := by decide +kernel
theorem dX1_dueSum_35 : decode cX1_dueSum 35 = .ok (.aload_n 0, 1) := by decide +kernel
theorem dX1_dueSum_36 : decode cX1_dueSum 36 = .ok (.getfield 9, 3) := by decide +kernel
theorem dX1_dueSum_39 : decode cX1_dueSum 39 = .ok (.ladd, 1) := by decide +kernel
theorem dX1_dueSum_40 : decode cX1_dueSum 40 = .ok (.lstore 4, 2) := by decide +kernel
theorem dX1_dueSum_42 : decode cX1_dueSum 42 = .ok (.lload 4, 2) := by decide +kernel
theorem dX1_dueSum_44 : decode cX1_dueSum 44 = .ok (.aload_n 0, 1) := by decide +kernel
theorem dX1_dueSum_45 : decode cX1_dueSum 45 = .ok (.getfield 15, 3) := by decide +kernel
theorem dX1_dueSum_48 : decode cX1_dueSum 48 = .ok (.iload_n 1, 1) := by decide +kernel
theorem dX1_dueSum_49 : decode cX1_dueSum 49 = .ok (.laload, 1) := by decide +kernel
theorem dX1_dueSum_50 : decode cX1_dueSum 50 = .ok (.invokestatic 59, 3) := by decide +kernel
theorem dX1_dueSum_53 : decode cX1_dueSum 53 = .ok (.lstore 4, 2) := by decide +kernel
theorem dX1_dueSum_55 : decode cX1_dueSum 55 = .ok (.lload 4, 2) := by decide +kernel
theorem dX1_dueSum_57 : decode cX1_dueSum 57 = .ok (.aload_n 0, 1) := by decide +kernel
theorem dX1_dueSum_58 : decode cX1_dueSum 58 = .ok (.getfield 19, 3) := by decide +kernel
theorem dX1_dueSum_61 : decode cX1_dueSum 61 = .ok (.iload_n 1, 1) := by decide +kernel
theorem dX1_dueSum_62 : decode cX1_dueSum 62 = .ok (.laload, 1) := by decide +kernel
theorem dX1_dueSum_63 : decode cX1_dueSum 63 = .ok (.invokestatic 59, 3) := by decide +kernel
theorem dX1_dueSum_66 : decode cX1_dueSum 66 = .ok (.lstore 4, 2) := by decide +kernel
theorem dX1_dueSum_68 : decode cX1_dueSum 68 = .ok (.lload 4, 2) := by decide +kernel
theorem dX1_dueSum_70 : decode cX1_dueSum 70 = .ok (.aload_n 0, 1) := by decide +kernel
theorem dX1_dueSum_71 : decode cX1_dueSum 71 = .ok (.getfield 22, 3) := by decide +kernel
theorem dX1_dueSum_74 : decode cX1_dueSum 74 = .ok (.iload_n 1, 1) := by decide +kernel
theorem dX1_dueSum_75 : decode cX1_dueSum 75 = .ok (.iaload, 1) := by decide +kernel
theorem dX1_dueSum_76 : decode cX1_dueSum 76 = .ok (.i2l, 1) := by decide +kernel
theorem dX1_dueSum_77 : decode cX1_dueSum 77 = .ok (.invokestatic 59, 3) := by decide +kernel
theorem dX1_dueSum_80 : decode cX1_dueSum 80 = .ok (.lreturn, 1) := by decide +kernel
theorem dX1_stir_0 : decode cX1_stir 0 = .ok (.lload_n 0, 1) := by decide +kernel
theorem dX1_stir_1 : decode cX1_stir 1 = .ok (.lload_n 2, 1) := by decide +kernel
theorem dX1_stir_2 : decode cX1_stir 2 = .ok (.lxor, 1) := by decide +kernel
theorem dX1_stir_3 : decode cX1_stir 3 = .ok (.ldc2_w 63, 3) := by decide +kernel
theorem dX1_stir_6 : decode cX1_stir 6 = .ok (.lmul, 1) := by decide +kernel
theorem dX1_stir_7 : decode cX1_stir 7 = .ok (.lstore 4, 2) := by decide +kernel
theorem dX1_stir_9 : decode cX1_stir 9 = .ok (.lload 4, 2) := by decide +kernel
theorem dX1_stir_11 : decode cX1_stir 11 = .ok (.lload 4, 2) := by decide +kernel
theorem dX1_stir_13 : decode cX1_stir 13 = .ok (.bipush 29, 2) := by decide +kernel
theorem dX1_stir_15 : decode cX1_stir 15 = .ok (.lushr, 1) := by decide +kernel
theorem dX1_stir_16 : decode cX1_stir 16 = .ok (.lxor, 1) := by decide +kernel
theorem dX1_stir_17 : decode cX1_stir 17 = .ok (.lreturn, 1) := by decide +kernel
set_option maxRecDepth 20000 in
theorem ggX1_findGap_X1_isReading : GoodIn wsX1_findGap wsX1_isReading := goodIn_r _ [9, 3, 10, 11, 12, 8, 13, 2, 23, 24, 25, 26, 27, 28, 29] (by decide +kernel) (by decide +kernel)
set_option maxRecDepth 20000 in
theorem gX1_findGap_X1_isReading : GoodIn wsX1_findGap (wsV RX1 45 RX1 yX1_isReading wsX1_isReading) := goodIn_app (goodIn_of _ (by decide +kernel)) ggX1_findGap_X1_isReading
set_option maxRecDepth 20000 in
theorem ggX1_findGap_X1_wholeMinutes : GoodIn wsX1_findGap wsX1_wholeMinutes := goodIn_r _ [16, 17, 18, 19, 20, 21, 22] (by decide +kernel) (by decide +kernel)
set_option maxRecDepth 20000 in
theorem gX1_findGap_X1_wholeMinutes : GoodIn wsX1_findGap (va_wsS RX1 69 yX1_wholeMinutes wsX1_wholeMinutes) := goodIn_app (goodIn_of _ (by decide +kernel)) ggX1_findGap_X1_wholeMinutes
theorem dX1_findGap_0 : decode cX1_findGap 0 = .ok (.iload_n 1, 1) := by decide +kernel
theorem dX1_findGap_1 : decode cX1_findGap 1 = .ok (.istore_n 3, 1) := by decide +kernel
theorem dX1_findGap_2 : decode cX1_findGap 2 = .ok (.ldc2_w 65, 3) := by decide +kernel
theorem dX1_findGap_5 : decode cX1_findGap 5 = .ok (.lstore 4, 2) := by decide +kernel
theorem dX1_findGap_7 : decode cX1_findGap 7 = .ok (.iconst 0, 1) := by decide +kernel
theorem dX1_findGap_8 : decode cX1_findGap 8 = .ok (.istore 6, 2) := by decide +kernel
theorem dX1_findGap_10 : decode cX1_findGap 10 = .ok (.iload 6, 2) := by decide +kernel
theorem dX1_findGap_12 : decode cX1_findGap 12 = .ok (.aload_n 0, 1) := by decide +kernel
theorem dX1_findGap_13 : decode cX1_findGap 13 = .ok (.getfield 33, 3) := by decide +kernel
theorem dX1_findGap_16 : decode cX1_findGap 16 = .ok (.if_icmp .ge 87, 3) := by decide +kernel
theorem dX1_findGap_19 : decode cX1_findGap 19 = .ok (.aload_n 0, 1) := by decide +kernel
theorem dX1_findGap_20 : decode cX1_findGap 20 = .ok (.iload 6, 2) := by decide +kernel
theorem dX1_findGap_22 : decode cX1_findGap 22 = .ok (.invokevirtual 45, 3) := by decide +kernel
theorem dX1_findGap_25 : decode cX1_findGap 25 = .ok (.ifCond .ne 6, 3) := by decide +kernel
theorem dX1_findGap_28 : decode cX1_findGap 28 = .ok (.goto 69, 3) := by decide +kernel
theorem dX1_findGap_31 : decode cX1_findGap 31 = .ok (.lload 4, 2) := by decide +kernel
theorem dX1_findGap_33 : decode cX1_findGap 33 = .ok (.lconst 0, 1) := by decide +kernel
theorem dX1_findGap_34 : decode cX1_findGap 34 = .ok (.lcmp, 1) := by decide +kernel
theorem dX1_findGap_35 : decode cX1_findGap 35 = .ok (.ifCond .ge 7, 3) := by decide +kernel
theorem dX1_findGap_38 : decode cX1_findGap 38 = .ok (.lconst 0, 1) := by decide +kernel
theorem dX1_findGap_39 : decode cX1_findGap 39 = .ok (.goto 13, 3) := by decide +kernel
theorem dX1_findGap_42 : decode cX1_findGap 42 = .ok (.aload_n 0, 1) := by decide +kernel
theorem dX1_findGap_43 : decode cX1_findGap 43 = .ok (.getfield 19, 3) := by decide +kernel
theorem dX1_findGap_46 : decode cX1_findGap 46 = .ok (.iload 6, 2) := by decide +kernel
theorem dX1_findGap_48 : decode cX1_findGap 48 = .ok (.laload, 1) := by decide +kernel
theorem dX1_findGap_49 : decode cX1_findGap 49 = .ok (.lload 4, 2) := by decide +kernel
theorem dX1_findGap_51 : decode cX1_findGap 51 = .ok (.lsub, 1) := by decide +kernel
theorem dX1_findGap_52 : decode cX1_findGap 52 = .ok (.lstore 7, 2) := by decide +kernel
theorem dX1_findGap_54 : decode cX1_findGap 54 = .ok (.aload_n 0, 1) := by decide +kernel
theorem dX1_findGap_55 : decode cX1_findGap 55 = .ok (.getfield 19, 3) := by decide +kernel
theorem dX1_findGap_58 : decode cX1_findGap 58 = .ok (.iload 6, 2) := by decide +kernel
theorem dX1_findGap_60 : decode cX1_findGap 60 = .ok (.laload, 1) := by decide +kernel
theorem dX1_findGap_61 : decode cX1_findGap 61 = .ok (.lstore 4, 2) := by decide +kernel
theorem dX1_findGap_63 : decode cX1_findGap 63 = .ok (.lload 7, 2) := by decide +kernel
theorem dX1_findGap_65 : decode cX1_findGap 65 = .ok (.ldc2_w 67, 3) := by decide +kernel
theorem dX1_findGap_68 : decode cX1_findGap 68 = .ok (.lcmp, 1) := by decide +kernel
theorem dX1_findGap_69 : decode cX1_findGap 69 = .ok (.ifCond .gt 6, 3) := by decide +kernel
theorem dX1_findGap_72 : decode cX1_findGap 72 = .ok (.goto 25, 3) := by decide +kernel
theorem dX1_findGap_75 : decode cX1_findGap 75 = .ok (.iload_n 3, 1) := by decide +kernel
theorem dX1_findGap_76 : decode cX1_findGap 76 = .ok (.ifCond .ne 18, 3) := by decide +kernel
theorem dX1_findGap_79 : decode cX1_findGap 79 = .ok (.iload_n 2, 1) := by decide +kernel
theorem dX1_findGap_80 : decode cX1_findGap 80 = .ok (.ifCond .ne 8, 3) := by decide +kernel
theorem dX1_findGap_83 : decode cX1_findGap 83 = .ok (.iload 6, 2) := by decide +kernel
theorem dX1_findGap_85 : decode cX1_findGap 85 = .ok (.goto 8, 3) := by decide +kernel
theorem dX1_findGap_88 : decode cX1_findGap 88 = .ok (.lload 7, 2) := by decide +kernel
theorem dX1_findGap_90 : decode cX1_findGap 90 = .ok (.invokestatic 69, 3) := by decide +kernel
theorem dX1_findGap_93 : decode cX1_findGap 93 = .ok (.ireturn, 1) := by decide +kernel
theorem dX1_findGap_94 : decode cX1_findGap 94 = .ok (.iinc 3 (-1), 3) := by decide +kernel
theorem dX1_findGap_97 : decode cX1_findGap 97 = .ok (.iinc 6 1, 3) := by decide +kernel
theorem dX1_findGap_100 : decode cX1_findGap 100 = .ok (.goto (-90), 3) := by decide +kernel
theorem dX1_findGap_103 : decode cX1_findGap 103 = .ok (.iconst (-1), 1) := by decide +kernel
theorem dX1_findGap_104 : decode cX1_findGap 104 = .ok (.ireturn, 1) := by decide +kernel
theorem dX1_wholeMinutes_0 : decode cX1_wholeMinutes 0 = .ok (.lload_n 0, 1) := by decide +kernel
theorem dX1_wholeMinutes_1 : decode cX1_wholeMinutes 1 = .ok (.ldc2_w 73, 3) := by decide +kernel
theorem dX1_wholeMinutes_4 : decode cX1_wholeMinutes 4 = .ok (.ldiv, 1) := by decide +kernel
theorem dX1_wholeMinutes_5 : decode cX1_wholeMinutes 5 = .ok (.ldc2_w 75, 3) := by decide +kernel
theorem dX1_wholeMinutes_8 : decode cX1_wholeMinutes 8 = .ok (.invokestatic 77, 3) := by decide +kernel
theorem dX1_wholeMinutes_11 : decode cX1_wholeMinutes 11 = .ok (.l2i, 1) := by decide +kernel
theorem dX1_wholeMinutes_12 : decode cX1_wholeMinutes 12 = .ok (.ireturn, 1) := by decide +kernel
set_option maxRecDepth 20000 in
theorem ggX1_rollByte_X1_lineLength : GoodIn wsX1_rollByte wsX1_lineLength := goodIn_r _ [6, 7, 8, 9, 5, 10, 11, 12, 13, 14, 15, 16, 17, 18, 19, 1, 20, 21, 22, 23, 24, 25, 26, 27, 28, 29, 30, 31, 32, 33, 34, 52, 53, 54, 55, 56, 57, 58] (by decide +kernel) (by decide +kernel)
set_option maxRecDepth 20000 in
theorem gX1_rollByte_X1_lineLength : GoodIn wsX1_rollByte (wsV RX1 82 RX1 yX1_lineLength wsX1_lineLength) := goodIn_app (goodIn_of _ (by decide +kernel)) ggX1_rollByte_X1_lineLength
set_option maxRecDepth 20000 in
theorem ggX1_rollByte_X1_lineByte : GoodIn wsX1_rollByte wsX1_lineByte := goodIn_r _ [38, 39, 40, 41, 5, 42, 15, 43, 44, 16, 17, 18, 19, 1, 11, 12, 13, 14, 7, 8, 9, 10, 20, 21, 22, 23, 24, 25, 26, 27, 28, 29, 45, 46, 47, 48, 49, 50, 51, 30, 31, 32, 33, 34, 52, 53, 54, 55, 56, 57, 58] (by decide +kernel) (by decide +kernel)
set_option maxRecDepth 20000 in
theorem gX1_rollByte_X1_lineByte : GoodIn wsX1_rollByte (wsV RX1 86 RX1 yX1_lineByte wsX1_lineByte) := goodIn_app (goodIn_of _ (by decide +kernel)) ggX1_rollByte_X1_lineByte
theorem dX1_rollByte_0 : decode cX1_rollByte 0 = .ok (.iload_n 1, 1) := by decide +kernel
theorem dX1_rollByte_1 : decode cX1_rollByte 1 = .ok (.ifCond .ge 5, 3) := by decide +kernel
theorem dX1_rollByte_4 : decode cX1_rollByte 4 = .ok (.iconst (-1), 1) := by decide +kernel
theorem dX1_rollByte_5 : decode cX1_rollByte 5 = .ok (.ireturn, 1) := by decide +kernel
theorem dX1_rollByte_6 : decode cX1_rollByte 6 = .ok (.iload_n 1, 1) := by decide +kernel
theorem dX1_rollByte_7 : decode cX1_rollByte 7 = .ok (.istore_n 2, 1) := by decide +kernel
theorem dX1_rollByte_8 : decode cX1_rollByte 8 = .ok (.iconst 0, 1) := by decide +kernel
theorem dX1_rollByte_9 : decode cX1_rollByte 9 = .ok (.istore_n 3, 1) := by decide +kernel
theorem dX1_rollByte_10 : decode cX1_rollByte 10 = .ok (.iload_n 3, 1) := by decide +kernel
theorem dX1_rollByte_11 : decode cX1_rollByte 11 = .ok (.aload_n 0, 1) := by decide +kernel
theorem dX1_rollByte_12 : decode cX1_rollByte 12 = .ok (.getfield 33, 3) := by decide +kernel
theorem dX1_rollByte_15 : decode cX1_rollByte 15 = .ok (.if_icmp .ge 34, 3) := by decide +kernel
theorem dX1_rollByte_18 : decode cX1_rollByte 18 = .ok (.aload_n 0, 1) := by decide +kernel
theorem dX1_rollByte_19 : decode cX1_rollByte 19 = .ok (.iload_n 3, 1) := by decide +kernel
theorem dX1_rollByte_20 : decode cX1_rollByte 20 = .ok (.invokevirtual 82, 3) := by decide +kernel
theorem dX1_rollByte_23 : decode cX1_rollByte 23 = .ok (.istore 4, 2) := by decide +kernel
theorem dX1_rollByte_25 : decode cX1_rollByte 25 = .ok (.iload_n 2, 1) := by decide +kernel
theorem dX1_rollByte_26 : decode cX1_rollByte 26 = .ok (.iload 4, 2) := by decide +kernel
theorem dX1_rollByte_28 : decode cX1_rollByte 28 = .ok (.if_icmp .ge 10, 3) := by decide +kernel
theorem dX1_rollByte_31 : decode cX1_rollByte 31 = .ok (.aload_n 0, 1) := by decide +kernel
theorem dX1_rollByte_32 : decode cX1_rollByte 32 = .ok (.iload_n 3, 1) := by decide +kernel
theorem dX1_rollByte_33 : decode cX1_rollByte 33 = .ok (.iload_n 2, 1) := by decide +kernel
theorem dX1_rollByte_34 : decode cX1_rollByte 34 = .ok (.invokevirtual 86, 3) := by decide +kernel
theorem dX1_rollByte_37 : decode cX1_rollByte 37 = .ok (.ireturn, 1) := by decide +kernel
theorem dX1_rollByte_38 : decode cX1_rollByte 38 = .ok (.iload_n 2, 1) := by decide +kernel
theorem dX1_rollByte_39 : decode cX1_rollByte 39 = .ok (.iload 4, 2) := by decide +kernel
theorem dX1_rollByte_41 : decode cX1_rollByte 41 = .ok (.isub, 1) := by decide +kernel
theorem dX1_rollByte_42 : decode cX1_rollByte 42 = .ok (.istore_n 2, 1) := by decide +kernel
theorem dX1_rollByte_43 : decode cX1_rollByte 43 = .ok (.iinc 3 1, 3) := by decide +kernel
theorem dX1_rollByte_46 : decode cX1_rollByte 46 = .ok (.goto (-36), 3) := by decide +kernel
theorem dX1_rollByte_49 : decode cX1_rollByte 49 = .ok (.iconst (-1), 1) := by decide +kernel
theorem dX1_rollByte_50 : decode cX1_rollByte 50 = .ok (.ireturn, 1) := by decide +kernel
set_option maxRecDepth 20000 in
theorem ggX1_lineLength_X1_fieldCount : GoodIn wsX1_lineLength wsX1_fieldCount := goodIn_r _ [5, 6, 7, 8, 4, 9, 10, 11, 12, 13, 14, 15, 31, 32, 33, 34, 35, 36, 37] (by decide +kernel) (by decide +kernel)
set_option maxRecDepth 20000 in
theorem gX1_lineLength_X1_fieldCount : GoodIn wsX1_lineLength (wsV RX1 90 RX1 yX1_fieldCount wsX1_fieldCount) := goodIn_app (goodIn_of _ (by decide +kernel)) ggX1_lineLength_X1_fieldCount
set_option maxRecDepth 20000 in
theorem ggX1_lineLength_X1_fieldOf : GoodIn wsX1_lineLength wsX1_fieldOf := goodIn_r _ [19, 20, 10, 21, 11, 12, 13, 4, 14, 15, 31, 32, 33, 34, 35, 36, 37] (by decide +kernel) (by decide +kernel)
set_option maxRecDepth 20000 in
theorem gX1_lineLength_X1_fieldOf : GoodIn wsX1_lineLength (wsV RX1 93 RX1 yX1_fieldOf wsX1_fieldOf) := goodIn_app (goodIn_of _ (by decide +kernel)) ggX1_lineLength_X1_fieldOf
set_option maxRecDepth 20000 in
theorem ggX1_lineLength_X3_textLength : GoodIn wsX1_lineLength wsX3_textLength := goodIn_r _ [24, 25] (by decide +kernel) (by decide +kernel)
set_option maxRecDepth 20000 in
theorem gX1_lineLength_X3_textLength_n97 : GoodIn wsX1_lineLength (wsX3_textLength) := ggX1_lineLength_X3_textLength
set_option maxRecDepth 20000 in
theorem ggX1_lineLength_X1_hasMark : GoodIn wsX1_lineLength wsX1_hasMark := goodIn_r _ [29, 30, 11, 12, 13, 4, 14, 15, 31, 32, 33, 34, 35, 36, 37] (by decide +kernel) (by decide +kernel)
set_option maxRecDepth 20000 in
theorem gX1_lineLength_X1_hasMark : GoodIn wsX1_lineLength (wsV RX1 100 RX1 yX1_hasMark wsX1_hasMark) := goodIn_app (goodIn_of _ (by decide +kernel)) ggX1_lineLength_X1_hasMark
theorem dX1_lineLength_0 : decode cX1_lineLength 0 = .ok (.iconst 1, 1) := by decide +kernel
theorem dX1_lineLength_1 : decode cX1_lineLength 1 = .ok (.istore_n 2, 1) := by decide +kernel
theorem dX1_lineLength_2 : decode cX1_lineLength 2 = .ok (.iconst 0, 1) := by decide +kernel
theorem dX1_lineLength_3 : decode cX1_lineLength 3 = .ok (.istore_n 3, 1) := by decide +kernel
theorem dX1_lineLength_4 : decode cX1_lineLength 4 = .ok (.iload_n 3, 1) := by decide +kernel
theorem dX1_lineLength_5 : decode cX1_lineLength 5 = .ok (.aload_n 0, 1) := by decide +kernel
theorem dX1_lineLength_6 : decode cX1_lineLength 6 = .ok (.iload_n 1, 1) := by decide +kernel
theorem dX1_lineLength_7 : decode cX1_lineLength 7 = .ok (.invokevirtual 90, 3) := by decide +kernel
theorem dX1_lineLength_10 : decode cX1_lineLength 10 = .ok (.if_icmp .ge 23, 3) := by decide +kernel
theorem dX1_lineLength_13 : decode cX1_lineLength 13 = .ok (.iload_n 2, 1) := by decide +kernel
theorem dX1_lineLength_14 : decode cX1_lineLength 14 = .ok (.iconst 1, 1) := by decide +kernel
theorem dX1_lineLength_15 : decode cX1_lineLength 15 = .ok (.aload_n 0, 1) := by decide +kernel
theorem dX1_lineLength_16 : decode cX1_lineLength 16 = .ok (.iload_n 1, 1) := by decide +kernel
theorem dX1_lineLength_17 : decode cX1_lineLength 17 = .ok (.iload_n 3, 1) := by decide +kernel
theorem dX1_lineLength_18 : decode cX1_lineLength 18 = .ok (.invokevirtual 93, 3) := by decide +kernel
theorem dX1_lineLength_21 : decode cX1_lineLength 21 = .ok (.invokestatic 97, 3) := by decide +kernel
theorem dX1_lineLength_24 : decode cX1_lineLength 24 = .ok (.iadd, 1) := by decide +kernel
theorem dX1_lineLength_25 : decode cX1_lineLength 25 = .ok (.iadd, 1) := by decide +kernel
theorem dX1_lineLength_26 : decode cX1_lineLength 26 = .ok (.istore_n 2, 1) := by decide +kernel
theorem dX1_lineLength_27 : decode cX1_lineLength 27 = .ok (.iinc 3 1, 3) := by decide +kernel
theorem dX1_lineLength_30 : decode cX1_lineLength 30 = .ok (.goto (-26), 3) := by decide +kernel
theorem dX1_lineLength_33 : decode cX1_lineLength 33 = .ok (.iload_n 2, 1) := by decide +kernel
theorem dX1_lineLength_34 : decode cX1_lineLength 34 = .ok (.aload_n 0, 1) := by decide +kernel
theorem dX1_lineLength_35 : decode cX1_lineLength 35 = .ok (.iload_n 1, 1) := by decide +kernel
theorem dX1_lineLength_36 : decode cX1_lineLength 36 = .ok (.invokevirtual 100, 3) := by decide +kernel
theorem dX1_lineLength_39 : decode cX1_lineLength 39 = .ok (.ifCond .eq 7, 3) := by decide +kernel
theorem dX1_lineLength_42 : decode cX1_lineLength 42 = .ok (.iconst 2, 1) := by decide +kernel
theorem dX1_lineLength_43 : decode cX1_lineLength 43 = .ok (.goto 4, 3) := by decide +kernel
theorem dX1_lineLength_46 : decode cX1_lineLength 46 = .ok (.iconst 0, 1) := by decide +kernel
theorem dX1_lineLength_47 : decode cX1_lineLength 47 = .ok (.iadd, 1) := by decide +kernel
theorem dX1_lineLength_48 : decode cX1_lineLength 48 = .ok (.iconst 1, 1) := by decide +kernel
theorem dX1_lineLength_49 : decode cX1_lineLength 49 = .ok (.iadd, 1) := by decide +kernel
theorem dX1_lineLength_50 : decode cX1_lineLength 50 = .ok (.ireturn, 1) := by decide +kernel
set_option maxRecDepth 20000 in
theorem ggX1_lineByte_X1_letterOf : GoodIn wsX1_lineByte wsX1_letterOf := goodIn_r _ [5, 6, 7, 8, 9, 10, 11, 4, 12, 13, 14, 15, 16, 17, 44, 45, 46, 47, 48, 49, 50] (by decide +kernel) (by decide +kernel)
set_option maxRecDepth 20000 in
theorem gX1_lineByte_X1_letterOf : GoodIn wsX1_lineByte (wsV RX1 103 RX1 yX1_letterOf wsX1_letterOf) := goodIn_app (goodIn_of _ (by decide +kernel)) ggX1_lineByte_X1_letterOf
set_option maxRecDepth 20000 in
theorem ggX1_lineByte_X1_fieldCount : GoodIn wsX1_lineByte wsX1_fieldCount := goodIn_r _ [21, 14, 15, 16, 4, 17, 6, 9, 10, 11, 12, 13, 44, 45, 46, 47, 48, 49, 50] (by decide +kernel) (by decide +kernel)
set_option maxRecDepth 20000 in
theorem gX1_lineByte_X1_fieldCount : GoodIn wsX1_lineByte (wsV RX1 90 RX1 yX1_fieldCount wsX1_fieldCount) := goodIn_app (goodIn_of _ (by decide +kernel)) ggX1_lineByte_X1_fieldCount
set_option maxRecDepth 20000 in
theorem ggX1_lineByte_X1_fieldOf : GoodIn wsX1_lineByte wsX1_fieldOf := goodIn_r _ [25, 26, 6, 27, 9, 10, 11, 4, 12, 13, 44, 45, 46, 47, 48, 49, 50] (by decide +kernel) (by decide +kernel)
set_option maxRecDepth 20000 in
theorem gX1_lineByte_X1_fieldOf : GoodIn wsX1_lineByte (wsV RX1 93 RX1 yX1_fieldOf wsX1_fieldOf) := goodIn_app (goodIn_of _ (by decide +kernel)) ggX1_lineByte_X1_fieldOf
set_option maxRecDepth 20000 in
theorem ggX1_lineByte_X3_textLength : GoodIn wsX1_lineByte wsX3_textLength := goodIn_r _ [30, 31] (by decide +kernel) (by decide +kernel)
set_option maxRecDepth 20000 in
theorem gX1_lineByte_X3_textLength_n97 : GoodIn wsX1_lineByte (wsX3_textLength) := ggX1_lineByte_X3_textLength
set_option maxRecDepth 20000 in
theorem ggX1_lineByte_X3_textByte : GoodIn wsX1_lineByte wsX3_textByte := goodIn_r _ [33, 31, 34, 35, 36, 37, 38, 28, 29, 30] (by decide +kernel) (by decide +kernel)
set_option maxRecDepth 20000 in
theorem gX1_lineByte_X3_textByte_n107 : GoodIn wsX1_lineByte (wsX3_textByte) := ggX1_lineByte_X3_textByte
set_option maxRecDepth 20000 in
theorem ggX1_lineByte_X1_hasMark : GoodIn wsX1_lineByte wsX1_hasMark := goodIn_r _ [42, 43, 9, 10, 11, 4, 12, 13, 44, 45, 46, 47, 48, 49, 50] (by decide +kernel) (by decide +kernel)
set_option maxRecDepth 20000 in
theorem gX1_lineByte_X1_hasMark : GoodIn wsX1_lineByte (wsV RX1 100 RX1 yX1_hasMark wsX1_hasMark) := goodIn_app (goodIn_of _ (by decide +kernel)) ggX1_lineByte_X1_hasMark
theorem dX1_lineByte_0 : decode cX1_lineByte 0 = .ok (.iload_n 2, 1) := by decide +kernel
theorem dX1_lineByte_1 : decode cX1_lineByte 1 = .ok (.ifCond .ne 9, 3) := by decide +kernel
theorem dX1_lineByte_4 : decode cX1_lineByte 4 = .ok (.aload_n 0, 1) := by decide +kernel
theorem dX1_lineByte_5 : decode cX1_lineByte 5 = .ok (.iload_n 1, 1) := by decide +kernel
theorem dX1_lineByte_6 : decode cX1_lineByte 6 = .ok (.invokevirtual 103, 3) := by decide +kernel
theorem dX1_lineByte_9 : decode cX1_lineByte 9 = .ok (.ireturn, 1) := by decide +kernel
theorem dX1_lineByte_10 : decode cX1_lineByte 10 = .ok (.iload_n 2, 1) := by decide +kernel
theorem dX1_lineByte_11 : decode cX1_lineByte 11 = .ok (.iconst 1, 1) := by decide +kernel
theorem dX1_lineByte_12 : decode cX1_lineByte 12 = .ok (.isub, 1) := by decide +kernel
theorem dX1_lineByte_13 : decode cX1_lineByte 13 = .ok (.istore_n 3, 1) := by decide +kernel
theorem dX1_lineByte_14 : decode cX1_lineByte 14 = .ok (.iconst 0, 1) := by decide +kernel
theorem dX1_lineByte_15 : decode cX1_lineByte 15 = .ok (.istore 4, 2) := by decide +kernel
theorem dX1_lineByte_17 : decode cX1_lineByte 17 = .ok (.iload 4, 2) := by decide +kernel
theorem dX1_lineByte_19 : decode cX1_lineByte 19 = .ok (.aload_n 0, 1) := by decide +kernel
theorem dX1_lineByte_20 : decode cX1_lineByte 20 = .ok (.iload_n 1, 1) := by decide +kernel
theorem dX1_lineByte_21 : decode cX1_lineByte 21 = .ok (.invokevirtual 90, 3) := by decide +kernel
theorem dX1_lineByte_24 : decode cX1_lineByte 24 = .ok (.if_icmp .ge 56, 3) := by decide +kernel
theorem dX1_lineByte_27 : decode cX1_lineByte 27 = .ok (.aload_n 0, 1) := by decide +kernel
theorem dX1_lineByte_28 : decode cX1_lineByte 28 = .ok (.iload_n 1, 1) := by decide +kernel
theorem dX1_lineByte_29 : decode cX1_lineByte 29 = .ok (.iload 4, 2) := by decide +kernel
theorem dX1_lineByte_31 : decode cX1_lineByte 31 = .ok (.invokevirtual 93, 3) := by decide +kernel
theorem dX1_lineByte_34 : decode cX1_lineByte 34 = .ok (.lstore 5, 2) := by decide +kernel
theorem dX1_lineByte_36 : decode cX1_lineByte 36 = .ok (.iconst 1, 1) := by decide +kernel
theorem dX1_lineByte_37 : decode cX1_lineByte 37 = .ok (.lload 5, 2) := by decide +kernel
theorem dX1_lineByte_39 : decode cX1_lineByte 39 = .ok (.invokestatic 97, 3) := by decide +kernel
theorem dX1_lineByte_42 : decode cX1_lineByte 42 = .ok (.iadd, 1) := by decide +kernel
theorem dX1_lineByte_43 : decode cX1_lineByte 43 = .ok (.istore 7, 2) := by decide +kernel
theorem dX1_lineByte_45 : decode cX1_lineByte 45 = .ok (.iload_n 3, 1) := by decide +kernel
theorem dX1_lineByte_46 : decode cX1_lineByte 46 = .ok (.iload 7, 2) := by decide +kernel
theorem dX1_lineByte_48 : decode cX1_lineByte 48 = .ok (.if_icmp .ge 21, 3) := by decide +kernel
theorem dX1_lineByte_51 : decode cX1_lineByte 51 = .ok (.iload_n 3, 1) := by decide +kernel
theorem dX1_lineByte_52 : decode cX1_lineByte 52 = .ok (.ifCond .ne 8, 3) := by decide +kernel
theorem dX1_lineByte_55 : decode cX1_lineByte 55 = .ok (.bipush 32, 2) := by decide +kernel
theorem dX1_lineByte_57 : decode cX1_lineByte 57 = .ok (.goto 11, 3) := by decide +kernel
theorem dX1_lineByte_60 : decode cX1_lineByte 60 = .ok (.lload 5, 2) := by decide +kernel
theorem dX1_lineByte_62 : decode cX1_lineByte 62 = .ok (.iload_n 3, 1) := by decide +kernel
theorem dX1_lineByte_63 : decode cX1_lineByte 63 = .ok (.iconst 1, 1) := by decide +kernel
theorem dX1_lineByte_64 : decode cX1_lineByte 64 = .ok (.isub, 1) := by decide +kernel
theorem dX1_lineByte_65 : decode cX1_lineByte 65 = .ok (.invokestatic 107, 3) := by decide +kernel
theorem dX1_lineByte_68 : decode cX1_lineByte 68 = .ok (.ireturn, 1) := by decide +kernel
theorem dX1_lineByte_69 : decode cX1_lineByte 69 = .ok (.iload_n 3, 1) := by decide +kernel
theorem dX1_lineByte_70 : decode cX1_lineByte 70 = .ok (.iload 7, 2) := by decide +kernel
theorem dX1_lineByte_72 : decode cX1_lineByte 72 = .ok (.isub, 1) := by decide +kernel
theorem dX1_lineByte_73 : decode cX1_lineByte 73 = .ok (.istore_n 3, 1) := by decide +kernel
theorem dX1_lineByte_74 : decode cX1_lineByte 74 = .ok (.iinc 4 1, 3) := by decide +kernel
theorem dX1_lineByte_77 : decode cX1_lineByte 77 = .ok (.goto (-60), 3) := by decide +kernel
theorem dX1_lineByte_80 : decode cX1_lineByte 80 = .ok (.aload_n 0, 1) := by decide +kernel
theorem dX1_lineByte_81 : decode cX1_lineByte 81 = .ok (.iload_n 1, 1) := by decide +kernel
theorem dX1_lineByte_82 : decode cX1_lineByte 82 = .ok (.invokevirtual 100, 3) := by decide +kernel
theorem dX1_lineByte_85 : decode cX1_lineByte 85 = .ok (.ifCond .eq 20, 3) := by decide +kernel
theorem dX1_lineByte_88 : decode cX1_lineByte 88 = .ok (.iload_n 3, 1) := by decide +kernel
theorem dX1_lineByte_89 : decode cX1_lineByte 89 = .ok (.iconst 2, 1) := by decide +kernel
theorem dX1_lineByte_90 : decode cX1_lineByte 90 = .ok (.if_icmp .ge 15, 3) := by decide +kernel
theorem dX1_lineByte_93 : decode cX1_lineByte 93 = .ok (.iload_n 3, 1) := by decide +kernel
theorem dX1_lineByte_94 : decode cX1_lineByte 94 = .ok (.ifCond .ne 8, 3) := by decide +kernel
theorem dX1_lineByte_97 : decode cX1_lineByte 97 = .ok (.bipush 32, 2) := by decide +kernel
theorem dX1_lineByte_99 : decode cX1_lineByte 99 = .ok (.goto 5, 3) := by decide +kernel
theorem dX1_lineByte_102 : decode cX1_lineByte 102 = .ok (.bipush 42, 2) := by decide +kernel
theorem dX1_lineByte_104 : decode cX1_lineByte 104 = .ok (.ireturn, 1) := by decide +kernel
theorem dX1_lineByte_105 : decode cX1_lineByte 105 = .ok (.bipush 10, 2) := by decide +kernel
theorem dX1_lineByte_107 : decode cX1_lineByte 107 = .ok (.ireturn, 1) := by decide +kernel
set_option maxRecDepth 20000 in
theorem ggX1_letterOf_X1_holds : GoodIn wsX1_letterOf wsX1_holds := goodIn_r _ [8, 9, 14, 15, 16, 17, 18, 19, 20] (by decide +kernel) (by decide +kernel)
set_option maxRecDepth 20000 in
theorem gX1_letterOf_X1_holds : GoodIn wsX1_letterOf (wsV RX1 41 RX1 yX1_holds wsX1_holds) := goodIn_app (goodIn_of _ (by decide +kernel)) ggX1_letterOf_X1_holds
set_option maxRecDepth 20000 in
theorem ggX1_letterOf_X1_isReading : GoodIn wsX1_letterOf wsX1_isReading := goodIn_r _ [13, 1, 4, 5, 6, 7, 8, 9, 14, 15, 16, 17, 18, 19, 20] (by decide +kernel) (by decide +kernel)
set_option maxRecDepth 20000 in
theorem gX1_letterOf_X1_isReading : GoodIn wsX1_letterOf (wsV RX1 45 RX1 yX1_isReading wsX1_isReading) := goodIn_app (goodIn_of _ (by decide +kernel)) ggX1_letterOf_X1_isReading
theorem dX1_letterOf_0 : decode cX1_letterOf 0 = .ok (.aload_n 0, 1) := by decide +kernel
theorem dX1_letterOf_1 : decode cX1_letterOf 1 = .ok (.iload_n 1, 1) := by decide +kernel
theorem dX1_letterOf_2 : decode cX1_letterOf 2 = .ok (.invokevirtual 41, 3) := by decide +kernel
theorem dX1_letterOf_5 : decode cX1_letterOf 5 = .ok (.ifCond .eq 11, 3) := by decide +kernel
theorem dX1_letterOf_8 : decode cX1_letterOf 8 = .ok (.aload_n 0, 1) := by decide +kernel
theorem dX1_letterOf_9 : decode cX1_letterOf 9 = .ok (.iload_n 1, 1) := by decide +kernel
theorem dX1_letterOf_10 : decode cX1_letterOf 10 = .ok (.invokevirtual 45, 3) := by decide +kernel
theorem dX1_letterOf_13 : decode cX1_letterOf 13 = .ok (.ifCond .eq 6, 3) := by decide +kernel
theorem dX1_letterOf_16 : decode cX1_letterOf 16 = .ok (.bipush 82, 2) := by decide +kernel
theorem dX1_letterOf_18 : decode cX1_letterOf 18 = .ok (.ireturn, 1) := by decide +kernel
theorem dX1_letterOf_19 : decode cX1_letterOf 19 = .ok (.aload_n 0, 1) := by decide +kernel
theorem dX1_letterOf_20 : decode cX1_letterOf 20 = .ok (.getfield 19, 3) := by decide +kernel
theorem dX1_letterOf_23 : decode cX1_letterOf 23 = .ok (.iload_n 1, 1) := by decide +kernel
theorem dX1_letterOf_24 : decode cX1_letterOf 24 = .ok (.laload, 1) := by decide +kernel
theorem dX1_letterOf_25 : decode cX1_letterOf 25 = .ok (.ldc2_w 65, 3) := by decide +kernel
theorem dX1_letterOf_28 : decode cX1_letterOf 28 = .ok (.lcmp, 1) := by decide +kernel
theorem dX1_letterOf_29 : decode cX1_letterOf 29 = .ok (.ifCond .ne 6, 3) := by decide +kernel
theorem dX1_letterOf_32 : decode cX1_letterOf 32 = .ok (.bipush 90, 2) := by decide +kernel
theorem dX1_letterOf_34 : decode cX1_letterOf 34 = .ok (.ireturn, 1) := by decide +kernel
theorem dX1_letterOf_35 : decode cX1_letterOf 35 = .ok (.aload_n 0, 1) := by decide +kernel
theorem dX1_letterOf_36 : decode cX1_letterOf 36 = .ok (.getfield 19, 3) := by decide +kernel
theorem dX1_letterOf_39 : decode cX1_letterOf 39 = .ok (.iload_n 1, 1) := by decide +kernel
theorem dX1_letterOf_40 : decode cX1_letterOf 40 = .ok (.laload, 1) := by decide +kernel
theorem dX1_letterOf_41 : decode cX1_letterOf 41 = .ok (.ldc2_w 111, 3) := by decide +kernel
theorem dX1_letterOf_44 : decode cX1_letterOf 44 = .ok (.lcmp, 1) := by decide +kernel
theorem dX1_letterOf_45 : decode cX1_letterOf 45 = .ok (.ifCond .ne 8, 3) := by decide +kernel
theorem dX1_letterOf_48 : decode cX1_letterOf 48 = .ok (.bipush 66, 2) := by decide +kernel
theorem dX1_letterOf_50 : decode cX1_letterOf 50 = .ok (.goto 5, 3) := by decide +kernel
theorem dX1_letterOf_53 : decode cX1_letterOf 53 = .ok (.bipush 83, 2) := by decide +kernel
theorem dX1_letterOf_55 : decode cX1_letterOf 55 = .ok (.ireturn, 1) := by decide +kernel
set_option maxRecDepth 20000 in
theorem ggX1_fieldCount_X1_isReading : GoodIn wsX1_fieldCount wsX1_isReading := goodIn_r _ [5, 6, 7, 8, 9, 4, 10, 11, 12, 13, 14, 15, 16, 17, 18] (by decide +kernel) (by decide +kernel)
set_option maxRecDepth 20000 in
theorem gX1_fieldCount_X1_isReading : GoodIn wsX1_fieldCount (wsV RX1 45 RX1 yX1_isReading wsX1_isReading) := goodIn_app (goodIn_of _ (by decide +kernel)) ggX1_fieldCount_X1_isReading
theorem dX1_fieldCount_0 : decode cX1_fieldCount 0 = .ok (.aload_n 0, 1) := by decide +kernel
theorem dX1_fieldCount_1 : decode cX1_fieldCount 1 = .ok (.iload_n 1, 1) := by decide +kernel
theorem dX1_fieldCount_2 : decode cX1_fieldCount 2 = .ok (.invokevirtual 45, 3) := by decide +kernel
theorem dX1_fieldCount_5 : decode cX1_fieldCount 5 = .ok (.ifCond .eq 7, 3) := by decide +kernel
theorem dX1_fieldCount_8 : decode cX1_fieldCount 8 = .ok (.iconst 3, 1) := by decide +kernel
theorem dX1_fieldCount_9 : decode cX1_fieldCount 9 = .ok (.goto 4, 3) := by decide +kernel
theorem dX1_fieldCount_12 : decode cX1_fieldCount 12 = .ok (.iconst 1, 1) := by decide +kernel
theorem dX1_fieldCount_13 : decode cX1_fieldCount 13 = .ok (.ireturn, 1) := by decide +kernel
set_option maxRecDepth 20000 in
theorem ggX1_fieldOf_X1_holds : GoodIn wsX1_fieldOf wsX1_holds := goodIn_r _ [8, 9, 10, 11, 12, 13, 14, 15, 16] (by decide +kernel) (by decide +kernel)
set_option maxRecDepth 20000 in
theorem gX1_fieldOf_X1_holds : GoodIn wsX1_fieldOf (wsV RX1 41 RX1 yX1_holds wsX1_holds) := goodIn_app (goodIn_of _ (by decide +kernel)) ggX1_fieldOf_X1_holds
theorem dX1_fieldOf_0 : decode cX1_fieldOf 0 = .ok (.aload_n 0, 1) := by decide +kernel
theorem dX1_fieldOf_1 : decode cX1_fieldOf 1 = .ok (.iload_n 1, 1) := by decide +kernel
theorem dX1_fieldOf_2 : decode cX1_fieldOf 2 = .ok (.invokevirtual 41, 3) := by decide +kernel
theorem dX1_fieldOf_5 : decode cX1_fieldOf 5 = .ok (.ifCond .ne 5, 3) := by decide +kernel
theorem dX1_fieldOf_8 : decode cX1_fieldOf 8 = .ok (.lconst 0, 1) := by decide +kernel
theorem dX1_fieldOf_9 : decode cX1_fieldOf 9 = .ok (.lreturn, 1) := by decide +kernel
theorem dX1_fieldOf_10 : decode cX1_fieldOf 10 = .ok (.iload_n 2, 1) := by decide +kernel
theorem dX1_fieldOf_11 : decode cX1_fieldOf 11 = .ok (.ifCond .ne 10, 3) := by decide +kernel
theorem dX1_fieldOf_14 : decode cX1_fieldOf 14 = .ok (.aload_n 0, 1) := by decide +kernel
theorem dX1_fieldOf_15 : decode cX1_fieldOf 15 = .ok (.getfield 15, 3) := by decide +kernel
theorem dX1_fieldOf_18 : decode cX1_fieldOf 18 = .ok (.iload_n 1, 1) := by decide +kernel
theorem dX1_fieldOf_19 : decode cX1_fieldOf 19 = .ok (.laload, 1) := by decide +kernel
theorem dX1_fieldOf_20 : decode cX1_fieldOf 20 = .ok (.lreturn, 1) := by decide +kernel
theorem dX1_fieldOf_21 : decode cX1_fieldOf 21 = .ok (.iload_n 2, 1) := by decide +kernel
theorem dX1_fieldOf_22 : decode cX1_fieldOf 22 = .ok (.iconst 1, 1) := by decide +kernel
theorem dX1_fieldOf_23 : decode cX1_fieldOf 23 = .ok (.if_icmp .ne 12, 3) := by decide +kernel
theorem dX1_fieldOf_26 : decode cX1_fieldOf 26 = .ok (.aload_n 0, 1) := by decide +kernel
theorem dX1_fieldOf_27 : decode cX1_fieldOf 27 = .ok (.getfield 19, 3) := by decide +kernel
theorem dX1_fieldOf_30 : decode cX1_fieldOf 30 = .ok (.iload_n 1, 1) := by decide +kernel
theorem dX1_fieldOf_31 : decode cX1_fieldOf 31 = .ok (.laload, 1) := by decide +kernel
theorem dX1_fieldOf_32 : decode cX1_fieldOf 32 = .ok (.goto 10, 3) := by decide +kernel
theorem dX1_fieldOf_35 : decode cX1_fieldOf 35 = .ok (.aload_n 0, 1) := by decide +kernel
theorem dX1_fieldOf_36 : decode cX1_fieldOf 36 = .ok (.getfield 22, 3) := by decide +kernel
theorem dX1_fieldOf_39 : decode cX1_fieldOf 39 = .ok (.iload_n 1, 1) := by decide +kernel
theorem dX1_fieldOf_40 : decode cX1_fieldOf 40 = .ok (.iaload, 1) := by decide +kernel
theorem dX1_fieldOf_41 : decode cX1_fieldOf 41 = .ok (.i2l, 1) := by decide +kernel
theorem dX1_fieldOf_42 : decode cX1_fieldOf 42 = .ok (.lreturn, 1) := by decide +kernel
theorem dX2_init_0 : decode cX2_init 0 = .ok (.aload_n 0, 1) := by decide +kernel
theorem dX2_init_1 : decode cX2_init 1 = .ok (.invokespecial 3, 3) := by decide +kernel
theorem dX2_init_4 : decode cX2_init 4 = .ok (.aload_n 0, 1) := by decide +kernel
