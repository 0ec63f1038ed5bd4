theorem dX4_litres_100 : decode cX4_litres 100 = .ok (.getfield 41, 3) := by decide +kernel
theorem dX4_litres_103 : decode cX4_litres 103 = .ok (.iload 5, 2) := by decide +kernel
theorem dX4_litres_105 : decode cX4_litres 105 = .ok (.laload, 1) := by decide +kernel
theorem dX4_litres_106 : decode cX4_litres 106 = .ok (.invokestatic 93, 3) := by decide +kernel
theorem dX4_litres_109 : decode cX4_litres 109 = .ok (.lstore 8, 2) := by decide +kernel
theorem dX4_litres_111 : decode cX4_litres 111 = .ok (.iload_n 3, 1) := by decide +kernel
theorem dX4_litres_112 : decode cX4_litres 112 = .ok (.ifCond .ne 11, 3) := by decide +kernel
theorem dX4_litres_115 : decode cX4_litres 115 = .ok (.lload 6, 2) := by decide +kernel
theorem dX4_litres_117 : decode cX4_litres 117 = .ok (.lload 8, 2) := by decide +kernel
theorem dX4_litres_119 : decode cX4_litres 119 = .ok (.ldiv, 1) := by decide +kernel
theorem dX4_litres_120 : decode cX4_litres 120 = .ok (.goto 13, 3) := by decide +kernel
theorem dX4_litres_123 : decode cX4_litres 123 = .ok (.aload_n 0, 1) := by decide +kernel
theorem dX4_litres_124 : decode cX4_litres 124 = .ok (.getfield 41, 3) := by decide +kernel
theorem dX4_litres_127 : decode cX4_litres 127 = .ok (.iload 5, 2) := by decide +kernel
theorem dX4_litres_129 : decode cX4_litres 129 = .ok (.laload, 1) := by decide +kernel
theorem dX4_litres_130 : decode cX4_litres 130 = .ok (.lload 8, 2) := by decide +kernel
theorem dX4_litres_132 : decode cX4_litres 132 = .ok (.ldiv, 1) := by decide +kernel
theorem dX4_litres_133 : decode cX4_litres 133 = .ok (.lreturn, 1) := by decide +kernel
set_option maxRecDepth 20000 in
theorem ggX4_rest_X4_isMeter : GoodIn wsX4_rest wsX4_isMeter := goodIn_r _ [15, 16, 23, 24, 25, 26, 27, 28, 29, 30, 31, 32, 33, 34, 35, 36, 37] (by decide +kernel) (by decide +kernel)
set_option maxRecDepth 20000 in
theorem gX4_rest_X4_isMeter : GoodIn wsX4_rest (wsV RX4 54 RX4 yX4_isMeter wsX4_isMeter) := goodIn_app (goodIn_of _ (by decide +kernel)) ggX4_rest_X4_isMeter
set_option maxRecDepth 20000 in
theorem ggX4_rest_X4_line : GoodIn wsX4_rest wsX4_line := goodIn_r _ [20, 21, 22, 23, 24, 25, 26, 27, 28, 29, 30, 31, 32, 33, 34, 35, 36, 37] (by decide +kernel) (by decide +kernel)
set_option maxRecDepth 20000 in
theorem gX4_rest_X4_line : GoodIn wsX4_rest (wsV RX4 89 RX4 yX4_line wsX4_line) := goodIn_app (goodIn_of _ (by decide +kernel)) ggX4_rest_X4_line
theorem dX4_rest_0 : decode cX4_rest 0 = .ok (.aload_n 0, 1) := by decide +kernel
theorem dX4_rest_1 : decode cX4_rest 1 = .ok (.iconst 0, 1) := by decide +kernel
theorem dX4_rest_2 : decode cX4_rest 2 = .ok (.putfield 47, 3) := by decide +kernel
theorem dX4_rest_5 : decode cX4_rest 5 = .ok (.aload_n 0, 1) := by decide +kernel
theorem dX4_rest_6 : decode cX4_rest 6 = .ok (.iload_n 1, 1) := by decide +kernel
theorem dX4_rest_7 : decode cX4_rest 7 = .ok (.invokevirtual 54, 3) := by decide +kernel
theorem dX4_rest_10 : decode cX4_rest 10 = .ok (.ifCond .eq 17, 3) := by decide +kernel
theorem dX4_rest_13 : decode cX4_rest 13 = .ok (.lload_n 2, 1) := by decide +kernel
theorem dX4_rest_14 : decode cX4_rest 14 = .ok (.lconst 0, 1) := by decide +kernel
theorem dX4_rest_15 : decode cX4_rest 15 = .ok (.lcmp, 1) := by decide +kernel
theorem dX4_rest_16 : decode cX4_rest 16 = .ok (.ifCond .lt 11, 3) := by decide +kernel
theorem dX4_rest_19 : decode cX4_rest 19 = .ok (.lload_n 2, 1) := by decide +kernel
theorem dX4_rest_20 : decode cX4_rest 20 = .ok (.ldc2_w 96, 3) := by decide +kernel
theorem dX4_rest_23 : decode cX4_rest 23 = .ok (.lcmp, 1) := by decide +kernel
theorem dX4_rest_24 : decode cX4_rest 24 = .ok (.ifCond .le 7, 3) := by decide +kernel
theorem dX4_rest_27 : decode cX4_rest 27 = .ok (.ldc2_w 100, 3) := by decide +kernel
theorem dX4_rest_30 : decode cX4_rest 30 = .ok (.lreturn, 1) := by decide +kernel
theorem dX4_rest_31 : decode cX4_rest 31 = .ok (.lconst 0, 1) := by decide +kernel
theorem dX4_rest_32 : decode cX4_rest 32 = .ok (.lstore 4, 2) := by decide +kernel
theorem dX4_rest_34 : decode cX4_rest 34 = .ok (.iload_n 1, 1) := by decide +kernel
theorem dX4_rest_35 : decode cX4_rest 35 = .ok (.sipush 200, 3) := by decide +kernel
theorem dX4_rest_38 : decode cX4_rest 38 = .ok (.imul, 1) := by decide +kernel
theorem dX4_rest_39 : decode cX4_rest 39 = .ok (.istore 6, 2) := by decide +kernel
theorem dX4_rest_41 : decode cX4_rest 41 = .ok (.iload 6, 2) := by decide +kernel
theorem dX4_rest_43 : decode cX4_rest 43 = .ok (.iload_n 1, 1) := by decide +kernel
theorem dX4_rest_44 : decode cX4_rest 44 = .ok (.sipush 200, 3) := by decide +kernel
theorem dX4_rest_47 : decode cX4_rest 47 = .ok (.imul, 1) := by decide +kernel
theorem dX4_rest_48 : decode cX4_rest 48 = .ok (.aload_n 0, 1) := by decide +kernel
theorem dX4_rest_49 : decode cX4_rest 49 = .ok (.getfield 13, 3) := by decide +kernel
theorem dX4_rest_52 : decode cX4_rest 52 = .ok (.iload_n 1, 1) := by decide +kernel
theorem dX4_rest_53 : decode cX4_rest 53 = .ok (.iaload, 1) := by decide +kernel
theorem dX4_rest_54 : decode cX4_rest 54 = .ok (.iadd, 1) := by decide +kernel
theorem dX4_rest_55 : decode cX4_rest 55 = .ok (.if_icmp .ge 65, 3) := by decide +kernel
theorem dX4_rest_58 : decode cX4_rest 58 = .ok (.aload_n 0, 1) := by decide +kernel
theorem dX4_rest_59 : decode cX4_rest 59 = .ok (.getfield 20, 3) := by decide +kernel
theorem dX4_rest_62 : decode cX4_rest 62 = .ok (.iload 6, 2) := by decide +kernel
theorem dX4_rest_64 : decode cX4_rest 64 = .ok (.iaload, 1) := by decide +kernel
theorem dX4_rest_65 : decode cX4_rest 65 = .ok (.ifCond .ne 49, 3) := by decide +kernel
theorem dX4_rest_68 : decode cX4_rest 68 = .ok (.aload_n 0, 1) := by decide +kernel
theorem dX4_rest_69 : decode cX4_rest 69 = .ok (.iload_n 1, 1) := by decide +kernel
theorem dX4_rest_70 : decode cX4_rest 70 = .ok (.aload_n 0, 1) := by decide +kernel
theorem dX4_rest_71 : decode cX4_rest 71 = .ok (.getfield 29, 3) := by decide +kernel
theorem dX4_rest_74 : decode cX4_rest 74 = .ok (.iload 6, 2) := by decide +kernel
theorem dX4_rest_76 : decode cX4_rest 76 = .ok (.iaload, 1) := by decide +kernel
theorem dX4_rest_77 : decode cX4_rest 77 = .ok (.invokevirtual 89, 3) := by decide +kernel
theorem dX4_rest_80 : decode cX4_rest 80 = .ok (.istore 7, 2) := by decide +kernel
theorem dX4_rest_82 : decode cX4_rest 82 = .ok (.lload 4, 2) := by decide +kernel
theorem dX4_rest_84 : decode cX4_rest 84 = .ok (.aload_n 0, 1) := by decide +kernel
theorem dX4_rest_85 : decode cX4_rest 85 = .ok (.getfield 23, 3) := by decide +kernel
theorem dX4_rest_88 : decode cX4_rest 88 = .ok (.iload 6, 2) := by decide +kernel
theorem dX4_rest_90 : decode cX4_rest 90 = .ok (.laload, 1) := by decide +kernel
theorem dX4_rest_91 : decode cX4_rest 91 = .ok (.aload_n 0, 1) := by decide +kernel
theorem dX4_rest_92 : decode cX4_rest 92 = .ok (.getfield 38, 3) := by decide +kernel
theorem dX4_rest_95 : decode cX4_rest 95 = .ok (.iload 7, 2) := by decide +kernel
theorem dX4_rest_97 : decode cX4_rest 97 = .ok (.laload, 1) := by decide +kernel
theorem dX4_rest_98 : decode cX4_rest 98 = .ok (.lmul, 1) := by decide +kernel
theorem dX4_rest_99 : decode cX4_rest 99 = .ok (.ldc2_w 102, 3) := by decide +kernel
theorem dX4_rest_102 : decode cX4_rest 102 = .ok (.lmul, 1) := by decide +kernel
theorem dX4_rest_103 : decode cX4_rest 103 = .ok (.aload_n 0, 1) := by decide +kernel
theorem dX4_rest_104 : decode cX4_rest 104 = .ok (.getfield 41, 3) := by decide +kernel
theorem dX4_rest_107 : decode cX4_rest 107 = .ok (.iload 7, 2) := by decide +kernel
theorem dX4_rest_109 : decode cX4_rest 109 = .ok (.laload, 1) := by decide +kernel
theorem dX4_rest_110 : decode cX4_rest 110 = .ok (.ldiv, 1) := by decide +kernel
theorem dX4_rest_111 : decode cX4_rest 111 = .ok (.ladd, 1) := by decide +kernel
theorem dX4_rest_112 : decode cX4_rest 112 = .ok (.lstore 4, 2) := by decide +kernel
theorem dX4_rest_114 : decode cX4_rest 114 = .ok (.iinc 6 1, 3) := by decide +kernel
theorem dX4_rest_117 : decode cX4_rest 117 = .ok (.goto (-76), 3) := by decide +kernel
theorem dX4_rest_120 : decode cX4_rest 120 = .ok (.lload 4, 2) := by decide +kernel
theorem dX4_rest_122 : decode cX4_rest 122 = .ok (.lload_n 2, 1) := by decide +kernel
theorem dX4_rest_123 : decode cX4_rest 123 = .ok (.ldc2_w 102, 3) := by decide +kernel
theorem dX4_rest_126 : decode cX4_rest 126 = .ok (.lmul, 1) := by decide +kernel
theorem dX4_rest_127 : decode cX4_rest 127 = .ok (.lsub, 1) := by decide +kernel
theorem dX4_rest_128 : decode cX4_rest 128 = .ok (.lreturn, 1) := by decide +kernel
set_option maxRecDepth 20000 in
theorem ggX4_rows_X4_isMeter : GoodIn wsX4_rows wsX4_isMeter := goodIn_r _ [7, 8, 9, 10, 11, 12, 13, 14, 15, 16, 17, 18, 19, 20, 21, 22, 23] (by decide +kernel) (by decide +kernel)
set_option maxRecDepth 20000 in
theorem gX4_rows_X4_isMeter : GoodIn wsX4_rows (wsV RX4 54 RX4 yX4_isMeter wsX4_isMeter) := goodIn_app (goodIn_of _ (by decide +kernel)) ggX4_rows_X4_isMeter
theorem dX4_rows_0 : decode cX4_rows 0 = .ok (.aload_n 0, 1) := by decide +kernel
theorem dX4_rows_1 : decode cX4_rows 1 = .ok (.iconst 0, 1) := by decide +kernel
theorem dX4_rows_2 : decode cX4_rows 2 = .ok (.putfield 47, 3) := by decide +kernel
theorem dX4_rows_5 : decode cX4_rows 5 = .ok (.aload_n 0, 1) := by decide +kernel
theorem dX4_rows_6 : decode cX4_rows 6 = .ok (.iload_n 1, 1) := by decide +kernel
theorem dX4_rows_7 : decode cX4_rows 7 = .ok (.invokevirtual 54, 3) := by decide +kernel
theorem dX4_rows_10 : decode cX4_rows 10 = .ok (.ifCond .eq 12, 3) := by decide +kernel
theorem dX4_rows_13 : decode cX4_rows 13 = .ok (.aload_n 0, 1) := by decide +kernel
theorem dX4_rows_14 : decode cX4_rows 14 = .ok (.getfield 13, 3) := by decide +kernel
theorem dX4_rows_17 : decode cX4_rows 17 = .ok (.iload_n 1, 1) := by decide +kernel
theorem dX4_rows_18 : decode cX4_rows 18 = .ok (.iaload, 1) := by decide +kernel
theorem dX4_rows_19 : decode cX4_rows 19 = .ok (.goto 4, 3) := by decide +kernel
theorem dX4_rows_22 : decode cX4_rows 22 = .ok (.iconst (-1), 1) := by decide +kernel
theorem dX4_rows_23 : decode cX4_rows 23 = .ok (.ireturn, 1) := by decide +kernel
set_option maxRecDepth 20000 in
theorem ggX4_check_X4_isMeter : GoodIn wsX4_check wsX4_isMeter := goodIn_r _ [8, 9, 24, 25, 26, 27, 28, 29, 30, 31, 32, 33, 34, 35, 36, 37, 38] (by decide +kernel) (by decide +kernel)
set_option maxRecDepth 20000 in
theorem gX4_check_X4_isMeter : GoodIn wsX4_check (wsV RX4 54 RX4 yX4_isMeter wsX4_isMeter) := goodIn_app (goodIn_of _ (by decide +kernel)) ggX4_check_X4_isMeter
set_option maxRecDepth 20000 in
theorem ggX4_check_X4_due : GoodIn wsX4_check wsX4_due := goodIn_r _ [13, 14, 15, 3, 16, 17, 18, 19, 20, 21, 7, 22, 23, 24, 25, 26, 27, 28, 29, 30, 31, 32, 33, 34, 35, 36, 37, 38] (by decide +kernel) (by decide +kernel)
set_option maxRecDepth 20000 in
theorem gX4_check_X4_due : GoodIn wsX4_check (wsV RX4 66 RX4 yX4_due wsX4_due) := goodIn_app (goodIn_of _ (by decide +kernel)) ggX4_check_X4_due
theorem dX4_check_0 : decode cX4_check 0 = .ok (.aload_n 0, 1) := by decide +kernel
theorem dX4_check_1 : decode cX4_check 1 = .ok (.iconst 0, 1) := by decide +kernel
theorem dX4_check_2 : decode cX4_check 2 = .ok (.putfield 47, 3) := by decide +kernel
theorem dX4_check_5 : decode cX4_check 5 = .ok (.aload_n 0, 1) := by decide +kernel
theorem dX4_check_6 : decode cX4_check 6 = .ok (.iload_n 1, 1) := by decide +kernel
theorem dX4_check_7 : decode cX4_check 7 = .ok (.invokevirtual 54, 3) := by decide +kernel
theorem dX4_check_10 : decode cX4_check 10 = .ok (.ifCond .eq 17, 3) := by decide +kernel
theorem dX4_check_13 : decode cX4_check 13 = .ok (.iload_n 2, 1) := by decide +kernel
theorem dX4_check_14 : decode cX4_check 14 = .ok (.ifCond .lt 13, 3) := by decide +kernel
theorem dX4_check_17 : decode cX4_check 17 = .ok (.iload_n 2, 1) := by decide +kernel
theorem dX4_check_18 : decode cX4_check 18 = .ok (.aload_n 0, 1) := by decide +kernel
theorem dX4_check_19 : decode cX4_check 19 = .ok (.getfield 13, 3) := by decide +kernel
theorem dX4_check_22 : decode cX4_check 22 = .ok (.iload_n 1, 1) := by decide +kernel
theorem dX4_check_23 : decode cX4_check 23 = .ok (.iaload, 1) := by decide +kernel
theorem dX4_check_24 : decode cX4_check 24 = .ok (.if_icmp .le 5, 3) := by decide +kernel
theorem dX4_check_27 : decode cX4_check 27 = .ok (.iconst (-1), 1) := by decide +kernel
theorem dX4_check_28 : decode cX4_check 28 = .ok (.ireturn, 1) := by decide +kernel
theorem dX4_check_29 : decode cX4_check 29 = .ok (.iload_n 2, 1) := by decide +kernel
theorem dX4_check_30 : decode cX4_check 30 = .ok (.istore_n 3, 1) := by decide +kernel
theorem dX4_check_31 : decode cX4_check 31 = .ok (.iload_n 3, 1) := by decide +kernel
theorem dX4_check_32 : decode cX4_check 32 = .ok (.aload_n 0, 1) := by decide +kernel
theorem dX4_check_33 : decode cX4_check 33 = .ok (.getfield 13, 3) := by decide +kernel
theorem dX4_check_36 : decode cX4_check 36 = .ok (.iload_n 1, 1) := by decide +kernel
theorem dX4_check_37 : decode cX4_check 37 = .ok (.iaload, 1) := by decide +kernel
theorem dX4_check_38 : decode cX4_check 38 = .ok (.if_icmp .ge 35, 3) := by decide +kernel
theorem dX4_check_41 : decode cX4_check 41 = .ok (.aload_n 0, 1) := by decide +kernel
theorem dX4_check_42 : decode cX4_check 42 = .ok (.getfield 32, 3) := by decide +kernel
theorem dX4_check_45 : decode cX4_check 45 = .ok (.iload_n 1, 1) := by decide +kernel
theorem dX4_check_46 : decode cX4_check 46 = .ok (.sipush 200, 3) := by decide +kernel
theorem dX4_check_49 : decode cX4_check 49 = .ok (.imul, 1) := by decide +kernel
theorem dX4_check_50 : decode cX4_check 50 = .ok (.iload_n 3, 1) := by decide +kernel
theorem dX4_check_51 : decode cX4_check 51 = .ok (.iadd, 1) := by decide +kernel
theorem dX4_check_52 : decode cX4_check 52 = .ok (.laload, 1) := by decide +kernel
theorem dX4_check_53 : decode cX4_check 53 = .ok (.aload_n 0, 1) := by decide +kernel
theorem dX4_check_54 : decode cX4_check 54 = .ok (.iload_n 1, 1) := by decide +kernel
theorem dX4_check_55 : decode cX4_check 55 = .ok (.iload_n 3, 1) := by decide +kernel
theorem dX4_check_56 : decode cX4_check 56 = .ok (.invokevirtual 66, 3) := by decide +kernel
theorem dX4_check_59 : decode cX4_check 59 = .ok (.lcmp, 1) := by decide +kernel
theorem dX4_check_60 : decode cX4_check 60 = .ok (.ifCond .eq 7, 3) := by decide +kernel
theorem dX4_check_63 : decode cX4_check 63 = .ok (.iload_n 3, 1) := by decide +kernel
theorem dX4_check_64 : decode cX4_check 64 = .ok (.iconst 1, 1) := by decide +kernel
theorem dX4_check_65 : decode cX4_check 65 = .ok (.iadd, 1) := by decide +kernel
theorem dX4_check_66 : decode cX4_check 66 = .ok (.ireturn, 1) := by decide +kernel
theorem dX4_check_67 : decode cX4_check 67 = .ok (.iinc 3 1, 3) := by decide +kernel
theorem dX4_check_70 : decode cX4_check 70 = .ok (.goto (-39), 3) := by decide +kernel
theorem dX4_check_73 : decode cX4_check 73 = .ok (.iconst 0, 1) := by decide +kernel
theorem dX4_check_74 : decode cX4_check 74 = .ok (.ireturn, 1) := by decide +kernel
set_option maxRecDepth 20000 in
theorem ggX4_poke_X4_isRow : GoodIn wsX4_poke wsX4_isRow := goodIn_r _ [10, 11, 12, 13, 14, 9, 15, 16, 17, 18, 19, 20, 21, 22, 23, 24, 25, 26, 27, 28, 29, 30, 31] (by decide +kernel) (by decide +kernel)
set_option maxRecDepth 20000 in
theorem gX4_poke_X4_isRow : GoodIn wsX4_poke (wsV RX4 86 RX4 yX4_isRow wsX4_isRow) := goodIn_app (goodIn_of _ (by decide +kernel)) ggX4_poke_X4_isRow
theorem dX4_poke_0 : decode cX4_poke 0 = .ok (.aload_n 0, 1) := by decide +kernel
theorem dX4_poke_1 : decode cX4_poke 1 = .ok (.iconst 0, 1) := by decide +kernel
theorem dX4_poke_2 : decode cX4_poke 2 = .ok (.putfield 47, 3) := by decide +kernel
theorem dX4_poke_5 : decode cX4_poke 5 = .ok (.aload_n 0, 1) := by decide +kernel
theorem dX4_poke_6 : decode cX4_poke 6 = .ok (.iload_n 1, 1) := by decide +kernel
theorem dX4_poke_7 : decode cX4_poke 7 = .ok (.iload_n 2, 1) := by decide +kernel
theorem dX4_poke_8 : decode cX4_poke 8 = .ok (.invokevirtual 86, 3) := by decide +kernel
theorem dX4_poke_11 : decode cX4_poke 11 = .ok (.ifCond .eq 34, 3) := by decide +kernel
theorem dX4_poke_14 : decode cX4_poke 14 = .ok (.aload_n 0, 1) := by decide +kernel
theorem dX4_poke_15 : decode cX4_poke 15 = .ok (.getfield 20, 3) := by decide +kernel
theorem dX4_poke_18 : decode cX4_poke 18 = .ok (.iload_n 1, 1) := by decide +kernel
theorem dX4_poke_19 : decode cX4_poke 19 = .ok (.sipush 200, 3) := by decide +kernel
theorem dX4_poke_22 : decode cX4_poke 22 = .ok (.imul, 1) := by decide +kernel
theorem dX4_poke_23 : decode cX4_poke 23 = .ok (.iload_n 2, 1) := by decide +kernel
theorem dX4_poke_24 : decode cX4_poke 24 = .ok (.iadd, 1) := by decide +kernel
theorem dX4_poke_25 : decode cX4_poke 25 = .ok (.iaload, 1) := by decide +kernel
theorem dX4_poke_26 : decode cX4_poke 26 = .ok (.ifCond .ne 19, 3) := by decide +kernel
theorem dX4_poke_29 : decode cX4_poke 29 = .ok (.lload_n 3, 1) := by decide +kernel
theorem dX4_poke_30 : decode cX4_poke 30 = .ok (.ldc2_w 104, 3) := by decide +kernel
theorem dX4_poke_33 : decode cX4_poke 33 = .ok (.lcmp, 1) := by decide +kernel
theorem dX4_poke_34 : decode cX4_poke 34 = .ok (.ifCond .lt 11, 3) := by decide +kernel
theorem dX4_poke_37 : decode cX4_poke 37 = .ok (.lload_n 3, 1) := by decide +kernel
theorem dX4_poke_38 : decode cX4_poke 38 = .ok (.ldc2_w 70, 3) := by decide +kernel
theorem dX4_poke_41 : decode cX4_poke 41 = .ok (.lcmp, 1) := by decide +kernel
theorem dX4_poke_42 : decode cX4_poke 42 = .ok (.ifCond .le 5, 3) := by decide +kernel
theorem dX4_poke_45 : decode cX4_poke 45 = .ok (.iconst 0, 1) := by decide +kernel
theorem dX4_poke_46 : decode cX4_poke 46 = .ok (.ireturn, 1) := by decide +kernel
theorem dX4_poke_47 : decode cX4_poke 47 = .ok (.aload_n 0, 1) := by decide +kernel
theorem dX4_poke_48 : decode cX4_poke 48 = .ok (.getfield 23, 3) := by decide +kernel
theorem dX4_poke_51 : decode cX4_poke 51 = .ok (.iload_n 1, 1) := by decide +kernel
theorem dX4_poke_52 : decode cX4_poke 52 = .ok (.sipush 200, 3) := by decide +kernel
theorem dX4_poke_55 : decode cX4_poke 55 = .ok (.imul, 1) := by decide +kernel
theorem dX4_poke_56 : decode cX4_poke 56 = .ok (.iload_n 2, 1) := by decide +kernel
theorem dX4_poke_57 : decode cX4_poke 57 = .ok (.iadd, 1) := by decide +kernel
theorem dX4_poke_58 : decode cX4_poke 58 = .ok (.laload, 1) := by decide +kernel
theorem dX4_poke_59 : decode cX4_poke 59 = .ok (.lload_n 3, 1) := by decide +kernel
theorem dX4_poke_60 : decode cX4_poke 60 = .ok (.ladd, 1) := by decide +kernel
theorem dX4_poke_61 : decode cX4_poke 61 = .ok (.lstore 5, 2) := by decide +kernel
theorem dX4_poke_63 : decode cX4_poke 63 = .ok (.lload 5, 2) := by decide +kernel
theorem dX4_poke_65 : decode cX4_poke 65 = .ok (.lconst 0, 1) := by decide +kernel
theorem dX4_poke_66 : decode cX4_poke 66 = .ok (.lcmp, 1) := by decide +kernel
theorem dX4_poke_67 : decode cX4_poke 67 = .ok (.ifCond .lt 12, 3) := by decide +kernel
theorem dX4_poke_70 : decode cX4_poke 70 = .ok (.lload 5, 2) := by decide +kernel
theorem dX4_poke_72 : decode cX4_poke 72 = .ok (.ldc2_w 70, 3) := by decide +kernel
theorem dX4_poke_75 : decode cX4_poke 75 = .ok (.lcmp, 1) := by decide +kernel
theorem dX4_poke_76 : decode cX4_poke 76 = .ok (.ifCond .le 5, 3) := by decide +kernel
theorem dX4_poke_79 : decode cX4_poke 79 = .ok (.iconst 0, 1) := by decide +kernel
theorem dX4_poke_80 : decode cX4_poke 80 = .ok (.ireturn, 1) := by decide +kernel
theorem dX4_poke_81 : decode cX4_poke 81 = .ok (.aload_n 0, 1) := by decide +kernel
theorem dX4_poke_82 : decode cX4_poke 82 = .ok (.getfield 23, 3) := by decide +kernel
theorem dX4_poke_85 : decode cX4_poke 85 = .ok (.iload_n 1, 1) := by decide +kernel
theorem dX4_poke_86 : decode cX4_poke 86 = .ok (.sipush 200, 3) := by decide +kernel
theorem dX4_poke_89 : decode cX4_poke 89 = .ok (.imul, 1) := by decide +kernel
theorem dX4_poke_90 : decode cX4_poke 90 = .ok (.iload_n 2, 1) := by decide +kernel
theorem dX4_poke_91 : decode cX4_poke 91 = .ok (.iadd, 1) := by decide +kernel
theorem dX4_poke_92 : decode cX4_poke 92 = .ok (.lload 5, 2) := by decide +kernel
theorem dX4_poke_94 : decode cX4_poke 94 = .ok (.lastore, 1) := by decide +kernel
theorem dX4_poke_95 : decode cX4_poke 95 = .ok (.iconst 1, 1) := by decide +kernel
theorem dX4_poke_96 : decode cX4_poke 96 = .ok (.ireturn, 1) := by decide +kernel
set_option maxRecDepth 20000 in
theorem ggX4_isMarked_X4_isSet : GoodIn wsX4_isMarked wsX4_isSet := goodIn_r _ [6, 1, 7, 8, 9, 10, 11, 12, 13, 14, 15, 16, 17, 18, 19, 20, 21] (by decide +kernel) (by decide +kernel)
set_option maxRecDepth 20000 in
theorem gX4_isMarked_X4_isSet : GoodIn wsX4_isMarked (wsV RX4 78 RX4 yX4_isSet wsX4_isSet) := goodIn_app (goodIn_of _ (by decide +kernel)) ggX4_isMarked_X4_isSet
theorem dX4_isMarked_0 : decode cX4_isMarked 0 = .ok (.aload_n 0, 1) := by decide +kernel
theorem dX4_isMarked_1 : decode cX4_isMarked 1 = .ok (.getfield 20, 3) := by decide +kernel
theorem dX4_isMarked_4 : decode cX4_isMarked 4 = .ok (.iload_n 1, 1) := by decide +kernel
theorem dX4_isMarked_5 : decode cX4_isMarked 5 = .ok (.sipush 200, 3) := by decide +kernel
theorem dX4_isMarked_8 : decode cX4_isMarked 8 = .ok (.imul, 1) := by decide +kernel
theorem dX4_isMarked_9 : decode cX4_isMarked 9 = .ok (.iload_n 2, 1) := by decide +kernel
theorem dX4_isMarked_10 : decode cX4_isMarked 10 = .ok (.iadd, 1) := by decide +kernel
theorem dX4_isMarked_11 : decode cX4_isMarked 11 = .ok (.iaload, 1) := by decide +kernel
theorem dX4_isMarked_12 : decode cX4_isMarked 12 = .ok (.istore_n 3, 1) := by decide +kernel
theorem dX4_isMarked_13 : decode cX4_isMarked 13 = .ok (.iload_n 3, 1) := by decide +kernel
theorem dX4_isMarked_14 : decode cX4_isMarked 14 = .ok (.iconst 2, 1) := by decide +kernel
theorem dX4_isMarked_15 : decode cX4_isMarked 15 = .ok (.if_icmp .eq 17, 3) := by decide +kernel
theorem dX4_isMarked_18 : decode cX4_isMarked 18 = .ok (.iload_n 3, 1) := by decide +kernel
theorem dX4_isMarked_19 : decode cX4_isMarked 19 = .ok (.iconst 3, 1) := by decide +kernel
theorem dX4_isMarked_20 : decode cX4_isMarked 20 = .ok (.if_icmp .eq 12, 3) := by decide +kernel
theorem dX4_isMarked_23 : decode cX4_isMarked 23 = .ok (.aload_n 0, 1) := by decide +kernel
theorem dX4_isMarked_24 : decode cX4_isMarked 24 = .ok (.iload_n 1, 1) := by decide +kernel
theorem dX4_isMarked_25 : decode cX4_isMarked 25 = .ok (.iload_n 2, 1) := by decide +kernel
theorem dX4_isMarked_26 : decode cX4_isMarked 26 = .ok (.invokevirtual 78, 3) := by decide +kernel
theorem dX4_isMarked_29 : decode cX4_isMarked 29 = .ok (.ifCond .ne 7, 3) := by decide +kernel
theorem dX4_isMarked_32 : decode cX4_isMarked 32 = .ok (.iconst 1, 1) := by decide +kernel
theorem dX4_isMarked_33 : decode cX4_isMarked 33 = .ok (.goto 4, 3) := by decide +kernel
theorem dX4_isMarked_36 : decode cX4_isMarked 36 = .ok (.iconst 0, 1) := by decide +kernel
theorem dX4_isMarked_37 : decode cX4_isMarked 37 = .ok (.ireturn, 1) := by decide +kernel
set_option maxRecDepth 20000 in
theorem ggX4_marked_X4_isRow : GoodIn wsX4_marked wsX4_isRow := goodIn_r _ [6, 7, 8, 9, 10, 5, 11, 12, 22, 23, 24, 25, 26, 27, 28, 29, 30, 31, 32, 33, 34, 35, 36] (by decide +kernel) (by decide +kernel)
set_option maxRecDepth 20000 in
theorem gX4_marked_X4_isRow : GoodIn wsX4_marked (wsV RX4 86 RX4 yX4_isRow wsX4_isRow) := goodIn_app (goodIn_of _ (by decide +kernel)) ggX4_marked_X4_isRow
set_option maxRecDepth 20000 in
theorem ggX4_marked_X4_isMarked : GoodIn wsX4_marked wsX4_isMarked := goodIn_r _ [16, 17, 18, 19, 20, 5, 21, 22, 23, 24, 25, 26, 27, 28, 29, 30, 31, 32, 33, 34, 35, 36] (by decide +kernel) (by decide +kernel)
set_option maxRecDepth 20000 in
theorem gX4_marked_X4_isMarked : GoodIn wsX4_marked (wsV RX4 106 RX4 yX4_isMarked wsX4_isMarked) := goodIn_app (goodIn_of _ (by decide +kernel)) ggX4_marked_X4_isMarked
theorem dX4_marked_0 : decode cX4_marked 0 = .ok (.aload_n 0, 1) := by decide +kernel
theorem dX4_marked_1 : decode cX4_marked 1 = .ok (.iconst 0, 1) := by decide +kernel
theorem dX4_marked_2 : decode cX4_marked 2 = .ok (.putfield 47, 3) := by decide +kernel
theorem dX4_marked_5 : decode cX4_marked 5 = .ok (.aload_n 0, 1) := by decide +kernel
theorem dX4_marked_6 : decode cX4_marked 6 = .ok (.iload_n 1, 1) := by decide +kernel
theorem dX4_marked_7 : decode cX4_marked 7 = .ok (.iload_n 2, 1) := by decide +kernel
theorem dX4_marked_8 : decode cX4_marked 8 = .ok (.invokevirtual 86, 3) := by decide +kernel
theorem dX4_marked_11 : decode cX4_marked 11 = .ok (.ifCond .eq 16, 3) := by decide +kernel
theorem dX4_marked_14 : decode cX4_marked 14 = .ok (.aload_n 0, 1) := by decide +kernel
theorem dX4_marked_15 : decode cX4_marked 15 = .ok (.iload_n 1, 1) := by decide +kernel
theorem dX4_marked_16 : decode cX4_marked 16 = .ok (.iload_n 2, 1) := by decide +kernel
theorem dX4_marked_17 : decode cX4_marked 17 = .ok (.invokevirtual 106, 3) := by decide +kernel
theorem dX4_marked_20 : decode cX4_marked 20 = .ok (.ifCond .eq 7, 3) := by decide +kernel
theorem dX4_marked_23 : decode cX4_marked 23 = .ok (.iconst 1, 1) := by decide +kernel
theorem dX4_marked_24 : decode cX4_marked 24 = .ok (.goto 4, 3) := by decide +kernel
theorem dX4_marked_27 : decode cX4_marked 27 = .ok (.iconst 0, 1) := by decide +kernel
theorem dX4_marked_28 : decode cX4_marked 28 = .ok (.ireturn, 1) := by decide +kernel
set_option maxRecDepth 20000 in
theorem ggX4_gap_X4_isMeter : GoodIn wsX4_gap wsX4_isMeter := goodIn_r _ [12, 13, 14, 15, 16, 17, 18, 19, 20, 21, 22, 23, 24, 25, 26, 27, 28] (by decide +kernel) (by decide +kernel)
set_option maxRecDepth 20000 in
theorem gX4_gap_X4_isMeter : GoodIn wsX4_gap (wsV RX4 54 RX4 yX4_isMeter wsX4_isMeter) := goodIn_app (goodIn_of _ (by decide +kernel)) ggX4_gap_X4_isMeter
theorem dX4_gap_0 : decode cX4_gap 0 = .ok (.aload_n 0, 1) := by decide +kernel
theorem dX4_gap_1 : decode cX4_gap 1 = .ok (.iconst 0, 1) := by decide +kernel
theorem dX4_gap_2 : decode cX4_gap 2 = .ok (.putfield 47, 3) := by decide +kernel
theorem dX4_gap_5 : decode cX4_gap 5 = .ok (.aload_n 0, 1) := by decide +kernel
theorem dX4_gap_6 : decode cX4_gap 6 = .ok (.iload_n 1, 1) := by decide +kernel
theorem dX4_gap_7 : decode cX4_gap 7 = .ok (.invokevirtual 54, 3) := by decide +kernel
theorem dX4_gap_10 : decode cX4_gap 10 = .ok (.ifCond .eq 16, 3) := by decide +kernel
theorem dX4_gap_13 : decode cX4_gap 13 = .ok (.iload_n 2, 1) := by decide +kernel
theorem dX4_gap_14 : decode cX4_gap 14 = .ok (.ifCond .lt 12, 3) := by decide +kernel
theorem dX4_gap_17 : decode cX4_gap 17 = .ok (.iload_n 3, 1) := by decide +kernel
theorem dX4_gap_18 : decode cX4_gap 18 = .ok (.ifCond .lt 8, 3) := by decide +kernel
theorem dX4_gap_21 : decode cX4_gap 21 = .ok (.iload_n 3, 1) := by decide +kernel
theorem dX4_gap_22 : decode cX4_gap 22 = .ok (.iconst 1, 1) := by decide +kernel
theorem dX4_gap_23 : decode cX4_gap 23 = .ok (.if_icmp .le 5, 3) := by decide +kernel
theorem dX4_gap_26 : decode cX4_gap 26 = .ok (.iconst (-1), 1) := by decide +kernel
theorem dX4_gap_27 : decode cX4_gap 27 = .ok (.ireturn, 1) := by decide +kernel
theorem dX4_gap_28 : decode cX4_gap 28 = .ok (.iconst (-1), 1) := by decide +kernel
theorem dX4_gap_29 : decode cX4_gap 29 = .ok (.istore 4, 2) := by decide +kernel
theorem dX4_gap_31 : decode cX4_gap 31 = .ok (.iconst 0, 1) := by decide +kernel
theorem dX4_gap_32 : decode cX4_gap 32 = .ok (.istore 5, 2) := by decide +kernel
theorem dX4_gap_34 : decode cX4_gap 34 = .ok (.iconst 0, 1) := by decide +kernel
theorem dX4_gap_35 : decode cX4_gap 35 = .ok (.istore 6, 2) := by decide +kernel
theorem dX4_gap_37 : decode cX4_gap 37 = .ok (.iload 6, 2) := by decide +kernel
theorem dX4_gap_39 : decode cX4_gap 39 = .ok (.aload_n 0, 1) := by decide +kernel
theorem dX4_gap_40 : decode cX4_gap 40 = .ok (.getfield 13, 3) := by decide +kernel
theorem dX4_gap_43 : decode cX4_gap 43 = .ok (.iload_n 1, 1) := by decide +kernel
theorem dX4_gap_44 : decode cX4_gap 44 = .ok (.iaload, 1) := by decide +kernel
theorem dX4_gap_45 : decode cX4_gap 45 = .ok (.if_icmp .ge 114, 3) := by decide +kernel
theorem dX4_gap_48 : decode cX4_gap 48 = .ok (.iload_n 1, 1) := by decide +kernel
theorem dX4_gap_49 : decode cX4_gap 49 = .ok (.sipush 200, 3) := by decide +kernel
theorem dX4_gap_52 : decode cX4_gap 52 = .ok (.imul, 1) := by decide +kernel
theorem dX4_gap_53 : decode cX4_gap 53 = .ok (.iload 6, 2) := by decide +kernel
theorem dX4_gap_55 : decode cX4_gap 55 = .ok (.iadd, 1) := by decide +kernel
theorem dX4_gap_56 : decode cX4_gap 56 = .ok (.istore 7, 2) := by decide +kernel
theorem dX4_gap_58 : decode cX4_gap 58 = .ok (.aload_n 0, 1) := by decide +kernel
theorem dX4_gap_59 : decode cX4_gap 59 = .ok (.getfield 20, 3) := by decide +kernel
theorem dX4_gap_62 : decode cX4_gap 62 = .ok (.iload 7, 2) := by decide +kernel
theorem dX4_gap_64 : decode cX4_gap 64 = .ok (.iaload, 1) := by decide +kernel
theorem dX4_gap_65 : decode cX4_gap 65 = .ok (.ifCond .ne 88, 3) := by decide +kernel
theorem dX4_gap_68 : decode cX4_gap 68 = .ok (.iload 4, 2) := by decide +kernel
theorem dX4_gap_70 : decode cX4_gap 70 = .ok (.iconst (-1), 1) := by decide +kernel
theorem dX4_gap_71 : decode cX4_gap 71 = .ok (.if_icmp .ne 7, 3) := by decide +kernel
theorem dX4_gap_74 : decode cX4_gap 74 = .ok (.lconst 0, 1) := by decide +kernel
theorem dX4_gap_75 : decode cX4_gap 75 = .ok (.goto 18, 3) := by decide +kernel
theorem dX4_gap_78 : decode cX4_gap 78 = .ok (.aload_n 0, 1) := by decide +kernel
theorem dX4_gap_79 : decode cX4_gap 79 = .ok (.getfield 26, 3) := by decide +kernel
theorem dX4_gap_82 : decode cX4_gap 82 = .ok (.iload 7, 2) := by decide +kernel
theorem dX4_gap_84 : decode cX4_gap 84 = .ok (.laload, 1) := by decide +kernel
theorem dX4_gap_85 : decode cX4_gap 85 = .ok (.aload_n 0, 1) := by decide +kernel
theorem dX4_gap_86 : decode cX4_gap 86 = .ok (.getfield 26, 3) := by decide +kernel
theorem dX4_gap_89 : decode cX4_gap 89 = .ok (.iload 4, 2) := by decide +kernel
theorem dX4_gap_91 : decode cX4_gap 91 = .ok (.laload, 1) := by decide +kernel
theorem dX4_gap_92 : decode cX4_gap 92 = .ok (.lsub, 1) := by decide +kernel
theorem dX4_gap_93 : decode cX4_gap 93 = .ok (.lstore 8, 2) := by decide +kernel
theorem dX4_gap_95 : decode cX4_gap 95 = .ok (.lload 8, 2) := by decide +kernel
theorem dX4_gap_97 : decode cX4_gap 97 = .ok (.ldc2_w 109, 3) := by decide +kernel
theorem dX4_gap_100 : decode cX4_gap 100 = .ok (.lcmp, 1) := by decide +kernel
theorem dX4_gap_101 : decode cX4_gap 101 = .ok (.ifCond .le 48, 3) := by decide +kernel
theorem dX4_gap_104 : decode cX4_gap 104 = .ok (.iload 5, 2) := by decide +kernel
theorem dX4_gap_106 : decode cX4_gap 106 = .ok (.iload_n 2, 1) := by decide +kernel
theorem dX4_gap_107 : decode cX4_gap 107 = .ok (.if_icmp .ne 39, 3) := by decide +kernel
theorem dX4_gap_110 : decode cX4_gap 110 = .ok (.iload_n 3, 1) := by decide +kernel
theorem dX4_gap_111 : decode cX4_gap 111 = .ok (.ifCond .ne 8, 3) := by decide +kernel
theorem dX4_gap_114 : decode cX4_gap 114 = .ok (.iload 6, 2) := by decide +kernel
theorem dX4_gap_116 : decode cX4_gap 116 = .ok (.goto 29, 3) := by decide +kernel
theorem dX4_gap_119 : decode cX4_gap 119 = .ok (.lload 8, 2) := by decide +kernel
theorem dX4_gap_121 : decode cX4_gap 121 = .ok (.ldc2_w 111, 3) := by decide +kernel
theorem dX4_gap_124 : decode cX4_gap 124 = .ok (.ldiv, 1) := by decide +kernel
theorem dX4_gap_125 : decode cX4_gap 125 = .ok (.ldc2_w 113, 3) := by decide +kernel
theorem dX4_gap_128 : decode cX4_gap 128 = .ok (.lcmp, 1) := by decide +kernel
theorem dX4_gap_129 : decode cX4_gap 129 = .ok (.ifCond .ge 12, 3) := by decide +kernel
theorem dX4_gap_132 : decode cX4_gap 132 = .ok (.lload 8, 2) := by decide +kernel
theorem dX4_gap_134 : decode cX4_gap 134 = .ok (.ldc2_w 111, 3) := by decide +kernel
theorem dX4_gap_137 : decode cX4_gap 137 = .ok (.ldiv, 1) := by decide +kernel
theorem dX4_gap_138 : decode cX4_gap 138 = .ok (.goto 6, 3) := by decide +kernel
theorem dX4_gap_141 : decode cX4_gap 141 = .ok (.ldc2_w 113, 3) := by decide +kernel
theorem dX4_gap_144 : decode cX4_gap 144 = .ok (.l2i, 1) := by decide +kernel
theorem dX4_gap_145 : decode cX4_gap 145 = .ok (.ireturn, 1) := by decide +kernel
theorem dX4_gap_146 : decode cX4_gap 146 = .ok (.iinc 5 1, 3) := by decide +kernel
theorem dX4_gap_149 : decode cX4_gap 149 = .ok (.iload 7, 2) := by decide +kernel
theorem dX4_gap_151 : decode cX4_gap 151 = .ok (.istore 4, 2) := by decide +kernel
theorem dX4_gap_153 : decode cX4_gap 153 = .ok (.iinc 6 1, 3) := by decide +kernel
theorem dX4_gap_156 : decode cX4_gap 156 = .ok (.goto (-119), 3) := by decide +kernel
theorem dX4_gap_159 : decode cX4_gap 159 = .ok (.iconst (-1), 1) := by decide +kernel
theorem dX4_gap_160 : decode cX4_gap 160 = .ok (.ireturn, 1) := by decide +kernel
theorem dX4_put_0 : decode cX4_put 0 = .ok (.aload_n 0, 1) := by decide +kernel
theorem dX4_put_1 : decode cX4_put 1 = .ok (.getfield 44, 3) := by decide +kernel
theorem dX4_put_4 : decode cX4_put 4 = .ok (.aload_n 0, 1) := by decide +kernel
theorem dX4_put_5 : decode cX4_put 5 = .ok (.getfield 115, 3) := by decide +kernel
theorem dX4_put_8 : decode cX4_put 8 = .ok (.iload_n 1, 1) := by decide +kernel
theorem dX4_put_9 : decode cX4_put 9 = .ok (.iastore, 1) := by decide +kernel
theorem dX4_put_10 : decode cX4_put 10 = .ok (.aload_n 0, 1) := by decide +kernel
theorem dX4_put_11 : decode cX4_put 11 = .ok (.dup, 1) := by decide +kernel
theorem dX4_put_12 : decode cX4_put 12 = .ok (.getfield 115, 3) := by decide +kernel
theorem dX4_put_15 : decode cX4_put 15 = .ok (.iconst 1, 1) := by decide +kernel
theorem dX4_put_16 : decode cX4_put 16 = .ok (.iadd, 1) := by decide +kernel
theorem dX4_put_17 : decode cX4_put 17 = .ok (.putfield 115, 3) := by decide +kernel
theorem dX4_put_20 : decode cX4_put 20 = .ok (.return_, 1) := by decide +kernel
set_option maxRecDepth 20000 in
theorem ggX4_say_X4_put : GoodIn wsX4_say wsX4_put := goodIn_r _ [8, 9, 10, 11, 12, 13, 14, 15, 16, 17, 18, 19, 20, 21, 22, 23, 24, 25] (by decide +kernel) (by decide +kernel)
set_option maxRecDepth 20000 in
theorem gX4_say_X4_put : GoodIn wsX4_say (wsV RX4 118 RX4 yX4_put wsX4_put) := goodIn_app (goodIn_of _ (by decide +kernel)) ggX4_say_X4_put
theorem dX4_say_0 : decode cX4_say 0 = .ok (.aload_n 0, 1) := by decide +kernel
theorem dX4_say_1 : decode cX4_say 1 = .ok (.bipush 32, 2) := by decide +kernel
theorem dX4_say_3 : decode cX4_say 3 = .ok (.invokevirtual 118, 3) := by decide +kernel
theorem dX4_say_6 : decode cX4_say 6 = .ok (.lload_n 1, 1) := by decide +kernel
theorem dX4_say_7 : decode cX4_say 7 = .ok (.lconst 0, 1) := by decide +kernel
theorem dX4_say_8 : decode cX4_say 8 = .ok (.lcmp, 1) := by decide +kernel
theorem dX4_say_9 : decode cX4_say 9 = .ok (.ifCond .ge 8, 3) := by decide +kernel
theorem dX4_say_12 : decode cX4_say 12 = .ok (.lload_n 1, 1) := by decide +kernel
theorem dX4_say_13 : decode cX4_say 13 = .ok (.lneg, 1) := by decide +kernel
theorem dX4_say_14 : decode cX4_say 14 = .ok (.goto 4, 3) := by decide +kernel
theorem dX4_say_17 : decode cX4_say 17 = .ok (.lload_n 1, 1) := by decide +kernel
theorem dX4_say_18 : decode cX4_say 18 = .ok (.lstore_n 3, 1) := by decide +kernel
theorem dX4_say_19 : decode cX4_say 19 = .ok (.lload_n 1, 1) := by decide +kernel
theorem dX4_say_20 : decode cX4_say 20 = .ok (.lconst 0, 1) := by decide +kernel
theorem dX4_say_21 : decode cX4_say 21 = .ok (.lcmp, 1) := by decide +kernel
theorem dX4_say_22 : decode cX4_say 22 = .ok (.ifCond .ge 9, 3) := by decide +kernel
theorem dX4_say_25 : decode cX4_say 25 = .ok (.aload_n 0, 1) := by decide +kernel
theorem dX4_say_26 : decode cX4_say 26 = .ok (.bipush 45, 2) := by decide +kernel
theorem dX4_say_28 : decode cX4_say 28 = .ok (.invokevirtual 118, 3) := by decide +kernel
theorem dX4_say_31 : decode cX4_say 31 = .ok (.lconst 1, 1) := by decide +kernel
theorem dX4_say_32 : decode cX4_say 32 = .ok (.lstore 5, 2) := by decide +kernel
theorem dX4_say_34 : decode cX4_say 34 = .ok (.lload_n 3, 1) := by decide +kernel
theorem dX4_say_35 : decode cX4_say 35 = .ok (.lload 5, 2) := by decide +kernel
theorem dX4_say_37 : decode cX4_say 37 = .ok (.ldiv, 1) := by decide +kernel
theorem dX4_say_38 : decode cX4_say 38 = .ok (.ldc2_w 122, 3) := by decide +kernel
theorem dX4_say_41 : decode cX4_say 41 = .ok (.lcmp, 1) := by decide +kernel
theorem dX4_say_42 : decode cX4_say 42 = .ok (.ifCond .le 14, 3) := by decide +kernel
theorem dX4_say_45 : decode cX4_say 45 = .ok (.lload 5, 2) := by decide +kernel
theorem dX4_say_47 : decode cX4_say 47 = .ok (.ldc2_w 124, 3) := by decide +kernel
theorem dX4_say_50 : decode cX4_say 50 = .ok (.lmul, 1) := by decide +kernel
theorem dX4_say_51 : decode cX4_say 51 = .ok (.lstore 5, 2) := by decide +kernel
theorem dX4_say_53 : decode cX4_say 53 = .ok (.goto (-19), 3) := by decide +kernel
theorem dX4_say_56 : decode cX4_say 56 = .ok (.lload 5, 2) := by decide +kernel
theorem dX4_say_58 : decode cX4_say 58 = .ok (.lconst 0, 1) := by decide +kernel
theorem dX4_say_59 : decode cX4_say 59 = .ok (.lcmp, 1) := by decide +kernel
theorem dX4_say_60 : decode cX4_say 60 = .ok (.ifCond .le 31, 3) := by decide +kernel
theorem dX4_say_63 : decode cX4_say 63 = .ok (.aload_n 0, 1) := by decide +kernel
theorem dX4_say_64 : decode cX4_say 64 = .ok (.ldc2_w 126, 3) := by decide +kernel
theorem dX4_say_67 : decode cX4_say 67 = .ok (.lload_n 3, 1) := by decide +kernel
theorem dX4_say_68 : decode cX4_say 68 = .ok (.lload 5, 2) := by decide +kernel
theorem dX4_say_70 : decode cX4_say 70 = .ok (.ldiv, 1) := by decide +kernel
theorem dX4_say_71 : decode cX4_say 71 = .ok (.ldc2_w 124, 3) := by decide +kernel
theorem dX4_say_74 : decode cX4_say 74 = .ok (.lrem, 1) := by decide +kernel
theorem dX4_say_75 : decode cX4_say 75 = .ok (.ladd, 1) := by decide +kernel
theorem dX4_say_76 : decode cX4_say 76 = .ok (.l2i, 1) := by decide +kernel
theorem dX4_say_77 : decode cX4_say 77 = .ok (.invokevirtual 118, 3) := by decide +kernel
theorem dX4_say_80 : decode cX4_say 80 = .ok (.lload 5, 2) := by decide +kernel
theorem dX4_say_82 : decode cX4_say 82 = .ok (.ldc2_w 124, 3) := by decide +kernel
theorem dX4_say_85 : decode cX4_say 85 = .ok (.ldiv, 1) := by decide +kernel
theorem dX4_say_86 : decode cX4_say 86 = .ok (.lstore 5, 2) := by decide +kernel
theorem dX4_say_88 : decode cX4_say 88 = .ok (.goto (-32), 3) := by decide +kernel
theorem dX4_say_91 : decode cX4_say 91 = .ok (.return_, 1) := by decide +kernel
set_option maxRecDepth 20000 in
theorem ggX4_print_X4_put : GoodIn wsX4_print wsX4_put := goodIn_r _ [10, 11, 1, 27, 28, 29, 30, 31, 32, 33, 34, 35, 36, 37, 38, 39, 40, 41] (by decide +kernel) (by decide +kernel)
set_option maxRecDepth 20000 in
theorem gX4_print_X4_put : GoodIn wsX4_print (wsV RX4 118 RX4 yX4_put wsX4_put) := goodIn_app (goodIn_of _ (by decide +kernel)) ggX4_print_X4_put
set_option maxRecDepth 20000 in
theorem ggX4_print_X4_say : GoodIn wsX4_print wsX4_say := goodIn_r _ [15, 16, 17, 18, 6, 7, 8, 9, 10, 11, 1, 27, 28, 29, 30, 31, 32, 33, 34, 35, 36, 37, 38, 39, 40, 41] (by decide +kernel) (by decide +kernel)
set_option maxRecDepth 20000 in
theorem gX4_print_X4_say : GoodIn wsX4_print (wsV RX4 128 RX4 yX4_say wsX4_say) := goodIn_app (goodIn_of _ (by decide +kernel)) ggX4_print_X4_say
set_option maxRecDepth 20000 in
theorem ggX4_print_X4_isMarked : GoodIn wsX4_print wsX4_isMarked := goodIn_r _ [22, 2, 23, 24, 25, 9, 26, 27, 28, 29, 30, 31, 32, 33, 34, 35, 36, 37, 38, 39, 40, 41] (by decide +kernel) (by decide +kernel)
set_option maxRecDepth 20000 in
theorem gX4_print_X4_isMarked : GoodIn wsX4_print (wsV RX4 106 RX4 yX4_isMarked wsX4_isMarked) := goodIn_app (goodIn_of _ (by decide +kernel)) ggX4_print_X4_isMarked
theorem dX4_print_0 : decode cX4_print 0 = .ok (.iload_n 1, 1) := by decide +kernel
theorem dX4_print_1 : decode cX4_print 1 = .ok (.sipush 200, 3) := by decide +kernel
theorem dX4_print_4 : decode cX4_print 4 = .ok (.imul, 1) := by decide +kernel
theorem dX4_print_5 : decode cX4_print 5 = .ok (.iload_n 2, 1) := by decide +kernel
theorem dX4_print_6 : decode cX4_print 6 = .ok (.iadd, 1) := by decide +kernel
theorem dX4_print_7 : decode cX4_print 7 = .ok (.istore_n 3, 1) := by decide +kernel
theorem dX4_print_8 : decode cX4_print 8 = .ok (.aload_n 0, 1) := by decide +kernel
theorem dX4_print_9 : decode cX4_print 9 = .ok (.iconst 0, 1) := by decide +kernel
theorem dX4_print_10 : decode cX4_print 10 = .ok (.putfield 115, 3) := by decide +kernel
theorem dX4_print_13 : decode cX4_print 13 = .ok (.aload_n 0, 1) := by decide +kernel
theorem dX4_print_14 : decode cX4_print 14 = .ok (.aload_n 0, 1) := by decide +kernel
theorem dX4_print_15 : decode cX4_print 15 = .ok (.getfield 20, 3) := by decide +kernel
theorem dX4_print_18 : decode cX4_print 18 = .ok (.iload_n 3, 1) := by decide +kernel
theorem dX4_print_19 : decode cX4_print 19 = .ok (.iaload, 1) := by decide +kernel
theorem dX4_print_20 : decode cX4_print 20 = .ok (.ifCond .ne 8, 3) := by decide +kernel
theorem dX4_print_23 : decode cX4_print 23 = .ok (.bipush 82, 2) := by decide +kernel
theorem dX4_print_25 : decode cX4_print 25 = .ok (.goto 35, 3) := by decide +kernel
theorem dX4_print_28 : decode cX4_print 28 = .ok (.aload_n 0, 1) := by decide +kernel
theorem dX4_print_29 : decode cX4_print 29 = .ok (.getfield 20, 3) := by decide +kernel
theorem dX4_print_32 : decode cX4_print 32 = .ok (.iload_n 3, 1) := by decide +kernel
theorem dX4_print_33 : decode cX4_print 33 = .ok (.iaload, 1) := by decide +kernel
theorem dX4_print_34 : decode cX4_print 34 = .ok (.iconst 1, 1) := by decide +kernel
theorem dX4_print_35 : decode cX4_print 35 = .ok (.if_icmp .ne 8, 3) := by decide +kernel
theorem dX4_print_38 : decode cX4_print 38 = .ok (.bipush 90, 2) := by decide +kernel
theorem dX4_print_40 : decode cX4_print 40 = .ok (.goto 20, 3) := by decide +kernel
theorem dX4_print_43 : decode cX4_print 43 = .ok (.aload_n 0, 1) := by decide +kernel
theorem dX4_print_44 : decode cX4_print 44 = .ok (.getfield 20, 3) := by decide +kernel
theorem dX4_print_47 : decode cX4_print 47 = .ok (.iload_n 3, 1) := by decide +kernel
theorem dX4_print_48 : decode cX4_print 48 = .ok (.iaload, 1) := by decide +kernel
theorem dX4_print_49 : decode cX4_print 49 = .ok (.iconst 2, 1) := by decide +kernel
theorem dX4_print_50 : decode cX4_print 50 = .ok (.if_icmp .ne 8, 3) := by decide +kernel
theorem dX4_print_53 : decode cX4_print 53 = .ok (.bipush 66, 2) := by decide +kernel
theorem dX4_print_55 : decode cX4_print 55 = .ok (.goto 5, 3) := by decide +kernel
theorem dX4_print_58 : decode cX4_print 58 = .ok (.bipush 83, 2) := by decide +kernel
theorem dX4_print_60 : decode cX4_print 60 = .ok (.invokevirtual 118, 3) := by decide +kernel
theorem dX4_print_63 : decode cX4_print 63 = .ok (.aload_n 0, 1) := by decide +kernel
theorem dX4_print_64 : decode cX4_print 64 = .ok (.aload_n 0, 1) := by decide +kernel
theorem dX4_print_65 : decode cX4_print 65 = .ok (.getfield 23, 3) := by decide +kernel
theorem dX4_print_68 : decode cX4_print 68 = .ok (.iload_n 3, 1) := by decide +kernel
theorem dX4_print_69 : decode cX4_print 69 = .ok (.laload, 1) := by decide +kernel
theorem dX4_print_70 : decode cX4_print 70 = .ok (.invokevirtual 128, 3) := by decide +kernel
theorem dX4_print_73 : decode cX4_print 73 = .ok (.aload_n 0, 1) := by decide +kernel
theorem dX4_print_74 : decode cX4_print 74 = .ok (.getfield 20, 3) := by decide +kernel
theorem dX4_print_77 : decode cX4_print 77 = .ok (.iload_n 3, 1) := by decide +kernel
theorem dX4_print_78 : decode cX4_print 78 = .ok (.iaload, 1) := by decide +kernel
theorem dX4_print_79 : decode cX4_print 79 = .ok (.ifCond .ne 24, 3) := by decide +kernel
theorem dX4_print_82 : decode cX4_print 82 = .ok (.aload_n 0, 1) := by decide +kernel
theorem dX4_print_83 : decode cX4_print 83 = .ok (.aload_n 0, 1) := by decide +kernel
theorem dX4_print_84 : decode cX4_print 84 = .ok (.getfield 26, 3) := by decide +kernel
theorem dX4_print_87 : decode cX4_print 87 = .ok (.iload_n 3, 1) := by decide +kernel
theorem dX4_print_88 : decode cX4_print 88 = .ok (.laload, 1) := by decide +kernel
theorem dX4_print_89 : decode cX4_print 89 = .ok (.invokevirtual 128, 3) := by decide +kernel
theorem dX4_print_92 : decode cX4_print 92 = .ok (.aload_n 0, 1) := by decide +kernel
theorem dX4_print_93 : decode cX4_print 93 = .ok (.aload_n 0, 1) := by decide +kernel
theorem dX4_print_94 : decode cX4_print 94 = .ok (.getfield 29, 3) := by decide +kernel
theorem dX4_print_97 : decode cX4_print 97 = .ok (.iload_n 3, 1) := by decide +kernel
theorem dX4_print_98 : decode cX4_print 98 = .ok (.iaload, 1) := by decide +kernel
theorem dX4_print_99 : decode cX4_print 99 = .ok (.i2l, 1) := by decide +kernel
theorem dX4_print_100 : decode cX4_print 100 = .ok (.invokevirtual 128, 3) := by decide +kernel
theorem dX4_print_103 : decode cX4_print 103 = .ok (.aload_n 0, 1) := by decide +kernel
theorem dX4_print_104 : decode cX4_print 104 = .ok (.iload_n 1, 1) := by decide +kernel
theorem dX4_print_105 : decode cX4_print 105 = .ok (.iload_n 2, 1) := by decide +kernel
theorem dX4_print_106 : decode cX4_print 106 = .ok (.invokevirtual 106, 3) := by decide +kernel
theorem dX4_print_109 : decode cX4_print 109 = .ok (.ifCond .eq 15, 3) := by decide +kernel
theorem dX4_print_112 : decode cX4_print 112 = .ok (.aload_n 0, 1) := by decide +kernel
theorem dX4_print_113 : decode cX4_print 113 = .ok (.bipush 32, 2) := by decide +kernel
theorem dX4_print_115 : decode cX4_print 115 = .ok (.invokevirtual 118, 3) := by decide +kernel
theorem dX4_print_118 : decode cX4_print 118 = .ok (.aload_n 0, 1) := by decide +kernel
theorem dX4_print_119 : decode cX4_print 119 = .ok (.bipush 42, 2) := by decide +kernel
theorem dX4_print_121 : decode cX4_print 121 = .ok (.invokevirtual 118, 3) := by decide +kernel
theorem dX4_print_124 : decode cX4_print 124 = .ok (.aload_n 0, 1) := by decide +kernel
theorem dX4_print_125 : decode cX4_print 125 = .ok (.bipush 10, 2) := by decide +kernel
theorem dX4_print_127 : decode cX4_print 127 = .ok (.invokevirtual 118, 3) := by decide +kernel
theorem dX4_print_130 : decode cX4_print 130 = .ok (.return_, 1) := by decide +kernel
set_option maxRecDepth 20000 in
theorem ggX4_roll_X4_isMeter : GoodIn wsX4_roll wsX4_isMeter := goodIn_r _ [9, 10, 38, 39, 40, 41, 42, 43, 44, 45, 46, 47, 48, 49, 50, 51, 52] (by decide +kernel) (by decide +kernel)
set_option maxRecDepth 20000 in
theorem gX4_roll_X4_isMeter : GoodIn wsX4_roll (wsV RX4 54 RX4 yX4_isMeter wsX4_isMeter) := goodIn_app (goodIn_of _ (by decide +kernel)) ggX4_roll_X4_isMeter
set_option maxRecDepth 20000 in
theorem ggX4_roll_X4_print : GoodIn wsX4_roll wsX4_print := goodIn_r _ [14, 3, 15, 16, 17, 18, 19, 20, 21, 8, 22, 4, 23, 24, 25, 26, 27, 28, 29, 30, 31, 32, 33, 34, 35, 36, 37, 38, 39, 40, 41, 42, 43, 44, 45, 46, 47, 48, 49, 50, 51, 52] (by decide +kernel) (by decide +kernel)
set_option maxRecDepth 20000 in
theorem gX4_roll_X4_print : GoodIn wsX4_roll (wsV RX4 132 RX4 yX4_print wsX4_print) := goodIn_app (goodIn_of _ (by decide +kernel)) ggX4_roll_X4_print
theorem dX4_roll_0 : decode cX4_roll 0 = .ok (.aload_n 0, 1) := by decide +kernel
theorem dX4_roll_1 : decode cX4_roll 1 = .ok (.iconst 0, 1) := by decide +kernel
theorem dX4_roll_2 : decode cX4_roll 2 = .ok (.putfield 47, 3) := by decide +kernel
theorem dX4_roll_5 : decode cX4_roll 5 = .ok (.aload_n 0, 1) := by decide +kernel
theorem dX4_roll_6 : decode cX4_roll 6 = .ok (.iload_n 1, 1) := by decide +kernel
theorem dX4_roll_7 : decode cX4_roll 7 = .ok (.invokevirtual 54, 3) := by decide +kernel
theorem dX4_roll_10 : decode cX4_roll 10 = .ok (.ifCond .eq 7, 3) := by decide +kernel
theorem dX4_roll_13 : decode cX4_roll 13 = .ok (.iload_n 2, 1) := by decide +kernel
theorem dX4_roll_14 : decode cX4_roll 14 = .ok (.ifCond .ge 5, 3) := by decide +kernel
theorem dX4_roll_17 : decode cX4_roll 17 = .ok (.iconst (-1), 1) := by decide +kernel
theorem dX4_roll_18 : decode cX4_roll 18 = .ok (.ireturn, 1) := by decide +kernel
theorem dX4_roll_19 : decode cX4_roll 19 = .ok (.iload_n 2, 1) := by decide +kernel
theorem dX4_roll_20 : decode cX4_roll 20 = .ok (.istore_n 3, 1) := by decide +kernel
theorem dX4_roll_21 : decode cX4_roll 21 = .ok (.iconst 0, 1) := by decide +kernel
theorem dX4_roll_22 : decode cX4_roll 22 = .ok (.istore 4, 2) := by decide +kernel
theorem dX4_roll_24 : decode cX4_roll 24 = .ok (.iload 4, 2) := by decide +kernel
theorem dX4_roll_26 : decode cX4_roll 26 = .ok (.aload_n 0, 1) := by decide +kernel
theorem dX4_roll_27 : decode cX4_roll 27 = .ok (.getfield 13, 3) := by decide +kernel
theorem dX4_roll_30 : decode cX4_roll 30 = .ok (.iload_n 1, 1) := by decide +kernel
theorem dX4_roll_31 : decode cX4_roll 31 = .ok (.iaload, 1) := by decide +kernel
theorem dX4_roll_32 : decode cX4_roll 32 = .ok (.if_icmp .ge 38, 3) := by decide +kernel
theorem dX4_roll_35 : decode cX4_roll 35 = .ok (.aload_n 0, 1) := by decide +kernel
theorem dX4_roll_36 : decode cX4_roll 36 = .ok (.iload_n 1, 1) := by decide +kernel
theorem dX4_roll_37 : decode cX4_roll 37 = .ok (.iload 4, 2) := by decide +kernel
theorem dX4_roll_39 : decode cX4_roll 39 = .ok (.invokevirtual 132, 3) := by decide +kernel
theorem dX4_roll_42 : decode cX4_roll 42 = .ok (.iload_n 3, 1) := by decide +kernel
theorem dX4_roll_43 : decode cX4_roll 43 = .ok (.aload_n 0, 1) := by decide +kernel
theorem dX4_roll_44 : decode cX4_roll 44 = .ok (.getfield 115, 3) := by decide +kernel
theorem dX4_roll_47 : decode cX4_roll 47 = .ok (.if_icmp .ge 10, 3) := by decide +kernel
theorem dX4_roll_50 : decode cX4_roll 50 = .ok (.aload_n 0, 1) := by decide +kernel
theorem dX4_roll_51 : decode cX4_roll 51 = .ok (.getfield 44, 3) := by decide +kernel
theorem dX4_roll_54 : decode cX4_roll 54 = .ok (.iload_n 3, 1) := by decide +kernel
theorem dX4_roll_55 : decode cX4_roll 55 = .ok (.iaload, 1) := by decide +kernel
theorem dX4_roll_56 : decode cX4_roll 56 = .ok (.ireturn, 1) := by decide +kernel
theorem dX4_roll_57 : decode cX4_roll 57 = .ok (.iload_n 3, 1) := by decide +kernel
theorem dX4_roll_58 : decode cX4_roll 58 = .ok (.aload_n 0, 1) := by decide +kernel
theorem dX4_roll_59 : decode cX4_roll 59 = .ok (.getfield 115, 3) := by decide +kernel
theorem dX4_roll_62 : decode cX4_roll 62 = .ok (.isub, 1) := by decide +kernel
theorem dX4_roll_63 : decode cX4_roll 63 = .ok (.istore_n 3, 1) := by decide +kernel
theorem dX4_roll_64 : decode cX4_roll 64 = .ok (.iinc 4 1, 3) := by decide +kernel
theorem dX4_roll_67 : decode cX4_roll 67 = .ok (.goto (-43), 3) := by decide +kernel
theorem dX4_roll_70 : decode cX4_roll 70 = .ok (.iconst (-1), 1) := by decide +kernel
theorem dX4_roll_71 : decode cX4_roll 71 = .ok (.ireturn, 1) := by decide +kernel
theorem dJx00060_init_a7421_0 : decode cJx00060_init_a7421 0 = .ok (.aload_n 0, 1) := by decide +kernel
theorem dJx00060_init_a7421_1 : decode cJx00060_init_a7421 1 = .ok (.aload_n 1, 1) := by decide +kernel
theorem dJx00060_init_a7421_2 : decode cJx00060_init_a7421 2 = .ok (.invokespecial 7, 3) := by decide +kernel
theorem dJx00060_init_a7421_5 : decode cJx00060_init_a7421 5 = .ok (.return_, 1) := by decide +kernel
theorem dJ9_abs_067f4_0 : decode cJ9_abs_067f4 0 = .ok (.lload_n 0, 1) := by decide +kernel
theorem dJ9_abs_067f4_1 : decode cJ9_abs_067f4 1 = .ok (.lconst 0, 1) := by decide +kernel
theorem dJ9_abs_067f4_2 : decode cJ9_abs_067f4 2 = .ok (.lcmp, 1) := by decide +kernel
theorem dJ9_abs_067f4_3 : decode cJ9_abs_067f4 3 = .ok (.ifCond .ge 8, 3) := by decide +kernel
theorem dJ9_abs_067f4_6 : decode cJ9_abs_067f4 6 = .ok (.lload_n 0, 1) := by decide +kernel
theorem dJ9_abs_067f4_7 : decode cJ9_abs_067f4 7 = .ok (.lneg, 1) := by decide +kernel
theorem dJ9_abs_067f4_8 : decode cJ9_abs_067f4 8 = .ok (.goto 4, 3) := by decide +kernel
theorem dJ9_abs_067f4_11 : decode cJ9_abs_067f4 11 = .ok (.lload_n 0, 1) := by decide +kernel
theorem dJ9_abs_067f4_12 : decode cJ9_abs_067f4 12 = .ok (.lreturn, 1) := by decide +kernel
theorem dJ9_max_7cf53_0 : decode cJ9_max_7cf53 0 = .ok (.iload_n 0, 1) := by decide +kernel
theorem dJ9_max_7cf53_1 : decode cJ9_max_7cf53 1 = .ok (.iload_n 1, 1) := by decide +kernel
theorem dJ9_max_7cf53_2 : decode cJ9_max_7cf53 2 = .ok (.if_icmp .lt 7, 3) := by decide +kernel
theorem dJ9_max_7cf53_5 : decode cJ9_max_7cf53 5 = .ok (.iload_n 0, 1) := by decide +kernel
theorem dJ9_max_7cf53_6 : decode cJ9_max_7cf53 6 = .ok (.goto 4, 3) := by decide +kernel
theorem dJ9_max_7cf53_9 : decode cJ9_max_7cf53 9 = .ok (.iload_n 1, 1) := by decide +kernel
theorem dJ9_max_7cf53_10 : decode cJ9_max_7cf53 10 = .ok (.ireturn, 1) := by decide +kernel
theorem dJ9_min_f86c9_0 : decode cJ9_min_f86c9 0 = .ok (.lload_n 0, 1) := by decide +kernel
theorem dJ9_min_f86c9_1 : decode cJ9_min_f86c9 1 = .ok (.lload_n 2, 1) := by decide +kernel
theorem dJ9_min_f86c9_2 : decode cJ9_min_f86c9 2 = .ok (.lcmp, 1) := by decide +kernel
theorem dJ9_min_f86c9_3 : decode cJ9_min_f86c9 3 = .ok (.ifCond .gt 7, 3) := by decide +kernel
theorem dJ9_min_f86c9_6 : decode cJ9_min_f86c9 6 = .ok (.lload_n 0, 1) := by decide +kernel
theorem dJ9_min_f86c9_7 : decode cJ9_min_f86c9 7 = .ok (.goto 4, 3) := by decide +kernel
theorem dJ9_min_f86c9_10 : decode cJ9_min_f86c9 10 = .ok (.lload_n 2, 1) := by decide +kernel
theorem dJ9_min_f86c9_11 : decode cJ9_min_f86c9 11 = .ok (.lreturn, 1) := by decide +kernel
set_option maxRecDepth 20000 in
theorem ggL_litres_X3_litres : GoodIn wsL_litres wsX3_litres := goodIn_r _ [5, 6, 7, 8, 9, 10, 11, 12, 4, 13, 14, 15, 16, 17, 18, 19, 20, 21, 22, 23, 24, 25, 26, 27, 28, 29, 30, 31, 32, 33, 34, 35, 36, 37, 38, 39, 40, 41, 42, 43, 44, 45, 46, 47, 48, 49, 50, 51, 52, 53, 54, 55, 56, 57, 58, 59, 60, 61, 62, 63, 64, 65, 66, 67, 68, 69, 70, 71, 72, 73, 74, 75, 76, 77, 78, 79, 80, 81, 82, 83, 84, 85, 86, 87, 88, 89, 90, 91, 92, 93, 94, 95, 96, 97, 98, 99, 100] (by decide +kernel) (by decide +kernel)
set_option maxRecDepth 20000 in
theorem gL_litres_X3_litres : GoodIn wsL_litres (wsV RL 7 RX3 yX3_litres wsX3_litres) := goodIn_app (goodIn_of _ (by decide +kernel)) ggL_litres_X3_litres
theorem dL_litres_0 : decode cL_litres 0 = .ok (.aload 4, 2) := by decide +kernel
theorem dL_litres_2 : decode cL_litres 2 = .ok (.iconst 0, 1) := by decide +kernel
theorem dL_litres_3 : decode cL_litres 3 = .ok (.aload_n 0, 1) := by decide +kernel
theorem dL_litres_4 : decode cL_litres 4 = .ok (.iload_n 1, 1) := by decide +kernel
theorem dL_litres_5 : decode cL_litres 5 = .ok (.iload_n 2, 1) := by decide +kernel
theorem dL_litres_6 : decode cL_litres 6 = .ok (.iload_n 3, 1) := by decide +kernel
theorem dL_litres_7 : decode cL_litres 7 = .ok (.invokevirtual 7, 3) := by decide +kernel
theorem dL_litres_10 : decode cL_litres 10 = .ok (.lastore, 1) := by decide +kernel
theorem dL_litres_11 : decode cL_litres 11 = .ok (.goto 7, 3) := by decide +kernel
theorem dL_litres_14 : decode cL_litres 14 = .ok (.astore 5, 2) := by decide +kernel
theorem dL_litres_16 : decode cL_litres 16 = .ok (.iconst 1, 1) := by decide +kernel
theorem dL_litres_17 : decode cL_litres 17 = .ok (.ireturn, 1) := by decide +kernel
theorem dL_litres_18 : decode cL_litres 18 = .ok (.iconst 0, 1) := by decide +kernel
theorem dL_litres_19 : decode cL_litres 19 = .ok (.ireturn, 1) := by decide +kernel
set_option maxRecDepth 20000 in
theorem ggL_law_X3_init : GoodIn wsL_law wsX3_init := goodIn_r _ [10, 11, 12, 13, 14, 15, 16, 426, 427] (by decide +kernel) (by decide +kernel)
set_option maxRecDepth 20000 in
theorem gL_law_X3_init : GoodIn wsL_law (wsX3_init) := ggL_law_X3_init
set_option maxRecDepth 20000 in
theorem ggL_law_X4_init : GoodIn wsL_law wsX4_init := goodIn_r _ [19, 20, 12, 13, 6, 21, 22, 23, 24, 25, 26, 27, 28, 29, 30, 31, 32, 33, 428, 429, 430, 431, 432, 433, 434, 435, 436, 437, 438, 439, 440, 441, 442] (by decide +kernel) (by decide +kernel)
set_option maxRecDepth 20000 in
theorem gL_law_X4_init : GoodIn wsL_law (wsX4_init) := ggL_law_X4_init
set_option maxRecDepth 20000 in
theorem ggL_law_X3_meter : GoodIn wsL_law wsX3_meter := goodIn_r _ [37, 16, 15, 14, 38, 39, 40, 41, 42, 43, 12, 13, 44, 45, 46, 47, 48, 49, 50, 51, 52, 53, 54, 55, 56, 57, 22, 58, 6, 59, 60, 61, 62, 63, 64, 65, 66, 67, 68, 69, 70, 71, 72, 73, 426, 427, 443, 444, 445, 446, 447, 448, 449, 450, 451, 452, 453, 454, 455, 456, 457] (by decide +kernel) (by decide +kernel)
set_option maxRecDepth 20000 in
theorem gL_law_X3_meter : GoodIn wsL_law (wsV RL 21 RX3 yX3_meter wsX3_meter) := goodIn_app (goodIn_of _ (by decide +kernel)) ggL_law_X3_meter
set_option maxRecDepth 20000 in
theorem ggL_law_X4_meter : GoodIn wsL_law wsX4_meter := goodIn_r _ [77, 78, 79, 21, 428, 429, 430, 431, 432, 433, 434, 435, 436, 437, 438, 439, 440, 441, 442] (by decide +kernel) (by decide +kernel)
set_option maxRecDepth 20000 in
theorem gL_law_X4_meter : GoodIn wsL_law (wsV RL 25 RX4 yX4_meter wsX4_meter) := goodIn_app (goodIn_of _ (by decide +kernel)) ggL_law_X4_meter
set_option maxRecDepth 20000 in
theorem ggL_law_X3_pulses : GoodIn wsL_law wsX3_pulses := goodIn_r _ [83, 84, 85, 86, 2, 87, 16, 15, 88, 89, 90, 39, 91, 47, 92, 53, 93, 94, 95, 51, 52, 96, 97, 98, 99, 100, 50, 101, 73, 67, 68, 69, 72, 70, 102, 103, 104, 105, 66, 106, 107, 108, 109, 110, 111, 112, 113, 114, 426, 427, 443, 444, 445, 446, 447, 448, 449, 450, 451, 452, 453, 454, 455, 456, 457] (by decide +kernel) (by decide +kernel)
set_option maxRecDepth 20000 in
theorem gL_law_X3_pulses : GoodIn wsL_law (wsV RL 26 RX3 yX3_pulses wsX3_pulses) := goodIn_app (goodIn_of _ (by decide +kernel)) ggL_law_X3_pulses
set_option maxRecDepth 20000 in
theorem ggL_law_X4_pulses : GoodIn wsL_law wsX4_pulses := goodIn_r _ [118, 78, 24, 119, 120, 23, 25, 27, 121, 122, 123, 5, 124, 79, 125, 126, 127, 128, 26, 28, 29, 129, 130, 131, 132, 133, 21, 134, 135, 136, 137, 428, 429, 430, 431, 432, 433, 434, 435, 436, 437, 438, 439, 440, 441, 442] (by decide +kernel) (by decide +kernel)
set_option maxRecDepth 20000 in
theorem gL_law_X4_pulses : GoodIn wsL_law (wsV RL 30 RX4 yX4_pulses wsX4_pulses) := goodIn_app (goodIn_of _ (by decide +kernel)) ggL_law_X4_pulses
set_option maxRecDepth 20000 in
theorem ggL_law_X3_row : GoodIn wsL_law wsX3_row := goodIn_r _ [141, 84, 85, 86, 2, 87, 16, 15, 142, 143, 144, 46, 145, 146, 147, 148, 58, 59, 60, 61, 149, 150, 151, 152, 96, 97, 153, 154, 155, 156, 443, 444, 445, 446, 426, 427, 447, 448, 449, 450] (by decide +kernel) (by decide +kernel)
set_option maxRecDepth 20000 in
theorem gL_law_X3_row : GoodIn wsL_law (wsV RL 31 RX3 yX3_row wsX3_row) := goodIn_app (goodIn_of _ (by decide +kernel)) ggL_law_X3_row
set_option maxRecDepth 20000 in
theorem ggL_law_X4_row : GoodIn wsL_law wsX4_row := goodIn_r _ [160, 78, 161, 24, 30, 31, 32, 121, 122, 123, 5, 124, 79, 428, 429, 430, 431, 432, 433, 434, 435, 436, 437, 438, 439, 440, 441, 442] (by decide +kernel) (by decide +kernel)
set_option maxRecDepth 20000 in
theorem gL_law_X4_row : GoodIn wsL_law (wsV RL 35 RX4 yX4_row wsX4_row) := goodIn_app (goodIn_of _ (by decide +kernel)) ggL_law_X4_row
set_option maxRecDepth 20000 in
theorem ggL_law_L_litres : GoodIn wsL_law wsL_litres := goodIn_r _ [165, 166, 167, 168, 2, 169, 170, 171, 172, 173, 84, 85, 86, 87, 16, 15, 174, 108, 109, 50, 110, 73, 175, 176, 177, 39, 178, 179, 180, 181, 182, 51, 47, 183, 184, 185, 186, 67, 187, 188, 189, 190, 68, 107, 191, 192, 193, 194, 69, 195, 196, 197, 46, 198, 59, 199, 200, 201, 202, 61, 58, 203, 204, 205, 206, 207, 208, 209, 210, 211, 212, 213, 214, 60, 215, 216, 217, 218, 443, 444, 445, 446, 458, 459, 460, 461, 462, 463, 426, 427, 451, 452, 453, 454, 455, 456, 457, 447, 448, 449, 450] (by decide +kernel) (by decide +kernel)
set_option maxRecDepth 20000 in
theorem gL_law_L_litres : GoodIn wsL_law (va_wsS RL 36 yL_litres wsL_litres) := goodIn_app (goodIn_of _ (by decide +kernel)) ggL_law_L_litres
set_option maxRecDepth 20000 in
theorem ggL_law_X4_litres : GoodIn wsL_law wsX4_litres := goodIn_r _ [222, 78, 223, 25, 28, 26, 31, 32, 121, 122, 123, 5, 124, 79, 224, 225, 226, 227, 23, 228, 229, 230, 231, 24, 30, 232, 233, 234, 428, 429, 430, 431, 432, 433, 434, 435, 436, 437, 438, 439, 440, 441, 442] (by decide +kernel) (by decide +kernel)
set_option maxRecDepth 20000 in
theorem gL_law_X4_litres : GoodIn wsL_law (wsV RL 41 RX4 yX4_litres wsX4_litres) := goodIn_app (goodIn_of _ (by decide +kernel)) ggL_law_X4_litres
set_option maxRecDepth 20000 in
theorem ggL_law_X4_thrown : GoodIn wsL_law wsX4_thrown := goodIn_r _ [238, 78, 428, 429, 430, 431, 432, 433, 434, 435, 436, 437, 438, 439, 440, 441, 442] (by decide +kernel) (by decide +kernel)
set_option maxRecDepth 20000 in
theorem gL_law_X4_thrown : GoodIn wsL_law (wsV RL 42 RX4 yX4_thrown wsX4_thrown) := goodIn_app (goodIn_of _ (by decide +kernel)) ggL_law_X4_thrown
set_option maxRecDepth 20000 in
theorem ggL_law_X3_rows : GoodIn wsL_law wsX3_rows := goodIn_r _ [242, 84, 85, 86, 2, 87, 16, 15, 443, 444, 445, 446, 451, 452, 453, 454, 455, 456, 457, 426, 427] (by decide +kernel) (by decide +kernel)
set_option maxRecDepth 20000 in
theorem gL_law_X3_rows : GoodIn wsL_law (wsV RL 46 RX3 yX3_rows wsX3_rows) := goodIn_app (goodIn_of _ (by decide +kernel)) ggL_law_X3_rows
set_option maxRecDepth 20000 in
theorem ggL_law_X4_rows : GoodIn wsL_law wsX4_rows := goodIn_r _ [246, 78, 23, 121, 122, 123, 5, 124, 79, 428, 429, 430, 431, 432, 433, 434, 435, 436, 437, 438, 439, 440, 441, 442] (by decide +kernel) (by decide +kernel)
set_option maxRecDepth 20000 in
theorem gL_law_X4_rows : GoodIn wsL_law (wsV RL 50 RX4 yX4_rows wsX4_rows) := goodIn_app (goodIn_of _ (by decide +kernel)) ggL_law_X4_rows
set_option maxRecDepth 20000 in
theorem ggL_law_X3_check : GoodIn wsL_law wsX3_check := goodIn_r _ [250, 84, 85, 86, 2, 87, 16, 15, 251, 252, 253, 50, 254, 73, 70, 102, 103, 104, 105, 66, 106, 67, 68, 69, 107, 108, 109, 110, 111, 112, 113, 114, 443, 444, 445, 446, 426, 427, 451, 452, 453, 454, 455, 456, 457] (by decide +kernel) (by decide +kernel)
set_option maxRecDepth 20000 in
theorem gL_law_X3_check : GoodIn wsL_law (wsV RL 51 RX3 yX3_check wsX3_check) := goodIn_app (goodIn_of _ (by decide +kernel)) ggL_law_X3_check
set_option maxRecDepth 20000 in
theorem ggL_law_X4_check : GoodIn wsL_law wsX4_check := goodIn_r _ [258, 78, 23, 29, 121, 122, 123, 5, 124, 79, 129, 130, 131, 132, 133, 21, 26, 25, 27, 28, 134, 135, 136, 137, 428, 429, 430, 431, 432, 433, 434, 435, 436, 437, 438, 439, 440, 441, 442] (by decide +kernel) (by decide +kernel)
set_option maxRecDepth 20000 in
theorem gL_law_X4_check : GoodIn wsL_law (wsV RL 55 RX4 yX4_check wsX4_check) := goodIn_app (goodIn_of _ (by decide +kernel)) ggL_law_X4_check
set_option maxRecDepth 20000 in
theorem ggL_law_X3_poke : GoodIn wsL_law wsX3_poke := goodIn_r _ [262, 84, 85, 86, 2, 87, 16, 15, 263, 264, 265, 50, 266, 267, 67, 268, 184, 185, 186, 187, 188, 189, 190, 68, 107, 108, 109, 110, 73, 96, 97, 443, 444, 445, 446, 426, 427, 451, 452, 453, 454, 455, 456, 457] (by decide +kernel) (by decide +kernel)
set_option maxRecDepth 20000 in
theorem gL_law_X3_poke : GoodIn wsL_law (wsV RL 56 RX3 yX3_poke wsX3_poke) := goodIn_app (goodIn_of _ (by decide +kernel)) ggL_law_X3_poke
set_option maxRecDepth 20000 in
theorem ggL_law_X4_poke : GoodIn wsL_law wsX4_poke := goodIn_r _ [272, 78, 25, 273, 119, 26, 224, 225, 226, 5, 227, 23, 121, 122, 123, 124, 79, 428, 429, 430, 431, 432, 433, 434, 435, 436, 437, 438, 439, 440, 441, 442] (by decide +kernel) (by decide +kernel)
set_option maxRecDepth 20000 in
theorem gL_law_X4_poke : GoodIn wsL_law (wsV RL 60 RX4 yX4_poke wsX4_poke) := goodIn_app (goodIn_of _ (by decide +kernel)) ggL_law_X4_poke
set_option maxRecDepth 20000 in
theorem ggL_law_X3_seal : GoodIn wsL_law wsX3_seal := goodIn_r _ [277, 84, 85, 86, 2, 87, 16, 15, 278, 279, 280, 39, 281, 282, 52, 51, 283, 284, 96, 97, 98, 99, 100, 50, 101, 73, 67, 68, 69, 72, 70, 102, 103, 104, 105, 66, 106, 107, 108, 109, 110, 111, 112, 113, 114, 426, 427, 443, 444, 445, 446, 451, 452, 453, 454, 455, 456, 457] (by decide +kernel) (by decide +kernel)
set_option maxRecDepth 20000 in
theorem gL_law_X3_seal : GoodIn wsL_law (wsV RL 61 RX3 yX3_seal wsX3_seal) := goodIn_app (goodIn_of _ (by decide +kernel)) ggL_law_X3_seal
