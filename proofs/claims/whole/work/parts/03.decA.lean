theorem dX12_init_0 : decode cX12_init 0 = .ok (.aload_n 0, 1) := by decide +kernel
theorem dX12_init_1 : decode cX12_init 1 = .ok (.invokespecial 1, 3) := by decide +kernel
theorem dX12_init_4 : decode cX12_init 4 = .ok (.aload_n 0, 1) := by decide +kernel
theorem dX12_init_5 : decode cX12_init 5 = .ok (.sipush 1400, 3) := by decide +kernel
theorem dX12_init_8 : decode cX12_init 8 = .ok (.newarray .int, 2) := by decide +kernel
theorem dX12_init_10 : decode cX12_init 10 = .ok (.putfield 7, 3) := by decide +kernel
theorem dX12_init_13 : decode cX12_init 13 = .ok (.aload_n 0, 1) := by decide +kernel
theorem dX12_init_14 : decode cX12_init 14 = .ok (.iconst 2, 1) := by decide +kernel
theorem dX12_init_15 : decode cX12_init 15 = .ok (.newarray .boolean, 2) := by decide +kernel
theorem dX12_init_17 : decode cX12_init 17 = .ok (.putfield 13, 3) := by decide +kernel
theorem dX12_init_20 : decode cX12_init 20 = .ok (.aload_n 0, 1) := by decide +kernel
theorem dX12_init_21 : decode cX12_init 21 = .ok (.bipush 8, 2) := by decide +kernel
theorem dX12_init_23 : decode cX12_init 23 = .ok (.newarray .int, 2) := by decide +kernel
theorem dX12_init_25 : decode cX12_init 25 = .ok (.putfield 17, 3) := by decide +kernel
theorem dX12_init_28 : decode cX12_init 28 = .ok (.aload_n 0, 1) := by decide +kernel
theorem dX12_init_29 : decode cX12_init 29 = .ok (.bipush 8, 2) := by decide +kernel
theorem dX12_init_31 : decode cX12_init 31 = .ok (.newarray .int, 2) := by decide +kernel
theorem dX12_init_33 : decode cX12_init 33 = .ok (.putfield 20, 3) := by decide +kernel
theorem dX12_init_36 : decode cX12_init 36 = .ok (.aload_n 0, 1) := by decide +kernel
theorem dX12_init_37 : decode cX12_init 37 = .ok (.sipush 320, 3) := by decide +kernel
theorem dX12_init_40 : decode cX12_init 40 = .ok (.newarray .int, 2) := by decide +kernel
theorem dX12_init_42 : decode cX12_init 42 = .ok (.putfield 23, 3) := by decide +kernel
theorem dX12_init_45 : decode cX12_init 45 = .ok (.aload_n 0, 1) := by decide +kernel
theorem dX12_init_46 : decode cX12_init 46 = .ok (.bipush 40, 2) := by decide +kernel
theorem dX12_init_48 : decode cX12_init 48 = .ok (.newarray .int, 2) := by decide +kernel
theorem dX12_init_50 : decode cX12_init 50 = .ok (.putfield 26, 3) := by decide +kernel
theorem dX12_init_53 : decode cX12_init 53 = .ok (.aload_n 0, 1) := by decide +kernel
theorem dX12_init_54 : decode cX12_init 54 = .ok (.bipush 100, 2) := by decide +kernel
theorem dX12_init_56 : decode cX12_init 56 = .ok (.newarray .int, 2) := by decide +kernel
theorem dX12_init_58 : decode cX12_init 58 = .ok (.putfield 29, 3) := by decide +kernel
theorem dX12_init_61 : decode cX12_init 61 = .ok (.aload_n 0, 1) := by decide +kernel
theorem dX12_init_62 : decode cX12_init 62 = .ok (.bipush 64, 2) := by decide +kernel
theorem dX12_init_64 : decode cX12_init 64 = .ok (.newarray .int, 2) := by decide +kernel
theorem dX12_init_66 : decode cX12_init 66 = .ok (.putfield 32, 3) := by decide +kernel
theorem dX12_init_69 : decode cX12_init 69 = .ok (.aload_n 0, 1) := by decide +kernel
theorem dX12_init_70 : decode cX12_init 70 = .ok (.bipush 16, 2) := by decide +kernel
theorem dX12_init_72 : decode cX12_init 72 = .ok (.newarray .int, 2) := by decide +kernel
theorem dX12_init_74 : decode cX12_init 74 = .ok (.putfield 35, 3) := by decide +kernel
theorem dX12_init_77 : decode cX12_init 77 = .ok (.iconst 0, 1) := by decide +kernel
theorem dX12_init_78 : decode cX12_init 78 = .ok (.istore_n 1, 1) := by decide +kernel
theorem dX12_init_79 : decode cX12_init 79 = .ok (.iload_n 1, 1) := by decide +kernel
theorem dX12_init_80 : decode cX12_init 80 = .ok (.bipush 8, 2) := by decide +kernel
theorem dX12_init_82 : decode cX12_init 82 = .ok (.if_icmp .ge 16, 3) := by decide +kernel
theorem dX12_init_85 : decode cX12_init 85 = .ok (.aload_n 0, 1) := by decide +kernel
theorem dX12_init_86 : decode cX12_init 86 = .ok (.getfield 17, 3) := by decide +kernel
theorem dX12_init_89 : decode cX12_init 89 = .ok (.iload_n 1, 1) := by decide +kernel
theorem dX12_init_90 : decode cX12_init 90 = .ok (.iconst (-1), 1) := by decide +kernel
theorem dX12_init_91 : decode cX12_init 91 = .ok (.iastore, 1) := by decide +kernel
theorem dX12_init_92 : decode cX12_init 92 = .ok (.iinc 1 1, 3) := by decide +kernel
theorem dX12_init_95 : decode cX12_init 95 = .ok (.goto (-16), 3) := by decide +kernel
theorem dX12_init_98 : decode cX12_init 98 = .ok (.return_, 1) := by decide +kernel
theorem dX12_in_0 : decode cX12_in 0 = .ok (.lload_n 0, 1) := by decide +kernel
theorem dX12_in_1 : decode cX12_in 1 = .ok (.lload_n 2, 1) := by decide +kernel
theorem dX12_in_2 : decode cX12_in 2 = .ok (.lcmp, 1) := by decide +kernel
theorem dX12_in_3 : decode cX12_in 3 = .ok (.ifCond .lt 14, 3) := by decide +kernel
theorem dX12_in_6 : decode cX12_in 6 = .ok (.lload_n 0, 1) := by decide +kernel
theorem dX12_in_7 : decode cX12_in 7 = .ok (.lload 4, 2) := by decide +kernel
theorem dX12_in_9 : decode cX12_in 9 = .ok (.lcmp, 1) := by decide +kernel
theorem dX12_in_10 : decode cX12_in 10 = .ok (.ifCond .gt 7, 3) := by decide +kernel
theorem dX12_in_13 : decode cX12_in 13 = .ok (.iconst 1, 1) := by decide +kernel
theorem dX12_in_14 : decode cX12_in 14 = .ok (.goto 4, 3) := by decide +kernel
theorem dX12_in_17 : decode cX12_in 17 = .ok (.iconst 0, 1) := by decide +kernel
theorem dX12_in_18 : decode cX12_in 18 = .ok (.ireturn, 1) := by decide +kernel
theorem dX12_has_0 : decode cX12_has 0 = .ok (.iload_n 0, 1) := by decide +kernel
theorem dX12_has_1 : decode cX12_has 1 = .ok (.iload_n 1, 1) := by decide +kernel
theorem dX12_has_2 : decode cX12_has 2 = .ok (.ishr, 1) := by decide +kernel
theorem dX12_has_3 : decode cX12_has 3 = .ok (.iconst 1, 1) := by decide +kernel
theorem dX12_has_4 : decode cX12_has 4 = .ok (.iand, 1) := by decide +kernel
theorem dX12_has_5 : decode cX12_has 5 = .ok (.iconst 1, 1) := by decide +kernel
theorem dX12_has_6 : decode cX12_has 6 = .ok (.if_icmp .ne 7, 3) := by decide +kernel
theorem dX12_has_9 : decode cX12_has 9 = .ok (.iconst 1, 1) := by decide +kernel
theorem dX12_has_10 : decode cX12_has 10 = .ok (.goto 4, 3) := by decide +kernel
theorem dX12_has_13 : decode cX12_has 13 = .ok (.iconst 0, 1) := by decide +kernel
theorem dX12_has_14 : decode cX12_has 14 = .ok (.ireturn, 1) := by decide +kernel
theorem dX12_found_0 : decode cX12_found 0 = .ok (.aload_n 0, 1) := by decide +kernel
theorem dX12_found_1 : decode cX12_found 1 = .ok (.iload_n 1, 1) := by decide +kernel
theorem dX12_found_2 : decode cX12_found 2 = .ok (.putfield 38, 3) := by decide +kernel
theorem dX12_found_5 : decode cX12_found 5 = .ok (.ldc 42, 2) := by decide +kernel
theorem dX12_found_7 : decode cX12_found 7 = .ok (.iload_n 1, 1) := by decide +kernel
theorem dX12_found_8 : decode cX12_found 8 = .ok (.isub, 1) := by decide +kernel
theorem dX12_found_9 : decode cX12_found 9 = .ok (.ireturn, 1) := by decide +kernel
theorem dX12_well_0 : decode cX12_well 0 = .ok (.aload_n 0, 1) := by decide +kernel
theorem dX12_well_1 : decode cX12_well 1 = .ok (.iconst 0, 1) := by decide +kernel
theorem dX12_well_2 : decode cX12_well 2 = .ok (.putfield 38, 3) := by decide +kernel
theorem dX12_well_5 : decode cX12_well 5 = .ok (.iload_n 1, 1) := by decide +kernel
theorem dX12_well_6 : decode cX12_well 6 = .ok (.ireturn, 1) := by decide +kernel
set_option maxRecDepth 20000 in
theorem ggX12_isRow_X12_in : GoodIn wsX12_isRow wsX12_in := goodIn_r _ [5] (by decide +kernel) (by decide +kernel)
set_option maxRecDepth 20000 in
theorem gX12_isRow_X12_in : GoodIn wsX12_isRow (va_wsS RX12 45 yX12_in wsX12_in) := goodIn_app (goodIn_of _ (by decide +kernel)) ggX12_isRow_X12_in
theorem dX12_isRow_0 : decode cX12_isRow 0 = .ok (.iload_n 0, 1) := by decide +kernel
theorem dX12_isRow_1 : decode cX12_isRow 1 = .ok (.i2l, 1) := by decide +kernel
theorem dX12_isRow_2 : decode cX12_isRow 2 = .ok (.lconst 0, 1) := by decide +kernel
theorem dX12_isRow_3 : decode cX12_isRow 3 = .ok (.ldc2_w 43, 3) := by decide +kernel
theorem dX12_isRow_6 : decode cX12_isRow 6 = .ok (.invokestatic 45, 3) := by decide +kernel
theorem dX12_isRow_9 : decode cX12_isRow 9 = .ok (.ireturn, 1) := by decide +kernel
set_option maxRecDepth 20000 in
theorem ggX12_row_X12_isRow : GoodIn wsX12_row wsX12_isRow := goodIn_r _ [9, 10, 11, 12, 8, 13] (by decide +kernel) (by decide +kernel)
set_option maxRecDepth 20000 in
theorem gX12_row_X12_isRow : GoodIn wsX12_row (va_wsS RX12 49 yX12_isRow wsX12_isRow) := goodIn_app (goodIn_of _ (by decide +kernel)) ggX12_row_X12_isRow
set_option maxRecDepth 20000 in
theorem ggX12_row_X12_in : GoodIn wsX12_row wsX12_in := goodIn_r _ [13] (by decide +kernel) (by decide +kernel)
set_option maxRecDepth 20000 in
theorem gX12_row_X12_in : GoodIn wsX12_row (va_wsS RX12 45 yX12_in wsX12_in) := goodIn_app (goodIn_of _ (by decide +kernel)) ggX12_row_X12_in
set_option maxRecDepth 20000 in
theorem ggX12_row_X12_found : GoodIn wsX12_row wsX12_found := goodIn_r _ [17, 18, 19, 24, 25, 26, 27, 28, 29, 30, 31, 32, 33, 34, 35, 36, 37, 38, 39, 40, 41, 42] (by decide +kernel) (by decide +kernel)
set_option maxRecDepth 20000 in
theorem gX12_row_X12_found : GoodIn wsX12_row (wsV RX12 56 RX12 yX12_found wsX12_found) := goodIn_app (goodIn_of _ (by decide +kernel)) ggX12_row_X12_found
set_option maxRecDepth 20000 in
theorem ggX12_row_X12_well : GoodIn wsX12_row wsX12_well := goodIn_r _ [23, 18, 24, 25, 26, 27, 28, 29, 30, 31, 32, 33, 34, 35, 36, 37, 38, 39, 40, 41, 42] (by decide +kernel) (by decide +kernel)
set_option maxRecDepth 20000 in
theorem gX12_row_X12_well : GoodIn wsX12_row (wsV RX12 60 RX12 yX12_well wsX12_well) := goodIn_app (goodIn_of _ (by decide +kernel)) ggX12_row_X12_well
theorem dX12_row_0 : decode cX12_row 0 = .ok (.iload_n 1, 1) := by decide +kernel
theorem dX12_row_1 : decode cX12_row 1 = .ok (.invokestatic 49, 3) := by decide +kernel
theorem dX12_row_4 : decode cX12_row 4 = .ok (.ifCond .eq 21, 3) := by decide +kernel
theorem dX12_row_7 : decode cX12_row 7 = .ok (.iload_n 2, 1) := by decide +kernel
theorem dX12_row_8 : decode cX12_row 8 = .ok (.i2l, 1) := by decide +kernel
theorem dX12_row_9 : decode cX12_row 9 = .ok (.lconst 0, 1) := by decide +kernel
theorem dX12_row_10 : decode cX12_row 10 = .ok (.ldc2_w 53, 3) := by decide +kernel
theorem dX12_row_13 : decode cX12_row 13 = .ok (.invokestatic 45, 3) := by decide +kernel
theorem dX12_row_16 : decode cX12_row 16 = .ok (.ifCond .eq 9, 3) := by decide +kernel
theorem dX12_row_19 : decode cX12_row 19 = .ok (.iload_n 3, 1) := by decide +kernel
theorem dX12_row_20 : decode cX12_row 20 = .ok (.bipush 40, 2) := by decide +kernel
theorem dX12_row_22 : decode cX12_row 22 = .ok (.if_icmp .le 6, 3) := by decide +kernel
theorem dX12_row_25 : decode cX12_row 25 = .ok (.ldc 55, 2) := by decide +kernel
theorem dX12_row_27 : decode cX12_row 27 = .ok (.ireturn, 1) := by decide +kernel
theorem dX12_row_28 : decode cX12_row 28 = .ok (.iload_n 3, 1) := by decide +kernel
theorem dX12_row_29 : decode cX12_row 29 = .ok (.ifCond .ge 9, 3) := by decide +kernel
theorem dX12_row_32 : decode cX12_row 32 = .ok (.aload_n 0, 1) := by decide +kernel
theorem dX12_row_33 : decode cX12_row 33 = .ok (.iconst 4, 1) := by decide +kernel
theorem dX12_row_34 : decode cX12_row 34 = .ok (.invokevirtual 56, 3) := by decide +kernel
theorem dX12_row_37 : decode cX12_row 37 = .ok (.ireturn, 1) := by decide +kernel
theorem dX12_row_38 : decode cX12_row 38 = .ok (.aload_n 0, 1) := by decide +kernel
theorem dX12_row_39 : decode cX12_row 39 = .ok (.getfield 17, 3) := by decide +kernel
theorem dX12_row_42 : decode cX12_row 42 = .ok (.iload_n 1, 1) := by decide +kernel
theorem dX12_row_43 : decode cX12_row 43 = .ok (.iload_n 2, 1) := by decide +kernel
theorem dX12_row_44 : decode cX12_row 44 = .ok (.iastore, 1) := by decide +kernel
theorem dX12_row_45 : decode cX12_row 45 = .ok (.aload_n 0, 1) := by decide +kernel
theorem dX12_row_46 : decode cX12_row 46 = .ok (.getfield 20, 3) := by decide +kernel
theorem dX12_row_49 : decode cX12_row 49 = .ok (.iload_n 1, 1) := by decide +kernel
theorem dX12_row_50 : decode cX12_row 50 = .ok (.iload_n 3, 1) := by decide +kernel
theorem dX12_row_51 : decode cX12_row 51 = .ok (.iastore, 1) := by decide +kernel
theorem dX12_row_52 : decode cX12_row 52 = .ok (.iconst 0, 1) := by decide +kernel
theorem dX12_row_53 : decode cX12_row 53 = .ok (.istore 4, 2) := by decide +kernel
theorem dX12_row_55 : decode cX12_row 55 = .ok (.iload 4, 2) := by decide +kernel
theorem dX12_row_57 : decode cX12_row 57 = .ok (.bipush 40, 2) := by decide +kernel
theorem dX12_row_59 : decode cX12_row 59 = .ok (.if_icmp .ge 22, 3) := by decide +kernel
theorem dX12_row_62 : decode cX12_row 62 = .ok (.aload_n 0, 1) := by decide +kernel
theorem dX12_row_63 : decode cX12_row 63 = .ok (.getfield 23, 3) := by decide +kernel
theorem dX12_row_66 : decode cX12_row 66 = .ok (.bipush 40, 2) := by decide +kernel
theorem dX12_row_68 : decode cX12_row 68 = .ok (.iload_n 1, 1) := by decide +kernel
theorem dX12_row_69 : decode cX12_row 69 = .ok (.imul, 1) := by decide +kernel
theorem dX12_row_70 : decode cX12_row 70 = .ok (.iload 4, 2) := by decide +kernel
theorem dX12_row_72 : decode cX12_row 72 = .ok (.iadd, 1) := by decide +kernel
theorem dX12_row_73 : decode cX12_row 73 = .ok (.iconst 0, 1) := by decide +kernel
theorem dX12_row_74 : decode cX12_row 74 = .ok (.iastore, 1) := by decide +kernel
theorem dX12_row_75 : decode cX12_row 75 = .ok (.iinc 4 1, 3) := by decide +kernel
theorem dX12_row_78 : decode cX12_row 78 = .ok (.goto (-23), 3) := by decide +kernel
theorem dX12_row_81 : decode cX12_row 81 = .ok (.aload_n 0, 1) := by decide +kernel
theorem dX12_row_82 : decode cX12_row 82 = .ok (.iload_n 3, 1) := by decide +kernel
theorem dX12_row_83 : decode cX12_row 83 = .ok (.invokevirtual 60, 3) := by decide +kernel
theorem dX12_row_86 : decode cX12_row 86 = .ok (.ireturn, 1) := by decide +kernel
theorem dX12_cutTo_0 : decode cX12_cutTo 0 = .ok (.iload_n 0, 1) := by decide +kernel
theorem dX12_cutTo_1 : decode cX12_cutTo 1 = .ok (.ifCond .ne 8, 3) := by decide +kernel
theorem dX12_cutTo_4 : decode cX12_cutTo 4 = .ok (.iload_n 1, 1) := by decide +kernel
theorem dX12_cutTo_5 : decode cX12_cutTo 5 = .ok (.i2b, 1) := by decide +kernel
theorem dX12_cutTo_6 : decode cX12_cutTo 6 = .ok (.goto 14, 3) := by decide +kernel
theorem dX12_cutTo_9 : decode cX12_cutTo 9 = .ok (.iload_n 0, 1) := by decide +kernel
theorem dX12_cutTo_10 : decode cX12_cutTo 10 = .ok (.iconst 1, 1) := by decide +kernel
theorem dX12_cutTo_11 : decode cX12_cutTo 11 = .ok (.if_icmp .ne 8, 3) := by decide +kernel
theorem dX12_cutTo_14 : decode cX12_cutTo 14 = .ok (.iload_n 1, 1) := by decide +kernel
theorem dX12_cutTo_15 : decode cX12_cutTo 15 = .ok (.i2s, 1) := by decide +kernel
theorem dX12_cutTo_16 : decode cX12_cutTo 16 = .ok (.goto 4, 3) := by decide +kernel
theorem dX12_cutTo_19 : decode cX12_cutTo 19 = .ok (.iload_n 1, 1) := by decide +kernel
theorem dX12_cutTo_20 : decode cX12_cutTo 20 = .ok (.ireturn, 1) := by decide +kernel
theorem dX12_bars_0 : decode cX12_bars 0 = .ok (.aload_n 0, 1) := by decide +kernel
theorem dX12_bars_1 : decode cX12_bars 1 = .ok (.getfield 17, 3) := by decide +kernel
theorem dX12_bars_4 : decode cX12_bars 4 = .ok (.iload_n 1, 1) := by decide +kernel
theorem dX12_bars_5 : decode cX12_bars 5 = .ok (.iaload, 1) := by decide +kernel
theorem dX12_bars_6 : decode cX12_bars 6 = .ok (.ifCond .ge 7, 3) := by decide +kernel
theorem dX12_bars_9 : decode cX12_bars 9 = .ok (.iconst 1, 1) := by decide +kernel
theorem dX12_bars_10 : decode cX12_bars 10 = .ok (.goto 32, 3) := by decide +kernel
theorem dX12_bars_13 : decode cX12_bars 13 = .ok (.iload_n 2, 1) := by decide +kernel
theorem dX12_bars_14 : decode cX12_bars 14 = .ok (.ifCond .lt 23, 3) := by decide +kernel
theorem dX12_bars_17 : decode cX12_bars 17 = .ok (.iload_n 3, 1) := by decide +kernel
theorem dX12_bars_18 : decode cX12_bars 18 = .ok (.ifCond .lt 19, 3) := by decide +kernel
theorem dX12_bars_21 : decode cX12_bars 21 = .ok (.iload_n 2, 1) := by decide +kernel
theorem dX12_bars_22 : decode cX12_bars 22 = .ok (.i2l, 1) := by decide +kernel
theorem dX12_bars_23 : decode cX12_bars 23 = .ok (.iload_n 3, 1) := by decide +kernel
theorem dX12_bars_24 : decode cX12_bars 24 = .ok (.i2l, 1) := by decide +kernel
theorem dX12_bars_25 : decode cX12_bars 25 = .ok (.ladd, 1) := by decide +kernel
theorem dX12_bars_26 : decode cX12_bars 26 = .ok (.aload_n 0, 1) := by decide +kernel
theorem dX12_bars_27 : decode cX12_bars 27 = .ok (.getfield 20, 3) := by decide +kernel
theorem dX12_bars_30 : decode cX12_bars 30 = .ok (.iload_n 1, 1) := by decide +kernel
theorem dX12_bars_31 : decode cX12_bars 31 = .ok (.iaload, 1) := by decide +kernel
theorem dX12_bars_32 : decode cX12_bars 32 = .ok (.i2l, 1) := by decide +kernel
theorem dX12_bars_33 : decode cX12_bars 33 = .ok (.lcmp, 1) := by decide +kernel
theorem dX12_bars_34 : decode cX12_bars 34 = .ok (.ifCond .le 7, 3) := by decide +kernel
theorem dX12_bars_37 : decode cX12_bars 37 = .ok (.iconst 2, 1) := by decide +kernel
theorem dX12_bars_38 : decode cX12_bars 38 = .ok (.goto 4, 3) := by decide +kernel
theorem dX12_bars_41 : decode cX12_bars 41 = .ok (.iconst 0, 1) := by decide +kernel
theorem dX12_bars_42 : decode cX12_bars 42 = .ok (.ireturn, 1) := by decide +kernel
set_option maxRecDepth 20000 in
theorem ggX12_set_X12_isRow : GoodIn wsX12_set wsX12_isRow := goodIn_r _ [7, 8, 9, 10, 6, 11] (by decide +kernel) (by decide +kernel)
set_option maxRecDepth 20000 in
theorem gX12_set_X12_isRow : GoodIn wsX12_set (va_wsS RX12 49 yX12_isRow wsX12_isRow) := goodIn_app (goodIn_of _ (by decide +kernel)) ggX12_set_X12_isRow
set_option maxRecDepth 20000 in
theorem ggX12_set_X12_bars : GoodIn wsX12_set wsX12_bars := goodIn_r _ [15, 3, 16, 30, 31, 32, 33, 34, 35, 36, 37, 38, 39, 40, 41, 42, 43, 44, 45, 46, 47, 48] (by decide +kernel) (by decide +kernel)
set_option maxRecDepth 20000 in
theorem gX12_set_X12_bars : GoodIn wsX12_set (wsV RX12 63 RX12 yX12_bars wsX12_bars) := goodIn_app (goodIn_of _ (by decide +kernel)) ggX12_set_X12_bars
set_option maxRecDepth 20000 in
theorem ggX12_set_X12_found : GoodIn wsX12_set wsX12_found := goodIn_r _ [20, 21, 22, 30, 31, 32, 33, 34, 35, 36, 37, 38, 39, 40, 41, 42, 43, 44, 45, 46, 47, 48] (by decide +kernel) (by decide +kernel)
set_option maxRecDepth 20000 in
theorem gX12_set_X12_found : GoodIn wsX12_set (wsV RX12 56 RX12 yX12_found wsX12_found) := goodIn_app (goodIn_of _ (by decide +kernel)) ggX12_set_X12_found
set_option maxRecDepth 20000 in
theorem ggX12_set_X12_cutTo : GoodIn wsX12_set wsX12_cutTo := goodIn_r _ [25] (by decide +kernel) (by decide +kernel)
set_option maxRecDepth 20000 in
theorem gX12_set_X12_cutTo : GoodIn wsX12_set (va_wsS RX12 67 yX12_cutTo wsX12_cutTo) := goodIn_app (goodIn_of _ (by decide +kernel)) ggX12_set_X12_cutTo
set_option maxRecDepth 20000 in
theorem ggX12_set_X12_well : GoodIn wsX12_set wsX12_well := goodIn_r _ [29, 21, 30, 31, 32, 33, 34, 35, 36, 37, 38, 39, 40, 41, 42, 43, 44, 45, 46, 47, 48] (by decide +kernel) (by decide +kernel)
set_option maxRecDepth 20000 in
theorem gX12_set_X12_well : GoodIn wsX12_set (wsV RX12 60 RX12 yX12_well wsX12_well) := goodIn_app (goodIn_of _ (by decide +kernel)) ggX12_set_X12_well
theorem dX12_set_0 : decode cX12_set 0 = .ok (.iload_n 1, 1) := by decide +kernel
theorem dX12_set_1 : decode cX12_set 1 = .ok (.invokestatic 49, 3) := by decide +kernel
theorem dX12_set_4 : decode cX12_set 4 = .ok (.ifCond .ne 6, 3) := by decide +kernel
theorem dX12_set_7 : decode cX12_set 7 = .ok (.ldc 55, 2) := by decide +kernel
theorem dX12_set_9 : decode cX12_set 9 = .ok (.ireturn, 1) := by decide +kernel
theorem dX12_set_10 : decode cX12_set 10 = .ok (.aload_n 0, 1) := by decide +kernel
theorem dX12_set_11 : decode cX12_set 11 = .ok (.iload_n 1, 1) := by decide +kernel
theorem dX12_set_12 : decode cX12_set 12 = .ok (.iload_n 2, 1) := by decide +kernel
theorem dX12_set_13 : decode cX12_set 13 = .ok (.iconst 1, 1) := by decide +kernel
theorem dX12_set_14 : decode cX12_set 14 = .ok (.invokevirtual 63, 3) := by decide +kernel
theorem dX12_set_17 : decode cX12_set 17 = .ok (.istore 4, 2) := by decide +kernel
theorem dX12_set_19 : decode cX12_set 19 = .ok (.iload 4, 2) := by decide +kernel
theorem dX12_set_21 : decode cX12_set 21 = .ok (.ifCond .le 10, 3) := by decide +kernel
theorem dX12_set_24 : decode cX12_set 24 = .ok (.aload_n 0, 1) := by decide +kernel
theorem dX12_set_25 : decode cX12_set 25 = .ok (.iload 4, 2) := by decide +kernel
theorem dX12_set_27 : decode cX12_set 27 = .ok (.invokevirtual 56, 3) := by decide +kernel
theorem dX12_set_30 : decode cX12_set 30 = .ok (.ireturn, 1) := by decide +kernel
theorem dX12_set_31 : decode cX12_set 31 = .ok (.aload_n 0, 1) := by decide +kernel
theorem dX12_set_32 : decode cX12_set 32 = .ok (.getfield 23, 3) := by decide +kernel
theorem dX12_set_35 : decode cX12_set 35 = .ok (.bipush 40, 2) := by decide +kernel
theorem dX12_set_37 : decode cX12_set 37 = .ok (.iload_n 1, 1) := by decide +kernel
theorem dX12_set_38 : decode cX12_set 38 = .ok (.imul, 1) := by decide +kernel
theorem dX12_set_39 : decode cX12_set 39 = .ok (.iload_n 2, 1) := by decide +kernel
theorem dX12_set_40 : decode cX12_set 40 = .ok (.iadd, 1) := by decide +kernel
theorem dX12_set_41 : decode cX12_set 41 = .ok (.aload_n 0, 1) := by decide +kernel
theorem dX12_set_42 : decode cX12_set 42 = .ok (.getfield 17, 3) := by decide +kernel
theorem dX12_set_45 : decode cX12_set 45 = .ok (.iload_n 1, 1) := by decide +kernel
theorem dX12_set_46 : decode cX12_set 46 = .ok (.iaload, 1) := by decide +kernel
theorem dX12_set_47 : decode cX12_set 47 = .ok (.iload_n 3, 1) := by decide +kernel
theorem dX12_set_48 : decode cX12_set 48 = .ok (.invokestatic 67, 3) := by decide +kernel
theorem dX12_set_51 : decode cX12_set 51 = .ok (.iastore, 1) := by decide +kernel
theorem dX12_set_52 : decode cX12_set 52 = .ok (.aload_n 0, 1) := by decide +kernel
theorem dX12_set_53 : decode cX12_set 53 = .ok (.aload_n 0, 1) := by decide +kernel
theorem dX12_set_54 : decode cX12_set 54 = .ok (.getfield 23, 3) := by decide +kernel
theorem dX12_set_57 : decode cX12_set 57 = .ok (.bipush 40, 2) := by decide +kernel
theorem dX12_set_59 : decode cX12_set 59 = .ok (.iload_n 1, 1) := by decide +kernel
theorem dX12_set_60 : decode cX12_set 60 = .ok (.imul, 1) := by decide +kernel
theorem dX12_set_61 : decode cX12_set 61 = .ok (.iload_n 2, 1) := by decide +kernel
theorem dX12_set_62 : decode cX12_set 62 = .ok (.iadd, 1) := by decide +kernel
theorem dX12_set_63 : decode cX12_set 63 = .ok (.iaload, 1) := by decide +kernel
theorem dX12_set_64 : decode cX12_set 64 = .ok (.invokevirtual 60, 3) := by decide +kernel
theorem dX12_set_67 : decode cX12_set 67 = .ok (.ireturn, 1) := by decide +kernel
set_option maxRecDepth 20000 in
theorem ggX12_copy_X12_isRow : GoodIn wsX12_copy wsX12_isRow := goodIn_r _ [8, 9, 10, 11, 7, 12] (by decide +kernel) (by decide +kernel)
set_option maxRecDepth 20000 in
theorem gX12_copy_X12_isRow : GoodIn wsX12_copy (va_wsS RX12 49 yX12_isRow wsX12_isRow) := goodIn_app (goodIn_of _ (by decide +kernel)) ggX12_copy_X12_isRow
set_option maxRecDepth 20000 in
theorem ggX12_copy_X12_found : GoodIn wsX12_copy wsX12_found := goodIn_r _ [16, 17, 18, 28, 29, 30, 31, 32, 33, 34, 35, 36, 37, 38, 39, 40, 41, 42, 43, 44, 45, 46] (by decide +kernel) (by decide +kernel)
set_option maxRecDepth 20000 in
theorem gX12_copy_X12_found : GoodIn wsX12_copy (wsV RX12 56 RX12 yX12_found wsX12_found) := goodIn_app (goodIn_of _ (by decide +kernel)) ggX12_copy_X12_found
set_option maxRecDepth 20000 in
theorem ggX12_copy_X12_bars : GoodIn wsX12_copy wsX12_bars := goodIn_r _ [22, 2, 23, 28, 29, 30, 31, 32, 33, 34, 35, 36, 37, 38, 39, 40, 41, 42, 43, 44, 45, 46] (by decide +kernel) (by decide +kernel)
set_option maxRecDepth 20000 in
theorem gX12_copy_X12_bars : GoodIn wsX12_copy (wsV RX12 63 RX12 yX12_bars wsX12_bars) := goodIn_app (goodIn_of _ (by decide +kernel)) ggX12_copy_X12_bars
set_option maxRecDepth 20000 in
theorem ggX12_copy_X12_well : GoodIn wsX12_copy wsX12_well := goodIn_r _ [27, 17, 28, 29, 30, 31, 32, 33, 34, 35, 36, 37, 38, 39, 40, 41, 42, 43, 44, 45, 46] (by decide +kernel) (by decide +kernel)
set_option maxRecDepth 20000 in
theorem gX12_copy_X12_well : GoodIn wsX12_copy (wsV RX12 60 RX12 yX12_well wsX12_well) := goodIn_app (goodIn_of _ (by decide +kernel)) ggX12_copy_X12_well
theorem dX12_copy_0 : decode cX12_copy 0 = .ok (.iload_n 1, 1) := by decide +kernel
theorem dX12_copy_1 : decode cX12_copy 1 = .ok (.invokestatic 49, 3) := by decide +kernel
theorem dX12_copy_4 : decode cX12_copy 4 = .ok (.ifCond .eq 10, 3) := by decide +kernel
theorem dX12_copy_7 : decode cX12_copy 7 = .ok (.iload_n 3, 1) := by decide +kernel
theorem dX12_copy_8 : decode cX12_copy 8 = .ok (.invokestatic 49, 3) := by decide +kernel
theorem dX12_copy_11 : decode cX12_copy 11 = .ok (.ifCond .ne 6, 3) := by decide +kernel
theorem dX12_copy_14 : decode cX12_copy 14 = .ok (.ldc 55, 2) := by decide +kernel
theorem dX12_copy_16 : decode cX12_copy 16 = .ok (.ireturn, 1) := by decide +kernel
theorem dX12_copy_17 : decode cX12_copy 17 = .ok (.aload_n 0, 1) := by decide +kernel
theorem dX12_copy_18 : decode cX12_copy 18 = .ok (.getfield 17, 3) := by decide +kernel
theorem dX12_copy_21 : decode cX12_copy 21 = .ok (.iload_n 1, 1) := by decide +kernel
theorem dX12_copy_22 : decode cX12_copy 22 = .ok (.iaload, 1) := by decide +kernel
theorem dX12_copy_23 : decode cX12_copy 23 = .ok (.ifCond .lt 12, 3) := by decide +kernel
theorem dX12_copy_26 : decode cX12_copy 26 = .ok (.aload_n 0, 1) := by decide +kernel
theorem dX12_copy_27 : decode cX12_copy 27 = .ok (.getfield 17, 3) := by decide +kernel
theorem dX12_copy_30 : decode cX12_copy 30 = .ok (.iload_n 3, 1) := by decide +kernel
theorem dX12_copy_31 : decode cX12_copy 31 = .ok (.iaload, 1) := by decide +kernel
theorem dX12_copy_32 : decode cX12_copy 32 = .ok (.ifCond .ge 9, 3) := by decide +kernel
theorem dX12_copy_35 : decode cX12_copy 35 = .ok (.aload_n 0, 1) := by decide +kernel
theorem dX12_copy_36 : decode cX12_copy 36 = .ok (.iconst 1, 1) := by decide +kernel
theorem dX12_copy_37 : decode cX12_copy 37 = .ok (.invokevirtual 56, 3) := by decide +kernel
theorem dX12_copy_40 : decode cX12_copy 40 = .ok (.ireturn, 1) := by decide +kernel
theorem dX12_copy_41 : decode cX12_copy 41 = .ok (.aload_n 0, 1) := by decide +kernel
theorem dX12_copy_42 : decode cX12_copy 42 = .ok (.getfield 17, 3) := by decide +kernel
theorem dX12_copy_45 : decode cX12_copy 45 = .ok (.iload_n 1, 1) := by decide +kernel
theorem dX12_copy_46 : decode cX12_copy 46 = .ok (.iaload, 1) := by decide +kernel
theorem dX12_copy_47 : decode cX12_copy 47 = .ok (.aload_n 0, 1) := by decide +kernel
theorem dX12_copy_48 : decode cX12_copy 48 = .ok (.getfield 17, 3) := by decide +kernel
theorem dX12_copy_51 : decode cX12_copy 51 = .ok (.iload_n 3, 1) := by decide +kernel
theorem dX12_copy_52 : decode cX12_copy 52 = .ok (.iaload, 1) := by decide +kernel
theorem dX12_copy_53 : decode cX12_copy 53 = .ok (.if_icmp .eq 9, 3) := by decide +kernel
theorem dX12_copy_56 : decode cX12_copy 56 = .ok (.aload_n 0, 1) := by decide +kernel
theorem dX12_copy_57 : decode cX12_copy 57 = .ok (.iconst 5, 1) := by decide +kernel
theorem dX12_copy_58 : decode cX12_copy 58 = .ok (.invokevirtual 56, 3) := by decide +kernel
theorem dX12_copy_61 : decode cX12_copy 61 = .ok (.ireturn, 1) := by decide +kernel
theorem dX12_copy_62 : decode cX12_copy 62 = .ok (.aload_n 0, 1) := by decide +kernel
theorem dX12_copy_63 : decode cX12_copy 63 = .ok (.iload_n 1, 1) := by decide +kernel
theorem dX12_copy_64 : decode cX12_copy 64 = .ok (.iload_n 2, 1) := by decide +kernel
theorem dX12_copy_65 : decode cX12_copy 65 = .ok (.iload 5, 2) := by decide +kernel
theorem dX12_copy_67 : decode cX12_copy 67 = .ok (.invokevirtual 63, 3) := by decide +kernel
theorem dX12_copy_70 : decode cX12_copy 70 = .ok (.ifCond .gt 15, 3) := by decide +kernel
theorem dX12_copy_73 : decode cX12_copy 73 = .ok (.aload_n 0, 1) := by decide +kernel
theorem dX12_copy_74 : decode cX12_copy 74 = .ok (.iload_n 3, 1) := by decide +kernel
theorem dX12_copy_75 : decode cX12_copy 75 = .ok (.iload 4, 2) := by decide +kernel
theorem dX12_copy_77 : decode cX12_copy 77 = .ok (.iload 5, 2) := by decide +kernel
theorem dX12_copy_79 : decode cX12_copy 79 = .ok (.invokevirtual 63, 3) := by decide +kernel
theorem dX12_copy_82 : decode cX12_copy 82 = .ok (.ifCond .le 9, 3) := by decide +kernel
theorem dX12_copy_85 : decode cX12_copy 85 = .ok (.aload_n 0, 1) := by decide +kernel
theorem dX12_copy_86 : decode cX12_copy 86 = .ok (.iconst 2, 1) := by decide +kernel
theorem dX12_copy_87 : decode cX12_copy 87 = .ok (.invokevirtual 56, 3) := by decide +kernel
theorem dX12_copy_90 : decode cX12_copy 90 = .ok (.ireturn, 1) := by decide +kernel
theorem dX12_copy_91 : decode cX12_copy 91 = .ok (.iconst 0, 1) := by decide +kernel
theorem dX12_copy_92 : decode cX12_copy 92 = .ok (.istore 6, 2) := by decide +kernel
theorem dX12_copy_94 : decode cX12_copy 94 = .ok (.iload 6, 2) := by decide +kernel
theorem dX12_copy_96 : decode cX12_copy 96 = .ok (.iload 5, 2) := by decide +kernel
theorem dX12_copy_98 : decode cX12_copy 98 = .ok (.if_icmp .ge 30, 3) := by decide +kernel
theorem dX12_copy_101 : decode cX12_copy 101 = .ok (.aload_n 0, 1) := by decide +kernel
theorem dX12_copy_102 : decode cX12_copy 102 = .ok (.getfield 26, 3) := by decide +kernel
theorem dX12_copy_105 : decode cX12_copy 105 = .ok (.iload 6, 2) := by decide +kernel
theorem dX12_copy_107 : decode cX12_copy 107 = .ok (.aload_n 0, 1) := by decide +kernel
theorem dX12_copy_108 : decode cX12_copy 108 = .ok (.getfield 23, 3) := by decide +kernel
theorem dX12_copy_111 : decode cX12_copy 111 = .ok (.bipush 40, 2) := by decide +kernel
theorem dX12_copy_113 : decode cX12_copy 113 = .ok (.iload_n 1, 1) := by decide +kernel
theorem dX12_copy_114 : decode cX12_copy 114 = .ok (.imul, 1) := by decide +kernel
theorem dX12_copy_115 : decode cX12_copy 115 = .ok (.iload_n 2, 1) := by decide +kernel
theorem dX12_copy_116 : decode cX12_copy 116 = .ok (.iadd, 1) := by decide +kernel
theorem dX12_copy_117 : decode cX12_copy 117 = .ok (.iload 6, 2) := by decide +kernel
theorem dX12_copy_119 : decode cX12_copy 119 = .ok (.iadd, 1) := by decide +kernel
theorem dX12_copy_120 : decode cX12_copy 120 = .ok (.iaload, 1) := by decide +kernel
theorem dX12_copy_121 : decode cX12_copy 121 = .ok (.iastore, 1) := by decide +kernel
theorem dX12_copy_122 : decode cX12_copy 122 = .ok (.iinc 6 1, 3) := by decide +kernel
theorem dX12_copy_125 : decode cX12_copy 125 = .ok (.goto (-31), 3) := by decide +kernel
theorem dX12_copy_128 : decode cX12_copy 128 = .ok (.iconst 0, 1) := by decide +kernel
theorem dX12_copy_129 : decode cX12_copy 129 = .ok (.istore 6, 2) := by decide +kernel
theorem dX12_copy_131 : decode cX12_copy 131 = .ok (.iload 6, 2) := by decide +kernel
theorem dX12_copy_133 : decode cX12_copy 133 = .ok (.iload 5, 2) := by decide +kernel
theorem dX12_copy_135 : decode cX12_copy 135 = .ok (.if_icmp .ge 31, 3) := by decide +kernel
theorem dX12_copy_138 : decode cX12_copy 138 = .ok (.aload_n 0, 1) := by decide +kernel
theorem dX12_copy_139 : decode cX12_copy 139 = .ok (.getfield 23, 3) := by decide +kernel
theorem dX12_copy_142 : decode cX12_copy 142 = .ok (.bipush 40, 2) := by decide +kernel
theorem dX12_copy_144 : decode cX12_copy 144 = .ok (.iload_n 3, 1) := by decide +kernel
theorem dX12_copy_145 : decode cX12_copy 145 = .ok (.imul, 1) := by decide +kernel
theorem dX12_copy_146 : decode cX12_copy 146 = .ok (.iload 4, 2) := by decide +kernel
theorem dX12_copy_148 : decode cX12_copy 148 = .ok (.iadd, 1) := by decide +kernel
theorem dX12_copy_149 : decode cX12_copy 149 = .ok (.iload 6, 2) := by decide +kernel
theorem dX12_copy_151 : decode cX12_copy 151 = .ok (.iadd, 1) := by decide +kernel
theorem dX12_copy_152 : decode cX12_copy 152 = .ok (.aload_n 0, 1) := by decide +kernel
theorem dX12_copy_153 : decode cX12_copy 153 = .ok (.getfield 26, 3) := by decide +kernel
theorem dX12_copy_156 : decode cX12_copy 156 = .ok (.iload 6, 2) := by decide +kernel
theorem dX12_copy_158 : decode cX12_copy 158 = .ok (.iaload, 1) := by decide +kernel
theorem dX12_copy_159 : decode cX12_copy 159 = .ok (.iastore, 1) := by decide +kernel
theorem dX12_copy_160 : decode cX12_copy 160 = .ok (.iinc 6 1, 3) := by decide +kernel
theorem dX12_copy_163 : decode cX12_copy 163 = .ok (.goto (-32), 3) := by decide +kernel
theorem dX12_copy_166 : decode cX12_copy 166 = .ok (.aload_n 0, 1) := by decide +kernel
theorem dX12_copy_167 : decode cX12_copy 167 = .ok (.iload 5, 2) := by decide +kernel
theorem dX12_copy_169 : decode cX12_copy 169 = .ok (.invokevirtual 60, 3) := by decide +kernel
theorem dX12_copy_172 : decode cX12_copy 172 = .ok (.ireturn, 1) := by decide +kernel
set_option maxRecDepth 20000 in
theorem ggX12_drop_X12_isRow : GoodIn wsX12_drop wsX12_isRow := goodIn_r _ [7, 8, 9, 10, 6, 11] (by decide +kernel) (by decide +kernel)
set_option maxRecDepth 20000 in
theorem gX12_drop_X12_isRow : GoodIn wsX12_drop (va_wsS RX12 49 yX12_isRow wsX12_isRow) := goodIn_app (goodIn_of _ (by decide +kernel)) ggX12_drop_X12_isRow
set_option maxRecDepth 20000 in
theorem ggX12_drop_X12_found : GoodIn wsX12_drop wsX12_found := goodIn_r _ [15, 16, 17, 22, 23, 24, 25, 26, 27, 28, 29, 30, 31, 32, 33, 34, 35, 36, 37, 38, 39, 40] (by decide +kernel) (by decide +kernel)
set_option maxRecDepth 20000 in
theorem gX12_drop_X12_found : GoodIn wsX12_drop (wsV RX12 56 RX12 yX12_found wsX12_found) := goodIn_app (goodIn_of _ (by decide +kernel)) ggX12_drop_X12_found
set_option maxRecDepth 20000 in
theorem ggX12_drop_X12_well : GoodIn wsX12_drop wsX12_well := goodIn_r _ [21, 16, 22, 23, 24, 25, 26, 27, 28, 29, 30, 31, 32, 33, 34, 35, 36, 37, 38, 39, 40] (by decide +kernel) (by decide +kernel)
set_option maxRecDepth 20000 in
theorem gX12_drop_X12_well : GoodIn wsX12_drop (wsV RX12 60 RX12 yX12_well wsX12_well) := goodIn_app (goodIn_of _ (by decide +kernel)) ggX12_drop_X12_well
theorem dX12_drop_0 : decode cX12_drop 0 = .ok (.iload_n 1, 1) := by decide +kernel
theorem dX12_drop_1 : decode cX12_drop 1 = .ok (.invokestatic 49, 3) := by decide +kernel
theorem dX12_drop_4 : decode cX12_drop 4 = .ok (.ifCond .ne 6, 3) := by decide +kernel
theorem dX12_drop_7 : decode cX12_drop 7 = .ok (.ldc 55, 2) := by decide +kernel
theorem dX12_drop_9 : decode cX12_drop 9 = .ok (.ireturn, 1) := by decide +kernel
theorem dX12_drop_10 : decode cX12_drop 10 = .ok (.aload_n 0, 1) := by decide +kernel
theorem dX12_drop_11 : decode cX12_drop 11 = .ok (.getfield 17, 3) := by decide +kernel
theorem dX12_drop_14 : decode cX12_drop 14 = .ok (.iload_n 1, 1) := by decide +kernel
theorem dX12_drop_15 : decode cX12_drop 15 = .ok (.iaload, 1) := by decide +kernel
theorem dX12_drop_16 : decode cX12_drop 16 = .ok (.ifCond .ge 9, 3) := by decide +kernel
theorem dX12_drop_19 : decode cX12_drop 19 = .ok (.aload_n 0, 1) := by decide +kernel
theorem dX12_drop_20 : decode cX12_drop 20 = .ok (.iconst 1, 1) := by decide +kernel
theorem dX12_drop_21 : decode cX12_drop 21 = .ok (.invokevirtual 56, 3) := by decide +kernel
theorem dX12_drop_24 : decode cX12_drop 24 = .ok (.ireturn, 1) := by decide +kernel
theorem dX12_drop_25 : decode cX12_drop 25 = .ok (.aload_n 0, 1) := by decide +kernel
theorem dX12_drop_26 : decode cX12_drop 26 = .ok (.getfield 17, 3) := by decide +kernel
theorem dX12_drop_29 : decode cX12_drop 29 = .ok (.iload_n 1, 1) := by decide +kernel
theorem dX12_drop_30 : decode cX12_drop 30 = .ok (.iconst (-1), 1) := by decide +kernel
theorem dX12_drop_31 : decode cX12_drop 31 = .ok (.iastore, 1) := by decide +kernel
theorem dX12_drop_32 : decode cX12_drop 32 = .ok (.aload_n 0, 1) := by decide +kernel
theorem dX12_drop_33 : decode cX12_drop 33 = .ok (.aload_n 0, 1) := by decide +kernel
theorem dX12_drop_34 : decode cX12_drop 34 = .ok (.getfield 20, 3) := by decide +kernel
theorem dX12_drop_37 : decode cX12_drop 37 = .ok (.iload_n 1, 1) := by decide +kernel
theorem dX12_drop_38 : decode cX12_drop 38 = .ok (.iaload, 1) := by decide +kernel
theorem dX12_drop_39 : decode cX12_drop 39 = .ok (.invokevirtual 60, 3) := by decide +kernel
theorem dX12_drop_42 : decode cX12_drop 42 = .ok (.ireturn, 1) := by decide +kernel
set_option maxRecDepth 20000 in
theorem ggX12_feed_X12_in : GoodIn wsX12_feed wsX12_in := goodIn_r _ [9] (by decide +kernel) (by decide +kernel)
set_option maxRecDepth 20000 in
theorem gX12_feed_X12_in : GoodIn wsX12_feed (va_wsS RX12 45 yX12_in wsX12_in) := goodIn_app (goodIn_of _ (by decide +kernel)) ggX12_feed_X12_in
theorem dX12_feed_0 : decode cX12_feed 0 = .ok (.iload_n 1, 1) := by decide +kernel
theorem dX12_feed_1 : decode cX12_feed 1 = .ok (.i2l, 1) := by decide +kernel
theorem dX12_feed_2 : decode cX12_feed 2 = .ok (.lconst 0, 1) := by decide +kernel
theorem dX12_feed_3 : decode cX12_feed 3 = .ok (.ldc2_w 71, 3) := by decide +kernel
theorem dX12_feed_6 : decode cX12_feed 6 = .ok (.invokestatic 45, 3) := by decide +kernel
theorem dX12_feed_9 : decode cX12_feed 9 = .ok (.ifCond .ne 6, 3) := by decide +kernel
theorem dX12_feed_12 : decode cX12_feed 12 = .ok (.ldc 55, 2) := by decide +kernel
theorem dX12_feed_14 : decode cX12_feed 14 = .ok (.ireturn, 1) := by decide +kernel
theorem dX12_feed_15 : decode cX12_feed 15 = .ok (.aload_n 0, 1) := by decide +kernel
theorem dX12_feed_16 : decode cX12_feed 16 = .ok (.getfield 73, 3) := by decide +kernel
theorem dX12_feed_19 : decode cX12_feed 19 = .ok (.bipush 100, 2) := by decide +kernel
theorem dX12_feed_21 : decode cX12_feed 21 = .ok (.if_icmp .ne 6, 3) := by decide +kernel
theorem dX12_feed_24 : decode cX12_feed 24 = .ok (.ldc 76, 2) := by decide +kernel
theorem dX12_feed_26 : decode cX12_feed 26 = .ok (.ireturn, 1) := by decide +kernel
theorem dX12_feed_27 : decode cX12_feed 27 = .ok (.aload_n 0, 1) := by decide +kernel
theorem dX12_feed_28 : decode cX12_feed 28 = .ok (.getfield 29, 3) := by decide +kernel
theorem dX12_feed_31 : decode cX12_feed 31 = .ok (.aload_n 0, 1) := by decide +kernel
theorem dX12_feed_32 : decode cX12_feed 32 = .ok (.getfield 73, 3) := by decide +kernel
theorem dX12_feed_35 : decode cX12_feed 35 = .ok (.iload_n 1, 1) := by decide +kernel
theorem dX12_feed_36 : decode cX12_feed 36 = .ok (.iastore, 1) := by decide +kernel
theorem dX12_feed_37 : decode cX12_feed 37 = .ok (.aload_n 0, 1) := by decide +kernel
theorem dX12_feed_38 : decode cX12_feed 38 = .ok (.dup, 1) := by decide +kernel
theorem dX12_feed_39 : decode cX12_feed 39 = .ok (.getfield 73, 3) := by decide +kernel
theorem dX12_feed_42 : decode cX12_feed 42 = .ok (.iconst 1, 1) := by decide +kernel
theorem dX12_feed_43 : decode cX12_feed 43 = .ok (.iadd, 1) := by decide +kernel
theorem dX12_feed_44 : decode cX12_feed 44 = .ok (.putfield 73, 3) := by decide +kernel
theorem dX12_feed_47 : decode cX12_feed 47 = .ok (.aload_n 0, 1) := by decide +kernel
theorem dX12_feed_48 : decode cX12_feed 48 = .ok (.getfield 73, 3) := by decide +kernel
theorem dX12_feed_51 : decode cX12_feed 51 = .ok (.ireturn, 1) := by decide +kernel
theorem dX12_byteAt_0 : decode cX12_byteAt 0 = .ok (.iload_n 1, 1) := by decide +kernel
theorem dX12_byteAt_1 : decode cX12_byteAt 1 = .ok (.aload_n 0, 1) := by decide +kernel
theorem dX12_byteAt_2 : decode cX12_byteAt 2 = .ok (.getfield 73, 3) := by decide +kernel
theorem dX12_byteAt_5 : decode cX12_byteAt 5 = .ok (.if_icmp .ge 12, 3) := by decide +kernel
theorem dX12_byteAt_8 : decode cX12_byteAt 8 = .ok (.aload_n 0, 1) := by decide +kernel
theorem dX12_byteAt_9 : decode cX12_byteAt 9 = .ok (.getfield 29, 3) := by decide +kernel
theorem dX12_byteAt_12 : decode cX12_byteAt 12 = .ok (.iload_n 1, 1) := by decide +kernel
theorem dX12_byteAt_13 : decode cX12_byteAt 13 = .ok (.iaload, 1) := by decide +kernel
theorem dX12_byteAt_14 : decode cX12_byteAt 14 = .ok (.goto 4, 3) := by decide +kernel
theorem dX12_byteAt_17 : decode cX12_byteAt 17 = .ok (.iconst (-1), 1) := by decide +kernel
theorem dX12_byteAt_18 : decode cX12_byteAt 18 = .ok (.ireturn, 1) := by decide +kernel
set_option maxRecDepth 20000 in
theorem ggX12_isFigure_X12_byteAt : GoodIn wsX12_isFigure wsX12_byteAt := goodIn_r _ [7, 8, 9, 13, 14, 15, 16, 17, 18, 19, 20, 21, 22, 23, 24, 25, 26, 27, 28, 29, 30, 31] (by decide +kernel) (by decide +kernel)
set_option maxRecDepth 20000 in
theorem gX12_isFigure_X12_byteAt : GoodIn wsX12_isFigure (wsV RX12 77 RX12 yX12_byteAt wsX12_byteAt) := goodIn_app (goodIn_of _ (by decide +kernel)) ggX12_isFigure_X12_byteAt
set_option maxRecDepth 20000 in
theorem ggX12_isFigure_X12_in : GoodIn wsX12_isFigure wsX12_in := goodIn_r _ [12] (by decide +kernel) (by decide +kernel)
set_option maxRecDepth 20000 in
theorem gX12_isFigure_X12_in : GoodIn wsX12_isFigure (va_wsS RX12 45 yX12_in wsX12_in) := goodIn_app (goodIn_of _ (by decide +kernel)) ggX12_isFigure_X12_in
theorem dX12_isFigure_0 : decode cX12_isFigure 0 = .ok (.aload_n 0, 1) := by decide +kernel
theorem dX12_isFigure_1 : decode cX12_isFigure 1 = .ok (.iload_n 1, 1) := by decide +kernel
theorem dX12_isFigure_2 : decode cX12_isFigure 2 = .ok (.invokevirtual 77, 3) := by decide +kernel
theorem dX12_isFigure_5 : decode cX12_isFigure 5 = .ok (.i2l, 1) := by decide +kernel
theorem dX12_isFigure_6 : decode cX12_isFigure 6 = .ok (.ldc2_w 80, 3) := by decide +kernel
theorem dX12_isFigure_9 : decode cX12_isFigure 9 = .ok (.ldc2_w 82, 3) := by decide +kernel
theorem dX12_isFigure_12 : decode cX12_isFigure 12 = .ok (.invokestatic 45, 3) := by decide +kernel
theorem dX12_isFigure_15 : decode cX12_isFigure 15 = .ok (.ireturn, 1) := by decide +kernel
set_option maxRecDepth 20000 in
theorem ggX12_takes_X12_byteAt : GoodIn wsX12_takes wsX12_byteAt := goodIn_r _ [8, 9, 10, 11, 12, 13, 14, 15, 16, 17, 18, 19, 20, 21, 22, 23, 24, 25, 26, 27, 28, 29] (by decide +kernel) (by decide +kernel)
set_option maxRecDepth 20000 in
theorem gX12_takes_X12_byteAt : GoodIn wsX12_takes (wsV RX12 77 RX12 yX12_byteAt wsX12_byteAt) := goodIn_app (goodIn_of _ (by decide +kernel)) ggX12_takes_X12_byteAt
theorem dX12_takes_0 : decode cX12_takes 0 = .ok (.aload_n 0, 1) := by decide +kernel
theorem dX12_takes_1 : decode cX12_takes 1 = .ok (.aload_n 0, 1) := by decide +kernel
theorem dX12_takes_2 : decode cX12_takes 2 = .ok (.getfield 84, 3) := by decide +kernel
theorem dX12_takes_5 : decode cX12_takes 5 = .ok (.putfield 87, 3) := by decide +kernel
theorem dX12_takes_8 : decode cX12_takes 8 = .ok (.aload_n 0, 1) := by decide +kernel
theorem dX12_takes_9 : decode cX12_takes 9 = .ok (.iconst 1, 1) := by decide +kernel
theorem dX12_takes_10 : decode cX12_takes 10 = .ok (.putfield 90, 3) := by decide +kernel
theorem dX12_takes_13 : decode cX12_takes 13 = .ok (.aload_n 0, 1) := by decide +kernel
theorem dX12_takes_14 : decode cX12_takes 14 = .ok (.aload_n 0, 1) := by decide +kernel
theorem dX12_takes_15 : decode cX12_takes 15 = .ok (.getfield 84, 3) := by decide +kernel
theorem dX12_takes_18 : decode cX12_takes 18 = .ok (.invokevirtual 77, 3) := by decide +kernel
theorem dX12_takes_21 : decode cX12_takes 21 = .ok (.iload_n 1, 1) := by decide +kernel
theorem dX12_takes_22 : decode cX12_takes 22 = .ok (.if_icmp .ne 7, 3) := by decide +kernel
theorem dX12_takes_25 : decode cX12_takes 25 = .ok (.iconst 1, 1) := by decide +kernel
theorem dX12_takes_26 : decode cX12_takes 26 = .ok (.goto 4, 3) := by decide +kernel
theorem dX12_takes_29 : decode cX12_takes 29 = .ok (.iconst 0, 1) := by decide +kernel
theorem dX12_takes_30 : decode cX12_takes 30 = .ok (.istore_n 2, 1) := by decide +kernel
theorem dX12_takes_31 : decode cX12_takes 31 = .ok (.aload_n 0, 1) := by decide +kernel
theorem dX12_takes_32 : decode cX12_takes 32 = .ok (.dup, 1) := by decide +kernel
theorem dX12_takes_33 : decode cX12_takes 33 = .ok (.getfield 84, 3) := by decide +kernel
theorem dX12_takes_36 : decode cX12_takes 36 = .ok (.iload_n 2, 1) := by decide +kernel
theorem dX12_takes_37 : decode cX12_takes 37 = .ok (.ifCond .eq 7, 3) := by decide +kernel
theorem dX12_takes_40 : decode cX12_takes 40 = .ok (.iconst 1, 1) := by decide +kernel
theorem dX12_takes_41 : decode cX12_takes 41 = .ok (.goto 4, 3) := by decide +kernel
theorem dX12_takes_44 : decode cX12_takes 44 = .ok (.iconst 0, 1) := by decide +kernel
theorem dX12_takes_45 : decode cX12_takes 45 = .ok (.iadd, 1) := by decide +kernel
theorem dX12_takes_46 : decode cX12_takes 46 = .ok (.putfield 84, 3) := by decide +kernel
theorem dX12_takes_49 : decode cX12_takes 49 = .ok (.iload_n 2, 1) := by decide +kernel
theorem dX12_takes_50 : decode cX12_takes 50 = .ok (.ireturn, 1) := by decide +kernel
set_option maxRecDepth 20000 in
theorem ggX12_takesNumber_X12_isFigure : GoodIn wsX12_takesNumber wsX12_isFigure := goodIn_r _ [9, 10, 11, 12, 13, 14, 8, 15, 16, 17, 18, 19, 20, 21, 22, 23, 24, 25, 26, 27, 28, 29, 30, 31, 32, 33, 34, 35, 36, 37, 38, 39] (by decide +kernel) (by decide +kernel)
set_option maxRecDepth 20000 in
theorem gX12_takesNumber_X12_isFigure : GoodIn wsX12_takesNumber (wsV RX12 96 RX12 yX12_isFigure wsX12_isFigure) := goodIn_app (goodIn_of _ (by decide +kernel)) ggX12_takesNumber_X12_isFigure
set_option maxRecDepth 20000 in
theorem ggX12_takesNumber_X12_byteAt : GoodIn wsX12_takesNumber wsX12_byteAt := goodIn_r _ [15, 16, 17, 21, 22, 23, 24, 25, 26, 27, 28, 29, 30, 31, 32, 33, 34, 35, 36, 37, 38, 39] (by decide +kernel) (by decide +kernel)
set_option maxRecDepth 20000 in
theorem gX12_takesNumber_X12_byteAt : GoodIn wsX12_takesNumber (wsV RX12 77 RX12 yX12_byteAt wsX12_byteAt) := goodIn_app (goodIn_of _ (by decide +kernel)) ggX12_takesNumber_X12_byteAt
set_option maxRecDepth 20000 in
theorem ggX12_takesNumber_X12_in : GoodIn wsX12_takesNumber wsX12_in := goodIn_r _ [20] (by decide +kernel) (by decide +kernel)
set_option maxRecDepth 20000 in
theorem gX12_takesNumber_X12_in : GoodIn wsX12_takesNumber (va_wsS RX12 45 yX12_in wsX12_in) := goodIn_app (goodIn_of _ (by decide +kernel)) ggX12_takesNumber_X12_in
theorem dX12_takesNumber_0 : decode cX12_takesNumber 0 = .ok (.aload_n 0, 1) := by decide +kernel
theorem dX12_takesNumber_1 : decode cX12_takesNumber 1 = .ok (.aload_n 0, 1) := by decide +kernel
theorem dX12_takesNumber_2 : decode cX12_takesNumber 2 = .ok (.getfield 84, 3) := by decide +kernel
theorem dX12_takesNumber_5 : decode cX12_takesNumber 5 = .ok (.putfield 87, 3) := by decide +kernel
theorem dX12_takesNumber_8 : decode cX12_takesNumber 8 = .ok (.aload_n 0, 1) := by decide +kernel
theorem dX12_takesNumber_9 : decode cX12_takesNumber 9 = .ok (.iconst 1, 1) := by decide +kernel
theorem dX12_takesNumber_10 : decode cX12_takesNumber 10 = .ok (.putfield 90, 3) := by decide +kernel
theorem dX12_takesNumber_13 : decode cX12_takesNumber 13 = .ok (.iconst 0, 1) := by decide +kernel
theorem dX12_takesNumber_14 : decode cX12_takesNumber 14 = .ok (.istore_n 3, 1) := by decide +kernel
theorem dX12_takesNumber_15 : decode cX12_takesNumber 15 = .ok (.aload_n 0, 1) := by decide +kernel
theorem dX12_takesNumber_16 : decode cX12_takesNumber 16 = .ok (.iconst 0, 1) := by decide +kernel
theorem dX12_takesNumber_17 : decode cX12_takesNumber 17 = .ok (.putfield 93, 3) := by decide +kernel
theorem dX12_takesNumber_20 : decode cX12_takesNumber 20 = .ok (.aload_n 0, 1) := by decide +kernel
theorem dX12_takesNumber_21 : decode cX12_takesNumber 21 = .ok (.aload_n 0, 1) := by decide +kernel
theorem dX12_takesNumber_22 : decode cX12_takesNumber 22 = .ok (.getfield 84, 3) := by decide +kernel
theorem dX12_takesNumber_25 : decode cX12_takesNumber 25 = .ok (.iload_n 3, 1) := by decide +kernel
theorem dX12_takesNumber_26 : decode cX12_takesNumber 26 = .ok (.iadd, 1) := by decide +kernel
theorem dX12_takesNumber_27 : decode cX12_takesNumber 27 = .ok (.invokevirtual 96, 3) := by decide +kernel
theorem dX12_takesNumber_30 : decode cX12_takesNumber 30 = .ok (.ifCond .eq 46, 3) := by decide +kernel
theorem dX12_takesNumber_33 : decode cX12_takesNumber 33 = .ok (.aload_n 0, 1) := by decide +kernel
theorem dX12_takesNumber_34 : decode cX12_takesNumber 34 = .ok (.iload_n 3, 1) := by decide +kernel
theorem dX12_takesNumber_35 : decode cX12_takesNumber 35 = .ok (.iconst 2, 1) := by decide +kernel
theorem dX12_takesNumber_36 : decode cX12_takesNumber 36 = .ok (.if_icmp .ge 27, 3) := by decide +kernel
theorem dX12_takesNumber_39 : decode cX12_takesNumber 39 = .ok (.bipush 10, 2) := by decide +kernel
theorem dX12_takesNumber_41 : decode cX12_takesNumber 41 = .ok (.aload_n 0, 1) := by decide +kernel
theorem dX12_takesNumber_42 : decode cX12_takesNumber 42 = .ok (.getfield 93, 3) := by decide +kernel
theorem dX12_takesNumber_45 : decode cX12_takesNumber 45 = .ok (.imul, 1) := by decide +kernel
theorem dX12_takesNumber_46 : decode cX12_takesNumber 46 = .ok (.aload_n 0, 1) := by decide +kernel
theorem dX12_takesNumber_47 : decode cX12_takesNumber 47 = .ok (.aload_n 0, 1) := by decide +kernel
theorem dX12_takesNumber_48 : decode cX12_takesNumber 48 = .ok (.getfield 84, 3) := by decide +kernel
theorem dX12_takesNumber_51 : decode cX12_takesNumber 51 = .ok (.iload_n 3, 1) := by decide +kernel
theorem dX12_takesNumber_52 : decode cX12_takesNumber 52 = .ok (.iadd, 1) := by decide +kernel
theorem dX12_takesNumber_53 : decode cX12_takesNumber 53 = .ok (.invokevirtual 77, 3) := by decide +kernel
theorem dX12_takesNumber_56 : decode cX12_takesNumber 56 = .ok (.iadd, 1) := by decide +kernel
theorem dX12_takesNumber_57 : decode cX12_takesNumber 57 = .ok (.bipush 48, 2) := by decide +kernel
theorem dX12_takesNumber_59 : decode cX12_takesNumber 59 = .ok (.isub, 1) := by decide +kernel
theorem dX12_takesNumber_60 : decode cX12_takesNumber 60 = .ok (.goto 7, 3) := by decide +kernel
theorem dX12_takesNumber_63 : decode cX12_takesNumber 63 = .ok (.aload_n 0, 1) := by decide +kernel
theorem dX12_takesNumber_64 : decode cX12_takesNumber 64 = .ok (.getfield 93, 3) := by decide +kernel
theorem dX12_takesNumber_67 : decode cX12_takesNumber 67 = .ok (.putfield 93, 3) := by decide +kernel
theorem dX12_takesNumber_70 : decode cX12_takesNumber 70 = .ok (.iinc 3 1, 3) := by decide +kernel
theorem dX12_takesNumber_73 : decode cX12_takesNumber 73 = .ok (.goto (-53), 3) := by decide +kernel
theorem dX12_takesNumber_76 : decode cX12_takesNumber 76 = .ok (.iload_n 3, 1) := by decide +kernel
theorem dX12_takesNumber_77 : decode cX12_takesNumber 77 = .ok (.ifCond .eq 8, 3) := by decide +kernel
theorem dX12_takesNumber_80 : decode cX12_takesNumber 80 = .ok (.iload_n 3, 1) := by decide +kernel
theorem dX12_takesNumber_81 : decode cX12_takesNumber 81 = .ok (.iconst 2, 1) := by decide +kernel
theorem dX12_takesNumber_82 : decode cX12_takesNumber 82 = .ok (.if_icmp .le 5, 3) := by decide +kernel
theorem dX12_takesNumber_85 : decode cX12_takesNumber 85 = .ok (.iconst 0, 1) := by decide +kernel
theorem dX12_takesNumber_86 : decode cX12_takesNumber 86 = .ok (.ireturn, 1) := by decide +kernel
theorem dX12_takesNumber_87 : decode cX12_takesNumber 87 = .ok (.aload_n 0, 1) := by decide +kernel
theorem dX12_takesNumber_88 : decode cX12_takesNumber 88 = .ok (.dup, 1) := by decide +kernel
theorem dX12_takesNumber_89 : decode cX12_takesNumber 89 = .ok (.getfield 84, 3) := by decide +kernel
theorem dX12_takesNumber_92 : decode cX12_takesNumber 92 = .ok (.iload_n 3, 1) := by decide +kernel
theorem dX12_takesNumber_93 : decode cX12_takesNumber 93 = .ok (.iadd, 1) := by decide +kernel
theorem dX12_takesNumber_94 : decode cX12_takesNumber 94 = .ok (.putfield 84, 3) := by decide +kernel
theorem dX12_takesNumber_97 : decode cX12_takesNumber 97 = .ok (.aload_n 0, 1) := by decide +kernel
theorem dX12_takesNumber_98 : decode cX12_takesNumber 98 = .ok (.iconst 2, 1) := by decide +kernel
theorem dX12_takesNumber_99 : decode cX12_takesNumber 99 = .ok (.putfield 90, 3) := by decide +kernel
theorem dX12_takesNumber_102 : decode cX12_takesNumber 102 = .ok (.aload_n 0, 1) := by decide +kernel
theorem dX12_takesNumber_103 : decode cX12_takesNumber 103 = .ok (.getfield 93, 3) := by decide +kernel
theorem dX12_takesNumber_106 : decode cX12_takesNumber 106 = .ok (.i2l, 1) := by decide +kernel
theorem dX12_takesNumber_107 : decode cX12_takesNumber 107 = .ok (.iload_n 1, 1) := by decide +kernel
theorem dX12_takesNumber_108 : decode cX12_takesNumber 108 = .ok (.i2l, 1) := by decide +kernel
theorem dX12_takesNumber_109 : decode cX12_takesNumber 109 = .ok (.iload_n 2, 1) := by decide +kernel
theorem dX12_takesNumber_110 : decode cX12_takesNumber 110 = .ok (.i2l, 1) := by decide +kernel
theorem dX12_takesNumber_111 : decode cX12_takesNumber 111 = .ok (.invokestatic 45, 3) := by decide +kernel
theorem dX12_takesNumber_114 : decode cX12_takesNumber 114 = .ok (.ireturn, 1) := by decide +kernel
set_option maxRecDepth 20000 in
theorem ggX12_takesLaw_X12_takes : GoodIn wsX12_takesLaw wsX12_takes := goodIn_r _ [7, 8, 9, 10, 11, 12, 13, 6, 14, 15, 16, 30, 31, 32, 33, 34, 35, 36, 37, 38, 39, 40, 41, 42, 43, 44, 45, 46, 47, 48] (by decide +kernel) (by decide +kernel)
set_option maxRecDepth 20000 in
theorem gX12_takesLaw_X12_takes : GoodIn wsX12_takesLaw (wsV RX12 99 RX12 yX12_takes wsX12_takes) := goodIn_app (goodIn_of _ (by decide +kernel)) ggX12_takesLaw_X12_takes
set_option maxRecDepth 20000 in
theorem ggX12_takesLaw_X12_takesNumber : GoodIn wsX12_takesLaw wsX12_takesNumber := goodIn_r _ [20, 8, 9, 10, 2, 21, 22, 23, 6, 24, 25, 26, 11, 12, 13, 14, 15, 16, 27, 28, 29, 30, 31, 32, 33, 34, 35, 36, 37, 38, 39, 40, 41, 42, 43, 44, 45, 46, 47, 48] (by decide +kernel) (by decide +kernel)
set_option maxRecDepth 20000 in
theorem gX12_takesLaw_X12_takesNumber : GoodIn wsX12_takesLaw (wsV RX12 102 RX12 yX12_takesNumber wsX12_takesNumber) := goodIn_app (goodIn_of _ (by decide +kernel)) ggX12_takesLaw_X12_takesNumber
theorem dX12_takesLaw_0 : decode cX12_takesLaw 0 = .ok (.aload_n 0, 1) := by decide +kernel
theorem dX12_takesLaw_1 : decode cX12_takesLaw 1 = .ok (.bipush 109, 2) := by decide +kernel
theorem dX12_takesLaw_3 : decode cX12_takesLaw 3 = .ok (.invokevirtual 99, 3) := by decide +kernel
theorem dX12_takesLaw_6 : decode cX12_takesLaw 6 = .ok (.ifCond .eq 13, 3) := by decide +kernel
theorem dX12_takesLaw_9 : decode cX12_takesLaw 9 = .ok (.aload_n 0, 1) := by decide +kernel
theorem dX12_takesLaw_10 : decode cX12_takesLaw 10 = .ok (.iconst 0, 1) := by decide +kernel
theorem dX12_takesLaw_11 : decode cX12_takesLaw 11 = .ok (.bipush 99, 2) := by decide +kernel
theorem dX12_takesLaw_13 : decode cX12_takesLaw 13 = .ok (.invokevirtual 102, 3) := by decide +kernel
theorem dX12_takesLaw_16 : decode cX12_takesLaw 16 = .ok (.ifCond .ne 5, 3) := by decide +kernel
theorem dX12_takesLaw_19 : decode cX12_takesLaw 19 = .ok (.iconst 0, 1) := by decide +kernel
theorem dX12_takesLaw_20 : decode cX12_takesLaw 20 = .ok (.ireturn, 1) := by decide +kernel
theorem dX12_takesLaw_21 : decode cX12_takesLaw 21 = .ok (.aload_n 0, 1) := by decide +kernel
theorem dX12_takesLaw_22 : decode cX12_takesLaw 22 = .ok (.getfield 7, 3) := by decide +kernel
theorem dX12_takesLaw_25 : decode cX12_takesLaw 25 = .ok (.sipush 150, 3) := by decide +kernel
theorem dX12_takesLaw_28 : decode cX12_takesLaw 28 = .ok (.aload_n 0, 1) := by decide +kernel
theorem dX12_takesLaw_29 : decode cX12_takesLaw 29 = .ok (.getfield 93, 3) := by decide +kernel
theorem dX12_takesLaw_32 : decode cX12_takesLaw 32 = .ok (.iastore, 1) := by decide +kernel
theorem dX12_takesLaw_33 : decode cX12_takesLaw 33 = .ok (.aload_n 0, 1) := by decide +kernel
theorem dX12_takesLaw_34 : decode cX12_takesLaw 34 = .ok (.bipush 44, 2) := by decide +kernel
theorem dX12_takesLaw_36 : decode cX12_takesLaw 36 = .ok (.invokevirtual 99, 3) := by decide +kernel
theorem dX12_takesLaw_39 : decode cX12_takesLaw 39 = .ok (.ifCond .eq 13, 3) := by decide +kernel
theorem dX12_takesLaw_42 : decode cX12_takesLaw 42 = .ok (.aload_n 0, 1) := by decide +kernel
theorem dX12_takesLaw_43 : decode cX12_takesLaw 43 = .ok (.iconst 0, 1) := by decide +kernel
theorem dX12_takesLaw_44 : decode cX12_takesLaw 44 = .ok (.bipush 20, 2) := by decide +kernel
theorem dX12_takesLaw_46 : decode cX12_takesLaw 46 = .ok (.invokevirtual 102, 3) := by decide +kernel
theorem dX12_takesLaw_49 : decode cX12_takesLaw 49 = .ok (.ifCond .ne 5, 3) := by decide +kernel
theorem dX12_takesLaw_52 : decode cX12_takesLaw 52 = .ok (.iconst 0, 1) := by decide +kernel
theorem dX12_takesLaw_53 : decode cX12_takesLaw 53 = .ok (.ireturn, 1) := by decide +kernel
theorem dX12_takesLaw_54 : decode cX12_takesLaw 54 = .ok (.aload_n 0, 1) := by decide +kernel
theorem dX12_takesLaw_55 : decode cX12_takesLaw 55 = .ok (.getfield 7, 3) := by decide +kernel
theorem dX12_takesLaw_58 : decode cX12_takesLaw 58 = .ok (.sipush 151, 3) := by decide +kernel
theorem dX12_takesLaw_61 : decode cX12_takesLaw 61 = .ok (.aload_n 0, 1) := by decide +kernel
theorem dX12_takesLaw_62 : decode cX12_takesLaw 62 = .ok (.getfield 93, 3) := by decide +kernel
theorem dX12_takesLaw_65 : decode cX12_takesLaw 65 = .ok (.iastore, 1) := by decide +kernel
theorem dX12_takesLaw_66 : decode cX12_takesLaw 66 = .ok (.aload_n 0, 1) := by decide +kernel
theorem dX12_takesLaw_67 : decode cX12_takesLaw 67 = .ok (.bipush 59, 2) := by decide +kernel
theorem dX12_takesLaw_69 : decode cX12_takesLaw 69 = .ok (.invokevirtual 99, 3) := by decide +kernel
theorem dX12_takesLaw_72 : decode cX12_takesLaw 72 = .ok (.ireturn, 1) := by decide +kernel
set_option maxRecDepth 20000 in
theorem ggX12_takesRope_X12_takes : GoodIn wsX12_takesRope wsX12_takes := goodIn_r _ [8, 9, 10, 2, 11, 12, 13, 7, 14, 15, 16, 30, 31, 32, 33, 34, 35, 36, 37, 38, 39, 40, 41, 42, 43, 44, 45, 46, 47, 48] (by decide +kernel) (by decide +kernel)
set_option maxRecDepth 20000 in
theorem gX12_takesRope_X12_takes : GoodIn wsX12_takesRope (wsV RX12 99 RX12 yX12_takes wsX12_takes) := goodIn_app (goodIn_of _ (by decide +kernel)) ggX12_takesRope_X12_takes
set_option maxRecDepth 20000 in
theorem ggX12_takesRope_X12_takesNumber : GoodIn wsX12_takesRope wsX12_takesNumber := goodIn_r _ [20, 9, 10, 2, 3, 21, 22, 23, 7, 24, 25, 26, 11, 12, 13, 14, 15, 16, 27, 28, 29, 30, 31, 32, 33, 34, 35, 36, 37, 38, 39, 40, 41, 42, 43, 44, 45, 46, 47, 48] (by decide +kernel) (by decide +kernel)
set_option maxRecDepth 20000 in
theorem gX12_takesRope_X12_takesNumber : GoodIn wsX12_takesRope (wsV RX12 102 RX12 yX12_takesNumber wsX12_takesNumber) := goodIn_app (goodIn_of _ (by decide +kernel)) ggX12_takesRope_X12_takesNumber
theorem dX12_takesRope_0 : decode cX12_takesRope 0 = .ok (.aload_n 0, 1) := by decide +kernel
theorem dX12_takesRope_1 : decode cX12_takesRope 1 = .ok (.bipush 108, 2) := by decide +kernel
theorem dX12_takesRope_3 : decode cX12_takesRope 3 = .ok (.invokevirtual 99, 3) := by decide +kernel
theorem dX12_takesRope_6 : decode cX12_takesRope 6 = .ok (.ifCond .ne 5, 3) := by decide +kernel
theorem dX12_takesRope_9 : decode cX12_takesRope 9 = .ok (.iconst 0, 1) := by decide +kernel
theorem dX12_takesRope_10 : decode cX12_takesRope 10 = .ok (.ireturn, 1) := by decide +kernel
theorem dX12_takesRope_11 : decode cX12_takesRope 11 = .ok (.aload_n 0, 1) := by decide +kernel
theorem dX12_takesRope_12 : decode cX12_takesRope 12 = .ok (.getfield 7, 3) := by decide +kernel
theorem dX12_takesRope_15 : decode cX12_takesRope 15 = .ok (.sipush 152, 3) := by decide +kernel
theorem dX12_takesRope_18 : decode cX12_takesRope 18 = .ok (.iaload, 1) := by decide +kernel
theorem dX12_takesRope_19 : decode cX12_takesRope 19 = .ok (.iconst 3, 1) := by decide +kernel
theorem dX12_takesRope_20 : decode cX12_takesRope 20 = .ok (.if_icmp .ne 10, 3) := by decide +kernel
theorem dX12_takesRope_23 : decode cX12_takesRope 23 = .ok (.aload_n 0, 1) := by decide +kernel
theorem dX12_takesRope_24 : decode cX12_takesRope 24 = .ok (.iconst 3, 1) := by decide +kernel
theorem dX12_takesRope_25 : decode cX12_takesRope 25 = .ok (.putfield 90, 3) := by decide +kernel
theorem dX12_takesRope_28 : decode cX12_takesRope 28 = .ok (.iconst 0, 1) := by decide +kernel
theorem dX12_takesRope_29 : decode cX12_takesRope 29 = .ok (.ireturn, 1) := by decide +kernel
theorem dX12_takesRope_30 : decode cX12_takesRope 30 = .ok (.aload_n 0, 1) := by decide +kernel
theorem dX12_takesRope_31 : decode cX12_takesRope 31 = .ok (.iconst 1, 1) := by decide +kernel
theorem dX12_takesRope_32 : decode cX12_takesRope 32 = .ok (.bipush 20, 2) := by decide +kernel
theorem dX12_takesRope_34 : decode cX12_takesRope 34 = .ok (.invokevirtual 102, 3) := by decide +kernel
theorem dX12_takesRope_37 : decode cX12_takesRope 37 = .ok (.ifCond .ne 5, 3) := by decide +kernel
theorem dX12_takesRope_40 : decode cX12_takesRope 40 = .ok (.iconst 0, 1) := by decide +kernel
theorem dX12_takesRope_41 : decode cX12_takesRope 41 = .ok (.ireturn, 1) := by decide +kernel
theorem dX12_takesRope_42 : decode cX12_takesRope 42 = .ok (.aload_n 0, 1) := by decide +kernel
theorem dX12_takesRope_43 : decode cX12_takesRope 43 = .ok (.getfield 7, 3) := by decide +kernel
theorem dX12_takesRope_46 : decode cX12_takesRope 46 = .ok (.sipush 155, 3) := by decide +kernel
theorem dX12_takesRope_49 : decode cX12_takesRope 49 = .ok (.aload_n 0, 1) := by decide +kernel
theorem dX12_takesRope_50 : decode cX12_takesRope 50 = .ok (.getfield 7, 3) := by decide +kernel
theorem dX12_takesRope_53 : decode cX12_takesRope 53 = .ok (.sipush 152, 3) := by decide +kernel
theorem dX12_takesRope_56 : decode cX12_takesRope 56 = .ok (.iaload, 1) := by decide +kernel
theorem dX12_takesRope_57 : decode cX12_takesRope 57 = .ok (.iadd, 1) := by decide +kernel
theorem dX12_takesRope_58 : decode cX12_takesRope 58 = .ok (.aload_n 0, 1) := by decide +kernel
theorem dX12_takesRope_59 : decode cX12_takesRope 59 = .ok (.getfield 93, 3) := by decide +kernel
theorem dX12_takesRope_62 : decode cX12_takesRope 62 = .ok (.iastore, 1) := by decide +kernel
theorem dX12_takesRope_63 : decode cX12_takesRope 63 = .ok (.aload_n 0, 1) := by decide +kernel
theorem dX12_takesRope_64 : decode cX12_takesRope 64 = .ok (.getfield 7, 3) := by decide +kernel
theorem dX12_takesRope_67 : decode cX12_takesRope 67 = .ok (.sipush 152, 3) := by decide +kernel
theorem dX12_takesRope_70 : decode cX12_takesRope 70 = .ok (.dup2, 1) := by decide +kernel
theorem dX12_takesRope_71 : decode cX12_takesRope 71 = .ok (.iaload, 1) := by decide +kernel
theorem dX12_takesRope_72 : decode cX12_takesRope 72 = .ok (.iconst 1, 1) := by decide +kernel
theorem dX12_takesRope_73 : decode cX12_takesRope 73 = .ok (.iadd, 1) := by decide +kernel
theorem dX12_takesRope_74 : decode cX12_takesRope 74 = .ok (.iastore, 1) := by decide +kernel
theorem dX12_takesRope_75 : decode cX12_takesRope 75 = .ok (.aload_n 0, 1) := by decide +kernel
theorem dX12_takesRope_76 : decode cX12_takesRope 76 = .ok (.bipush 59, 2) := by decide +kernel
theorem dX12_takesRope_78 : decode cX12_takesRope 78 = .ok (.invokevirtual 99, 3) := by decide +kernel
theorem dX12_takesRope_81 : decode cX12_takesRope 81 = .ok (.ireturn, 1) := by decide +kernel
theorem dX12_sortOf_0 : decode cX12_sortOf 0 = .ok (.iload_n 0, 1) := by decide +kernel
theorem dX12_sortOf_1 : decode cX12_sortOf 1 = .ok (.bipush 116, 2) := by decide +kernel
theorem dX12_sortOf_3 : decode cX12_sortOf 3 = .ok (.if_icmp .ne 7, 3) := by decide +kernel
theorem dX12_sortOf_6 : decode cX12_sortOf 6 = .ok (.iconst 1, 1) := by decide +kernel
theorem dX12_sortOf_7 : decode cX12_sortOf 7 = .ok (.goto 44, 3) := by decide +kernel
theorem dX12_sortOf_10 : decode cX12_sortOf 10 = .ok (.iload_n 0, 1) := by decide +kernel
theorem dX12_sortOf_11 : decode cX12_sortOf 11 = .ok (.bipush 106, 2) := by decide +kernel
theorem dX12_sortOf_13 : decode cX12_sortOf 13 = .ok (.if_icmp .ne 7, 3) := by decide +kernel
theorem dX12_sortOf_16 : decode cX12_sortOf 16 = .ok (.iconst 2, 1) := by decide +kernel
theorem dX12_sortOf_17 : decode cX12_sortOf 17 = .ok (.goto 34, 3) := by decide +kernel
theorem dX12_sortOf_20 : decode cX12_sortOf 20 = .ok (.iload_n 0, 1) := by decide +kernel
theorem dX12_sortOf_21 : decode cX12_sortOf 21 = .ok (.bipush 98, 2) := by decide +kernel
theorem dX12_sortOf_23 : decode cX12_sortOf 23 = .ok (.if_icmp .ne 7, 3) := by decide +kernel
theorem dX12_sortOf_26 : decode cX12_sortOf 26 = .ok (.iconst 3, 1) := by decide +kernel
theorem dX12_sortOf_27 : decode cX12_sortOf 27 = .ok (.goto 24, 3) := by decide +kernel
theorem dX12_sortOf_30 : decode cX12_sortOf 30 = .ok (.iload_n 0, 1) := by decide +kernel
theorem dX12_sortOf_31 : decode cX12_sortOf 31 = .ok (.bipush 110, 2) := by decide +kernel
theorem dX12_sortOf_33 : decode cX12_sortOf 33 = .ok (.if_icmp .ne 7, 3) := by decide +kernel
theorem dX12_sortOf_36 : decode cX12_sortOf 36 = .ok (.iconst 4, 1) := by decide +kernel
theorem dX12_sortOf_37 : decode cX12_sortOf 37 = .ok (.goto 14, 3) := by decide +kernel
theorem dX12_sortOf_40 : decode cX12_sortOf 40 = .ok (.iload_n 0, 1) := by decide +kernel
theorem dX12_sortOf_41 : decode cX12_sortOf 41 = .ok (.bipush 118, 2) := by decide +kernel
theorem dX12_sortOf_43 : decode cX12_sortOf 43 = .ok (.if_icmp .ne 7, 3) := by decide +kernel
theorem dX12_sortOf_46 : decode cX12_sortOf 46 = .ok (.iconst 5, 1) := by decide +kernel
theorem dX12_sortOf_47 : decode cX12_sortOf 47 = .ok (.goto 4, 3) := by decide +kernel
theorem dX12_sortOf_50 : decode cX12_sortOf 50 = .ok (.iconst 0, 1) := by decide +kernel
theorem dX12_sortOf_51 : decode cX12_sortOf 51 = .ok (.ireturn, 1) := by decide +kernel
theorem dX12_whoIs_0 : decode cX12_whoIs 0 = .ok (.iconst (-1), 1) := by decide +kernel
theorem dX12_whoIs_1 : decode cX12_whoIs 1 = .ok (.istore 4, 2) := by decide +kernel
theorem dX12_whoIs_3 : decode cX12_whoIs 3 = .ok (.iconst 0, 1) := by decide +kernel
theorem dX12_whoIs_4 : decode cX12_whoIs 4 = .ok (.istore 5, 2) := by decide +kernel
theorem dX12_whoIs_6 : decode cX12_whoIs 6 = .ok (.iload 5, 2) := by decide +kernel
theorem dX12_whoIs_8 : decode cX12_whoIs 8 = .ok (.aload_n 0, 1) := by decide +kernel
theorem dX12_whoIs_9 : decode cX12_whoIs 9 = .ok (.getfield 7, 3) := by decide +kernel
theorem dX12_whoIs_12 : decode cX12_whoIs 12 = .ok (.iload_n 1, 1) := by decide +kernel
theorem dX12_whoIs_13 : decode cX12_whoIs 13 = .ok (.iconst 3, 1) := by decide +kernel
theorem dX12_whoIs_14 : decode cX12_whoIs 14 = .ok (.iadd, 1) := by decide +kernel
theorem dX12_whoIs_15 : decode cX12_whoIs 15 = .ok (.iaload, 1) := by decide +kernel
theorem dX12_whoIs_16 : decode cX12_whoIs 16 = .ok (.if_icmp .ge 50, 3) := by decide +kernel
theorem dX12_whoIs_19 : decode cX12_whoIs 19 = .ok (.aload_n 0, 1) := by decide +kernel
theorem dX12_whoIs_20 : decode cX12_whoIs 20 = .ok (.getfield 7, 3) := by decide +kernel
theorem dX12_whoIs_23 : decode cX12_whoIs 23 = .ok (.iload_n 1, 1) := by decide +kernel
theorem dX12_whoIs_24 : decode cX12_whoIs 24 = .ok (.bipush 14, 2) := by decide +kernel
theorem dX12_whoIs_26 : decode cX12_whoIs 26 = .ok (.iadd, 1) := by decide +kernel
theorem dX12_whoIs_27 : decode cX12_whoIs 27 = .ok (.iload 5, 2) := by decide +kernel
theorem dX12_whoIs_29 : decode cX12_whoIs 29 = .ok (.iadd, 1) := by decide +kernel
theorem dX12_whoIs_30 : decode cX12_whoIs 30 = .ok (.iaload, 1) := by decide +kernel
theorem dX12_whoIs_31 : decode cX12_whoIs 31 = .ok (.iload_n 2, 1) := by decide +kernel
theorem dX12_whoIs_32 : decode cX12_whoIs 32 = .ok (.if_icmp .ne 24, 3) := by decide +kernel
theorem dX12_whoIs_35 : decode cX12_whoIs 35 = .ok (.aload_n 0, 1) := by decide +kernel
theorem dX12_whoIs_36 : decode cX12_whoIs 36 = .ok (.getfield 7, 3) := by decide +kernel
theorem dX12_whoIs_39 : decode cX12_whoIs 39 = .ok (.iload_n 1, 1) := by decide +kernel
theorem dX12_whoIs_40 : decode cX12_whoIs 40 = .ok (.bipush 20, 2) := by decide +kernel
theorem dX12_whoIs_42 : decode cX12_whoIs 42 = .ok (.iadd, 1) := by decide +kernel
theorem dX12_whoIs_43 : decode cX12_whoIs 43 = .ok (.iload 5, 2) := by decide +kernel
theorem dX12_whoIs_45 : decode cX12_whoIs 45 = .ok (.iadd, 1) := by decide +kernel
theorem dX12_whoIs_46 : decode cX12_whoIs 46 = .ok (.iaload, 1) := by decide +kernel
theorem dX12_whoIs_47 : decode cX12_whoIs 47 = .ok (.iload_n 3, 1) := by decide +kernel
theorem dX12_whoIs_48 : decode cX12_whoIs 48 = .ok (.if_icmp .ne 8, 3) := by decide +kernel
theorem dX12_whoIs_51 : decode cX12_whoIs 51 = .ok (.iload 5, 2) := by decide +kernel
theorem dX12_whoIs_53 : decode cX12_whoIs 53 = .ok (.goto 5, 3) := by decide +kernel
theorem dX12_whoIs_56 : decode cX12_whoIs 56 = .ok (.iload 4, 2) := by decide +kernel
theorem dX12_whoIs_58 : decode cX12_whoIs 58 = .ok (.istore 4, 2) := by decide +kernel
theorem dX12_whoIs_60 : decode cX12_whoIs 60 = .ok (.iinc 5 1, 3) := by decide +kernel
theorem dX12_whoIs_63 : decode cX12_whoIs 63 = .ok (.goto (-57), 3) := by decide +kernel
theorem dX12_whoIs_66 : decode cX12_whoIs 66 = .ok (.iload 4, 2) := by decide +kernel
theorem dX12_whoIs_68 : decode cX12_whoIs 68 = .ok (.ireturn, 1) := by decide +kernel
set_option maxRecDepth 20000 in
theorem ggX12_takesStall_X12_byteAt : GoodIn wsX12_takesStall wsX12_byteAt := goodIn_r _ [10, 11, 12, 37, 38, 39, 40, 41, 42, 43, 44, 45, 46, 47, 48, 49, 50, 51, 52, 53, 54, 55] (by decide +kernel) (by decide +kernel)
set_option maxRecDepth 20000 in
theorem gX12_takesStall_X12_byteAt : GoodIn wsX12_takesStall (wsV RX12 77 RX12 yX12_byteAt wsX12_byteAt) := goodIn_app (goodIn_of _ (by decide +kernel)) ggX12_takesStall_X12_byteAt
set_option maxRecDepth 20000 in
theorem ggX12_takesStall_X12_sortOf : GoodIn wsX12_takesStall wsX12_sortOf := goodIn_r _ [15] (by decide +kernel) (by decide +kernel)
set_option maxRecDepth 20000 in
theorem gX12_takesStall_X12_sortOf : GoodIn wsX12_takesStall (va_wsS RX12 106 yX12_sortOf wsX12_sortOf) := goodIn_app (goodIn_of _ (by decide +kernel)) ggX12_takesStall_X12_sortOf
set_option maxRecDepth 20000 in
theorem ggX12_takesStall_X12_takesNumber : GoodIn wsX12_takesStall wsX12_takesNumber := goodIn_r _ [19, 1, 2, 3, 5, 20, 21, 22, 9, 23, 24, 25, 6, 7, 8, 10, 11, 12, 26, 27, 28, 37, 38, 39, 40, 41, 42, 43, 44, 45, 46, 47, 48, 49, 50, 51, 52, 53, 54, 55] (by decide +kernel) (by decide +kernel)
set_option maxRecDepth 20000 in
theorem gX12_takesStall_X12_takesNumber : GoodIn wsX12_takesStall (wsV RX12 102 RX12 yX12_takesNumber wsX12_takesNumber) := goodIn_app (goodIn_of _ (by decide +kernel)) ggX12_takesStall_X12_takesNumber
set_option maxRecDepth 20000 in
theorem ggX12_takesStall_X12_takes : GoodIn wsX12_takesStall wsX12_takes := goodIn_r _ [32, 1, 2, 3, 6, 7, 8, 9, 10, 11, 12, 37, 38, 39, 40, 41, 42, 43, 44, 45, 46, 47, 48, 49, 50, 51, 52, 53, 54, 55] (by decide +kernel) (by decide +kernel)
set_option maxRecDepth 20000 in
theorem gX12_takesStall_X12_takes : GoodIn wsX12_takesStall (wsV RX12 99 RX12 yX12_takes wsX12_takes) := goodIn_app (goodIn_of _ (by decide +kernel)) ggX12_takesStall_X12_takes
set_option maxRecDepth 20000 in
theorem ggX12_takesStall_X12_whoIs : GoodIn wsX12_takesStall wsX12_whoIs := goodIn_r _ [36, 4, 37, 38, 39, 40, 41, 42, 43, 44, 45, 46, 47, 48, 49, 50, 51, 52, 53, 54, 55] (by decide +kernel) (by decide +kernel)
set_option maxRecDepth 20000 in
theorem gX12_takesStall_X12_whoIs : GoodIn wsX12_takesStall (wsV RX12 109 RX12 yX12_whoIs wsX12_whoIs) := goodIn_app (goodIn_of _ (by decide +kernel)) ggX12_takesStall_X12_whoIs
theorem dX12_takesStall_0 : decode cX12_takesStall 0 = .ok (.aload_n 0, 1) := by decide +kernel
theorem dX12_takesStall_1 : decode cX12_takesStall 1 = .ok (.aload_n 0, 1) := by decide +kernel
theorem dX12_takesStall_2 : decode cX12_takesStall 2 = .ok (.getfield 84, 3) := by decide +kernel
theorem dX12_takesStall_5 : decode cX12_takesStall 5 = .ok (.invokevirtual 77, 3) := by decide +kernel
theorem dX12_takesStall_8 : decode cX12_takesStall 8 = .ok (.invokestatic 106, 3) := by decide +kernel
theorem dX12_takesStall_11 : decode cX12_takesStall 11 = .ok (.istore_n 1, 1) := by decide +kernel
theorem dX12_takesStall_12 : decode cX12_takesStall 12 = .ok (.aload_n 0, 1) := by decide +kernel
theorem dX12_takesStall_13 : decode cX12_takesStall 13 = .ok (.aload_n 0, 1) := by decide +kernel
theorem dX12_takesStall_14 : decode cX12_takesStall 14 = .ok (.getfield 84, 3) := by decide +kernel
theorem dX12_takesStall_17 : decode cX12_takesStall 17 = .ok (.putfield 87, 3) := by decide +kernel
theorem dX12_takesStall_20 : decode cX12_takesStall 20 = .ok (.aload_n 0, 1) := by decide +kernel
theorem dX12_takesStall_21 : decode cX12_takesStall 21 = .ok (.iconst 1, 1) := by decide +kernel
theorem dX12_takesStall_22 : decode cX12_takesStall 22 = .ok (.putfield 90, 3) := by decide +kernel
theorem dX12_takesStall_25 : decode cX12_takesStall 25 = .ok (.iload_n 1, 1) := by decide +kernel
theorem dX12_takesStall_26 : decode cX12_takesStall 26 = .ok (.ifCond .ne 5, 3) := by decide +kernel
theorem dX12_takesStall_29 : decode cX12_takesStall 29 = .ok (.iconst 0, 1) := by decide +kernel
theorem dX12_takesStall_30 : decode cX12_takesStall 30 = .ok (.ireturn, 1) := by decide +kernel
theorem dX12_takesStall_31 : decode cX12_takesStall 31 = .ok (.aload_n 0, 1) := by decide +kernel
theorem dX12_takesStall_32 : decode cX12_takesStall 32 = .ok (.dup, 1) := by decide +kernel
theorem dX12_takesStall_33 : decode cX12_takesStall 33 = .ok (.getfield 84, 3) := by decide +kernel
theorem dX12_takesStall_36 : decode cX12_takesStall 36 = .ok (.iconst 1, 1) := by decide +kernel
theorem dX12_takesStall_37 : decode cX12_takesStall 37 = .ok (.iadd, 1) := by decide +kernel
theorem dX12_takesStall_38 : decode cX12_takesStall 38 = .ok (.putfield 84, 3) := by decide +kernel
theorem dX12_takesStall_41 : decode cX12_takesStall 41 = .ok (.aload_n 0, 1) := by decide +kernel
theorem dX12_takesStall_42 : decode cX12_takesStall 42 = .ok (.getfield 7, 3) := by decide +kernel
theorem dX12_takesStall_45 : decode cX12_takesStall 45 = .ok (.sipush 153, 3) := by decide +kernel
theorem dX12_takesStall_48 : decode cX12_takesStall 48 = .ok (.iaload, 1) := by decide +kernel
theorem dX12_takesStall_49 : decode cX12_takesStall 49 = .ok (.istore_n 2, 1) := by decide +kernel
theorem dX12_takesStall_50 : decode cX12_takesStall 50 = .ok (.iload_n 2, 1) := by decide +kernel
theorem dX12_takesStall_51 : decode cX12_takesStall 51 = .ok (.bipush 6, 2) := by decide +kernel
theorem dX12_takesStall_53 : decode cX12_takesStall 53 = .ok (.if_icmp .ne 10, 3) := by decide +kernel
theorem dX12_takesStall_56 : decode cX12_takesStall 56 = .ok (.aload_n 0, 1) := by decide +kernel
theorem dX12_takesStall_57 : decode cX12_takesStall 57 = .ok (.iconst 3, 1) := by decide +kernel
theorem dX12_takesStall_58 : decode cX12_takesStall 58 = .ok (.putfield 90, 3) := by decide +kernel
theorem dX12_takesStall_61 : decode cX12_takesStall 61 = .ok (.iconst 0, 1) := by decide +kernel
theorem dX12_takesStall_62 : decode cX12_takesStall 62 = .ok (.ireturn, 1) := by decide +kernel
theorem dX12_takesStall_63 : decode cX12_takesStall 63 = .ok (.aload_n 0, 1) := by decide +kernel
theorem dX12_takesStall_64 : decode cX12_takesStall 64 = .ok (.getfield 7, 3) := by decide +kernel
theorem dX12_takesStall_67 : decode cX12_takesStall 67 = .ok (.sipush 158, 3) := by decide +kernel
theorem dX12_takesStall_70 : decode cX12_takesStall 70 = .ok (.iload_n 2, 1) := by decide +kernel
theorem dX12_takesStall_71 : decode cX12_takesStall 71 = .ok (.iadd, 1) := by decide +kernel
theorem dX12_takesStall_72 : decode cX12_takesStall 72 = .ok (.iload_n 1, 1) := by decide +kernel
theorem dX12_takesStall_73 : decode cX12_takesStall 73 = .ok (.iastore, 1) := by decide +kernel
theorem dX12_takesStall_74 : decode cX12_takesStall 74 = .ok (.aload_n 0, 1) := by decide +kernel
theorem dX12_takesStall_75 : decode cX12_takesStall 75 = .ok (.iconst 0, 1) := by decide +kernel
theorem dX12_takesStall_76 : decode cX12_takesStall 76 = .ok (.aload_n 0, 1) := by decide +kernel
theorem dX12_takesStall_77 : decode cX12_takesStall 77 = .ok (.getfield 7, 3) := by decide +kernel
theorem dX12_takesStall_80 : decode cX12_takesStall 80 = .ok (.sipush 152, 3) := by decide +kernel
theorem dX12_takesStall_83 : decode cX12_takesStall 83 = .ok (.iaload, 1) := by decide +kernel
theorem dX12_takesStall_84 : decode cX12_takesStall 84 = .ok (.iconst 1, 1) := by decide +kernel
theorem dX12_takesStall_85 : decode cX12_takesStall 85 = .ok (.isub, 1) := by decide +kernel
theorem dX12_takesStall_86 : decode cX12_takesStall 86 = .ok (.invokevirtual 102, 3) := by decide +kernel
theorem dX12_takesStall_89 : decode cX12_takesStall 89 = .ok (.ifCond .ne 5, 3) := by decide +kernel
theorem dX12_takesStall_92 : decode cX12_takesStall 92 = .ok (.iconst 0, 1) := by decide +kernel
theorem dX12_takesStall_93 : decode cX12_takesStall 93 = .ok (.ireturn, 1) := by decide +kernel
theorem dX12_takesStall_94 : decode cX12_takesStall 94 = .ok (.aload_n 0, 1) := by decide +kernel
theorem dX12_takesStall_95 : decode cX12_takesStall 95 = .ok (.getfield 7, 3) := by decide +kernel
theorem dX12_takesStall_98 : decode cX12_takesStall 98 = .ok (.sipush 164, 3) := by decide +kernel
theorem dX12_takesStall_101 : decode cX12_takesStall 101 = .ok (.iload_n 2, 1) := by decide +kernel
theorem dX12_takesStall_102 : decode cX12_takesStall 102 = .ok (.iadd, 1) := by decide +kernel
theorem dX12_takesStall_103 : decode cX12_takesStall 103 = .ok (.aload_n 0, 1) := by decide +kernel
theorem dX12_takesStall_104 : decode cX12_takesStall 104 = .ok (.getfield 93, 3) := by decide +kernel
theorem dX12_takesStall_107 : decode cX12_takesStall 107 = .ok (.iastore, 1) := by decide +kernel
theorem dX12_takesStall_108 : decode cX12_takesStall 108 = .ok (.aload_n 0, 1) := by decide +kernel
theorem dX12_takesStall_109 : decode cX12_takesStall 109 = .ok (.bipush 44, 2) := by decide +kernel
theorem dX12_takesStall_111 : decode cX12_takesStall 111 = .ok (.invokevirtual 99, 3) := by decide +kernel
theorem dX12_takesStall_114 : decode cX12_takesStall 114 = .ok (.ifCond .eq 37, 3) := by decide +kernel
theorem dX12_takesStall_117 : decode cX12_takesStall 117 = .ok (.aload_n 0, 1) := by decide +kernel
theorem dX12_takesStall_118 : decode cX12_takesStall 118 = .ok (.iconst 1, 1) := by decide +kernel
theorem dX12_takesStall_119 : decode cX12_takesStall 119 = .ok (.bipush 8, 2) := by decide +kernel
theorem dX12_takesStall_121 : decode cX12_takesStall 121 = .ok (.invokevirtual 102, 3) := by decide +kernel
theorem dX12_takesStall_124 : decode cX12_takesStall 124 = .ok (.ifCond .eq 27, 3) := by decide +kernel
theorem dX12_takesStall_127 : decode cX12_takesStall 127 = .ok (.aload_n 0, 1) := by decide +kernel
theorem dX12_takesStall_128 : decode cX12_takesStall 128 = .ok (.sipush 150, 3) := by decide +kernel
theorem dX12_takesStall_131 : decode cX12_takesStall 131 = .ok (.aload_n 0, 1) := by decide +kernel
theorem dX12_takesStall_132 : decode cX12_takesStall 132 = .ok (.getfield 7, 3) := by decide +kernel
theorem dX12_takesStall_135 : decode cX12_takesStall 135 = .ok (.sipush 164, 3) := by decide +kernel
theorem dX12_takesStall_138 : decode cX12_takesStall 138 = .ok (.iload_n 2, 1) := by decide +kernel
theorem dX12_takesStall_139 : decode cX12_takesStall 139 = .ok (.iadd, 1) := by decide +kernel
theorem dX12_takesStall_140 : decode cX12_takesStall 140 = .ok (.iaload, 1) := by decide +kernel
theorem dX12_takesStall_141 : decode cX12_takesStall 141 = .ok (.aload_n 0, 1) := by decide +kernel
theorem dX12_takesStall_142 : decode cX12_takesStall 142 = .ok (.getfield 93, 3) := by decide +kernel
theorem dX12_takesStall_145 : decode cX12_takesStall 145 = .ok (.invokevirtual 109, 3) := by decide +kernel
theorem dX12_takesStall_148 : decode cX12_takesStall 148 = .ok (.ifCond .lt 5, 3) := by decide +kernel
theorem dX12_takesStall_151 : decode cX12_takesStall 151 = .ok (.iconst 0, 1) := by decide +kernel
theorem dX12_takesStall_152 : decode cX12_takesStall 152 = .ok (.ireturn, 1) := by decide +kernel
theorem dX12_takesStall_153 : decode cX12_takesStall 153 = .ok (.aload_n 0, 1) := by decide +kernel
theorem dX12_takesStall_154 : decode cX12_takesStall 154 = .ok (.getfield 7, 3) := by decide +kernel
theorem dX12_takesStall_157 : decode cX12_takesStall 157 = .ok (.sipush 170, 3) := by decide +kernel
theorem dX12_takesStall_160 : decode cX12_takesStall 160 = .ok (.iload_n 2, 1) := by decide +kernel
theorem dX12_takesStall_161 : decode cX12_takesStall 161 = .ok (.iadd, 1) := by decide +kernel
theorem dX12_takesStall_162 : decode cX12_takesStall 162 = .ok (.aload_n 0, 1) := by decide +kernel
theorem dX12_takesStall_163 : decode cX12_takesStall 163 = .ok (.getfield 93, 3) := by decide +kernel
theorem dX12_takesStall_166 : decode cX12_takesStall 166 = .ok (.iastore, 1) := by decide +kernel
theorem dX12_takesStall_167 : decode cX12_takesStall 167 = .ok (.aload_n 0, 1) := by decide +kernel
theorem dX12_takesStall_168 : decode cX12_takesStall 168 = .ok (.bipush 44, 2) := by decide +kernel
theorem dX12_takesStall_170 : decode cX12_takesStall 170 = .ok (.invokevirtual 99, 3) := by decide +kernel
theorem dX12_takesStall_173 : decode cX12_takesStall 173 = .ok (.ifCond .eq 13, 3) := by decide +kernel
theorem dX12_takesStall_176 : decode cX12_takesStall 176 = .ok (.aload_n 0, 1) := by decide +kernel
theorem dX12_takesStall_177 : decode cX12_takesStall 177 = .ok (.iconst 0, 1) := by decide +kernel
theorem dX12_takesStall_178 : decode cX12_takesStall 178 = .ok (.bipush 20, 2) := by decide +kernel
theorem dX12_takesStall_180 : decode cX12_takesStall 180 = .ok (.invokevirtual 102, 3) := by decide +kernel
theorem dX12_takesStall_183 : decode cX12_takesStall 183 = .ok (.ifCond .ne 5, 3) := by decide +kernel
theorem dX12_takesStall_186 : decode cX12_takesStall 186 = .ok (.iconst 0, 1) := by decide +kernel
theorem dX12_takesStall_187 : decode cX12_takesStall 187 = .ok (.ireturn, 1) := by decide +kernel
theorem dX12_takesStall_188 : decode cX12_takesStall 188 = .ok (.aload_n 0, 1) := by decide +kernel
theorem dX12_takesStall_189 : decode cX12_takesStall 189 = .ok (.getfield 7, 3) := by decide +kernel
theorem dX12_takesStall_192 : decode cX12_takesStall 192 = .ok (.sipush 176, 3) := by decide +kernel
theorem dX12_takesStall_195 : decode cX12_takesStall 195 = .ok (.iload_n 2, 1) := by decide +kernel
theorem dX12_takesStall_196 : decode cX12_takesStall 196 = .ok (.iadd, 1) := by decide +kernel
theorem dX12_takesStall_197 : decode cX12_takesStall 197 = .ok (.aload_n 0, 1) := by decide +kernel
theorem dX12_takesStall_198 : decode cX12_takesStall 198 = .ok (.getfield 93, 3) := by decide +kernel
theorem dX12_takesStall_201 : decode cX12_takesStall 201 = .ok (.iastore, 1) := by decide +kernel
theorem dX12_takesStall_202 : decode cX12_takesStall 202 = .ok (.aload_n 0, 1) := by decide +kernel
theorem dX12_takesStall_203 : decode cX12_takesStall 203 = .ok (.getfield 7, 3) := by decide +kernel
theorem dX12_takesStall_206 : decode cX12_takesStall 206 = .ok (.sipush 153, 3) := by decide +kernel
theorem dX12_takesStall_209 : decode cX12_takesStall 209 = .ok (.dup2, 1) := by decide +kernel
theorem dX12_takesStall_210 : decode cX12_takesStall 210 = .ok (.iaload, 1) := by decide +kernel
theorem dX12_takesStall_211 : decode cX12_takesStall 211 = .ok (.iconst 1, 1) := by decide +kernel
theorem dX12_takesStall_212 : decode cX12_takesStall 212 = .ok (.iadd, 1) := by decide +kernel
theorem dX12_takesStall_213 : decode cX12_takesStall 213 = .ok (.iastore, 1) := by decide +kernel
theorem dX12_takesStall_214 : decode cX12_takesStall 214 = .ok (.aload_n 0, 1) := by decide +kernel
theorem dX12_takesStall_215 : decode cX12_takesStall 215 = .ok (.bipush 59, 2) := by decide +kernel
theorem dX12_takesStall_217 : decode cX12_takesStall 217 = .ok (.invokevirtual 99, 3) := by decide +kernel
theorem dX12_takesStall_220 : decode cX12_takesStall 220 = .ok (.ireturn, 1) := by decide +kernel
set_option maxRecDepth 20000 in
theorem ggX12_isMarket_X12_takesLaw : GoodIn wsX12_isMarket wsX12_takesLaw := goodIn_r _ [8, 1, 9, 10, 11, 12, 7, 13, 2, 14, 15, 16, 17, 18, 19, 3, 20, 21, 22, 23, 24, 25, 26, 27, 28, 29, 30, 31, 32, 33, 49, 50, 51, 52, 53, 54, 55, 56, 57, 58, 59, 60, 61, 62, 63, 64, 65, 66, 67] (by decide +kernel) (by decide +kernel)
set_option maxRecDepth 20000 in
theorem gX12_isMarket_X12_takesLaw : GoodIn wsX12_isMarket (wsV RX12 112 RX12 yX12_takesLaw wsX12_takesLaw) := goodIn_app (goodIn_of _ (by decide +kernel)) ggX12_isMarket_X12_takesLaw
set_option maxRecDepth 20000 in
theorem ggX12_isMarket_X12_takesRope : GoodIn wsX12_isMarket wsX12_takesRope := goodIn_r _ [37, 1, 15, 9, 10, 11, 12, 7, 13, 2, 14, 16, 17, 18, 19, 3, 20, 21, 22, 23, 24, 25, 26, 27, 28, 29, 30, 31, 32, 33, 49, 50, 51, 52, 53, 54, 55, 56, 57, 58, 59, 60, 61, 62, 63, 64, 65, 66, 67] (by decide +kernel) (by decide +kernel)
set_option maxRecDepth 20000 in
theorem gX12_isMarket_X12_takesRope : GoodIn wsX12_isMarket (wsV RX12 116 RX12 yX12_takesRope wsX12_takesRope) := goodIn_app (goodIn_of _ (by decide +kernel)) ggX12_isMarket_X12_takesRope
set_option maxRecDepth 20000 in
theorem ggX12_isMarket_X12_byteAt : GoodIn wsX12_isMarket wsX12_byteAt := goodIn_r _ [19, 3, 20, 49, 50, 51, 52, 53, 54, 55, 56, 57, 58, 59, 60, 61, 62, 63, 64, 65, 66, 67] (by decide +kernel) (by decide +kernel)
set_option maxRecDepth 20000 in
theorem gX12_isMarket_X12_byteAt : GoodIn wsX12_isMarket (wsV RX12 77 RX12 yX12_byteAt wsX12_byteAt) := goodIn_app (goodIn_of _ (by decide +kernel)) ggX12_isMarket_X12_byteAt
set_option maxRecDepth 20000 in
theorem ggX12_isMarket_X12_takesStall : GoodIn wsX12_isMarket wsX12_takesStall := goodIn_r _ [41, 2, 14, 15, 1, 9, 16, 17, 18, 7, 19, 3, 20, 42, 43, 44, 21, 22, 23, 24, 25, 26, 27, 28, 29, 30, 31, 32, 33, 10, 11, 12, 13, 45, 46, 47, 48, 49, 50, 51, 52, 53, 54, 55, 56, 57, 58, 59, 60, 61, 62, 63, 64, 65, 66, 67] (by decide +kernel) (by decide +kernel)
set_option maxRecDepth 20000 in
theorem gX12_isMarket_X12_takesStall : GoodIn wsX12_isMarket (wsV RX12 119 RX12 yX12_takesStall wsX12_takesStall) := goodIn_app (goodIn_of _ (by decide +kernel)) ggX12_isMarket_X12_takesStall
theorem dX12_isMarket_0 : decode cX12_isMarket 0 = .ok (.iconst 0, 1) := by decide +kernel
theorem dX12_isMarket_1 : decode cX12_isMarket 1 = .ok (.istore_n 1, 1) := by decide +kernel
theorem dX12_isMarket_2 : decode cX12_isMarket 2 = .ok (.iload_n 1, 1) := by decide +kernel
theorem dX12_isMarket_3 : decode cX12_isMarket 3 = .ok (.bipush 50, 2) := by decide +kernel
theorem dX12_isMarket_5 : decode cX12_isMarket 5 = .ok (.if_icmp .ge 20, 3) := by decide +kernel
theorem dX12_isMarket_8 : decode cX12_isMarket 8 = .ok (.aload_n 0, 1) := by decide +kernel
theorem dX12_isMarket_9 : decode cX12_isMarket 9 = .ok (.getfield 7, 3) := by decide +kernel
theorem dX12_isMarket_12 : decode cX12_isMarket 12 = .ok (.sipush 150, 3) := by decide +kernel
theorem dX12_isMarket_15 : decode cX12_isMarket 15 = .ok (.iload_n 1, 1) := by decide +kernel
theorem dX12_isMarket_16 : decode cX12_isMarket 16 = .ok (.iadd, 1) := by decide +kernel
theorem dX12_isMarket_17 : decode cX12_isMarket 17 = .ok (.iconst 0, 1) := by decide +kernel
theorem dX12_isMarket_18 : decode cX12_isMarket 18 = .ok (.iastore, 1) := by decide +kernel
theorem dX12_isMarket_19 : decode cX12_isMarket 19 = .ok (.iinc 1 1, 3) := by decide +kernel
theorem dX12_isMarket_22 : decode cX12_isMarket 22 = .ok (.goto (-20), 3) := by decide +kernel
theorem dX12_isMarket_25 : decode cX12_isMarket 25 = .ok (.aload_n 0, 1) := by decide +kernel
theorem dX12_isMarket_26 : decode cX12_isMarket 26 = .ok (.iconst 0, 1) := by decide +kernel
theorem dX12_isMarket_27 : decode cX12_isMarket 27 = .ok (.putfield 84, 3) := by decide +kernel
theorem dX12_isMarket_30 : decode cX12_isMarket 30 = .ok (.aload_n 0, 1) := by decide +kernel
theorem dX12_isMarket_31 : decode cX12_isMarket 31 = .ok (.invokevirtual 112, 3) := by decide +kernel
theorem dX12_isMarket_34 : decode cX12_isMarket 34 = .ok (.ifCond .eq 14, 3) := by decide +kernel
theorem dX12_isMarket_37 : decode cX12_isMarket 37 = .ok (.aload_n 0, 1) := by decide +kernel
theorem dX12_isMarket_38 : decode cX12_isMarket 38 = .ok (.invokevirtual 116, 3) := by decide +kernel
theorem dX12_isMarket_41 : decode cX12_isMarket 41 = .ok (.ifCond .eq 7, 3) := by decide +kernel
theorem dX12_isMarket_44 : decode cX12_isMarket 44 = .ok (.iconst 1, 1) := by decide +kernel
theorem dX12_isMarket_45 : decode cX12_isMarket 45 = .ok (.goto 4, 3) := by decide +kernel
theorem dX12_isMarket_48 : decode cX12_isMarket 48 = .ok (.iconst 0, 1) := by decide +kernel
theorem dX12_isMarket_49 : decode cX12_isMarket 49 = .ok (.istore_n 1, 1) := by decide +kernel
theorem dX12_isMarket_50 : decode cX12_isMarket 50 = .ok (.iload_n 1, 1) := by decide +kernel
theorem dX12_isMarket_51 : decode cX12_isMarket 51 = .ok (.ifCond .eq 24, 3) := by decide +kernel
theorem dX12_isMarket_54 : decode cX12_isMarket 54 = .ok (.aload_n 0, 1) := by decide +kernel
theorem dX12_isMarket_55 : decode cX12_isMarket 55 = .ok (.aload_n 0, 1) := by decide +kernel
theorem dX12_isMarket_56 : decode cX12_isMarket 56 = .ok (.getfield 84, 3) := by decide +kernel
theorem dX12_isMarket_59 : decode cX12_isMarket 59 = .ok (.invokevirtual 77, 3) := by decide +kernel
theorem dX12_isMarket_62 : decode cX12_isMarket 62 = .ok (.bipush 108, 2) := by decide +kernel
theorem dX12_isMarket_64 : decode cX12_isMarket 64 = .ok (.if_icmp .ne 11, 3) := by decide +kernel
theorem dX12_isMarket_67 : decode cX12_isMarket 67 = .ok (.aload_n 0, 1) := by decide +kernel
theorem dX12_isMarket_68 : decode cX12_isMarket 68 = .ok (.invokevirtual 116, 3) := by decide +kernel
theorem dX12_isMarket_71 : decode cX12_isMarket 71 = .ok (.istore_n 1, 1) := by decide +kernel
theorem dX12_isMarket_72 : decode cX12_isMarket 72 = .ok (.goto (-22), 3) := by decide +kernel
theorem dX12_isMarket_75 : decode cX12_isMarket 75 = .ok (.iload_n 1, 1) := by decide +kernel
theorem dX12_isMarket_76 : decode cX12_isMarket 76 = .ok (.ifCond .eq 22, 3) := by decide +kernel
theorem dX12_isMarket_79 : decode cX12_isMarket 79 = .ok (.aload_n 0, 1) := by decide +kernel
theorem dX12_isMarket_80 : decode cX12_isMarket 80 = .ok (.getfield 84, 3) := by decide +kernel
theorem dX12_isMarket_83 : decode cX12_isMarket 83 = .ok (.aload_n 0, 1) := by decide +kernel
theorem dX12_isMarket_84 : decode cX12_isMarket 84 = .ok (.getfield 73, 3) := by decide +kernel
theorem dX12_isMarket_87 : decode cX12_isMarket 87 = .ok (.if_icmp .ge 11, 3) := by decide +kernel
theorem dX12_isMarket_90 : decode cX12_isMarket 90 = .ok (.aload_n 0, 1) := by decide +kernel
theorem dX12_isMarket_91 : decode cX12_isMarket 91 = .ok (.invokevirtual 119, 3) := by decide +kernel
theorem dX12_isMarket_94 : decode cX12_isMarket 94 = .ok (.istore_n 1, 1) := by decide +kernel
theorem dX12_isMarket_95 : decode cX12_isMarket 95 = .ok (.goto (-20), 3) := by decide +kernel
theorem dX12_isMarket_98 : decode cX12_isMarket 98 = .ok (.iload_n 1, 1) := by decide +kernel
theorem dX12_isMarket_99 : decode cX12_isMarket 99 = .ok (.ireturn, 1) := by decide +kernel
set_option maxRecDepth 20000 in
theorem ggX12_market_X12_isMarket : GoodIn wsX12_market wsX12_isMarket := goodIn_r _ [12, 6, 13, 1, 14, 15, 16, 11, 17, 18, 19, 20, 21, 22, 5, 2, 23, 24, 25, 26, 27, 28, 29, 30, 31, 32, 33, 34, 35, 36, 37, 38, 39, 40, 41, 42, 43, 44, 45, 46, 47, 48, 49, 50, 51, 52, 53, 54, 55, 56, 57, 58, 59, 60, 61, 62, 63, 64, 65, 66, 67, 68, 69, 70, 71, 72, 73, 74] (by decide +kernel) (by decide +kernel)
set_option maxRecDepth 20000 in
theorem gX12_market_X12_isMarket : GoodIn wsX12_market (wsV RX12 122 RX12 yX12_isMarket wsX12_isMarket) := goodIn_app (goodIn_of _ (by decide +kernel)) ggX12_market_X12_isMarket
theorem dX12_market_0 : decode cX12_market 0 = .ok (.aload_n 0, 1) := by decide +kernel
theorem dX12_market_1 : decode cX12_market 1 = .ok (.invokevirtual 122, 3) := by decide +kernel
theorem dX12_market_4 : decode cX12_market 4 = .ok (.istore_n 1, 1) := by decide +kernel
theorem dX12_market_5 : decode cX12_market 5 = .ok (.aload_n 0, 1) := by decide +kernel
theorem dX12_market_6 : decode cX12_market 6 = .ok (.iconst 0, 1) := by decide +kernel
theorem dX12_market_7 : decode cX12_market 7 = .ok (.putfield 73, 3) := by decide +kernel
theorem dX12_market_10 : decode cX12_market 10 = .ok (.iload_n 1, 1) := by decide +kernel
theorem dX12_market_11 : decode cX12_market 11 = .ok (.ifCond .ne 19, 3) := by decide +kernel
theorem dX12_market_14 : decode cX12_market 14 = .ok (.aload_n 0, 1) := by decide +kernel
theorem dX12_market_15 : decode cX12_market 15 = .ok (.aload_n 0, 1) := by decide +kernel
theorem dX12_market_16 : decode cX12_market 16 = .ok (.getfield 90, 3) := by decide +kernel
theorem dX12_market_19 : decode cX12_market 19 = .ok (.putfield 125, 3) := by decide +kernel
theorem dX12_market_22 : decode cX12_market 22 = .ok (.ldc 128, 2) := by decide +kernel
theorem dX12_market_24 : decode cX12_market 24 = .ok (.aload_n 0, 1) := by decide +kernel
theorem dX12_market_25 : decode cX12_market 25 = .ok (.getfield 87, 3) := by decide +kernel
theorem dX12_market_28 : decode cX12_market 28 = .ok (.isub, 1) := by decide +kernel
theorem dX12_market_29 : decode cX12_market 29 = .ok (.ireturn, 1) := by decide +kernel
theorem dX12_market_30 : decode cX12_market 30 = .ok (.iconst 0, 1) := by decide +kernel
theorem dX12_market_31 : decode cX12_market 31 = .ok (.istore_n 2, 1) := by decide +kernel
theorem dX12_market_32 : decode cX12_market 32 = .ok (.iload_n 2, 1) := by decide +kernel
theorem dX12_market_33 : decode cX12_market 33 = .ok (.bipush 50, 2) := by decide +kernel
theorem dX12_market_35 : decode cX12_market 35 = .ok (.if_icmp .ge 25, 3) := by decide +kernel
theorem dX12_market_38 : decode cX12_market 38 = .ok (.aload_n 0, 1) := by decide +kernel
theorem dX12_market_39 : decode cX12_market 39 = .ok (.getfield 7, 3) := by decide +kernel
theorem dX12_market_42 : decode cX12_market 42 = .ok (.iload_n 2, 1) := by decide +kernel
theorem dX12_market_43 : decode cX12_market 43 = .ok (.aload_n 0, 1) := by decide +kernel
theorem dX12_market_44 : decode cX12_market 44 = .ok (.getfield 7, 3) := by decide +kernel
theorem dX12_market_47 : decode cX12_market 47 = .ok (.sipush 150, 3) := by decide +kernel
theorem dX12_market_50 : decode cX12_market 50 = .ok (.iload_n 2, 1) := by decide +kernel
theorem dX12_market_51 : decode cX12_market 51 = .ok (.iadd, 1) := by decide +kernel
theorem dX12_market_52 : decode cX12_market 52 = .ok (.iaload, 1) := by decide +kernel
theorem dX12_market_53 : decode cX12_market 53 = .ok (.iastore, 1) := by decide +kernel
theorem dX12_market_54 : decode cX12_market 54 = .ok (.iinc 2 1, 3) := by decide +kernel
theorem dX12_market_57 : decode cX12_market 57 = .ok (.goto (-25), 3) := by decide +kernel
theorem dX12_market_60 : decode cX12_market 60 = .ok (.aload_n 0, 1) := by decide +kernel
theorem dX12_market_61 : decode cX12_market 61 = .ok (.getfield 7, 3) := by decide +kernel
theorem dX12_market_64 : decode cX12_market 64 = .ok (.iconst 4, 1) := by decide +kernel
theorem dX12_market_65 : decode cX12_market 65 = .ok (.iconst 1, 1) := by decide +kernel
theorem dX12_market_66 : decode cX12_market 66 = .ok (.iastore, 1) := by decide +kernel
theorem dX12_market_67 : decode cX12_market 67 = .ok (.aload_n 0, 1) := by decide +kernel
theorem dX12_market_68 : decode cX12_market 68 = .ok (.iconst 0, 1) := by decide +kernel
theorem dX12_market_69 : decode cX12_market 69 = .ok (.putfield 129, 3) := by decide +kernel
theorem dX12_market_72 : decode cX12_market 72 = .ok (.aload_n 0, 1) := by decide +kernel
theorem dX12_market_73 : decode cX12_market 73 = .ok (.getfield 7, 3) := by decide +kernel
theorem dX12_market_76 : decode cX12_market 76 = .ok (.iconst 3, 1) := by decide +kernel
theorem dX12_market_77 : decode cX12_market 77 = .ok (.iaload, 1) := by decide +kernel
theorem dX12_market_78 : decode cX12_market 78 = .ok (.ireturn, 1) := by decide +kernel
theorem dX12_fault_0 : decode cX12_fault 0 = .ok (.aload_n 0, 1) := by decide +kernel
theorem dX12_fault_1 : decode cX12_fault 1 = .ok (.getfield 125, 3) := by decide +kernel
theorem dX12_fault_4 : decode cX12_fault 4 = .ok (.ireturn, 1) := by decide +kernel
theorem dX12_minds_0 : decode cX12_minds 0 = .ok (.aload_n 0, 1) := by decide +kernel
theorem dX12_minds_1 : decode cX12_minds 1 = .ok (.getfield 129, 3) := by decide +kernel
theorem dX12_minds_4 : decode cX12_minds 4 = .ok (.bipush 24, 2) := by decide +kernel
theorem dX12_minds_6 : decode cX12_minds 6 = .ok (.if_icmp .ne 51, 3) := by decide +kernel
theorem dX12_minds_9 : decode cX12_minds 9 = .ok (.iconst 0, 1) := by decide +kernel
theorem dX12_minds_10 : decode cX12_minds 10 = .ok (.istore_n 1, 1) := by decide +kernel
theorem dX12_minds_11 : decode cX12_minds 11 = .ok (.iload_n 1, 1) := by decide +kernel
theorem dX12_minds_12 : decode cX12_minds 12 = .ok (.sipush 1150, 3) := by decide +kernel
theorem dX12_minds_15 : decode cX12_minds 15 = .ok (.if_icmp .ge 32, 3) := by decide +kernel
theorem dX12_minds_18 : decode cX12_minds 18 = .ok (.aload_n 0, 1) := by decide +kernel
theorem dX12_minds_19 : decode cX12_minds 19 = .ok (.getfield 7, 3) := by decide +kernel
theorem dX12_minds_22 : decode cX12_minds 22 = .ok (.sipush 200, 3) := by decide +kernel
theorem dX12_minds_25 : decode cX12_minds 25 = .ok (.iload_n 1, 1) := by decide +kernel
theorem dX12_minds_26 : decode cX12_minds 26 = .ok (.iadd, 1) := by decide +kernel
theorem dX12_minds_27 : decode cX12_minds 27 = .ok (.aload_n 0, 1) := by decide +kernel
theorem dX12_minds_28 : decode cX12_minds 28 = .ok (.getfield 7, 3) := by decide +kernel
theorem dX12_minds_31 : decode cX12_minds 31 = .ok (.sipush 200, 3) := by decide +kernel
theorem dX12_minds_34 : decode cX12_minds 34 = .ok (.iload_n 1, 1) := by decide +kernel
theorem dX12_minds_35 : decode cX12_minds 35 = .ok (.iadd, 1) := by decide +kernel
theorem dX12_minds_36 : decode cX12_minds 36 = .ok (.bipush 50, 2) := by decide +kernel
theorem dX12_minds_38 : decode cX12_minds 38 = .ok (.iadd, 1) := by decide +kernel
theorem dX12_minds_39 : decode cX12_minds 39 = .ok (.iaload, 1) := by decide +kernel
theorem dX12_minds_40 : decode cX12_minds 40 = .ok (.iastore, 1) := by decide +kernel
theorem dX12_minds_41 : decode cX12_minds 41 = .ok (.iinc 1 1, 3) := by decide +kernel
theorem dX12_minds_44 : decode cX12_minds 44 = .ok (.goto (-33), 3) := by decide +kernel
theorem dX12_minds_47 : decode cX12_minds 47 = .ok (.aload_n 0, 1) := by decide +kernel
theorem dX12_minds_48 : decode cX12_minds 48 = .ok (.dup, 1) := by decide +kernel
theorem dX12_minds_49 : decode cX12_minds 49 = .ok (.getfield 129, 3) := by decide +kernel
theorem dX12_minds_52 : decode cX12_minds 52 = .ok (.iconst 1, 1) := by decide +kernel
theorem dX12_minds_53 : decode cX12_minds 53 = .ok (.isub, 1) := by decide +kernel
theorem dX12_minds_54 : decode cX12_minds 54 = .ok (.putfield 129, 3) := by decide +kernel
theorem dX12_minds_57 : decode cX12_minds 57 = .ok (.iconst 0, 1) := by decide +kernel
theorem dX12_minds_58 : decode cX12_minds 58 = .ok (.istore_n 1, 1) := by decide +kernel
theorem dX12_minds_59 : decode cX12_minds 59 = .ok (.iload_n 1, 1) := by decide +kernel
theorem dX12_minds_60 : decode cX12_minds 60 = .ok (.bipush 50, 2) := by decide +kernel
theorem dX12_minds_62 : decode cX12_minds 62 = .ok (.if_icmp .ge 33, 3) := by decide +kernel
theorem dX12_minds_65 : decode cX12_minds 65 = .ok (.aload_n 0, 1) := by decide +kernel
theorem dX12_minds_66 : decode cX12_minds 66 = .ok (.getfield 7, 3) := by decide +kernel
theorem dX12_minds_69 : decode cX12_minds 69 = .ok (.sipush 200, 3) := by decide +kernel
theorem dX12_minds_72 : decode cX12_minds 72 = .ok (.bipush 50, 2) := by decide +kernel
theorem dX12_minds_74 : decode cX12_minds 74 = .ok (.aload_n 0, 1) := by decide +kernel
theorem dX12_minds_75 : decode cX12_minds 75 = .ok (.getfield 129, 3) := by decide +kernel
theorem dX12_minds_78 : decode cX12_minds 78 = .ok (.imul, 1) := by decide +kernel
theorem dX12_minds_79 : decode cX12_minds 79 = .ok (.iadd, 1) := by decide +kernel
theorem dX12_minds_80 : decode cX12_minds 80 = .ok (.iload_n 1, 1) := by decide +kernel
theorem dX12_minds_81 : decode cX12_minds 81 = .ok (.iadd, 1) := by decide +kernel
theorem dX12_minds_82 : decode cX12_minds 82 = .ok (.aload_n 0, 1) := by decide +kernel
theorem dX12_minds_83 : decode cX12_minds 83 = .ok (.getfield 7, 3) := by decide +kernel
theorem dX12_minds_86 : decode cX12_minds 86 = .ok (.iload_n 1, 1) := by decide +kernel
theorem dX12_minds_87 : decode cX12_minds 87 = .ok (.iaload, 1) := by decide +kernel
theorem dX12_minds_88 : decode cX12_minds 88 = .ok (.iastore, 1) := by decide +kernel
theorem dX12_minds_89 : decode cX12_minds 89 = .ok (.iinc 1 1, 3) := by decide +kernel
theorem dX12_minds_92 : decode cX12_minds 92 = .ok (.goto (-33), 3) := by decide +kernel
theorem dX12_minds_95 : decode cX12_minds 95 = .ok (.aload_n 0, 1) := by decide +kernel
theorem dX12_minds_96 : decode cX12_minds 96 = .ok (.dup, 1) := by decide +kernel
theorem dX12_minds_97 : decode cX12_minds 97 = .ok (.getfield 129, 3) := by decide +kernel
theorem dX12_minds_100 : decode cX12_minds 100 = .ok (.iconst 1, 1) := by decide +kernel
theorem dX12_minds_101 : decode cX12_minds 101 = .ok (.iadd, 1) := by decide +kernel
theorem dX12_minds_102 : decode cX12_minds 102 = .ok (.putfield 129, 3) := by decide +kernel
theorem dX12_minds_105 : decode cX12_minds 105 = .ok (.return_, 1) := by decide +kernel
theorem dX12_undo_0 : decode cX12_undo 0 = .ok (.aload_n 0, 1) := by decide +kernel
theorem dX12_undo_1 : decode cX12_undo 1 = .ok (.getfield 129, 3) := by decide +kernel
theorem dX12_undo_4 : decode cX12_undo 4 = .ok (.ifCond .ne 6, 3) := by decide +kernel
theorem dX12_undo_7 : decode cX12_undo 7 = .ok (.ldc 132, 2) := by decide +kernel
theorem dX12_undo_9 : decode cX12_undo 9 = .ok (.ireturn, 1) := by decide +kernel
theorem dX12_undo_10 : decode cX12_undo 10 = .ok (.aload_n 0, 1) := by decide +kernel
theorem dX12_undo_11 : decode cX12_undo 11 = .ok (.dup, 1) := by decide +kernel
theorem dX12_undo_12 : decode cX12_undo 12 = .ok (.getfield 129, 3) := by decide +kernel
theorem dX12_undo_15 : decode cX12_undo 15 = .ok (.iconst 1, 1) := by decide +kernel
theorem dX12_undo_16 : decode cX12_undo 16 = .ok (.isub, 1) := by decide +kernel
theorem dX12_undo_17 : decode cX12_undo 17 = .ok (.putfield 129, 3) := by decide +kernel
theorem dX12_undo_20 : decode cX12_undo 20 = .ok (.iconst 0, 1) := by decide +kernel
theorem dX12_undo_21 : decode cX12_undo 21 = .ok (.istore_n 1, 1) := by decide +kernel
theorem dX12_undo_22 : decode cX12_undo 22 = .ok (.iload_n 1, 1) := by decide +kernel
theorem dX12_undo_23 : decode cX12_undo 23 = .ok (.bipush 50, 2) := by decide +kernel
theorem dX12_undo_25 : decode cX12_undo 25 = .ok (.if_icmp .ge 33, 3) := by decide +kernel
theorem dX12_undo_28 : decode cX12_undo 28 = .ok (.aload_n 0, 1) := by decide +kernel
theorem dX12_undo_29 : decode cX12_undo 29 = .ok (.getfield 7, 3) := by decide +kernel
theorem dX12_undo_32 : decode cX12_undo 32 = .ok (.iload_n 1, 1) := by decide +kernel
theorem dX12_undo_33 : decode cX12_undo 33 = .ok (.aload_n 0, 1) := by decide +kernel
theorem dX12_undo_34 : decode cX12_undo 34 = .ok (.getfield 7, 3) := by decide +kernel
theorem dX12_undo_37 : decode cX12_undo 37 = .ok (.sipush 200, 3) := by decide +kernel
theorem dX12_undo_40 : decode cX12_undo 40 = .ok (.bipush 50, 2) := by decide +kernel
theorem dX12_undo_42 : decode cX12_undo 42 = .ok (.aload_n 0, 1) := by decide +kernel
theorem dX12_undo_43 : decode cX12_undo 43 = .ok (.getfield 129, 3) := by decide +kernel
theorem dX12_undo_46 : decode cX12_undo 46 = .ok (.imul, 1) := by decide +kernel
theorem dX12_undo_47 : decode cX12_undo 47 = .ok (.iadd, 1) := by decide +kernel
theorem dX12_undo_48 : decode cX12_undo 48 = .ok (.iload_n 1, 1) := by decide +kernel
theorem dX12_undo_49 : decode cX12_undo 49 = .ok (.iadd, 1) := by decide +kernel
theorem dX12_undo_50 : decode cX12_undo 50 = .ok (.iaload, 1) := by decide +kernel
theorem dX12_undo_51 : decode cX12_undo 51 = .ok (.iastore, 1) := by decide +kernel
theorem dX12_undo_52 : decode cX12_undo 52 = .ok (.iinc 1 1, 3) := by decide +kernel
theorem dX12_undo_55 : decode cX12_undo 55 = .ok (.goto (-33), 3) := by decide +kernel
theorem dX12_undo_58 : decode cX12_undo 58 = .ok (.aload_n 0, 1) := by decide +kernel
theorem dX12_undo_59 : decode cX12_undo 59 = .ok (.getfield 129, 3) := by decide +kernel
theorem dX12_undo_62 : decode cX12_undo 62 = .ok (.ireturn, 1) := by decide +kernel
set_option maxRecDepth 20000 in
theorem ggX12_isStall_X12_in : GoodIn wsX12_isStall wsX12_in := goodIn_r _ [5] (by decide +kernel) (by decide +kernel)
set_option maxRecDepth 20000 in
theorem gX12_isStall_X12_in : GoodIn wsX12_isStall (va_wsS RX12 45 yX12_in wsX12_in) := goodIn_app (goodIn_of _ (by decide +kernel)) ggX12_isStall_X12_in
theorem dX12_isStall_0 : decode cX12_isStall 0 = .ok (.iload_n 1, 1) := by decide +kernel
theorem dX12_isStall_1 : decode cX12_isStall 1 = .ok (.i2l, 1) := by decide +kernel
theorem dX12_isStall_2 : decode cX12_isStall 2 = .ok (.lconst 0, 1) := by decide +kernel
theorem dX12_isStall_3 : decode cX12_isStall 3 = .ok (.aload_n 0, 1) := by decide +kernel
theorem dX12_isStall_4 : decode cX12_isStall 4 = .ok (.getfield 7, 3) := by decide +kernel
theorem dX12_isStall_7 : decode cX12_isStall 7 = .ok (.iconst 3, 1) := by decide +kernel
theorem dX12_isStall_8 : decode cX12_isStall 8 = .ok (.iaload, 1) := by decide +kernel
theorem dX12_isStall_9 : decode cX12_isStall 9 = .ok (.iconst 1, 1) := by decide +kernel
theorem dX12_isStall_10 : decode cX12_isStall 10 = .ok (.isub, 1) := by decide +kernel
theorem dX12_isStall_11 : decode cX12_isStall 11 = .ok (.i2l, 1) := by decide +kernel
theorem dX12_isStall_12 : decode cX12_isStall 12 = .ok (.invokestatic 45, 3) := by decide +kernel
theorem dX12_isStall_15 : decode cX12_isStall 15 = .ok (.ireturn, 1) := by decide +kernel
set_option maxRecDepth 20000 in
theorem ggX12_isRope_X12_in : GoodIn wsX12_isRope wsX12_in := goodIn_r _ [5] (by decide +kernel) (by decide +kernel)
set_option maxRecDepth 20000 in
theorem gX12_isRope_X12_in : GoodIn wsX12_isRope (va_wsS RX12 45 yX12_in wsX12_in) := goodIn_app (goodIn_of _ (by decide +kernel)) ggX12_isRope_X12_in
theorem dX12_isRope_0 : decode cX12_isRope 0 = .ok (.iload_n 1, 1) := by decide +kernel
theorem dX12_isRope_1 : decode cX12_isRope 1 = .ok (.i2l, 1) := by decide +kernel
theorem dX12_isRope_2 : decode cX12_isRope 2 = .ok (.lconst 0, 1) := by decide +kernel
theorem dX12_isRope_3 : decode cX12_isRope 3 = .ok (.aload_n 0, 1) := by decide +kernel
theorem dX12_isRope_4 : decode cX12_isRope 4 = .ok (.getfield 7, 3) := by decide +kernel
theorem dX12_isRope_7 : decode cX12_isRope 7 = .ok (.iconst 2, 1) := by decide +kernel
theorem dX12_isRope_8 : decode cX12_isRope 8 = .ok (.iaload, 1) := by decide +kernel
theorem dX12_isRope_9 : decode cX12_isRope 9 = .ok (.iconst 1, 1) := by decide +kernel
theorem dX12_isRope_10 : decode cX12_isRope 10 = .ok (.isub, 1) := by decide +kernel
theorem dX12_isRope_11 : decode cX12_isRope 11 = .ok (.i2l, 1) := by decide +kernel
theorem dX12_isRope_12 : decode cX12_isRope 12 = .ok (.invokestatic 45, 3) := by decide +kernel
theorem dX12_isRope_15 : decode cX12_isRope 15 = .ok (.ireturn, 1) := by decide +kernel
set_option maxRecDepth 20000 in
theorem ggX12_buyers_X12_isStall : GoodIn wsX12_buyers wsX12_isStall := goodIn_r _ [8, 3, 9, 10, 7, 11, 17, 18, 19, 20, 21, 22, 23, 24, 25, 26, 27, 28, 29, 30, 31, 32, 33, 34, 35] (by decide +kernel) (by decide +kernel)
set_option maxRecDepth 20000 in
theorem gX12_buyers_X12_isStall : GoodIn wsX12_buyers (wsV RX12 133 RX12 yX12_isStall wsX12_isStall) := goodIn_app (goodIn_of _ (by decide +kernel)) ggX12_buyers_X12_isStall
set_option maxRecDepth 20000 in
theorem ggX12_buyers_X12_in : GoodIn wsX12_buyers wsX12_in := goodIn_r _ [11] (by decide +kernel) (by decide +kernel)
set_option maxRecDepth 20000 in
theorem gX12_buyers_X12_in : GoodIn wsX12_buyers (va_wsS RX12 45 yX12_in wsX12_in) := goodIn_app (goodIn_of _ (by decide +kernel)) ggX12_buyers_X12_in
set_option maxRecDepth 20000 in
theorem ggX12_buyers_X12_minds : GoodIn wsX12_buyers wsX12_minds := goodIn_r _ [15, 16, 3, 17, 18, 19, 20, 21, 22, 23, 24, 25, 26, 27, 28, 29, 30, 31, 32, 33, 34, 35] (by decide +kernel) (by decide +kernel)
set_option maxRecDepth 20000 in
theorem gX12_buyers_X12_minds : GoodIn wsX12_buyers (wsV RX12 138 RX12 yX12_minds wsX12_minds) := goodIn_app (goodIn_of _ (by decide +kernel)) ggX12_buyers_X12_minds
theorem dX12_buyers_0 : decode cX12_buyers 0 = .ok (.aload_n 0, 1) := by decide +kernel
theorem dX12_buyers_1 : decode cX12_buyers 1 = .ok (.iload_n 1, 1) := by decide +kernel
theorem dX12_buyers_2 : decode cX12_buyers 2 = .ok (.invokevirtual 133, 3) := by decide +kernel
theorem dX12_buyers_5 : decode cX12_buyers 5 = .ok (.ifCond .eq 15, 3) := by decide +kernel
theorem dX12_buyers_8 : decode cX12_buyers 8 = .ok (.iload_n 2, 1) := by decide +kernel
theorem dX12_buyers_9 : decode cX12_buyers 9 = .ok (.i2l, 1) := by decide +kernel
theorem dX12_buyers_10 : decode cX12_buyers 10 = .ok (.lconst 0, 1) := by decide +kernel
theorem dX12_buyers_11 : decode cX12_buyers 11 = .ok (.ldc2_w 136, 3) := by decide +kernel
theorem dX12_buyers_14 : decode cX12_buyers 14 = .ok (.invokestatic 45, 3) := by decide +kernel
theorem dX12_buyers_17 : decode cX12_buyers 17 = .ok (.ifCond .ne 6, 3) := by decide +kernel
theorem dX12_buyers_20 : decode cX12_buyers 20 = .ok (.ldc 55, 2) := by decide +kernel
theorem dX12_buyers_22 : decode cX12_buyers 22 = .ok (.ireturn, 1) := by decide +kernel
theorem dX12_buyers_23 : decode cX12_buyers 23 = .ok (.aload_n 0, 1) := by decide +kernel
theorem dX12_buyers_24 : decode cX12_buyers 24 = .ok (.invokevirtual 138, 3) := by decide +kernel
theorem dX12_buyers_27 : decode cX12_buyers 27 = .ok (.aload_n 0, 1) := by decide +kernel
theorem dX12_buyers_28 : decode cX12_buyers 28 = .ok (.getfield 7, 3) := by decide +kernel
theorem dX12_buyers_31 : decode cX12_buyers 31 = .ok (.bipush 32, 2) := by decide +kernel
theorem dX12_buyers_33 : decode cX12_buyers 33 = .ok (.iload_n 1, 1) := by decide +kernel
theorem dX12_buyers_34 : decode cX12_buyers 34 = .ok (.iadd, 1) := by decide +kernel
theorem dX12_buyers_35 : decode cX12_buyers 35 = .ok (.iaload, 1) := by decide +kernel
theorem dX12_buyers_36 : decode cX12_buyers 36 = .ok (.istore_n 3, 1) := by decide +kernel
theorem dX12_buyers_37 : decode cX12_buyers 37 = .ok (.aload_n 0, 1) := by decide +kernel
theorem dX12_buyers_38 : decode cX12_buyers 38 = .ok (.getfield 7, 3) := by decide +kernel
theorem dX12_buyers_41 : decode cX12_buyers 41 = .ok (.bipush 32, 2) := by decide +kernel
theorem dX12_buyers_43 : decode cX12_buyers 43 = .ok (.iload_n 1, 1) := by decide +kernel
theorem dX12_buyers_44 : decode cX12_buyers 44 = .ok (.iadd, 1) := by decide +kernel
theorem dX12_buyers_45 : decode cX12_buyers 45 = .ok (.iload_n 2, 1) := by decide +kernel
theorem dX12_buyers_46 : decode cX12_buyers 46 = .ok (.iastore, 1) := by decide +kernel
theorem dX12_buyers_47 : decode cX12_buyers 47 = .ok (.iload_n 3, 1) := by decide +kernel
theorem dX12_buyers_48 : decode cX12_buyers 48 = .ok (.ireturn, 1) := by decide +kernel
set_option maxRecDepth 20000 in
theorem ggX12_girl_X12_isStall : GoodIn wsX12_girl wsX12_isStall := goodIn_r _ [9, 2, 10, 11, 8, 12, 18, 19, 20, 21, 22, 23, 24, 25, 26, 27, 28, 29, 30, 31, 32, 33, 34, 35, 36] (by decide +kernel) (by decide +kernel)
set_option maxRecDepth 20000 in
theorem gX12_girl_X12_isStall : GoodIn wsX12_girl (wsV RX12 133 RX12 yX12_isStall wsX12_isStall) := goodIn_app (goodIn_of _ (by decide +kernel)) ggX12_girl_X12_isStall
set_option maxRecDepth 20000 in
theorem ggX12_girl_X12_minds : GoodIn wsX12_girl wsX12_minds := goodIn_r _ [16, 17, 2, 18, 19, 20, 21, 22, 23, 24, 25, 26, 27, 28, 29, 30, 31, 32, 33, 34, 35, 36] (by decide +kernel) (by decide +kernel)
set_option maxRecDepth 20000 in
theorem gX12_girl_X12_minds : GoodIn wsX12_girl (wsV RX12 138 RX12 yX12_minds wsX12_minds) := goodIn_app (goodIn_of _ (by decide +kernel)) ggX12_girl_X12_minds
theorem dX12_girl_0 : decode cX12_girl 0 = .ok (.aload_n 0, 1) := by decide +kernel
theorem dX12_girl_1 : decode cX12_girl 1 = .ok (.iload_n 1, 1) := by decide +kernel
theorem dX12_girl_2 : decode cX12_girl 2 = .ok (.invokevirtual 133, 3) := by decide +kernel
theorem dX12_girl_5 : decode cX12_girl 5 = .ok (.ifCond .eq 13, 3) := by decide +kernel
theorem dX12_girl_8 : decode cX12_girl 8 = .ok (.iload_n 2, 1) := by decide +kernel
theorem dX12_girl_9 : decode cX12_girl 9 = .ok (.iconst 1, 1) := by decide +kernel
theorem dX12_girl_10 : decode cX12_girl 10 = .ok (.if_icmp .eq 11, 3) := by decide +kernel
theorem dX12_girl_13 : decode cX12_girl 13 = .ok (.iload_n 2, 1) := by decide +kernel
theorem dX12_girl_14 : decode cX12_girl 14 = .ok (.iconst (-1), 1) := by decide +kernel
theorem dX12_girl_15 : decode cX12_girl 15 = .ok (.if_icmp .eq 6, 3) := by decide +kernel
theorem dX12_girl_18 : decode cX12_girl 18 = .ok (.ldc 55, 2) := by decide +kernel
theorem dX12_girl_20 : decode cX12_girl 20 = .ok (.ireturn, 1) := by decide +kernel
theorem dX12_girl_21 : decode cX12_girl 21 = .ok (.iload_n 2, 1) := by decide +kernel
theorem dX12_girl_22 : decode cX12_girl 22 = .ok (.ifCond .ge 18, 3) := by decide +kernel
theorem dX12_girl_25 : decode cX12_girl 25 = .ok (.aload_n 0, 1) := by decide +kernel
theorem dX12_girl_26 : decode cX12_girl 26 = .ok (.getfield 7, 3) := by decide +kernel
theorem dX12_girl_29 : decode cX12_girl 29 = .ok (.bipush 38, 2) := by decide +kernel
theorem dX12_girl_31 : decode cX12_girl 31 = .ok (.iload_n 1, 1) := by decide +kernel
theorem dX12_girl_32 : decode cX12_girl 32 = .ok (.iadd, 1) := by decide +kernel
theorem dX12_girl_33 : decode cX12_girl 33 = .ok (.iaload, 1) := by decide +kernel
theorem dX12_girl_34 : decode cX12_girl 34 = .ok (.ifCond .ne 6, 3) := by decide +kernel
theorem dX12_girl_37 : decode cX12_girl 37 = .ok (.ldc 132, 2) := by decide +kernel
theorem dX12_girl_39 : decode cX12_girl 39 = .ok (.ireturn, 1) := by decide +kernel
theorem dX12_girl_40 : decode cX12_girl 40 = .ok (.iload_n 2, 1) := by decide +kernel
theorem dX12_girl_41 : decode cX12_girl 41 = .ok (.ifCond .le 20, 3) := by decide +kernel
theorem dX12_girl_44 : decode cX12_girl 44 = .ok (.aload_n 0, 1) := by decide +kernel
theorem dX12_girl_45 : decode cX12_girl 45 = .ok (.getfield 7, 3) := by decide +kernel
theorem dX12_girl_48 : decode cX12_girl 48 = .ok (.bipush 38, 2) := by decide +kernel
theorem dX12_girl_50 : decode cX12_girl 50 = .ok (.iload_n 1, 1) := by decide +kernel
theorem dX12_girl_51 : decode cX12_girl 51 = .ok (.iadd, 1) := by decide +kernel
theorem dX12_girl_52 : decode cX12_girl 52 = .ok (.iaload, 1) := by decide +kernel
theorem dX12_girl_53 : decode cX12_girl 53 = .ok (.bipush 9, 2) := by decide +kernel
theorem dX12_girl_55 : decode cX12_girl 55 = .ok (.if_icmp .ne 6, 3) := by decide +kernel
theorem dX12_girl_58 : decode cX12_girl 58 = .ok (.ldc 76, 2) := by decide +kernel
theorem dX12_girl_60 : decode cX12_girl 60 = .ok (.ireturn, 1) := by decide +kernel
theorem dX12_girl_61 : decode cX12_girl 61 = .ok (.aload_n 0, 1) := by decide +kernel
theorem dX12_girl_62 : decode cX12_girl 62 = .ok (.invokevirtual 138, 3) := by decide +kernel
theorem dX12_girl_65 : decode cX12_girl 65 = .ok (.aload_n 0, 1) := by decide +kernel
theorem dX12_girl_66 : decode cX12_girl 66 = .ok (.getfield 7, 3) := by decide +kernel
theorem dX12_girl_69 : decode cX12_girl 69 = .ok (.bipush 38, 2) := by decide +kernel
theorem dX12_girl_71 : decode cX12_girl 71 = .ok (.iload_n 1, 1) := by decide +kernel
theorem dX12_girl_72 : decode cX12_girl 72 = .ok (.iadd, 1) := by decide +kernel
theorem dX12_girl_73 : decode cX12_girl 73 = .ok (.dup2, 1) := by decide +kernel
theorem dX12_girl_74 : decode cX12_girl 74 = .ok (.iaload, 1) := by decide +kernel
theorem dX12_girl_75 : decode cX12_girl 75 = .ok (.iload_n 2, 1) := by decide +kernel
theorem dX12_girl_76 : decode cX12_girl 76 = .ok (.iadd, 1) := by decide +kernel
theorem dX12_girl_77 : decode cX12_girl 77 = .ok (.iastore, 1) := by decide +kernel
theorem dX12_girl_78 : decode cX12_girl 78 = .ok (.aload_n 0, 1) := by decide +kernel
theorem dX12_girl_79 : decode cX12_girl 79 = .ok (.getfield 7, 3) := by decide +kernel
theorem dX12_girl_82 : decode cX12_girl 82 = .ok (.bipush 38, 2) := by decide +kernel
theorem dX12_girl_84 : decode cX12_girl 84 = .ok (.iload_n 1, 1) := by decide +kernel
theorem dX12_girl_85 : decode cX12_girl 85 = .ok (.iadd, 1) := by decide +kernel
theorem dX12_girl_86 : decode cX12_girl 86 = .ok (.iaload, 1) := by decide +kernel
theorem dX12_girl_87 : decode cX12_girl 87 = .ok (.ireturn, 1) := by decide +kernel
set_option maxRecDepth 20000 in
theorem ggX12_slide_X12_isStall : GoodIn wsX12_slide wsX12_isStall := goodIn_r _ [9, 3, 10, 11, 8, 12, 22, 23, 24, 25, 26, 27, 28, 29, 30, 31, 32, 33, 34, 35, 36, 37, 38, 39, 40] (by decide +kernel) (by decide +kernel)
set_option maxRecDepth 20000 in
theorem gX12_slide_X12_isStall : GoodIn wsX12_slide (wsV RX12 133 RX12 yX12_isStall wsX12_isStall) := goodIn_app (goodIn_of _ (by decide +kernel)) ggX12_slide_X12_isStall
set_option maxRecDepth 20000 in
theorem ggX12_slide_X12_in : GoodIn wsX12_slide wsX12_in := goodIn_r _ [12] (by decide +kernel) (by decide +kernel)
set_option maxRecDepth 20000 in
theorem gX12_slide_X12_in : GoodIn wsX12_slide (va_wsS RX12 45 yX12_in wsX12_in) := goodIn_app (goodIn_of _ (by decide +kernel)) ggX12_slide_X12_in
set_option maxRecDepth 20000 in
theorem ggX12_slide_X12_whoIs : GoodIn wsX12_slide wsX12_whoIs := goodIn_r _ [16, 3, 22, 23, 24, 25, 26, 27, 28, 29, 30, 31, 32, 33, 34, 35, 36, 37, 38, 39, 40] (by decide +kernel) (by decide +kernel)
set_option maxRecDepth 20000 in
theorem gX12_slide_X12_whoIs : GoodIn wsX12_slide (wsV RX12 109 RX12 yX12_whoIs wsX12_whoIs) := goodIn_app (goodIn_of _ (by decide +kernel)) ggX12_slide_X12_whoIs
set_option maxRecDepth 20000 in
theorem ggX12_slide_X12_minds : GoodIn wsX12_slide wsX12_minds := goodIn_r _ [20, 21, 3, 22, 23, 24, 25, 26, 27, 28, 29, 30, 31, 32, 33, 34, 35, 36, 37, 38, 39, 40] (by decide +kernel) (by decide +kernel)
set_option maxRecDepth 20000 in
theorem gX12_slide_X12_minds : GoodIn wsX12_slide (wsV RX12 138 RX12 yX12_minds wsX12_minds) := goodIn_app (goodIn_of _ (by decide +kernel)) ggX12_slide_X12_minds
theorem dX12_slide_0 : decode cX12_slide 0 = .ok (.aload_n 0, 1) := by decide +kernel
theorem dX12_slide_1 : decode cX12_slide 1 = .ok (.iload_n 1, 1) := by decide +kernel
theorem dX12_slide_2 : decode cX12_slide 2 = .ok (.invokevirtual 133, 3) := by decide +kernel
theorem dX12_slide_5 : decode cX12_slide 5 = .ok (.ifCond .eq 15, 3) := by decide +kernel
theorem dX12_slide_8 : decode cX12_slide 8 = .ok (.iload_n 2, 1) := by decide +kernel
theorem dX12_slide_9 : decode cX12_slide 9 = .ok (.i2l, 1) := by decide +kernel
theorem dX12_slide_10 : decode cX12_slide 10 = .ok (.lconst 1, 1) := by decide +kernel
theorem dX12_slide_11 : decode cX12_slide 11 = .ok (.ldc2_w 141, 3) := by decide +kernel
theorem dX12_slide_14 : decode cX12_slide 14 = .ok (.invokestatic 45, 3) := by decide +kernel
theorem dX12_slide_17 : decode cX12_slide 17 = .ok (.ifCond .ne 6, 3) := by decide +kernel
theorem dX12_slide_20 : decode cX12_slide 20 = .ok (.ldc 55, 2) := by decide +kernel
theorem dX12_slide_22 : decode cX12_slide 22 = .ok (.ireturn, 1) := by decide +kernel
theorem dX12_slide_23 : decode cX12_slide 23 = .ok (.aload_n 0, 1) := by decide +kernel
theorem dX12_slide_24 : decode cX12_slide 24 = .ok (.iconst 0, 1) := by decide +kernel
theorem dX12_slide_25 : decode cX12_slide 25 = .ok (.aload_n 0, 1) := by decide +kernel
theorem dX12_slide_26 : decode cX12_slide 26 = .ok (.getfield 7, 3) := by decide +kernel
theorem dX12_slide_29 : decode cX12_slide 29 = .ok (.bipush 14, 2) := by decide +kernel
theorem dX12_slide_31 : decode cX12_slide 31 = .ok (.iload_n 1, 1) := by decide +kernel
theorem dX12_slide_32 : decode cX12_slide 32 = .ok (.iadd, 1) := by decide +kernel
theorem dX12_slide_33 : decode cX12_slide 33 = .ok (.iaload, 1) := by decide +kernel
theorem dX12_slide_34 : decode cX12_slide 34 = .ok (.iload_n 2, 1) := by decide +kernel
theorem dX12_slide_35 : decode cX12_slide 35 = .ok (.invokevirtual 109, 3) := by decide +kernel
theorem dX12_slide_38 : decode cX12_slide 38 = .ok (.ifCond .lt 6, 3) := by decide +kernel
theorem dX12_slide_41 : decode cX12_slide 41 = .ok (.ldc 132, 2) := by decide +kernel
theorem dX12_slide_43 : decode cX12_slide 43 = .ok (.ireturn, 1) := by decide +kernel
theorem dX12_slide_44 : decode cX12_slide 44 = .ok (.aload_n 0, 1) := by decide +kernel
theorem dX12_slide_45 : decode cX12_slide 45 = .ok (.invokevirtual 138, 3) := by decide +kernel
theorem dX12_slide_48 : decode cX12_slide 48 = .ok (.aload_n 0, 1) := by decide +kernel
theorem dX12_slide_49 : decode cX12_slide 49 = .ok (.getfield 7, 3) := by decide +kernel
theorem dX12_slide_52 : decode cX12_slide 52 = .ok (.bipush 20, 2) := by decide +kernel
theorem dX12_slide_54 : decode cX12_slide 54 = .ok (.iload_n 1, 1) := by decide +kernel
theorem dX12_slide_55 : decode cX12_slide 55 = .ok (.iadd, 1) := by decide +kernel
theorem dX12_slide_56 : decode cX12_slide 56 = .ok (.iaload, 1) := by decide +kernel
theorem dX12_slide_57 : decode cX12_slide 57 = .ok (.istore_n 3, 1) := by decide +kernel
theorem dX12_slide_58 : decode cX12_slide 58 = .ok (.aload_n 0, 1) := by decide +kernel
theorem dX12_slide_59 : decode cX12_slide 59 = .ok (.getfield 7, 3) := by decide +kernel
theorem dX12_slide_62 : decode cX12_slide 62 = .ok (.bipush 20, 2) := by decide +kernel
theorem dX12_slide_64 : decode cX12_slide 64 = .ok (.iload_n 1, 1) := by decide +kernel
theorem dX12_slide_65 : decode cX12_slide 65 = .ok (.iadd, 1) := by decide +kernel
theorem dX12_slide_66 : decode cX12_slide 66 = .ok (.iload_n 2, 1) := by decide +kernel
theorem dX12_slide_67 : decode cX12_slide 67 = .ok (.iastore, 1) := by decide +kernel
theorem dX12_slide_68 : decode cX12_slide 68 = .ok (.iload_n 3, 1) := by decide +kernel
theorem dX12_slide_69 : decode cX12_slide 69 = .ok (.ireturn, 1) := by decide +kernel
set_option maxRecDepth 20000 in
theorem ggX12_unload_X12_isStall : GoodIn wsX12_unload wsX12_isStall := goodIn_r _ [8, 2, 9, 10, 7, 11, 21, 22, 23, 24, 25, 26, 27, 28, 29, 30, 31, 32, 33, 34, 35, 36, 37, 38, 39] (by decide +kernel) (by decide +kernel)
set_option maxRecDepth 20000 in
theorem gX12_unload_X12_isStall : GoodIn wsX12_unload (wsV RX12 133 RX12 yX12_isStall wsX12_isStall) := goodIn_app (goodIn_of _ (by decide +kernel)) ggX12_unload_X12_isStall
set_option maxRecDepth 20000 in
theorem ggX12_unload_X12_in : GoodIn wsX12_unload wsX12_in := goodIn_r _ [11] (by decide +kernel) (by decide +kernel)
set_option maxRecDepth 20000 in
theorem gX12_unload_X12_in : GoodIn wsX12_unload (va_wsS RX12 45 yX12_in wsX12_in) := goodIn_app (goodIn_of _ (by decide +kernel)) ggX12_unload_X12_in
set_option maxRecDepth 20000 in
theorem ggX12_unload_X12_minds : GoodIn wsX12_unload wsX12_minds := goodIn_r _ [15, 16, 2, 21, 22, 23, 24, 25, 26, 27, 28, 29, 30, 31, 32, 33, 34, 35, 36, 37, 38, 39] (by decide +kernel) (by decide +kernel)
set_option maxRecDepth 20000 in
theorem gX12_unload_X12_minds : GoodIn wsX12_unload (wsV RX12 138 RX12 yX12_minds wsX12_minds) := goodIn_app (goodIn_of _ (by decide +kernel)) ggX12_unload_X12_minds
set_option maxRecDepth 20000 in
theorem ggX12_unload_X12_weightOf : GoodIn wsX12_unload wsX12_weightOf := goodIn_r _ [20, 2, 21, 22, 23, 24, 25, 26, 27, 28, 29, 30, 31, 32, 33, 34, 35, 36, 37, 38, 39] (by decide +kernel) (by decide +kernel)
set_option maxRecDepth 20000 in
theorem gX12_unload_X12_weightOf : GoodIn wsX12_unload (wsV RX12 143 RX12 yX12_weightOf wsX12_weightOf) := goodIn_app (goodIn_of _ (by decide +kernel)) ggX12_unload_X12_weightOf
theorem dX12_unload_0 : decode cX12_unload 0 = .ok (.aload_n 0, 1) := by decide +kernel
theorem dX12_unload_1 : decode cX12_unload 1 = .ok (.iload_n 1, 1) := by decide +kernel
theorem dX12_unload_2 : decode cX12_unload 2 = .ok (.invokevirtual 133, 3) := by decide +kernel
theorem dX12_unload_5 : decode cX12_unload 5 = .ok (.ifCond .eq 13, 3) := by decide +kernel
theorem dX12_unload_8 : decode cX12_unload 8 = .ok (.iload_n 2, 1) := by decide +kernel
theorem dX12_unload_9 : decode cX12_unload 9 = .ok (.i2l, 1) := by decide +kernel
theorem dX12_unload_10 : decode cX12_unload 10 = .ok (.lconst 0, 1) := by decide +kernel
theorem dX12_unload_11 : decode cX12_unload 11 = .ok (.lconst 1, 1) := by decide +kernel
theorem dX12_unload_12 : decode cX12_unload 12 = .ok (.invokestatic 45, 3) := by decide +kernel
theorem dX12_unload_15 : decode cX12_unload 15 = .ok (.ifCond .ne 6, 3) := by decide +kernel
theorem dX12_unload_18 : decode cX12_unload 18 = .ok (.ldc 55, 2) := by decide +kernel
theorem dX12_unload_20 : decode cX12_unload 20 = .ok (.ireturn, 1) := by decide +kernel
theorem dX12_unload_21 : decode cX12_unload 21 = .ok (.aload_n 0, 1) := by decide +kernel
theorem dX12_unload_22 : decode cX12_unload 22 = .ok (.getfield 7, 3) := by decide +kernel
theorem dX12_unload_25 : decode cX12_unload 25 = .ok (.bipush 44, 2) := by decide +kernel
theorem dX12_unload_27 : decode cX12_unload 27 = .ok (.iload_n 1, 1) := by decide +kernel
theorem dX12_unload_28 : decode cX12_unload 28 = .ok (.iadd, 1) := by decide +kernel
theorem dX12_unload_29 : decode cX12_unload 29 = .ok (.iaload, 1) := by decide +kernel
theorem dX12_unload_30 : decode cX12_unload 30 = .ok (.iload_n 2, 1) := by decide +kernel
theorem dX12_unload_31 : decode cX12_unload 31 = .ok (.if_icmp .ne 6, 3) := by decide +kernel
theorem dX12_unload_34 : decode cX12_unload 34 = .ok (.ldc 132, 2) := by decide +kernel
theorem dX12_unload_36 : decode cX12_unload 36 = .ok (.ireturn, 1) := by decide +kernel
theorem dX12_unload_37 : decode cX12_unload 37 = .ok (.aload_n 0, 1) := by decide +kernel
theorem dX12_unload_38 : decode cX12_unload 38 = .ok (.invokevirtual 138, 3) := by decide +kernel
theorem dX12_unload_41 : decode cX12_unload 41 = .ok (.aload_n 0, 1) := by decide +kernel
theorem dX12_unload_42 : decode cX12_unload 42 = .ok (.getfield 7, 3) := by decide +kernel
theorem dX12_unload_45 : decode cX12_unload 45 = .ok (.bipush 44, 2) := by decide +kernel
theorem dX12_unload_47 : decode cX12_unload 47 = .ok (.iload_n 1, 1) := by decide +kernel
theorem dX12_unload_48 : decode cX12_unload 48 = .ok (.iadd, 1) := by decide +kernel
theorem dX12_unload_49 : decode cX12_unload 49 = .ok (.iload_n 2, 1) := by decide +kernel
theorem dX12_unload_50 : decode cX12_unload 50 = .ok (.iastore, 1) := by decide +kernel
theorem dX12_unload_51 : decode cX12_unload 51 = .ok (.aload_n 0, 1) := by decide +kernel
theorem dX12_unload_52 : decode cX12_unload 52 = .ok (.iload_n 1, 1) := by decide +kernel
theorem dX12_unload_53 : decode cX12_unload 53 = .ok (.invokevirtual 143, 3) := by decide +kernel
theorem dX12_unload_56 : decode cX12_unload 56 = .ok (.ireturn, 1) := by decide +kernel
set_option maxRecDepth 20000 in
theorem ggX12_rain_X12_minds : GoodIn wsX12_rain wsX12_minds := goodIn_r _ [8, 9, 1, 10, 11, 12, 13, 14, 15, 16, 17, 18, 19, 20, 21, 22, 23, 24, 25, 26, 27, 28] (by decide +kernel) (by decide +kernel)
set_option maxRecDepth 20000 in
theorem gX12_rain_X12_minds : GoodIn wsX12_rain (wsV RX12 138 RX12 yX12_minds wsX12_minds) := goodIn_app (goodIn_of _ (by decide +kernel)) ggX12_rain_X12_minds
theorem dX12_rain_0 : decode cX12_rain 0 = .ok (.aload_n 0, 1) := by decide +kernel
theorem dX12_rain_1 : decode cX12_rain 1 = .ok (.getfield 7, 3) := by decide +kernel
theorem dX12_rain_4 : decode cX12_rain 4 = .ok (.iconst 4, 1) := by decide +kernel
theorem dX12_rain_5 : decode cX12_rain 5 = .ok (.iaload, 1) := by decide +kernel
theorem dX12_rain_6 : decode cX12_rain 6 = .ok (.ifCond .ne 6, 3) := by decide +kernel
theorem dX12_rain_9 : decode cX12_rain 9 = .ok (.ldc 132, 2) := by decide +kernel
theorem dX12_rain_11 : decode cX12_rain 11 = .ok (.ireturn, 1) := by decide +kernel
theorem dX12_rain_12 : decode cX12_rain 12 = .ok (.aload_n 0, 1) := by decide +kernel
theorem dX12_rain_13 : decode cX12_rain 13 = .ok (.getfield 7, 3) := by decide +kernel
theorem dX12_rain_16 : decode cX12_rain 16 = .ok (.iconst 1, 1) := by decide +kernel
theorem dX12_rain_17 : decode cX12_rain 17 = .ok (.iaload, 1) := by decide +kernel
theorem dX12_rain_18 : decode cX12_rain 18 = .ok (.bipush 99, 2) := by decide +kernel
theorem dX12_rain_20 : decode cX12_rain 20 = .ok (.if_icmp .ne 6, 3) := by decide +kernel
theorem dX12_rain_23 : decode cX12_rain 23 = .ok (.ldc 76, 2) := by decide +kernel
theorem dX12_rain_25 : decode cX12_rain 25 = .ok (.ireturn, 1) := by decide +kernel
theorem dX12_rain_26 : decode cX12_rain 26 = .ok (.aload_n 0, 1) := by decide +kernel
theorem dX12_rain_27 : decode cX12_rain 27 = .ok (.invokevirtual 138, 3) := by decide +kernel
theorem dX12_rain_30 : decode cX12_rain 30 = .ok (.aload_n 0, 1) := by decide +kernel
theorem dX12_rain_31 : decode cX12_rain 31 = .ok (.getfield 7, 3) := by decide +kernel
theorem dX12_rain_34 : decode cX12_rain 34 = .ok (.iconst 1, 1) := by decide +kernel
theorem dX12_rain_35 : decode cX12_rain 35 = .ok (.dup2, 1) := by decide +kernel
theorem dX12_rain_36 : decode cX12_rain 36 = .ok (.iaload, 1) := by decide +kernel
theorem dX12_rain_37 : decode cX12_rain 37 = .ok (.iconst 1, 1) := by decide +kernel
theorem dX12_rain_38 : decode cX12_rain 38 = .ok (.iadd, 1) := by decide +kernel
theorem dX12_rain_39 : decode cX12_rain 39 = .ok (.iastore, 1) := by decide +kernel
theorem dX12_rain_40 : decode cX12_rain 40 = .ok (.aload_n 0, 1) := by decide +kernel
theorem dX12_rain_41 : decode cX12_rain 41 = .ok (.getfield 7, 3) := by decide +kernel
theorem dX12_rain_44 : decode cX12_rain 44 = .ok (.iconst 1, 1) := by decide +kernel
theorem dX12_rain_45 : decode cX12_rain 45 = .ok (.iaload, 1) := by decide +kernel
theorem dX12_rain_46 : decode cX12_rain 46 = .ok (.ireturn, 1) := by decide +kernel
set_option maxRecDepth 20000 in
theorem ggX12_cut_X12_isRope : GoodIn wsX12_cut wsX12_isRope := goodIn_r _ [8, 2, 9, 10, 7, 11, 17, 18, 19, 20, 21, 22, 23, 24, 25, 26, 27, 28, 29, 30, 31, 32, 33, 34, 35] (by decide +kernel) (by decide +kernel)
set_option maxRecDepth 20000 in
theorem gX12_cut_X12_isRope : GoodIn wsX12_cut (wsV RX12 146 RX12 yX12_isRope wsX12_isRope) := goodIn_app (goodIn_of _ (by decide +kernel)) ggX12_cut_X12_isRope
set_option maxRecDepth 20000 in
theorem ggX12_cut_X12_minds : GoodIn wsX12_cut wsX12_minds := goodIn_r _ [15, 16, 2, 17, 18, 19, 20, 21, 22, 23, 24, 25, 26, 27, 28, 29, 30, 31, 32, 33, 34, 35] (by decide +kernel) (by decide +kernel)
set_option maxRecDepth 20000 in
theorem gX12_cut_X12_minds : GoodIn wsX12_cut (wsV RX12 138 RX12 yX12_minds wsX12_minds) := goodIn_app (goodIn_of _ (by decide +kernel)) ggX12_cut_X12_minds
theorem dX12_cut_0 : decode cX12_cut 0 = .ok (.aload_n 0, 1) := by decide +kernel
theorem dX12_cut_1 : decode cX12_cut 1 = .ok (.iload_n 1, 1) := by decide +kernel
theorem dX12_cut_2 : decode cX12_cut 2 = .ok (.invokevirtual 146, 3) := by decide +kernel
theorem dX12_cut_5 : decode cX12_cut 5 = .ok (.ifCond .ne 6, 3) := by decide +kernel
theorem dX12_cut_8 : decode cX12_cut 8 = .ok (.ldc 55, 2) := by decide +kernel
theorem dX12_cut_10 : decode cX12_cut 10 = .ok (.ireturn, 1) := by decide +kernel
theorem dX12_cut_11 : decode cX12_cut 11 = .ok (.aload_n 0, 1) := by decide +kernel
theorem dX12_cut_12 : decode cX12_cut 12 = .ok (.getfield 7, 3) := by decide +kernel
theorem dX12_cut_15 : decode cX12_cut 15 = .ok (.iconst 5, 1) := by decide +kernel
theorem dX12_cut_16 : decode cX12_cut 16 = .ok (.iload_n 1, 1) := by decide +kernel
theorem dX12_cut_17 : decode cX12_cut 17 = .ok (.iadd, 1) := by decide +kernel
theorem dX12_cut_18 : decode cX12_cut 18 = .ok (.iaload, 1) := by decide +kernel
theorem dX12_cut_19 : decode cX12_cut 19 = .ok (.iconst 1, 1) := by decide +kernel
theorem dX12_cut_20 : decode cX12_cut 20 = .ok (.if_icmp .ne 6, 3) := by decide +kernel
theorem dX12_cut_23 : decode cX12_cut 23 = .ok (.ldc 132, 2) := by decide +kernel
theorem dX12_cut_25 : decode cX12_cut 25 = .ok (.ireturn, 1) := by decide +kernel
theorem dX12_cut_26 : decode cX12_cut 26 = .ok (.aload_n 0, 1) := by decide +kernel
theorem dX12_cut_27 : decode cX12_cut 27 = .ok (.invokevirtual 138, 3) := by decide +kernel
theorem dX12_cut_30 : decode cX12_cut 30 = .ok (.aload_n 0, 1) := by decide +kernel
theorem dX12_cut_31 : decode cX12_cut 31 = .ok (.getfield 7, 3) := by decide +kernel
theorem dX12_cut_34 : decode cX12_cut 34 = .ok (.iconst 5, 1) := by decide +kernel
theorem dX12_cut_35 : decode cX12_cut 35 = .ok (.iload_n 1, 1) := by decide +kernel
theorem dX12_cut_36 : decode cX12_cut 36 = .ok (.iadd, 1) := by decide +kernel
theorem dX12_cut_37 : decode cX12_cut 37 = .ok (.dup2, 1) := by decide +kernel
theorem dX12_cut_38 : decode cX12_cut 38 = .ok (.iaload, 1) := by decide +kernel
theorem dX12_cut_39 : decode cX12_cut 39 = .ok (.iconst 1, 1) := by decide +kernel
theorem dX12_cut_40 : decode cX12_cut 40 = .ok (.isub, 1) := by decide +kernel
theorem dX12_cut_41 : decode cX12_cut 41 = .ok (.iastore, 1) := by decide +kernel
theorem dX12_cut_42 : decode cX12_cut 42 = .ok (.aload_n 0, 1) := by decide +kernel
theorem dX12_cut_43 : decode cX12_cut 43 = .ok (.getfield 7, 3) := by decide +kernel
theorem dX12_cut_46 : decode cX12_cut 46 = .ok (.iconst 5, 1) := by decide +kernel
theorem dX12_cut_47 : decode cX12_cut 47 = .ok (.iload_n 1, 1) := by decide +kernel
theorem dX12_cut_48 : decode cX12_cut 48 = .ok (.iadd, 1) := by decide +kernel
theorem dX12_cut_49 : decode cX12_cut 49 = .ok (.iaload, 1) := by decide +kernel
theorem dX12_cut_50 : decode cX12_cut 50 = .ok (.ireturn, 1) := by decide +kernel
theorem dX12_weightOf_0 : decode cX12_weightOf 0 = .ok (.aload_n 0, 1) := by decide +kernel
theorem dX12_weightOf_1 : decode cX12_weightOf 1 = .ok (.getfield 7, 3) := by decide +kernel
theorem dX12_weightOf_4 : decode cX12_weightOf 4 = .ok (.bipush 8, 2) := by decide +kernel
theorem dX12_weightOf_6 : decode cX12_weightOf 6 = .ok (.iload_n 1, 1) := by decide +kernel
theorem dX12_weightOf_7 : decode cX12_weightOf 7 = .ok (.iadd, 1) := by decide +kernel
theorem dX12_weightOf_8 : decode cX12_weightOf 8 = .ok (.iaload, 1) := by decide +kernel
theorem dX12_weightOf_9 : decode cX12_weightOf 9 = .ok (.istore_n 2, 1) := by decide +kernel
theorem dX12_weightOf_10 : decode cX12_weightOf 10 = .ok (.aload_n 0, 1) := by decide +kernel
theorem dX12_weightOf_11 : decode cX12_weightOf 11 = .ok (.getfield 7, 3) := by decide +kernel
theorem dX12_weightOf_14 : decode cX12_weightOf 14 = .ok (.bipush 44, 2) := by decide +kernel
theorem dX12_weightOf_16 : decode cX12_weightOf 16 = .ok (.iload_n 1, 1) := by decide +kernel
theorem dX12_weightOf_17 : decode cX12_weightOf 17 = .ok (.iadd, 1) := by decide +kernel
theorem dX12_weightOf_18 : decode cX12_weightOf 18 = .ok (.iaload, 1) := by decide +kernel
theorem dX12_weightOf_19 : decode cX12_weightOf 19 = .ok (.iconst 1, 1) := by decide +kernel
theorem dX12_weightOf_20 : decode cX12_weightOf 20 = .ok (.if_icmp .ne 7, 3) := by decide +kernel
theorem dX12_weightOf_23 : decode cX12_weightOf 23 = .ok (.iconst 0, 1) := by decide +kernel
theorem dX12_weightOf_24 : decode cX12_weightOf 24 = .ok (.goto 12, 3) := by decide +kernel
theorem dX12_weightOf_27 : decode cX12_weightOf 27 = .ok (.aload_n 0, 1) := by decide +kernel
theorem dX12_weightOf_28 : decode cX12_weightOf 28 = .ok (.getfield 7, 3) := by decide +kernel
theorem dX12_weightOf_31 : decode cX12_weightOf 31 = .ok (.bipush 26, 2) := by decide +kernel
theorem dX12_weightOf_33 : decode cX12_weightOf 33 = .ok (.iload_n 1, 1) := by decide +kernel
theorem dX12_weightOf_34 : decode cX12_weightOf 34 = .ok (.iadd, 1) := by decide +kernel
theorem dX12_weightOf_35 : decode cX12_weightOf 35 = .ok (.iaload, 1) := by decide +kernel
theorem dX12_weightOf_36 : decode cX12_weightOf 36 = .ok (.istore_n 3, 1) := by decide +kernel
theorem dX12_weightOf_37 : decode cX12_weightOf 37 = .ok (.iload_n 2, 1) := by decide +kernel
theorem dX12_weightOf_38 : decode cX12_weightOf 38 = .ok (.iconst 2, 1) := by decide +kernel
theorem dX12_weightOf_39 : decode cX12_weightOf 39 = .ok (.if_icmp .ne 9, 3) := by decide +kernel
theorem dX12_weightOf_42 : decode cX12_weightOf 42 = .ok (.iload_n 3, 1) := by decide +kernel
theorem dX12_weightOf_43 : decode cX12_weightOf 43 = .ok (.iconst 2, 1) := by decide +kernel
theorem dX12_weightOf_44 : decode cX12_weightOf 44 = .ok (.idiv, 1) := by decide +kernel
theorem dX12_weightOf_45 : decode cX12_weightOf 45 = .ok (.goto 25, 3) := by decide +kernel
theorem dX12_weightOf_48 : decode cX12_weightOf 48 = .ok (.iload_n 2, 1) := by decide +kernel
theorem dX12_weightOf_49 : decode cX12_weightOf 49 = .ok (.iconst 3, 1) := by decide +kernel
theorem dX12_weightOf_50 : decode cX12_weightOf 50 = .ok (.if_icmp .ne 9, 3) := by decide +kernel
theorem dX12_weightOf_53 : decode cX12_weightOf 53 = .ok (.iconst 2, 1) := by decide +kernel
theorem dX12_weightOf_54 : decode cX12_weightOf 54 = .ok (.iload_n 3, 1) := by decide +kernel
theorem dX12_weightOf_55 : decode cX12_weightOf 55 = .ok (.imul, 1) := by decide +kernel
theorem dX12_weightOf_56 : decode cX12_weightOf 56 = .ok (.goto 14, 3) := by decide +kernel
theorem dX12_weightOf_59 : decode cX12_weightOf 59 = .ok (.iload_n 2, 1) := by decide +kernel
theorem dX12_weightOf_60 : decode cX12_weightOf 60 = .ok (.iconst 5, 1) := by decide +kernel
theorem dX12_weightOf_61 : decode cX12_weightOf 61 = .ok (.if_icmp .ne 8, 3) := by decide +kernel
theorem dX12_weightOf_64 : decode cX12_weightOf 64 = .ok (.iload_n 3, 1) := by decide +kernel
theorem dX12_weightOf_65 : decode cX12_weightOf 65 = .ok (.ineg, 1) := by decide +kernel
theorem dX12_weightOf_66 : decode cX12_weightOf 66 = .ok (.goto 4, 3) := by decide +kernel
theorem dX12_weightOf_69 : decode cX12_weightOf 69 = .ok (.iload_n 3, 1) := by decide +kernel
theorem dX12_weightOf_70 : decode cX12_weightOf 70 = .ok (.istore 4, 2) := by decide +kernel
theorem dX12_weightOf_72 : decode cX12_weightOf 72 = .ok (.iload 4, 2) := by decide +kernel
theorem dX12_weightOf_74 : decode cX12_weightOf 74 = .ok (.aload_n 0, 1) := by decide +kernel
theorem dX12_weightOf_75 : decode cX12_weightOf 75 = .ok (.getfield 7, 3) := by decide +kernel
theorem dX12_weightOf_78 : decode cX12_weightOf 78 = .ok (.bipush 38, 2) := by decide +kernel
theorem dX12_weightOf_80 : decode cX12_weightOf 80 = .ok (.iload_n 1, 1) := by decide +kernel
theorem dX12_weightOf_81 : decode cX12_weightOf 81 = .ok (.iadd, 1) := by decide +kernel
theorem dX12_weightOf_82 : decode cX12_weightOf 82 = .ok (.iaload, 1) := by decide +kernel
theorem dX12_weightOf_83 : decode cX12_weightOf 83 = .ok (.iadd, 1) := by decide +kernel
theorem dX12_weightOf_84 : decode cX12_weightOf 84 = .ok (.iload_n 2, 1) := by decide +kernel
theorem dX12_weightOf_85 : decode cX12_weightOf 85 = .ok (.iconst 4, 1) := by decide +kernel
theorem dX12_weightOf_86 : decode cX12_weightOf 86 = .ok (.if_icmp .eq 8, 3) := by decide +kernel
theorem dX12_weightOf_89 : decode cX12_weightOf 89 = .ok (.iload_n 2, 1) := by decide +kernel
theorem dX12_weightOf_90 : decode cX12_weightOf 90 = .ok (.iconst 5, 1) := by decide +kernel
theorem dX12_weightOf_91 : decode cX12_weightOf 91 = .ok (.if_icmp .ne 7, 3) := by decide +kernel
theorem dX12_weightOf_94 : decode cX12_weightOf 94 = .ok (.iconst 0, 1) := by decide +kernel
theorem dX12_weightOf_95 : decode cX12_weightOf 95 = .ok (.goto 12, 3) := by decide +kernel
theorem dX12_weightOf_98 : decode cX12_weightOf 98 = .ok (.aload_n 0, 1) := by decide +kernel
theorem dX12_weightOf_99 : decode cX12_weightOf 99 = .ok (.getfield 7, 3) := by decide +kernel
theorem dX12_weightOf_102 : decode cX12_weightOf 102 = .ok (.bipush 32, 2) := by decide +kernel
theorem dX12_weightOf_104 : decode cX12_weightOf 104 = .ok (.iload_n 1, 1) := by decide +kernel
theorem dX12_weightOf_105 : decode cX12_weightOf 105 = .ok (.iadd, 1) := by decide +kernel
theorem dX12_weightOf_106 : decode cX12_weightOf 106 = .ok (.iaload, 1) := by decide +kernel
theorem dX12_weightOf_107 : decode cX12_weightOf 107 = .ok (.iadd, 1) := by decide +kernel
theorem dX12_weightOf_108 : decode cX12_weightOf 108 = .ok (.ireturn, 1) := by decide +kernel
theorem dX12_lesser_0 : decode cX12_lesser 0 = .ok (.iload_n 0, 1) := by decide +kernel
theorem dX12_lesser_1 : decode cX12_lesser 1 = .ok (.iload_n 1, 1) := by decide +kernel
theorem dX12_lesser_2 : decode cX12_lesser 2 = .ok (.if_icmp .ge 7, 3) := by decide +kernel
theorem dX12_lesser_5 : decode cX12_lesser 5 = .ok (.iload_n 0, 1) := by decide +kernel
theorem dX12_lesser_6 : decode cX12_lesser 6 = .ok (.goto 4, 3) := by decide +kernel
theorem dX12_lesser_9 : decode cX12_lesser 9 = .ok (.iload_n 1, 1) := by decide +kernel
theorem dX12_lesser_10 : decode cX12_lesser 10 = .ok (.ireturn, 1) := by decide +kernel
set_option maxRecDepth 20000 in
theorem ggX12_sagOf_X12_isRope : GoodIn wsX12_sagOf wsX12_isRope := goodIn_r _ [6, 1, 7, 8, 5, 9, 17, 18, 19, 20, 21, 22, 23, 24, 25, 26, 27, 28, 29, 30, 31, 32, 33, 34, 35] (by decide +kernel) (by decide +kernel)
set_option maxRecDepth 20000 in
theorem gX12_sagOf_X12_isRope : GoodIn wsX12_sagOf (wsV RX12 146 RX12 yX12_isRope wsX12_isRope) := goodIn_app (goodIn_of _ (by decide +kernel)) ggX12_sagOf_X12_isRope
set_option maxRecDepth 20000 in
theorem ggX12_sagOf_X12_lesser : GoodIn wsX12_sagOf wsX12_lesser := goodIn_r _ [12] (by decide +kernel) (by decide +kernel)
set_option maxRecDepth 20000 in
theorem gX12_sagOf_X12_lesser : GoodIn wsX12_sagOf (va_wsS RX12 149 yX12_lesser wsX12_lesser) := goodIn_app (goodIn_of _ (by decide +kernel)) ggX12_sagOf_X12_lesser
set_option maxRecDepth 20000 in
theorem ggX12_sagOf_X12_weightOf : GoodIn wsX12_sagOf wsX12_weightOf := goodIn_r _ [16, 1, 17, 18, 19, 20, 21, 22, 23, 24, 25, 26, 27, 28, 29, 30, 31, 32, 33, 34, 35] (by decide +kernel) (by decide +kernel)
set_option maxRecDepth 20000 in
theorem gX12_sagOf_X12_weightOf : GoodIn wsX12_sagOf (wsV RX12 143 RX12 yX12_weightOf wsX12_weightOf) := goodIn_app (goodIn_of _ (by decide +kernel)) ggX12_sagOf_X12_weightOf
theorem dX12_sagOf_0 : decode cX12_sagOf 0 = .ok (.aload_n 0, 1) := by decide +kernel
theorem dX12_sagOf_1 : decode cX12_sagOf 1 = .ok (.iload_n 1, 1) := by decide +kernel
theorem dX12_sagOf_2 : decode cX12_sagOf 2 = .ok (.invokevirtual 146, 3) := by decide +kernel
theorem dX12_sagOf_5 : decode cX12_sagOf 5 = .ok (.ifCond .ne 5, 3) := by decide +kernel
theorem dX12_sagOf_8 : decode cX12_sagOf 8 = .ok (.iconst 0, 1) := by decide +kernel
theorem dX12_sagOf_9 : decode cX12_sagOf 9 = .ok (.ireturn, 1) := by decide +kernel
theorem dX12_sagOf_10 : decode cX12_sagOf 10 = .ok (.iconst 0, 1) := by decide +kernel
theorem dX12_sagOf_11 : decode cX12_sagOf 11 = .ok (.istore_n 3, 1) := by decide +kernel
theorem dX12_sagOf_12 : decode cX12_sagOf 12 = .ok (.iconst 0, 1) := by decide +kernel
theorem dX12_sagOf_13 : decode cX12_sagOf 13 = .ok (.istore 4, 2) := by decide +kernel
theorem dX12_sagOf_15 : decode cX12_sagOf 15 = .ok (.iload 4, 2) := by decide +kernel
theorem dX12_sagOf_17 : decode cX12_sagOf 17 = .ok (.aload_n 0, 1) := by decide +kernel
theorem dX12_sagOf_18 : decode cX12_sagOf 18 = .ok (.getfield 7, 3) := by decide +kernel
theorem dX12_sagOf_21 : decode cX12_sagOf 21 = .ok (.iconst 3, 1) := by decide +kernel
theorem dX12_sagOf_22 : decode cX12_sagOf 22 = .ok (.iaload, 1) := by decide +kernel
theorem dX12_sagOf_23 : decode cX12_sagOf 23 = .ok (.if_icmp .ge 74, 3) := by decide +kernel
theorem dX12_sagOf_26 : decode cX12_sagOf 26 = .ok (.aload_n 0, 1) := by decide +kernel
theorem dX12_sagOf_27 : decode cX12_sagOf 27 = .ok (.getfield 7, 3) := by decide +kernel
theorem dX12_sagOf_30 : decode cX12_sagOf 30 = .ok (.bipush 20, 2) := by decide +kernel
theorem dX12_sagOf_32 : decode cX12_sagOf 32 = .ok (.iload 4, 2) := by decide +kernel
theorem dX12_sagOf_34 : decode cX12_sagOf 34 = .ok (.iadd, 1) := by decide +kernel
theorem dX12_sagOf_35 : decode cX12_sagOf 35 = .ok (.iaload, 1) := by decide +kernel
theorem dX12_sagOf_36 : decode cX12_sagOf 36 = .ok (.istore 5, 2) := by decide +kernel
theorem dX12_sagOf_38 : decode cX12_sagOf 38 = .ok (.iload_n 2, 1) := by decide +kernel
theorem dX12_sagOf_39 : decode cX12_sagOf 39 = .ok (.iload 5, 2) := by decide +kernel
theorem dX12_sagOf_41 : decode cX12_sagOf 41 = .ok (.invokestatic 149, 3) := by decide +kernel
theorem dX12_sagOf_44 : decode cX12_sagOf 44 = .ok (.istore 6, 2) := by decide +kernel
theorem dX12_sagOf_46 : decode cX12_sagOf 46 = .ok (.iload_n 2, 1) := by decide +kernel
theorem dX12_sagOf_47 : decode cX12_sagOf 47 = .ok (.iload 5, 2) := by decide +kernel
theorem dX12_sagOf_49 : decode cX12_sagOf 49 = .ok (.iadd, 1) := by decide +kernel
theorem dX12_sagOf_50 : decode cX12_sagOf 50 = .ok (.iload 6, 2) := by decide +kernel
theorem dX12_sagOf_52 : decode cX12_sagOf 52 = .ok (.isub, 1) := by decide +kernel
theorem dX12_sagOf_53 : decode cX12_sagOf 53 = .ok (.istore 7, 2) := by decide +kernel
theorem dX12_sagOf_55 : decode cX12_sagOf 55 = .ok (.iload_n 3, 1) := by decide +kernel
theorem dX12_sagOf_56 : decode cX12_sagOf 56 = .ok (.aload_n 0, 1) := by decide +kernel
theorem dX12_sagOf_57 : decode cX12_sagOf 57 = .ok (.getfield 7, 3) := by decide +kernel
theorem dX12_sagOf_60 : decode cX12_sagOf 60 = .ok (.bipush 14, 2) := by decide +kernel
theorem dX12_sagOf_62 : decode cX12_sagOf 62 = .ok (.iload 4, 2) := by decide +kernel
theorem dX12_sagOf_64 : decode cX12_sagOf 64 = .ok (.iadd, 1) := by decide +kernel
theorem dX12_sagOf_65 : decode cX12_sagOf 65 = .ok (.iaload, 1) := by decide +kernel
theorem dX12_sagOf_66 : decode cX12_sagOf 66 = .ok (.iload_n 1, 1) := by decide +kernel
theorem dX12_sagOf_67 : decode cX12_sagOf 67 = .ok (.if_icmp .ne 21, 3) := by decide +kernel
theorem dX12_sagOf_70 : decode cX12_sagOf 70 = .ok (.aload_n 0, 1) := by decide +kernel
theorem dX12_sagOf_71 : decode cX12_sagOf 71 = .ok (.iload 4, 2) := by decide +kernel
theorem dX12_sagOf_73 : decode cX12_sagOf 73 = .ok (.invokevirtual 143, 3) := by decide +kernel
theorem dX12_sagOf_76 : decode cX12_sagOf 76 = .ok (.iload 6, 2) := by decide +kernel
theorem dX12_sagOf_78 : decode cX12_sagOf 78 = .ok (.imul, 1) := by decide +kernel
theorem dX12_sagOf_79 : decode cX12_sagOf 79 = .ok (.bipush 9, 2) := by decide +kernel
theorem dX12_sagOf_81 : decode cX12_sagOf 81 = .ok (.iload 7, 2) := by decide +kernel
theorem dX12_sagOf_83 : decode cX12_sagOf 83 = .ok (.isub, 1) := by decide +kernel
theorem dX12_sagOf_84 : decode cX12_sagOf 84 = .ok (.imul, 1) := by decide +kernel
theorem dX12_sagOf_85 : decode cX12_sagOf 85 = .ok (.goto 4, 3) := by decide +kernel
theorem dX12_sagOf_88 : decode cX12_sagOf 88 = .ok (.iconst 0, 1) := by decide +kernel
theorem dX12_sagOf_89 : decode cX12_sagOf 89 = .ok (.iadd, 1) := by decide +kernel
theorem dX12_sagOf_90 : decode cX12_sagOf 90 = .ok (.istore_n 3, 1) := by decide +kernel
theorem dX12_sagOf_91 : decode cX12_sagOf 91 = .ok (.iinc 4 1, 3) := by decide +kernel
theorem dX12_sagOf_94 : decode cX12_sagOf 94 = .ok (.goto (-79), 3) := by decide +kernel
theorem dX12_sagOf_97 : decode cX12_sagOf 97 = .ok (.iload_n 3, 1) := by decide +kernel
theorem dX12_sagOf_98 : decode cX12_sagOf 98 = .ok (.aload_n 0, 1) := by decide +kernel
theorem dX12_sagOf_99 : decode cX12_sagOf 99 = .ok (.getfield 7, 3) := by decide +kernel
theorem dX12_sagOf_102 : decode cX12_sagOf 102 = .ok (.iconst 5, 1) := by decide +kernel
theorem dX12_sagOf_103 : decode cX12_sagOf 103 = .ok (.iload_n 1, 1) := by decide +kernel
theorem dX12_sagOf_104 : decode cX12_sagOf 104 = .ok (.iadd, 1) := by decide +kernel
theorem dX12_sagOf_105 : decode cX12_sagOf 105 = .ok (.iaload, 1) := by decide +kernel
theorem dX12_sagOf_106 : decode cX12_sagOf 106 = .ok (.idiv, 1) := by decide +kernel
theorem dX12_sagOf_107 : decode cX12_sagOf 107 = .ok (.aload_n 0, 1) := by decide +kernel
theorem dX12_sagOf_108 : decode cX12_sagOf 108 = .ok (.getfield 7, 3) := by decide +kernel
theorem dX12_sagOf_111 : decode cX12_sagOf 111 = .ok (.iconst 1, 1) := by decide +kernel
theorem dX12_sagOf_112 : decode cX12_sagOf 112 = .ok (.iaload, 1) := by decide +kernel
theorem dX12_sagOf_113 : decode cX12_sagOf 113 = .ok (.iadd, 1) := by decide +kernel
theorem dX12_sagOf_114 : decode cX12_sagOf 114 = .ok (.ireturn, 1) := by decide +kernel
set_option maxRecDepth 20000 in
theorem ggX12_depthAt_X12_sagOf : GoodIn wsX12_depthAt wsX12_sagOf := goodIn_r _ [5, 6, 7, 8, 9, 4, 10, 11, 12, 13, 14, 15, 16, 17, 18, 19, 20, 21, 22, 23, 24, 25, 26, 27, 28, 29, 30, 31, 32, 33, 34, 35, 36, 37, 38, 39] (by decide +kernel) (by decide +kernel)
set_option maxRecDepth 20000 in
theorem gX12_depthAt_X12_sagOf : GoodIn wsX12_depthAt (wsV RX12 152 RX12 yX12_sagOf wsX12_sagOf) := goodIn_app (goodIn_of _ (by decide +kernel)) ggX12_depthAt_X12_sagOf
theorem dX12_depthAt_0 : decode cX12_depthAt 0 = .ok (.aload_n 0, 1) := by decide +kernel
theorem dX12_depthAt_1 : decode cX12_depthAt 1 = .ok (.iload_n 1, 1) := by decide +kernel
theorem dX12_depthAt_2 : decode cX12_depthAt 2 = .ok (.iload_n 2, 1) := by decide +kernel
theorem dX12_depthAt_3 : decode cX12_depthAt 3 = .ok (.invokevirtual 152, 3) := by decide +kernel
theorem dX12_depthAt_6 : decode cX12_depthAt 6 = .ok (.aload_n 0, 1) := by decide +kernel
theorem dX12_depthAt_7 : decode cX12_depthAt 7 = .ok (.iload_n 1, 1) := by decide +kernel
theorem dX12_depthAt_8 : decode cX12_depthAt 8 = .ok (.iconst 1, 1) := by decide +kernel
theorem dX12_depthAt_9 : decode cX12_depthAt 9 = .ok (.isub, 1) := by decide +kernel
theorem dX12_depthAt_10 : decode cX12_depthAt 10 = .ok (.iload_n 2, 1) := by decide +kernel
theorem dX12_depthAt_11 : decode cX12_depthAt 11 = .ok (.invokevirtual 152, 3) := by decide +kernel
theorem dX12_depthAt_14 : decode cX12_depthAt 14 = .ok (.aload_n 0, 1) := by decide +kernel
theorem dX12_depthAt_15 : decode cX12_depthAt 15 = .ok (.iload_n 1, 1) := by decide +kernel
theorem dX12_depthAt_16 : decode cX12_depthAt 16 = .ok (.iconst 1, 1) := by decide +kernel
theorem dX12_depthAt_17 : decode cX12_depthAt 17 = .ok (.iadd, 1) := by decide +kernel
theorem dX12_depthAt_18 : decode cX12_depthAt 18 = .ok (.iload_n 2, 1) := by decide +kernel
theorem dX12_depthAt_19 : decode cX12_depthAt 19 = .ok (.invokevirtual 152, 3) := by decide +kernel
theorem dX12_depthAt_22 : decode cX12_depthAt 22 = .ok (.iadd, 1) := by decide +kernel
theorem dX12_depthAt_23 : decode cX12_depthAt 23 = .ok (.iconst 4, 1) := by decide +kernel
theorem dX12_depthAt_24 : decode cX12_depthAt 24 = .ok (.idiv, 1) := by decide +kernel
theorem dX12_depthAt_25 : decode cX12_depthAt 25 = .ok (.isub, 1) := by decide +kernel
theorem dX12_depthAt_26 : decode cX12_depthAt 26 = .ok (.ireturn, 1) := by decide +kernel
set_option maxRecDepth 20000 in
theorem ggX12_depthOf_X12_depthAt : GoodIn wsX12_depthOf wsX12_depthAt := goodIn_r _ [6, 7, 8, 9, 5, 10, 1, 11, 12, 13, 14, 15, 16, 17, 18, 19, 20, 21, 22, 23, 24, 25, 26, 27, 28, 29, 30, 31, 32, 33, 34, 35, 36, 37, 38, 39, 40, 41, 42, 43] (by decide +kernel) (by decide +kernel)
set_option maxRecDepth 20000 in
theorem gX12_depthOf_X12_depthAt : GoodIn wsX12_depthOf (wsV RX12 155 RX12 yX12_depthAt wsX12_depthAt) := goodIn_app (goodIn_of _ (by decide +kernel)) ggX12_depthOf_X12_depthAt
theorem dX12_depthOf_0 : decode cX12_depthOf 0 = .ok (.aload_n 0, 1) := by decide +kernel
theorem dX12_depthOf_1 : decode cX12_depthOf 1 = .ok (.aload_n 0, 1) := by decide +kernel
theorem dX12_depthOf_2 : decode cX12_depthOf 2 = .ok (.getfield 7, 3) := by decide +kernel
theorem dX12_depthOf_5 : decode cX12_depthOf 5 = .ok (.bipush 14, 2) := by decide +kernel
theorem dX12_depthOf_7 : decode cX12_depthOf 7 = .ok (.iload_n 1, 1) := by decide +kernel
theorem dX12_depthOf_8 : decode cX12_depthOf 8 = .ok (.iadd, 1) := by decide +kernel
theorem dX12_depthOf_9 : decode cX12_depthOf 9 = .ok (.iaload, 1) := by decide +kernel
theorem dX12_depthOf_10 : decode cX12_depthOf 10 = .ok (.aload_n 0, 1) := by decide +kernel
theorem dX12_depthOf_11 : decode cX12_depthOf 11 = .ok (.getfield 7, 3) := by decide +kernel
theorem dX12_depthOf_14 : decode cX12_depthOf 14 = .ok (.bipush 20, 2) := by decide +kernel
theorem dX12_depthOf_16 : decode cX12_depthOf 16 = .ok (.iload_n 1, 1) := by decide +kernel
theorem dX12_depthOf_17 : decode cX12_depthOf 17 = .ok (.iadd, 1) := by decide +kernel
theorem dX12_depthOf_18 : decode cX12_depthOf 18 = .ok (.iaload, 1) := by decide +kernel
theorem dX12_depthOf_19 : decode cX12_depthOf 19 = .ok (.invokevirtual 155, 3) := by decide +kernel
theorem dX12_depthOf_22 : decode cX12_depthOf 22 = .ok (.ireturn, 1) := by decide +kernel
set_option maxRecDepth 20000 in
theorem ggX12_priceOf_X12_depthOf : GoodIn wsX12_priceOf wsX12_depthOf := goodIn_r _ [6, 1, 7, 8, 9, 5, 10, 11, 12, 13, 14, 15, 16, 17, 18, 19, 20, 21, 22, 23, 24, 25, 26, 27, 28, 29, 30, 31, 32, 33, 34, 35, 36, 37, 38, 39, 40, 41, 42, 43, 44, 45, 46, 47] (by decide +kernel) (by decide +kernel)
set_option maxRecDepth 20000 in
theorem gX12_priceOf_X12_depthOf : GoodIn wsX12_priceOf (wsV RX12 158 RX12 yX12_depthOf wsX12_depthOf) := goodIn_app (goodIn_of _ (by decide +kernel)) ggX12_priceOf_X12_depthOf
theorem dX12_priceOf_0 : decode cX12_priceOf 0 = .ok (.aload_n 0, 1) := by decide +kernel
theorem dX12_priceOf_1 : decode cX12_priceOf 1 = .ok (.getfield 7, 3) := by decide +kernel
theorem dX12_priceOf_4 : decode cX12_priceOf 4 = .ok (.bipush 26, 2) := by decide +kernel
theorem dX12_priceOf_6 : decode cX12_priceOf 6 = .ok (.iload_n 1, 1) := by decide +kernel
theorem dX12_priceOf_7 : decode cX12_priceOf 7 = .ok (.iadd, 1) := by decide +kernel
theorem dX12_priceOf_8 : decode cX12_priceOf 8 = .ok (.iaload, 1) := by decide +kernel
theorem dX12_priceOf_9 : decode cX12_priceOf 9 = .ok (.aload_n 0, 1) := by decide +kernel
theorem dX12_priceOf_10 : decode cX12_priceOf 10 = .ok (.iload_n 1, 1) := by decide +kernel
theorem dX12_priceOf_11 : decode cX12_priceOf 11 = .ok (.invokevirtual 158, 3) := by decide +kernel
theorem dX12_priceOf_14 : decode cX12_priceOf 14 = .ok (.iconst 5, 1) := by decide +kernel
theorem dX12_priceOf_15 : decode cX12_priceOf 15 = .ok (.idiv, 1) := by decide +kernel
theorem dX12_priceOf_16 : decode cX12_priceOf 16 = .ok (.isub, 1) := by decide +kernel
theorem dX12_priceOf_17 : decode cX12_priceOf 17 = .ok (.istore_n 2, 1) := by decide +kernel
theorem dX12_priceOf_18 : decode cX12_priceOf 18 = .ok (.iload_n 2, 1) := by decide +kernel
theorem dX12_priceOf_19 : decode cX12_priceOf 19 = .ok (.ifCond .ge 7, 3) := by decide +kernel
theorem dX12_priceOf_22 : decode cX12_priceOf 22 = .ok (.iconst 0, 1) := by decide +kernel
theorem dX12_priceOf_23 : decode cX12_priceOf 23 = .ok (.goto 4, 3) := by decide +kernel
theorem dX12_priceOf_26 : decode cX12_priceOf 26 = .ok (.iload_n 2, 1) := by decide +kernel
theorem dX12_priceOf_27 : decode cX12_priceOf 27 = .ok (.ireturn, 1) := by decide +kernel
set_option maxRecDepth 20000 in
theorem ggX12_dropping_X12_depthOf : GoodIn wsX12_dropping wsX12_depthOf := goodIn_r _ [6, 1, 7, 8, 9, 5, 10, 11, 12, 13, 14, 15, 16, 17, 18, 19, 20, 21, 22, 23, 24, 25, 26, 27, 28, 29, 30, 31, 32, 33, 34, 35, 36, 37, 38, 39, 40, 41, 42, 43, 44, 45, 46, 47] (by decide +kernel) (by decide +kernel)
set_option maxRecDepth 20000 in
theorem gX12_dropping_X12_depthOf : GoodIn wsX12_dropping (wsV RX12 158 RX12 yX12_depthOf wsX12_depthOf) := goodIn_app (goodIn_of _ (by decide +kernel)) ggX12_dropping_X12_depthOf
theorem dX12_dropping_0 : decode cX12_dropping 0 = .ok (.iconst 0, 1) := by decide +kernel
theorem dX12_dropping_1 : decode cX12_dropping 1 = .ok (.istore_n 1, 1) := by decide +kernel
theorem dX12_dropping_2 : decode cX12_dropping 2 = .ok (.iconst 0, 1) := by decide +kernel
theorem dX12_dropping_3 : decode cX12_dropping 3 = .ok (.istore_n 2, 1) := by decide +kernel
theorem dX12_dropping_4 : decode cX12_dropping 4 = .ok (.iload_n 2, 1) := by decide +kernel
theorem dX12_dropping_5 : decode cX12_dropping 5 = .ok (.aload_n 0, 1) := by decide +kernel
theorem dX12_dropping_6 : decode cX12_dropping 6 = .ok (.getfield 7, 3) := by decide +kernel
theorem dX12_dropping_9 : decode cX12_dropping 9 = .ok (.iconst 3, 1) := by decide +kernel
theorem dX12_dropping_10 : decode cX12_dropping 10 = .ok (.iaload, 1) := by decide +kernel
theorem dX12_dropping_11 : decode cX12_dropping 11 = .ok (.if_icmp .ge 33, 3) := by decide +kernel
theorem dX12_dropping_14 : decode cX12_dropping 14 = .ok (.iload_n 1, 1) := by decide +kernel
theorem dX12_dropping_15 : decode cX12_dropping 15 = .ok (.aload_n 0, 1) := by decide +kernel
theorem dX12_dropping_16 : decode cX12_dropping 16 = .ok (.iload_n 2, 1) := by decide +kernel
theorem dX12_dropping_17 : decode cX12_dropping 17 = .ok (.invokevirtual 158, 3) := by decide +kernel
theorem dX12_dropping_20 : decode cX12_dropping 20 = .ok (.aload_n 0, 1) := by decide +kernel
theorem dX12_dropping_21 : decode cX12_dropping 21 = .ok (.getfield 7, 3) := by decide +kernel
theorem dX12_dropping_24 : decode cX12_dropping 24 = .ok (.iconst 0, 1) := by decide +kernel
theorem dX12_dropping_25 : decode cX12_dropping 25 = .ok (.iaload, 1) := by decide +kernel
theorem dX12_dropping_26 : decode cX12_dropping 26 = .ok (.if_icmp .le 9, 3) := by decide +kernel
theorem dX12_dropping_29 : decode cX12_dropping 29 = .ok (.iconst 1, 1) := by decide +kernel
theorem dX12_dropping_30 : decode cX12_dropping 30 = .ok (.iload_n 2, 1) := by decide +kernel
theorem dX12_dropping_31 : decode cX12_dropping 31 = .ok (.ishl, 1) := by decide +kernel
theorem dX12_dropping_32 : decode cX12_dropping 32 = .ok (.goto 4, 3) := by decide +kernel
theorem dX12_dropping_35 : decode cX12_dropping 35 = .ok (.iconst 0, 1) := by decide +kernel
theorem dX12_dropping_36 : decode cX12_dropping 36 = .ok (.ior, 1) := by decide +kernel
theorem dX12_dropping_37 : decode cX12_dropping 37 = .ok (.istore_n 1, 1) := by decide +kernel
theorem dX12_dropping_38 : decode cX12_dropping 38 = .ok (.iinc 2 1, 3) := by decide +kernel
theorem dX12_dropping_41 : decode cX12_dropping 41 = .ok (.goto (-37), 3) := by decide +kernel
theorem dX12_dropping_44 : decode cX12_dropping 44 = .ok (.iload_n 1, 1) := by decide +kernel
theorem dX12_dropping_45 : decode cX12_dropping 45 = .ok (.ireturn, 1) := by decide +kernel
set_option maxRecDepth 20000 in
theorem ggX12_stall_X12_isStall : GoodIn wsX12_stall wsX12_isStall := goodIn_r _ [8, 3, 9, 10, 7, 11, 39, 40, 41, 42, 43, 44, 45, 46, 47, 48, 49, 50, 51, 52, 53, 54, 55, 56, 57] (by decide +kernel) (by decide +kernel)
set_option maxRecDepth 20000 in
theorem gX12_stall_X12_isStall : GoodIn wsX12_stall (wsV RX12 133 RX12 yX12_isStall wsX12_isStall) := goodIn_app (goodIn_of _ (by decide +kernel)) ggX12_stall_X12_isStall
set_option maxRecDepth 20000 in
theorem ggX12_stall_X12_in : GoodIn wsX12_stall wsX12_in := goodIn_r _ [11] (by decide +kernel) (by decide +kernel)
set_option maxRecDepth 20000 in
theorem gX12_stall_X12_in : GoodIn wsX12_stall (va_wsS RX12 45 yX12_in wsX12_in) := goodIn_app (goodIn_of _ (by decide +kernel)) ggX12_stall_X12_in
set_option maxRecDepth 20000 in
theorem ggX12_stall_X12_weightOf : GoodIn wsX12_stall wsX12_weightOf := goodIn_r _ [15, 3, 39, 40, 41, 42, 43, 44, 45, 46, 47, 48, 49, 50, 51, 52, 53, 54, 55, 56, 57] (by decide +kernel) (by decide +kernel)
set_option maxRecDepth 20000 in
theorem gX12_stall_X12_weightOf : GoodIn wsX12_stall (wsV RX12 143 RX12 yX12_weightOf wsX12_weightOf) := goodIn_app (goodIn_of _ (by decide +kernel)) ggX12_stall_X12_weightOf
set_option maxRecDepth 20000 in
theorem ggX12_stall_X12_depthOf : GoodIn wsX12_stall wsX12_depthOf := goodIn_r _ [19, 3, 20, 21, 22, 7, 23, 24, 25, 26, 27, 28, 29, 30, 31, 9, 10, 11, 32, 33, 34, 12, 13, 14, 15, 39, 40, 41, 42, 43, 44, 45, 46, 47, 48, 49, 50, 51, 52, 53, 54, 55, 56, 57] (by decide +kernel) (by decide +kernel)
set_option maxRecDepth 20000 in
theorem gX12_stall_X12_depthOf : GoodIn wsX12_stall (wsV RX12 158 RX12 yX12_depthOf wsX12_depthOf) := goodIn_app (goodIn_of _ (by decide +kernel)) ggX12_stall_X12_depthOf
set_option maxRecDepth 20000 in
theorem ggX12_stall_X12_priceOf : GoodIn wsX12_stall wsX12_priceOf := goodIn_r _ [38, 3, 16, 17, 18, 7, 19, 20, 21, 22, 23, 24, 25, 26, 27, 28, 29, 30, 31, 9, 10, 11, 32, 33, 34, 12, 13, 14, 15, 39, 40, 41, 42, 43, 44, 45, 46, 47, 48, 49, 50, 51, 52, 53, 54, 55, 56, 57] (by decide +kernel) (by decide +kernel)
set_option maxRecDepth 20000 in
theorem gX12_stall_X12_priceOf : GoodIn wsX12_stall (wsV RX12 161 RX12 yX12_priceOf wsX12_priceOf) := goodIn_app (goodIn_of _ (by decide +kernel)) ggX12_stall_X12_priceOf
theorem dX12_stall_0 : decode cX12_stall 0 = .ok (.aload_n 0, 1) := by decide +kernel
theorem dX12_stall_1 : decode cX12_stall 1 = .ok (.iload_n 1, 1) := by decide +kernel
theorem dX12_stall_2 : decode cX12_stall 2 = .ok (.invokevirtual 133, 3) := by decide +kernel
theorem dX12_stall_5 : decode cX12_stall 5 = .ok (.ifCond .eq 15, 3) := by decide +kernel
theorem dX12_stall_8 : decode cX12_stall 8 = .ok (.iload_n 2, 1) := by decide +kernel
theorem dX12_stall_9 : decode cX12_stall 9 = .ok (.i2l, 1) := by decide +kernel
theorem dX12_stall_10 : decode cX12_stall 10 = .ok (.lconst 0, 1) := by decide +kernel
theorem dX12_stall_11 : decode cX12_stall 11 = .ok (.ldc2_w 141, 3) := by decide +kernel
theorem dX12_stall_14 : decode cX12_stall 14 = .ok (.invokestatic 45, 3) := by decide +kernel
theorem dX12_stall_17 : decode cX12_stall 17 = .ok (.ifCond .ne 6, 3) := by decide +kernel
theorem dX12_stall_20 : decode cX12_stall 20 = .ok (.ldc 55, 2) := by decide +kernel
theorem dX12_stall_22 : decode cX12_stall 22 = .ok (.ireturn, 1) := by decide +kernel
theorem dX12_stall_23 : decode cX12_stall 23 = .ok (.iload_n 2, 1) := by decide +kernel
theorem dX12_stall_24 : decode cX12_stall 24 = .ok (.bipush 6, 2) := by decide +kernel
theorem dX12_stall_26 : decode cX12_stall 26 = .ok (.if_icmp .ge 20, 3) := by decide +kernel
theorem dX12_stall_29 : decode cX12_stall 29 = .ok (.aload_n 0, 1) := by decide +kernel
theorem dX12_stall_30 : decode cX12_stall 30 = .ok (.getfield 7, 3) := by decide +kernel
theorem dX12_stall_33 : decode cX12_stall 33 = .ok (.bipush 14, 2) := by decide +kernel
theorem dX12_stall_35 : decode cX12_stall 35 = .ok (.bipush 6, 2) := by decide +kernel
theorem dX12_stall_37 : decode cX12_stall 37 = .ok (.iload_n 2, 1) := by decide +kernel
theorem dX12_stall_38 : decode cX12_stall 38 = .ok (.imul, 1) := by decide +kernel
theorem dX12_stall_39 : decode cX12_stall 39 = .ok (.iadd, 1) := by decide +kernel
theorem dX12_stall_40 : decode cX12_stall 40 = .ok (.iload_n 1, 1) := by decide +kernel
theorem dX12_stall_41 : decode cX12_stall 41 = .ok (.iadd, 1) := by decide +kernel
theorem dX12_stall_42 : decode cX12_stall 42 = .ok (.iaload, 1) := by decide +kernel
theorem dX12_stall_43 : decode cX12_stall 43 = .ok (.goto 36, 3) := by decide +kernel
theorem dX12_stall_46 : decode cX12_stall 46 = .ok (.iload_n 2, 1) := by decide +kernel
theorem dX12_stall_47 : decode cX12_stall 47 = .ok (.bipush 6, 2) := by decide +kernel
theorem dX12_stall_49 : decode cX12_stall 49 = .ok (.if_icmp .ne 11, 3) := by decide +kernel
theorem dX12_stall_52 : decode cX12_stall 52 = .ok (.aload_n 0, 1) := by decide +kernel
theorem dX12_stall_53 : decode cX12_stall 53 = .ok (.iload_n 1, 1) := by decide +kernel
theorem dX12_stall_54 : decode cX12_stall 54 = .ok (.invokevirtual 143, 3) := by decide +kernel
theorem dX12_stall_57 : decode cX12_stall 57 = .ok (.goto 22, 3) := by decide +kernel
theorem dX12_stall_60 : decode cX12_stall 60 = .ok (.iload_n 2, 1) := by decide +kernel
theorem dX12_stall_61 : decode cX12_stall 61 = .ok (.bipush 7, 2) := by decide +kernel
theorem dX12_stall_63 : decode cX12_stall 63 = .ok (.if_icmp .ne 11, 3) := by decide +kernel
theorem dX12_stall_66 : decode cX12_stall 66 = .ok (.aload_n 0, 1) := by decide +kernel
theorem dX12_stall_67 : decode cX12_stall 67 = .ok (.iload_n 1, 1) := by decide +kernel
theorem dX12_stall_68 : decode cX12_stall 68 = .ok (.invokevirtual 158, 3) := by decide +kernel
theorem dX12_stall_71 : decode cX12_stall 71 = .ok (.goto 8, 3) := by decide +kernel
theorem dX12_stall_74 : decode cX12_stall 74 = .ok (.aload_n 0, 1) := by decide +kernel
theorem dX12_stall_75 : decode cX12_stall 75 = .ok (.iload_n 1, 1) := by decide +kernel
theorem dX12_stall_76 : decode cX12_stall 76 = .ok (.invokevirtual 161, 3) := by decide +kernel
theorem dX12_stall_79 : decode cX12_stall 79 = .ok (.ireturn, 1) := by decide +kernel
set_option maxRecDepth 20000 in
theorem ggX12_rope_X12_isRope : GoodIn wsX12_rope wsX12_isRope := goodIn_r _ [10, 4, 11, 12, 9, 13, 33, 34, 35, 36, 37, 38, 39, 40, 41, 42, 43, 44, 45, 46, 47, 48, 49, 50, 51] (by decide +kernel) (by decide +kernel)
set_option maxRecDepth 20000 in
theorem gX12_rope_X12_isRope : GoodIn wsX12_rope (wsV RX12 146 RX12 yX12_isRope wsX12_isRope) := goodIn_app (goodIn_of _ (by decide +kernel)) ggX12_rope_X12_isRope
set_option maxRecDepth 20000 in
theorem ggX12_rope_X12_in : GoodIn wsX12_rope wsX12_in := goodIn_r _ [13] (by decide +kernel) (by decide +kernel)
set_option maxRecDepth 20000 in
theorem gX12_rope_X12_in : GoodIn wsX12_rope (va_wsS RX12 45 yX12_in wsX12_in) := goodIn_app (goodIn_of _ (by decide +kernel)) ggX12_rope_X12_in
set_option maxRecDepth 20000 in
theorem ggX12_rope_X12_whoIs : GoodIn wsX12_rope wsX12_whoIs := goodIn_r _ [17, 4, 33, 34, 35, 36, 37, 38, 39, 40, 41, 42, 43, 44, 45, 46, 47, 48, 49, 50, 51] (by decide +kernel) (by decide +kernel)
set_option maxRecDepth 20000 in
theorem gX12_rope_X12_whoIs : GoodIn wsX12_rope (wsV RX12 109 RX12 yX12_whoIs wsX12_whoIs) := goodIn_app (goodIn_of _ (by decide +kernel)) ggX12_rope_X12_whoIs
set_option maxRecDepth 20000 in
theorem ggX12_rope_X12_sagOf : GoodIn wsX12_rope wsX12_sagOf := goodIn_r _ [21, 4, 6, 7, 8, 9, 10, 11, 12, 13, 22, 23, 24, 25, 26, 27, 28, 33, 34, 35, 36, 37, 38, 39, 40, 41, 42, 43, 44, 45, 46, 47, 48, 49, 50, 51] (by decide +kernel) (by decide +kernel)
set_option maxRecDepth 20000 in
theorem gX12_rope_X12_sagOf : GoodIn wsX12_rope (wsV RX12 152 RX12 yX12_sagOf wsX12_sagOf) := goodIn_app (goodIn_of _ (by decide +kernel)) ggX12_rope_X12_sagOf
set_option maxRecDepth 20000 in
theorem ggX12_rope_X12_depthAt : GoodIn wsX12_rope wsX12_depthAt := goodIn_r _ [32, 18, 19, 20, 9, 21, 4, 6, 7, 8, 10, 11, 12, 13, 22, 23, 24, 25, 26, 27, 28, 33, 34, 35, 36, 37, 38, 39, 40, 41, 42, 43, 44, 45, 46, 47, 48, 49, 50, 51] (by decide +kernel) (by decide +kernel)
set_option maxRecDepth 20000 in
theorem gX12_rope_X12_depthAt : GoodIn wsX12_rope (wsV RX12 155 RX12 yX12_depthAt wsX12_depthAt) := goodIn_app (goodIn_of _ (by decide +kernel)) ggX12_rope_X12_depthAt
theorem dX12_rope_0 : decode cX12_rope 0 = .ok (.aload_n 0, 1) := by decide +kernel
theorem dX12_rope_1 : decode cX12_rope 1 = .ok (.iload_n 1, 1) := by decide +kernel
theorem dX12_rope_2 : decode cX12_rope 2 = .ok (.invokevirtual 146, 3) := by decide +kernel
theorem dX12_rope_5 : decode cX12_rope 5 = .ok (.ifCond .eq 27, 3) := by decide +kernel
theorem dX12_rope_8 : decode cX12_rope 8 = .ok (.iload_n 2, 1) := by decide +kernel
theorem dX12_rope_9 : decode cX12_rope 9 = .ok (.i2l, 1) := by decide +kernel
theorem dX12_rope_10 : decode cX12_rope 10 = .ok (.lconst 1, 1) := by decide +kernel
theorem dX12_rope_11 : decode cX12_rope 11 = .ok (.ldc2_w 141, 3) := by decide +kernel
theorem dX12_rope_14 : decode cX12_rope 14 = .ok (.invokestatic 45, 3) := by decide +kernel
theorem dX12_rope_17 : decode cX12_rope 17 = .ok (.ifCond .eq 15, 3) := by decide +kernel
theorem dX12_rope_20 : decode cX12_rope 20 = .ok (.iload_n 3, 1) := by decide +kernel
theorem dX12_rope_21 : decode cX12_rope 21 = .ok (.i2l, 1) := by decide +kernel
theorem dX12_rope_22 : decode cX12_rope 22 = .ok (.lconst 0, 1) := by decide +kernel
theorem dX12_rope_23 : decode cX12_rope 23 = .ok (.ldc2_w 164, 3) := by decide +kernel
theorem dX12_rope_26 : decode cX12_rope 26 = .ok (.invokestatic 45, 3) := by decide +kernel
theorem dX12_rope_29 : decode cX12_rope 29 = .ok (.ifCond .ne 6, 3) := by decide +kernel
theorem dX12_rope_32 : decode cX12_rope 32 = .ok (.ldc 55, 2) := by decide +kernel
theorem dX12_rope_34 : decode cX12_rope 34 = .ok (.ireturn, 1) := by decide +kernel
theorem dX12_rope_35 : decode cX12_rope 35 = .ok (.aload_n 0, 1) := by decide +kernel
theorem dX12_rope_36 : decode cX12_rope 36 = .ok (.iconst 0, 1) := by decide +kernel
theorem dX12_rope_37 : decode cX12_rope 37 = .ok (.iload_n 1, 1) := by decide +kernel
theorem dX12_rope_38 : decode cX12_rope 38 = .ok (.iload_n 2, 1) := by decide +kernel
theorem dX12_rope_39 : decode cX12_rope 39 = .ok (.invokevirtual 109, 3) := by decide +kernel
theorem dX12_rope_42 : decode cX12_rope 42 = .ok (.istore 4, 2) := by decide +kernel
theorem dX12_rope_44 : decode cX12_rope 44 = .ok (.iload_n 3, 1) := by decide +kernel
theorem dX12_rope_45 : decode cX12_rope 45 = .ok (.ifCond .ne 12, 3) := by decide +kernel
theorem dX12_rope_48 : decode cX12_rope 48 = .ok (.aload_n 0, 1) := by decide +kernel
theorem dX12_rope_49 : decode cX12_rope 49 = .ok (.iload_n 1, 1) := by decide +kernel
theorem dX12_rope_50 : decode cX12_rope 50 = .ok (.iload_n 2, 1) := by decide +kernel
theorem dX12_rope_51 : decode cX12_rope 51 = .ok (.invokevirtual 152, 3) := by decide +kernel
theorem dX12_rope_54 : decode cX12_rope 54 = .ok (.goto 45, 3) := by decide +kernel
theorem dX12_rope_57 : decode cX12_rope 57 = .ok (.iload_n 3, 1) := by decide +kernel
theorem dX12_rope_58 : decode cX12_rope 58 = .ok (.iconst 1, 1) := by decide +kernel
theorem dX12_rope_59 : decode cX12_rope 59 = .ok (.if_icmp .ne 12, 3) := by decide +kernel
theorem dX12_rope_62 : decode cX12_rope 62 = .ok (.aload_n 0, 1) := by decide +kernel
theorem dX12_rope_63 : decode cX12_rope 63 = .ok (.iload_n 1, 1) := by decide +kernel
theorem dX12_rope_64 : decode cX12_rope 64 = .ok (.iload_n 2, 1) := by decide +kernel
theorem dX12_rope_65 : decode cX12_rope 65 = .ok (.invokevirtual 155, 3) := by decide +kernel
theorem dX12_rope_68 : decode cX12_rope 68 = .ok (.goto 31, 3) := by decide +kernel
theorem dX12_rope_71 : decode cX12_rope 71 = .ok (.iload_n 3, 1) := by decide +kernel
theorem dX12_rope_72 : decode cX12_rope 72 = .ok (.iconst 2, 1) := by decide +kernel
theorem dX12_rope_73 : decode cX12_rope 73 = .ok (.if_icmp .ne 14, 3) := by decide +kernel
theorem dX12_rope_76 : decode cX12_rope 76 = .ok (.aload_n 0, 1) := by decide +kernel
theorem dX12_rope_77 : decode cX12_rope 77 = .ok (.getfield 7, 3) := by decide +kernel
theorem dX12_rope_80 : decode cX12_rope 80 = .ok (.iconst 5, 1) := by decide +kernel
theorem dX12_rope_81 : decode cX12_rope 81 = .ok (.iload_n 1, 1) := by decide +kernel
theorem dX12_rope_82 : decode cX12_rope 82 = .ok (.iadd, 1) := by decide +kernel
theorem dX12_rope_83 : decode cX12_rope 83 = .ok (.iaload, 1) := by decide +kernel
theorem dX12_rope_84 : decode cX12_rope 84 = .ok (.goto 15, 3) := by decide +kernel
theorem dX12_rope_87 : decode cX12_rope 87 = .ok (.iload 4, 2) := by decide +kernel
theorem dX12_rope_89 : decode cX12_rope 89 = .ok (.ifCond .ge 8, 3) := by decide +kernel
theorem dX12_rope_92 : decode cX12_rope 92 = .ok (.ldc 166, 2) := by decide +kernel
theorem dX12_rope_94 : decode cX12_rope 94 = .ok (.goto 5, 3) := by decide +kernel
theorem dX12_rope_97 : decode cX12_rope 97 = .ok (.iload 4, 2) := by decide +kernel
theorem dX12_rope_99 : decode cX12_rope 99 = .ok (.ireturn, 1) := by decide +kernel
set_option maxRecDepth 20000 in
theorem ggX12_drops_X12_dropping : GoodIn wsX12_drops wsX12_dropping := goodIn_r _ [7, 1, 8, 9, 10, 6, 11, 12, 13, 14, 15, 16, 17, 18, 19, 20, 21, 22, 23, 24, 25, 26, 27, 28, 29, 30, 31, 32, 33, 34, 35, 36, 37, 38, 39, 40, 41, 42, 43, 44, 45, 46, 47, 48, 49, 50, 51, 52] (by decide +kernel) (by decide +kernel)
set_option maxRecDepth 20000 in
theorem gX12_drops_X12_dropping : GoodIn wsX12_drops (wsV RX12 167 RX12 yX12_dropping wsX12_dropping) := goodIn_app (goodIn_of _ (by decide +kernel)) ggX12_drops_X12_dropping
theorem dX12_drops_0 : decode cX12_drops 0 = .ok (.aload_n 0, 1) := by decide +kernel
theorem dX12_drops_1 : decode cX12_drops 1 = .ok (.getfield 7, 3) := by decide +kernel
theorem dX12_drops_4 : decode cX12_drops 4 = .ok (.iconst 4, 1) := by decide +kernel
theorem dX12_drops_5 : decode cX12_drops 5 = .ok (.iaload, 1) := by decide +kernel
theorem dX12_drops_6 : decode cX12_drops 6 = .ok (.ifCond .ne 8, 3) := by decide +kernel
theorem dX12_drops_9 : decode cX12_drops 9 = .ok (.ldc 132, 2) := by decide +kernel
theorem dX12_drops_11 : decode cX12_drops 11 = .ok (.goto 7, 3) := by decide +kernel
theorem dX12_drops_14 : decode cX12_drops 14 = .ok (.aload_n 0, 1) := by decide +kernel
theorem dX12_drops_15 : decode cX12_drops 15 = .ok (.invokevirtual 167, 3) := by decide +kernel
theorem dX12_drops_18 : decode cX12_drops 18 = .ok (.ireturn, 1) := by decide +kernel
set_option maxRecDepth 20000 in
theorem ggX12_walk_X12_depthOf : GoodIn wsX12_walk wsX12_depthOf := goodIn_r _ [6, 1, 7, 8, 9, 5, 10, 11, 12, 13, 14, 15, 16, 17, 18, 19, 20, 21, 22, 23, 24, 25, 26, 27, 28, 29, 30, 31, 32, 33, 34, 35, 36, 37, 38, 39, 40, 41, 42, 43, 44, 45, 46, 47] (by decide +kernel) (by decide +kernel)
set_option maxRecDepth 20000 in
theorem gX12_walk_X12_depthOf : GoodIn wsX12_walk (wsV RX12 158 RX12 yX12_depthOf wsX12_depthOf) := goodIn_app (goodIn_of _ (by decide +kernel)) ggX12_walk_X12_depthOf
theorem dX12_walk_0 : decode cX12_walk 0 = .ok (.aload_n 0, 1) := by decide +kernel
theorem dX12_walk_1 : decode cX12_walk 1 = .ok (.getfield 7, 3) := by decide +kernel
theorem dX12_walk_4 : decode cX12_walk 4 = .ok (.bipush 14, 2) := by decide +kernel
theorem dX12_walk_6 : decode cX12_walk 6 = .ok (.iload_n 1, 1) := by decide +kernel
theorem dX12_walk_7 : decode cX12_walk 7 = .ok (.iadd, 1) := by decide +kernel
theorem dX12_walk_8 : decode cX12_walk 8 = .ok (.iaload, 1) := by decide +kernel
theorem dX12_walk_9 : decode cX12_walk 9 = .ok (.aload_n 0, 1) := by decide +kernel
theorem dX12_walk_10 : decode cX12_walk 10 = .ok (.getfield 7, 3) := by decide +kernel
theorem dX12_walk_13 : decode cX12_walk 13 = .ok (.bipush 14, 2) := by decide +kernel
theorem dX12_walk_15 : decode cX12_walk 15 = .ok (.iload_n 2, 1) := by decide +kernel
theorem dX12_walk_16 : decode cX12_walk 16 = .ok (.iadd, 1) := by decide +kernel
theorem dX12_walk_17 : decode cX12_walk 17 = .ok (.iaload, 1) := by decide +kernel
theorem dX12_walk_18 : decode cX12_walk 18 = .ok (.isub, 1) := by decide +kernel
theorem dX12_walk_19 : decode cX12_walk 19 = .ok (.istore_n 3, 1) := by decide +kernel
theorem dX12_walk_20 : decode cX12_walk 20 = .ok (.iload_n 3, 1) := by decide +kernel
theorem dX12_walk_21 : decode cX12_walk 21 = .ok (.iload_n 3, 1) := by decide +kernel
theorem dX12_walk_22 : decode cX12_walk 22 = .ok (.imul, 1) := by decide +kernel
theorem dX12_walk_23 : decode cX12_walk 23 = .ok (.iconst 1, 1) := by decide +kernel
theorem dX12_walk_24 : decode cX12_walk 24 = .ok (.if_icmp .ne 24, 3) := by decide +kernel
theorem dX12_walk_27 : decode cX12_walk 27 = .ok (.aload_n 0, 1) := by decide +kernel
theorem dX12_walk_28 : decode cX12_walk 28 = .ok (.getfield 7, 3) := by decide +kernel
theorem dX12_walk_31 : decode cX12_walk 31 = .ok (.bipush 20, 2) := by decide +kernel
theorem dX12_walk_33 : decode cX12_walk 33 = .ok (.iload_n 1, 1) := by decide +kernel
theorem dX12_walk_34 : decode cX12_walk 34 = .ok (.iadd, 1) := by decide +kernel
theorem dX12_walk_35 : decode cX12_walk 35 = .ok (.iaload, 1) := by decide +kernel
theorem dX12_walk_36 : decode cX12_walk 36 = .ok (.aload_n 0, 1) := by decide +kernel
theorem dX12_walk_37 : decode cX12_walk 37 = .ok (.getfield 7, 3) := by decide +kernel
theorem dX12_walk_40 : decode cX12_walk 40 = .ok (.bipush 20, 2) := by decide +kernel
theorem dX12_walk_42 : decode cX12_walk 42 = .ok (.iload_n 2, 1) := by decide +kernel
theorem dX12_walk_43 : decode cX12_walk 43 = .ok (.iadd, 1) := by decide +kernel
theorem dX12_walk_44 : decode cX12_walk 44 = .ok (.iaload, 1) := by decide +kernel
theorem dX12_walk_45 : decode cX12_walk 45 = .ok (.if_icmp .eq 5, 3) := by decide +kernel
theorem dX12_walk_48 : decode cX12_walk 48 = .ok (.iconst 0, 1) := by decide +kernel
theorem dX12_walk_49 : decode cX12_walk 49 = .ok (.ireturn, 1) := by decide +kernel
theorem dX12_walk_50 : decode cX12_walk 50 = .ok (.aload_n 0, 1) := by decide +kernel
theorem dX12_walk_51 : decode cX12_walk 51 = .ok (.iload_n 1, 1) := by decide +kernel
theorem dX12_walk_52 : decode cX12_walk 52 = .ok (.invokevirtual 158, 3) := by decide +kernel
theorem dX12_walk_55 : decode cX12_walk 55 = .ok (.aload_n 0, 1) := by decide +kernel
theorem dX12_walk_56 : decode cX12_walk 56 = .ok (.iload_n 2, 1) := by decide +kernel
theorem dX12_walk_57 : decode cX12_walk 57 = .ok (.invokevirtual 158, 3) := by decide +kernel
theorem dX12_walk_60 : decode cX12_walk 60 = .ok (.isub, 1) := by decide +kernel
theorem dX12_walk_61 : decode cX12_walk 61 = .ok (.istore 4, 2) := by decide +kernel
theorem dX12_walk_63 : decode cX12_walk 63 = .ok (.iload 4, 2) := by decide +kernel
theorem dX12_walk_65 : decode cX12_walk 65 = .ok (.iconst (-1), 1) := by decide +kernel
theorem dX12_walk_66 : decode cX12_walk 66 = .ok (.if_icmp .lt 13, 3) := by decide +kernel
theorem dX12_walk_69 : decode cX12_walk 69 = .ok (.iload 4, 2) := by decide +kernel
theorem dX12_walk_71 : decode cX12_walk 71 = .ok (.iconst 1, 1) := by decide +kernel
theorem dX12_walk_72 : decode cX12_walk 72 = .ok (.if_icmp .gt 7, 3) := by decide +kernel
theorem dX12_walk_75 : decode cX12_walk 75 = .ok (.iconst 2, 1) := by decide +kernel
theorem dX12_walk_76 : decode cX12_walk 76 = .ok (.goto 4, 3) := by decide +kernel
theorem dX12_walk_79 : decode cX12_walk 79 = .ok (.iconst 1, 1) := by decide +kernel
theorem dX12_walk_80 : decode cX12_walk 80 = .ok (.ireturn, 1) := by decide +kernel
set_option maxRecDepth 20000 in
theorem ggX12_walkway_X12_isStall : GoodIn wsX12_walkway wsX12_isStall := goodIn_r _ [6, 7, 8, 9, 5, 10, 38, 39, 40, 41, 42, 43, 44, 45, 46, 47, 48, 49, 50, 51, 52, 53, 54, 55, 56] (by decide +kernel) (by decide +kernel)
set_option maxRecDepth 20000 in
theorem gX12_walkway_X12_isStall : GoodIn wsX12_walkway (wsV RX12 133 RX12 yX12_isStall wsX12_isStall) := goodIn_app (goodIn_of _ (by decide +kernel)) ggX12_walkway_X12_isStall
set_option maxRecDepth 20000 in
theorem ggX12_walkway_X12_walk : GoodIn wsX12_walkway wsX12_walk := goodIn_r _ [14, 7, 15, 16, 17, 5, 18, 19, 20, 21, 22, 23, 24, 25, 26, 27, 28, 29, 30, 8, 9, 10, 31, 32, 33, 34, 35, 36, 37, 38, 39, 40, 41, 42, 43, 44, 45, 46, 47, 48, 49, 50, 51, 52, 53, 54, 55, 56] (by decide +kernel) (by decide +kernel)
set_option maxRecDepth 20000 in
theorem gX12_walkway_X12_walk : GoodIn wsX12_walkway (wsV RX12 171 RX12 yX12_walk wsX12_walk) := goodIn_app (goodIn_of _ (by decide +kernel)) ggX12_walkway_X12_walk
theorem dX12_walkway_0 : decode cX12_walkway 0 = .ok (.aload_n 0, 1) := by decide +kernel
theorem dX12_walkway_1 : decode cX12_walkway 1 = .ok (.iload_n 1, 1) := by decide +kernel
theorem dX12_walkway_2 : decode cX12_walkway 2 = .ok (.invokevirtual 133, 3) := by decide +kernel
theorem dX12_walkway_5 : decode cX12_walkway 5 = .ok (.ifCond .eq 25, 3) := by decide +kernel
theorem dX12_walkway_8 : decode cX12_walkway 8 = .ok (.aload_n 0, 1) := by decide +kernel
theorem dX12_walkway_9 : decode cX12_walkway 9 = .ok (.iload_n 2, 1) := by decide +kernel
theorem dX12_walkway_10 : decode cX12_walkway 10 = .ok (.invokevirtual 133, 3) := by decide +kernel
theorem dX12_walkway_13 : decode cX12_walkway 13 = .ok (.ifCond .eq 17, 3) := by decide +kernel
theorem dX12_walkway_16 : decode cX12_walkway 16 = .ok (.iload_n 1, 1) := by decide +kernel
theorem dX12_walkway_17 : decode cX12_walkway 17 = .ok (.iload_n 2, 1) := by decide +kernel
theorem dX12_walkway_18 : decode cX12_walkway 18 = .ok (.if_icmp .eq 12, 3) := by decide +kernel
theorem dX12_walkway_21 : decode cX12_walkway 21 = .ok (.aload_n 0, 1) := by decide +kernel
theorem dX12_walkway_22 : decode cX12_walkway 22 = .ok (.iload_n 1, 1) := by decide +kernel
theorem dX12_walkway_23 : decode cX12_walkway 23 = .ok (.iload_n 2, 1) := by decide +kernel
theorem dX12_walkway_24 : decode cX12_walkway 24 = .ok (.invokevirtual 171, 3) := by decide +kernel
theorem dX12_walkway_27 : decode cX12_walkway 27 = .ok (.goto 5, 3) := by decide +kernel
theorem dX12_walkway_30 : decode cX12_walkway 30 = .ok (.ldc 55, 2) := by decide +kernel
theorem dX12_walkway_32 : decode cX12_walkway 32 = .ok (.ireturn, 1) := by decide +kernel
set_option maxRecDepth 20000 in
theorem ggX12_walks_X12_walk : GoodIn wsX12_walks wsX12_walk := goodIn_r _ [6, 1, 7, 8, 9, 5, 10, 11, 12, 13, 14, 15, 16, 17, 18, 19, 20, 21, 22, 23, 24, 25, 26, 27, 28, 29, 30, 31, 32, 33, 34, 35, 36, 37, 38, 39, 40, 41, 42, 43, 44, 45, 46, 47, 48, 49, 50, 51] (by decide +kernel) (by decide +kernel)
set_option maxRecDepth 20000 in
theorem gX12_walks_X12_walk : GoodIn wsX12_walks (wsV RX12 171 RX12 yX12_walk wsX12_walk) := goodIn_app (goodIn_of _ (by decide +kernel)) ggX12_walks_X12_walk
theorem dX12_walks_0 : decode cX12_walks 0 = .ok (.iconst 0, 1) := by decide +kernel
theorem dX12_walks_1 : decode cX12_walks 1 = .ok (.istore_n 2, 1) := by decide +kernel
theorem dX12_walks_2 : decode cX12_walks 2 = .ok (.iconst 0, 1) := by decide +kernel
theorem dX12_walks_3 : decode cX12_walks 3 = .ok (.istore_n 3, 1) := by decide +kernel
theorem dX12_walks_4 : decode cX12_walks 4 = .ok (.iload_n 3, 1) := by decide +kernel
theorem dX12_walks_5 : decode cX12_walks 5 = .ok (.aload_n 0, 1) := by decide +kernel
theorem dX12_walks_6 : decode cX12_walks 6 = .ok (.getfield 7, 3) := by decide +kernel
theorem dX12_walks_9 : decode cX12_walks 9 = .ok (.iconst 3, 1) := by decide +kernel
theorem dX12_walks_10 : decode cX12_walks 10 = .ok (.iaload, 1) := by decide +kernel
theorem dX12_walks_11 : decode cX12_walks 11 = .ok (.if_icmp .ge 43, 3) := by decide +kernel
theorem dX12_walks_14 : decode cX12_walks 14 = .ok (.iconst 0, 1) := by decide +kernel
theorem dX12_walks_15 : decode cX12_walks 15 = .ok (.istore 4, 2) := by decide +kernel
theorem dX12_walks_17 : decode cX12_walks 17 = .ok (.iload 4, 2) := by decide +kernel
theorem dX12_walks_19 : decode cX12_walks 19 = .ok (.iload_n 3, 1) := by decide +kernel
theorem dX12_walks_20 : decode cX12_walks 20 = .ok (.if_icmp .ge 28, 3) := by decide +kernel
theorem dX12_walks_23 : decode cX12_walks 23 = .ok (.iload_n 2, 1) := by decide +kernel
theorem dX12_walks_24 : decode cX12_walks 24 = .ok (.aload_n 0, 1) := by decide +kernel
theorem dX12_walks_25 : decode cX12_walks 25 = .ok (.iload_n 3, 1) := by decide +kernel
theorem dX12_walks_26 : decode cX12_walks 26 = .ok (.iload 4, 2) := by decide +kernel
theorem dX12_walks_28 : decode cX12_walks 28 = .ok (.invokevirtual 171, 3) := by decide +kernel
theorem dX12_walks_31 : decode cX12_walks 31 = .ok (.iload_n 1, 1) := by decide +kernel
theorem dX12_walks_32 : decode cX12_walks 32 = .ok (.if_icmp .lt 7, 3) := by decide +kernel
theorem dX12_walks_35 : decode cX12_walks 35 = .ok (.iconst 1, 1) := by decide +kernel
theorem dX12_walks_36 : decode cX12_walks 36 = .ok (.goto 4, 3) := by decide +kernel
theorem dX12_walks_39 : decode cX12_walks 39 = .ok (.iconst 0, 1) := by decide +kernel
theorem dX12_walks_40 : decode cX12_walks 40 = .ok (.iadd, 1) := by decide +kernel
theorem dX12_walks_41 : decode cX12_walks 41 = .ok (.istore_n 2, 1) := by decide +kernel
theorem dX12_walks_42 : decode cX12_walks 42 = .ok (.iinc 4 1, 3) := by decide +kernel
theorem dX12_walks_45 : decode cX12_walks 45 = .ok (.goto (-28), 3) := by decide +kernel
theorem dX12_walks_48 : decode cX12_walks 48 = .ok (.iinc 3 1, 3) := by decide +kernel
theorem dX12_walks_51 : decode cX12_walks 51 = .ok (.goto (-47), 3) := by decide +kernel
theorem dX12_walks_54 : decode cX12_walks 54 = .ok (.iload_n 2, 1) := by decide +kernel
theorem dX12_walks_55 : decode cX12_walks 55 = .ok (.ireturn, 1) := by decide +kernel
set_option maxRecDepth 20000 in
theorem ggX12_walkways_X12_in : GoodIn wsX12_walkways wsX12_in := goodIn_r _ [7] (by decide +kernel) (by decide +kernel)
set_option maxRecDepth 20000 in
theorem gX12_walkways_X12_in : GoodIn wsX12_walkways (va_wsS RX12 45 yX12_in wsX12_in) := goodIn_app (goodIn_of _ (by decide +kernel)) ggX12_walkways_X12_in
set_option maxRecDepth 20000 in
theorem ggX12_walkways_X12_walks : GoodIn wsX12_walkways wsX12_walks := goodIn_r _ [11, 1, 12, 13, 14, 6, 15, 16, 17, 18, 19, 20, 21, 22, 23, 24, 25, 26, 27, 28, 29, 30, 31, 4, 5, 7, 32, 33, 34, 35, 36, 37, 38, 39, 40, 41, 42, 43, 44, 45, 46, 47, 48, 49, 50, 51, 52, 53, 54, 55, 56, 57] (by decide +kernel) (by decide +kernel)
