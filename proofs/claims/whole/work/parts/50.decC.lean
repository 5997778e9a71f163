set_option maxRecDepth 20000 in
theorem ggX0_init_X7_init : GoodIn wsX0_init wsX7_init := goodIn_r _ [3, 4, 5, 6, 7, 8, 9, 10, 11, 12, 13, 14, 15, 16, 17, 18, 19, 20, 21, 22, 23, 24, 25, 26, 27, 28, 29, 30, 31, 32, 33, 34, 35, 36, 37, 38, 39, 40, 41, 42, 43, 44, 45, 46, 47, 48, 49, 50, 51] (by decide +kernel) (by decide +kernel)
set_option maxRecDepth 20000 in
theorem gX0_init_X7_init_n3 : GoodIn wsX0_init (wsX7_init) := ggX0_init_X7_init
theorem dX0_init_0 : decode cX0_init 0 = .ok (.aload_n 0, 1) := by decide +kernel
theorem dX0_init_1 : decode cX0_init 1 = .ok (.invokespecial 3, 3) := by decide +kernel
theorem dX0_init_4 : decode cX0_init 4 = .ok (.return_, 1) := by decide +kernel
theorem dX0_kindTold_0 : decode cX0_kindTold 0 = .ok (.iconst 3, 1) := by decide +kernel
theorem dX0_kindTold_1 : decode cX0_kindTold 1 = .ok (.ireturn, 1) := by decide +kernel
theorem dX0_wares_0 : decode cX0_wares 0 = .ok (.iconst 2, 1) := by decide +kernel
theorem dX0_wares_1 : decode cX0_wares 1 = .ok (.aload_n 0, 1) := by decide +kernel
theorem dX0_wares_2 : decode cX0_wares 2 = .ok (.getfield 9, 3) := by decide +kernel
theorem dX0_wares_5 : decode cX0_wares 5 = .ok (.imul, 1) := by decide +kernel
theorem dX0_wares_6 : decode cX0_wares 6 = .ok (.ireturn, 1) := by decide +kernel
set_option maxRecDepth 20000 in
theorem ggX0_mark_X9_leave : GoodIn wsX0_mark wsX9_leave := goodIn_r _ [5, 6, 7, 72, 73] (by decide +kernel) (by decide +kernel)
set_option maxRecDepth 20000 in
theorem gX0_mark_X9_leave : GoodIn wsX0_mark (wsV RX0 15 RX9 yX9_leave wsX9_leave) := goodIn_app (goodIn_of _ (by decide +kernel)) ggX0_mark_X9_leave
set_option maxRecDepth 20000 in
theorem ggX0_mark_X7_mark : GoodIn wsX0_mark wsX7_mark := goodIn_r _ [13, 14, 2, 3, 4, 5, 6, 7, 15, 16, 17, 18, 19, 20, 21, 22, 23, 24, 25, 26, 27, 28, 29, 30, 31, 32, 33, 34, 35, 36, 37, 38, 39, 40, 41, 42, 43, 44, 45, 46, 47, 48, 49, 50, 51, 52, 53, 54, 55, 56, 57, 58, 59, 60, 61, 62, 63, 64, 65, 66, 67, 68, 69, 70, 71, 72, 73, 74, 75, 76, 77, 78, 79, 80, 81, 82, 83, 84, 85, 86, 87, 88, 89, 90, 91, 92, 93, 94, 95, 96, 97, 98, 99, 100, 101, 102, 103, 104, 105, 106, 107, 108] (by decide +kernel) (by decide +kernel)
set_option maxRecDepth 20000 in
theorem gX0_mark_X7_mark_s21 : GoodIn wsX0_mark (va_wsSU RX0 21 yX7_mark wsX7_mark) := goodIn_app (goodIn_of _ (by decide +kernel)) ggX0_mark_X7_mark
theorem dX0_mark_0 : decode cX0_mark 0 = .ok (.aload_n 1, 1) := by decide +kernel
theorem dX0_mark_1 : decode cX0_mark 1 = .ok (.bipush 22, 2) := by decide +kernel
theorem dX0_mark_3 : decode cX0_mark 3 = .ok (.invokevirtual 15, 3) := by decide +kernel
theorem dX0_mark_6 : decode cX0_mark 6 = .ok (.aload_n 0, 1) := by decide +kernel
theorem dX0_mark_7 : decode cX0_mark 7 = .ok (.aload_n 1, 1) := by decide +kernel
theorem dX0_mark_8 : decode cX0_mark 8 = .ok (.invokespecial 21, 3) := by decide +kernel
theorem dX0_mark_11 : decode cX0_mark 11 = .ok (.sipush 1000, 3) := by decide +kernel
theorem dX0_mark_14 : decode cX0_mark 14 = .ok (.isub, 1) := by decide +kernel
theorem dX0_mark_15 : decode cX0_mark 15 = .ok (.ireturn, 1) := by decide +kernel
set_option maxRecDepth 20000 in
theorem ggX1_fewestGirls_X3_meets : GoodIn wsX1_fewestGirls wsX3_meets := goodIn_r _ [14, 15, 16, 17, 18, 5, 19, 20, 21, 22, 13, 23, 24, 25, 26, 27, 28, 29, 30, 4, 6, 31, 8, 9, 32, 33, 34, 35, 36, 37, 38, 39, 40, 41, 42, 43, 44, 45, 46, 47, 48, 49, 50, 51, 52, 53, 54, 55, 56, 57, 58, 59, 60, 61, 62, 63, 64, 65, 66, 67, 68, 69, 70, 71, 72, 73, 74, 75, 76, 77, 78, 79, 80, 81, 82, 83, 84, 85, 86, 87, 88, 89, 90, 91, 92, 93, 94, 95, 96, 97, 98, 99, 100, 101, 102, 103, 104, 105, 106, 107, 108, 109, 110, 111, 112, 113, 114, 115, 116, 117, 118, 119, 120, 121, 122, 123, 124, 125] (by decide +kernel) (by decide +kernel)
set_option maxRecDepth 20000 in
theorem gX1_fewestGirls_X3_meets : GoodIn wsX1_fewestGirls (wsV RX1 25 RX3 yX3_meets wsX3_meets) := goodIn_app (goodIn_of _ (by decide +kernel)) ggX1_fewestGirls_X3_meets
theorem dX1_fewestGirls_0 : decode cX1_fewestGirls 0 = .ok (.aload_n 1, 1) := by decide +kernel
theorem dX1_fewestGirls_1 : decode cX1_fewestGirls 1 = .ok (.getfield 9, 3) := by decide +kernel
theorem dX1_fewestGirls_4 : decode cX1_fewestGirls 4 = .ok (.istore 4, 2) := by decide +kernel
theorem dX1_fewestGirls_6 : decode cX1_fewestGirls 6 = .ok (.aload_n 2, 1) := by decide +kernel
theorem dX1_fewestGirls_7 : decode cX1_fewestGirls 7 = .ok (.getfield 9, 3) := by decide +kernel
theorem dX1_fewestGirls_10 : decode cX1_fewestGirls 10 = .ok (.istore 5, 2) := by decide +kernel
theorem dX1_fewestGirls_12 : decode cX1_fewestGirls 12 = .ok (.ldc 15, 2) := by decide +kernel
theorem dX1_fewestGirls_14 : decode cX1_fewestGirls 14 = .ok (.istore 6, 2) := by decide +kernel
theorem dX1_fewestGirls_16 : decode cX1_fewestGirls 16 = .ok (.iconst 0, 1) := by decide +kernel
theorem dX1_fewestGirls_17 : decode cX1_fewestGirls 17 = .ok (.istore 7, 2) := by decide +kernel
theorem dX1_fewestGirls_19 : decode cX1_fewestGirls 19 = .ok (.iload 7, 2) := by decide +kernel
theorem dX1_fewestGirls_21 : decode cX1_fewestGirls 21 = .ok (.bipush 18, 2) := by decide +kernel
theorem dX1_fewestGirls_23 : decode cX1_fewestGirls 23 = .ok (.if_icmp .gt 99, 3) := by decide +kernel
theorem dX1_fewestGirls_26 : decode cX1_fewestGirls 26 = .ok (.iload 6, 2) := by decide +kernel
theorem dX1_fewestGirls_28 : decode cX1_fewestGirls 28 = .ok (.ldc 15, 2) := by decide +kernel
theorem dX1_fewestGirls_30 : decode cX1_fewestGirls 30 = .ok (.if_icmp .ne 92, 3) := by decide +kernel
theorem dX1_fewestGirls_33 : decode cX1_fewestGirls 33 = .ok (.bipush 9, 2) := by decide +kernel
theorem dX1_fewestGirls_35 : decode cX1_fewestGirls 35 = .ok (.iload 7, 2) := by decide +kernel
theorem dX1_fewestGirls_37 : decode cX1_fewestGirls 37 = .ok (.invokestatic 16, 3) := by decide +kernel
theorem dX1_fewestGirls_40 : decode cX1_fewestGirls 40 = .ok (.istore 8, 2) := by decide +kernel
theorem dX1_fewestGirls_42 : decode cX1_fewestGirls 42 = .ok (.iconst 0, 1) := by decide +kernel
theorem dX1_fewestGirls_43 : decode cX1_fewestGirls 43 = .ok (.iload 7, 2) := by decide +kernel
theorem dX1_fewestGirls_45 : decode cX1_fewestGirls 45 = .ok (.bipush 9, 2) := by decide +kernel
theorem dX1_fewestGirls_47 : decode cX1_fewestGirls 47 = .ok (.isub, 1) := by decide +kernel
theorem dX1_fewestGirls_48 : decode cX1_fewestGirls 48 = .ok (.invokestatic 22, 3) := by decide +kernel
theorem dX1_fewestGirls_51 : decode cX1_fewestGirls 51 = .ok (.istore 9, 2) := by decide +kernel
theorem dX1_fewestGirls_53 : decode cX1_fewestGirls 53 = .ok (.iload 9, 2) := by decide +kernel
theorem dX1_fewestGirls_55 : decode cX1_fewestGirls 55 = .ok (.iload 8, 2) := by decide +kernel
theorem dX1_fewestGirls_57 : decode cX1_fewestGirls 57 = .ok (.if_icmp .gt 59, 3) := by decide +kernel
theorem dX1_fewestGirls_60 : decode cX1_fewestGirls 60 = .ok (.iload 6, 2) := by decide +kernel
theorem dX1_fewestGirls_62 : decode cX1_fewestGirls 62 = .ok (.ldc 15, 2) := by decide +kernel
theorem dX1_fewestGirls_64 : decode cX1_fewestGirls 64 = .ok (.if_icmp .ne 52, 3) := by decide +kernel
theorem dX1_fewestGirls_67 : decode cX1_fewestGirls 67 = .ok (.aload_n 1, 1) := by decide +kernel
theorem dX1_fewestGirls_68 : decode cX1_fewestGirls 68 = .ok (.iload 4, 2) := by decide +kernel
theorem dX1_fewestGirls_70 : decode cX1_fewestGirls 70 = .ok (.iload 9, 2) := by decide +kernel
theorem dX1_fewestGirls_72 : decode cX1_fewestGirls 72 = .ok (.iadd, 1) := by decide +kernel
theorem dX1_fewestGirls_73 : decode cX1_fewestGirls 73 = .ok (.putfield 9, 3) := by decide +kernel
theorem dX1_fewestGirls_76 : decode cX1_fewestGirls 76 = .ok (.aload_n 2, 1) := by decide +kernel
theorem dX1_fewestGirls_77 : decode cX1_fewestGirls 77 = .ok (.iload 5, 2) := by decide +kernel
theorem dX1_fewestGirls_79 : decode cX1_fewestGirls 79 = .ok (.iload 7, 2) := by decide +kernel
theorem dX1_fewestGirls_81 : decode cX1_fewestGirls 81 = .ok (.iadd, 1) := by decide +kernel
theorem dX1_fewestGirls_82 : decode cX1_fewestGirls 82 = .ok (.iload 9, 2) := by decide +kernel
theorem dX1_fewestGirls_84 : decode cX1_fewestGirls 84 = .ok (.isub, 1) := by decide +kernel
theorem dX1_fewestGirls_85 : decode cX1_fewestGirls 85 = .ok (.putfield 9, 3) := by decide +kernel
theorem dX1_fewestGirls_88 : decode cX1_fewestGirls 88 = .ok (.aload_n 0, 1) := by decide +kernel
theorem dX1_fewestGirls_89 : decode cX1_fewestGirls 89 = .ok (.aload_n 1, 1) := by decide +kernel
theorem dX1_fewestGirls_90 : decode cX1_fewestGirls 90 = .ok (.aload_n 2, 1) := by decide +kernel
theorem dX1_fewestGirls_91 : decode cX1_fewestGirls 91 = .ok (.invokevirtual 25, 3) := by decide +kernel
theorem dX1_fewestGirls_94 : decode cX1_fewestGirls 94 = .ok (.ifCond .eq 16, 3) := by decide +kernel
theorem dX1_fewestGirls_97 : decode cX1_fewestGirls 97 = .ok (.iload_n 3, 1) := by decide +kernel
theorem dX1_fewestGirls_98 : decode cX1_fewestGirls 98 = .ok (.ifCond .ne 8, 3) := by decide +kernel
theorem dX1_fewestGirls_101 : decode cX1_fewestGirls 101 = .ok (.iload 7, 2) := by decide +kernel
theorem dX1_fewestGirls_103 : decode cX1_fewestGirls 103 = .ok (.goto 5, 3) := by decide +kernel
theorem dX1_fewestGirls_106 : decode cX1_fewestGirls 106 = .ok (.iload 9, 2) := by decide +kernel
theorem dX1_fewestGirls_108 : decode cX1_fewestGirls 108 = .ok (.istore 6, 2) := by decide +kernel
theorem dX1_fewestGirls_110 : decode cX1_fewestGirls 110 = .ok (.iinc 9 1, 3) := by decide +kernel
theorem dX1_fewestGirls_113 : decode cX1_fewestGirls 113 = .ok (.goto (-60), 3) := by decide +kernel
theorem dX1_fewestGirls_116 : decode cX1_fewestGirls 116 = .ok (.iinc 7 1, 3) := by decide +kernel
theorem dX1_fewestGirls_119 : decode cX1_fewestGirls 119 = .ok (.goto (-100), 3) := by decide +kernel
theorem dX1_fewestGirls_122 : decode cX1_fewestGirls 122 = .ok (.aload_n 1, 1) := by decide +kernel
theorem dX1_fewestGirls_123 : decode cX1_fewestGirls 123 = .ok (.iload 4, 2) := by decide +kernel
theorem dX1_fewestGirls_125 : decode cX1_fewestGirls 125 = .ok (.putfield 9, 3) := by decide +kernel
theorem dX1_fewestGirls_128 : decode cX1_fewestGirls 128 = .ok (.aload_n 2, 1) := by decide +kernel
theorem dX1_fewestGirls_129 : decode cX1_fewestGirls 129 = .ok (.iload 5, 2) := by decide +kernel
theorem dX1_fewestGirls_131 : decode cX1_fewestGirls 131 = .ok (.putfield 9, 3) := by decide +kernel
theorem dX1_fewestGirls_134 : decode cX1_fewestGirls 134 = .ok (.iload 6, 2) := by decide +kernel
theorem dX1_fewestGirls_136 : decode cX1_fewestGirls 136 = .ok (.ireturn, 1) := by decide +kernel
set_option maxRecDepth 20000 in
theorem ggX1_slideToMeet_X3_standing : GoodIn wsX1_slideToMeet wsX3_standing := goodIn_r _ [10, 11, 12, 13, 99, 100, 101, 102, 103, 104, 105, 106, 107, 108, 109, 110, 111, 112, 113, 114, 115, 116, 117, 118, 119, 120, 121, 122, 123, 124, 125, 126, 127, 128, 129, 130, 131, 132, 133, 134, 135, 136, 137, 138, 139] (by decide +kernel) (by decide +kernel)
set_option maxRecDepth 20000 in
theorem gX1_slideToMeet_X3_standing : GoodIn wsX1_slideToMeet (wsV RX1 38 RX3 yX3_standing wsX3_standing) := goodIn_app (goodIn_of _ (by decide +kernel)) ggX1_slideToMeet_X3_standing
set_option maxRecDepth 20000 in
theorem ggX1_slideToMeet_X3_countWalkways : GoodIn wsX1_slideToMeet wsX3_countWalkways := goodIn_r _ [17, 11, 18, 19, 20, 21, 9, 22, 12, 23, 24, 25, 26, 13, 27, 28, 29, 30, 31, 32, 33, 34, 35, 36, 37, 38, 39, 40, 41, 42, 43, 44, 45, 46, 47, 48, 49, 50, 51, 52, 53, 54, 55, 56, 57, 58, 59, 60, 61, 62, 63, 64, 65, 66, 67, 68, 69, 70, 71, 72, 73, 74, 75, 76, 77, 78, 79, 80, 81, 82, 83, 84, 85, 86, 87, 88, 89, 90, 91, 92, 93, 94, 95, 96, 97, 98, 99, 100, 101, 102, 103, 104, 105, 106, 107, 108, 109, 110, 111, 112, 113, 114, 115, 116, 117, 118, 119, 120, 121, 122, 123, 124, 125, 126, 127, 128, 129, 130, 131, 132, 133, 134, 135, 136, 137, 138, 139] (by decide +kernel) (by decide +kernel)
set_option maxRecDepth 20000 in
theorem gX1_slideToMeet_X3_countWalkways : GoodIn wsX1_slideToMeet (wsV RX1 45 RX3 yX3_countWalkways wsX3_countWalkways) := goodIn_app (goodIn_of _ (by decide +kernel)) ggX1_slideToMeet_X3_countWalkways
theorem dX1_slideToMeet_0 : decode cX1_slideToMeet 0 = .ok (.ldc 15, 2) := by decide +kernel
theorem dX1_slideToMeet_2 : decode cX1_slideToMeet 2 = .ok (.istore_n 2, 1) := by decide +kernel
theorem dX1_slideToMeet_3 : decode cX1_slideToMeet 3 = .ok (.ldc 15, 2) := by decide +kernel
theorem dX1_slideToMeet_5 : decode cX1_slideToMeet 5 = .ok (.istore_n 3, 1) := by decide +kernel
theorem dX1_slideToMeet_6 : decode cX1_slideToMeet 6 = .ok (.aload_n 0, 1) := by decide +kernel
theorem dX1_slideToMeet_7 : decode cX1_slideToMeet 7 = .ok (.getfield 31, 3) := by decide +kernel
theorem dX1_slideToMeet_10 : decode cX1_slideToMeet 10 = .ok (.astore 4, 2) := by decide +kernel
theorem dX1_slideToMeet_12 : decode cX1_slideToMeet 12 = .ok (.aload 4, 2) := by decide +kernel
theorem dX1_slideToMeet_14 : decode cX1_slideToMeet 14 = .ok (.arraylength, 1) := by decide +kernel
theorem dX1_slideToMeet_15 : decode cX1_slideToMeet 15 = .ok (.istore 5, 2) := by decide +kernel
theorem dX1_slideToMeet_17 : decode cX1_slideToMeet 17 = .ok (.iconst 0, 1) := by decide +kernel
theorem dX1_slideToMeet_18 : decode cX1_slideToMeet 18 = .ok (.istore 6, 2) := by decide +kernel
theorem dX1_slideToMeet_20 : decode cX1_slideToMeet 20 = .ok (.iload 6, 2) := by decide +kernel
theorem dX1_slideToMeet_22 : decode cX1_slideToMeet 22 = .ok (.iload 5, 2) := by decide +kernel
theorem dX1_slideToMeet_24 : decode cX1_slideToMeet 24 = .ok (.if_icmp .ge 100, 3) := by decide +kernel
theorem dX1_slideToMeet_27 : decode cX1_slideToMeet 27 = .ok (.aload 4, 2) := by decide +kernel
theorem dX1_slideToMeet_29 : decode cX1_slideToMeet 29 = .ok (.iload 6, 2) := by decide +kernel
theorem dX1_slideToMeet_31 : decode cX1_slideToMeet 31 = .ok (.aaload, 1) := by decide +kernel
theorem dX1_slideToMeet_32 : decode cX1_slideToMeet 32 = .ok (.astore 7, 2) := by decide +kernel
theorem dX1_slideToMeet_34 : decode cX1_slideToMeet 34 = .ok (.iconst 1, 1) := by decide +kernel
theorem dX1_slideToMeet_35 : decode cX1_slideToMeet 35 = .ok (.istore 8, 2) := by decide +kernel
theorem dX1_slideToMeet_37 : decode cX1_slideToMeet 37 = .ok (.iload 8, 2) := by decide +kernel
theorem dX1_slideToMeet_39 : decode cX1_slideToMeet 39 = .ok (.bipush 8, 2) := by decide +kernel
theorem dX1_slideToMeet_41 : decode cX1_slideToMeet 41 = .ok (.if_icmp .gt 77, 3) := by decide +kernel
theorem dX1_slideToMeet_44 : decode cX1_slideToMeet 44 = .ok (.aload 7, 2) := by decide +kernel
theorem dX1_slideToMeet_46 : decode cX1_slideToMeet 46 = .ok (.ifnull 66, 3) := by decide +kernel
theorem dX1_slideToMeet_49 : decode cX1_slideToMeet 49 = .ok (.aload_n 0, 1) := by decide +kernel
theorem dX1_slideToMeet_50 : decode cX1_slideToMeet 50 = .ok (.aload 7, 2) := by decide +kernel
theorem dX1_slideToMeet_52 : decode cX1_slideToMeet 52 = .ok (.getfield 35, 3) := by decide +kernel
theorem dX1_slideToMeet_55 : decode cX1_slideToMeet 55 = .ok (.iload 8, 2) := by decide +kernel
theorem dX1_slideToMeet_57 : decode cX1_slideToMeet 57 = .ok (.invokevirtual 38, 3) := by decide +kernel
theorem dX1_slideToMeet_60 : decode cX1_slideToMeet 60 = .ok (.ifnonnull 52, 3) := by decide +kernel
theorem dX1_slideToMeet_63 : decode cX1_slideToMeet 63 = .ok (.aload 7, 2) := by decide +kernel
theorem dX1_slideToMeet_65 : decode cX1_slideToMeet 65 = .ok (.getfield 42, 3) := by decide +kernel
theorem dX1_slideToMeet_68 : decode cX1_slideToMeet 68 = .ok (.istore 9, 2) := by decide +kernel
theorem dX1_slideToMeet_70 : decode cX1_slideToMeet 70 = .ok (.aload 7, 2) := by decide +kernel
theorem dX1_slideToMeet_72 : decode cX1_slideToMeet 72 = .ok (.iload 8, 2) := by decide +kernel
theorem dX1_slideToMeet_74 : decode cX1_slideToMeet 74 = .ok (.putfield 42, 3) := by decide +kernel
theorem dX1_slideToMeet_77 : decode cX1_slideToMeet 77 = .ok (.aload_n 0, 1) := by decide +kernel
theorem dX1_slideToMeet_78 : decode cX1_slideToMeet 78 = .ok (.iconst 1, 1) := by decide +kernel
theorem dX1_slideToMeet_79 : decode cX1_slideToMeet 79 = .ok (.invokevirtual 45, 3) := by decide +kernel
theorem dX1_slideToMeet_82 : decode cX1_slideToMeet 82 = .ok (.istore 10, 2) := by decide +kernel
theorem dX1_slideToMeet_84 : decode cX1_slideToMeet 84 = .ok (.aload 7, 2) := by decide +kernel
theorem dX1_slideToMeet_86 : decode cX1_slideToMeet 86 = .ok (.iload 9, 2) := by decide +kernel
theorem dX1_slideToMeet_88 : decode cX1_slideToMeet 88 = .ok (.putfield 42, 3) := by decide +kernel
theorem dX1_slideToMeet_91 : decode cX1_slideToMeet 91 = .ok (.iload 10, 2) := by decide +kernel
theorem dX1_slideToMeet_93 : decode cX1_slideToMeet 93 = .ok (.iload_n 3, 1) := by decide +kernel
theorem dX1_slideToMeet_94 : decode cX1_slideToMeet 94 = .ok (.if_icmp .le 18, 3) := by decide +kernel
theorem dX1_slideToMeet_97 : decode cX1_slideToMeet 97 = .ok (.iload 10, 2) := by decide +kernel
theorem dX1_slideToMeet_99 : decode cX1_slideToMeet 99 = .ok (.istore_n 3, 1) := by decide +kernel
theorem dX1_slideToMeet_100 : decode cX1_slideToMeet 100 = .ok (.bipush 9, 2) := by decide +kernel
theorem dX1_slideToMeet_102 : decode cX1_slideToMeet 102 = .ok (.aload 7, 2) := by decide +kernel
theorem dX1_slideToMeet_104 : decode cX1_slideToMeet 104 = .ok (.getfield 49, 3) := by decide +kernel
theorem dX1_slideToMeet_107 : decode cX1_slideToMeet 107 = .ok (.imul, 1) := by decide +kernel
theorem dX1_slideToMeet_108 : decode cX1_slideToMeet 108 = .ok (.iload 8, 2) := by decide +kernel
theorem dX1_slideToMeet_110 : decode cX1_slideToMeet 110 = .ok (.iadd, 1) := by decide +kernel
theorem dX1_slideToMeet_111 : decode cX1_slideToMeet 111 = .ok (.istore_n 2, 1) := by decide +kernel
theorem dX1_slideToMeet_112 : decode cX1_slideToMeet 112 = .ok (.iinc 8 1, 3) := by decide +kernel
theorem dX1_slideToMeet_115 : decode cX1_slideToMeet 115 = .ok (.goto (-78), 3) := by decide +kernel
theorem dX1_slideToMeet_118 : decode cX1_slideToMeet 118 = .ok (.iinc 6 1, 3) := by decide +kernel
theorem dX1_slideToMeet_121 : decode cX1_slideToMeet 121 = .ok (.goto (-101), 3) := by decide +kernel
theorem dX1_slideToMeet_124 : decode cX1_slideToMeet 124 = .ok (.iload_n 1, 1) := by decide +kernel
theorem dX1_slideToMeet_125 : decode cX1_slideToMeet 125 = .ok (.ifCond .ne 7, 3) := by decide +kernel
theorem dX1_slideToMeet_128 : decode cX1_slideToMeet 128 = .ok (.iload_n 2, 1) := by decide +kernel
theorem dX1_slideToMeet_129 : decode cX1_slideToMeet 129 = .ok (.goto 4, 3) := by decide +kernel
theorem dX1_slideToMeet_132 : decode cX1_slideToMeet 132 = .ok (.iload_n 3, 1) := by decide +kernel
theorem dX1_slideToMeet_133 : decode cX1_slideToMeet 133 = .ok (.ireturn, 1) := by decide +kernel
set_option maxRecDepth 20000 in
theorem ggX1_countOrders_X1_holdsWithout : GoodIn wsX1_countOrders wsX1_holdsWithout := goodIn_r _ [7, 8, 9, 10, 6, 11, 1, 3, 2, 12, 13, 14, 15, 16, 17, 18, 19, 20, 21, 22, 23, 24, 25, 26, 27, 28, 29, 30, 31, 32, 33, 34, 35, 36, 37, 38, 39, 40, 41, 42, 43, 44, 45, 46, 47, 48, 49, 50, 51, 52, 53, 54, 55, 56, 57, 58, 59, 60, 61, 62, 63, 64, 65, 66, 67, 68, 69, 70, 71, 72, 73, 74, 75, 76, 77, 78, 79, 80, 81, 82, 83, 84, 85, 86, 87, 88, 89, 90, 91, 98, 99, 100, 101, 102, 103, 104, 105, 106, 107, 108, 109, 110, 111, 112, 113, 114, 115, 116, 117, 118, 119, 120, 121, 122, 123, 124, 125, 126, 127, 128, 129, 130, 131, 132, 133, 134, 135, 136, 137, 138] (by decide +kernel) (by decide +kernel)
set_option maxRecDepth 20000 in
theorem gX1_countOrders_X1_holdsWithout : GoodIn wsX1_countOrders (va_wsS RX1 56 yX1_holdsWithout wsX1_holdsWithout) := goodIn_app (goodIn_of _ (by decide +kernel)) ggX1_countOrders_X1_holdsWithout
set_option maxRecDepth 20000 in
theorem ggX1_countOrders_X1_ordersBehind : GoodIn wsX1_countOrders wsX1_ordersBehind := goodIn_r _ [94, 95, 96, 6, 97] (by decide +kernel) (by decide +kernel)
set_option maxRecDepth 20000 in
theorem gX1_countOrders_X1_ordersBehind : GoodIn wsX1_countOrders (va_wsS RX1 62 yX1_ordersBehind wsX1_ordersBehind) := goodIn_app (goodIn_of _ (by decide +kernel)) ggX1_countOrders_X1_ordersBehind
theorem dX1_countOrders_0 : decode cX1_countOrders 0 = .ok (.iconst 0, 1) := by decide +kernel
theorem dX1_countOrders_1 : decode cX1_countOrders 1 = .ok (.istore_n 2, 1) := by decide +kernel
theorem dX1_countOrders_2 : decode cX1_countOrders 2 = .ok (.aload_n 0, 1) := by decide +kernel
theorem dX1_countOrders_3 : decode cX1_countOrders 3 = .ok (.getfield 31, 3) := by decide +kernel
theorem dX1_countOrders_6 : decode cX1_countOrders 6 = .ok (.astore_n 3, 1) := by decide +kernel
theorem dX1_countOrders_7 : decode cX1_countOrders 7 = .ok (.aload_n 3, 1) := by decide +kernel
theorem dX1_countOrders_8 : decode cX1_countOrders 8 = .ok (.arraylength, 1) := by decide +kernel
theorem dX1_countOrders_9 : decode cX1_countOrders 9 = .ok (.istore 4, 2) := by decide +kernel
theorem dX1_countOrders_11 : decode cX1_countOrders 11 = .ok (.iconst 0, 1) := by decide +kernel
theorem dX1_countOrders_12 : decode cX1_countOrders 12 = .ok (.istore 5, 2) := by decide +kernel
theorem dX1_countOrders_14 : decode cX1_countOrders 14 = .ok (.iload 5, 2) := by decide +kernel
theorem dX1_countOrders_16 : decode cX1_countOrders 16 = .ok (.iload 4, 2) := by decide +kernel
theorem dX1_countOrders_18 : decode cX1_countOrders 18 = .ok (.if_icmp .ge 38, 3) := by decide +kernel
theorem dX1_countOrders_21 : decode cX1_countOrders 21 = .ok (.aload_n 3, 1) := by decide +kernel
theorem dX1_countOrders_22 : decode cX1_countOrders 22 = .ok (.iload 5, 2) := by decide +kernel
theorem dX1_countOrders_24 : decode cX1_countOrders 24 = .ok (.aaload, 1) := by decide +kernel
theorem dX1_countOrders_25 : decode cX1_countOrders 25 = .ok (.astore 6, 2) := by decide +kernel
theorem dX1_countOrders_27 : decode cX1_countOrders 27 = .ok (.aload 6, 2) := by decide +kernel
theorem dX1_countOrders_29 : decode cX1_countOrders 29 = .ok (.ifnull 21, 3) := by decide +kernel
theorem dX1_countOrders_32 : decode cX1_countOrders 32 = .ok (.aload 6, 2) := by decide +kernel
theorem dX1_countOrders_34 : decode cX1_countOrders 34 = .ok (.getfield 52, 3) := by decide +kernel
theorem dX1_countOrders_37 : decode cX1_countOrders 37 = .ok (.ifCond .ne 13, 3) := by decide +kernel
theorem dX1_countOrders_40 : decode cX1_countOrders 40 = .ok (.iload_n 2, 1) := by decide +kernel
theorem dX1_countOrders_41 : decode cX1_countOrders 41 = .ok (.iconst 1, 1) := by decide +kernel
theorem dX1_countOrders_42 : decode cX1_countOrders 42 = .ok (.aload 6, 2) := by decide +kernel
theorem dX1_countOrders_44 : decode cX1_countOrders 44 = .ok (.getfield 49, 3) := by decide +kernel
theorem dX1_countOrders_47 : decode cX1_countOrders 47 = .ok (.ishl, 1) := by decide +kernel
theorem dX1_countOrders_48 : decode cX1_countOrders 48 = .ok (.ior, 1) := by decide +kernel
theorem dX1_countOrders_49 : decode cX1_countOrders 49 = .ok (.istore_n 2, 1) := by decide +kernel
theorem dX1_countOrders_50 : decode cX1_countOrders 50 = .ok (.iinc 5 1, 3) := by decide +kernel
theorem dX1_countOrders_53 : decode cX1_countOrders 53 = .ok (.goto (-39), 3) := by decide +kernel
theorem dX1_countOrders_56 : decode cX1_countOrders 56 = .ok (.aload_n 1, 1) := by decide +kernel
theorem dX1_countOrders_57 : decode cX1_countOrders 57 = .ok (.arraylength, 1) := by decide +kernel
theorem dX1_countOrders_58 : decode cX1_countOrders 58 = .ok (.iconst 1, 1) := by decide +kernel
theorem dX1_countOrders_59 : decode cX1_countOrders 59 = .ok (.isub, 1) := by decide +kernel
theorem dX1_countOrders_60 : decode cX1_countOrders 60 = .ok (.istore_n 3, 1) := by decide +kernel
theorem dX1_countOrders_61 : decode cX1_countOrders 61 = .ok (.iload_n 3, 1) := by decide +kernel
theorem dX1_countOrders_62 : decode cX1_countOrders 62 = .ok (.ifCond .lt 51, 3) := by decide +kernel
theorem dX1_countOrders_65 : decode cX1_countOrders 65 = .ok (.iload_n 3, 1) := by decide +kernel
theorem dX1_countOrders_66 : decode cX1_countOrders 66 = .ok (.iload_n 2, 1) := by decide +kernel
theorem dX1_countOrders_67 : decode cX1_countOrders 67 = .ok (.iconst (-1), 1) := by decide +kernel
theorem dX1_countOrders_68 : decode cX1_countOrders 68 = .ok (.ixor, 1) := by decide +kernel
theorem dX1_countOrders_69 : decode cX1_countOrders 69 = .ok (.iand, 1) := by decide +kernel
theorem dX1_countOrders_70 : decode cX1_countOrders 70 = .ok (.ifCond .ne 7, 3) := by decide +kernel
theorem dX1_countOrders_73 : decode cX1_countOrders 73 = .ok (.iconst 1, 1) := by decide +kernel
theorem dX1_countOrders_74 : decode cX1_countOrders 74 = .ok (.goto 4, 3) := by decide +kernel
theorem dX1_countOrders_77 : decode cX1_countOrders 77 = .ok (.iconst 0, 1) := by decide +kernel
theorem dX1_countOrders_78 : decode cX1_countOrders 78 = .ok (.istore 4, 2) := by decide +kernel
theorem dX1_countOrders_80 : decode cX1_countOrders 80 = .ok (.aload_n 1, 1) := by decide +kernel
theorem dX1_countOrders_81 : decode cX1_countOrders 81 = .ok (.iload_n 3, 1) := by decide +kernel
theorem dX1_countOrders_82 : decode cX1_countOrders 82 = .ok (.iload 4, 2) := by decide +kernel
theorem dX1_countOrders_84 : decode cX1_countOrders 84 = .ok (.ifCond .eq 21, 3) := by decide +kernel
theorem dX1_countOrders_87 : decode cX1_countOrders 87 = .ok (.aload_n 0, 1) := by decide +kernel
theorem dX1_countOrders_88 : decode cX1_countOrders 88 = .ok (.iload_n 2, 1) := by decide +kernel
theorem dX1_countOrders_89 : decode cX1_countOrders 89 = .ok (.iload_n 3, 1) := by decide +kernel
theorem dX1_countOrders_90 : decode cX1_countOrders 90 = .ok (.invokestatic 56, 3) := by decide +kernel
theorem dX1_countOrders_93 : decode cX1_countOrders 93 = .ok (.ifCond .eq 12, 3) := by decide +kernel
theorem dX1_countOrders_96 : decode cX1_countOrders 96 = .ok (.aload_n 1, 1) := by decide +kernel
theorem dX1_countOrders_97 : decode cX1_countOrders 97 = .ok (.iload_n 2, 1) := by decide +kernel
theorem dX1_countOrders_98 : decode cX1_countOrders 98 = .ok (.iload_n 3, 1) := by decide +kernel
theorem dX1_countOrders_99 : decode cX1_countOrders 99 = .ok (.invokestatic 62, 3) := by decide +kernel
theorem dX1_countOrders_102 : decode cX1_countOrders 102 = .ok (.goto 4, 3) := by decide +kernel
theorem dX1_countOrders_105 : decode cX1_countOrders 105 = .ok (.iconst 0, 1) := by decide +kernel
theorem dX1_countOrders_106 : decode cX1_countOrders 106 = .ok (.iastore, 1) := by decide +kernel
theorem dX1_countOrders_107 : decode cX1_countOrders 107 = .ok (.iinc 3 (-1), 3) := by decide +kernel
theorem dX1_countOrders_110 : decode cX1_countOrders 110 = .ok (.goto (-49), 3) := by decide +kernel
theorem dX1_countOrders_113 : decode cX1_countOrders 113 = .ok (.iload_n 2, 1) := by decide +kernel
theorem dX1_countOrders_114 : decode cX1_countOrders 114 = .ok (.ireturn, 1) := by decide +kernel
set_option maxRecDepth 20000 in
theorem ggX1_holdsWithout_X1_takeOff : GoodIn wsX1_holdsWithout wsX1_takeOff := goodIn_r _ [5, 6, 7, 8, 89, 90, 91, 92, 93, 94, 95, 96, 97, 98, 99, 100, 101, 102, 103, 104, 105, 106, 107, 108, 109, 110, 111, 112, 113, 114, 115, 116, 117, 118, 119, 120, 121, 122, 123, 124, 125, 126, 127, 128, 129] (by decide +kernel) (by decide +kernel)
set_option maxRecDepth 20000 in
theorem gX1_holdsWithout_X1_takeOff : GoodIn wsX1_holdsWithout (va_wsS RX1 66 yX1_takeOff wsX1_takeOff) := goodIn_app (goodIn_of _ (by decide +kernel)) ggX1_holdsWithout_X1_takeOff
set_option maxRecDepth 20000 in
theorem ggX1_holdsWithout_X3_firstDropping : GoodIn wsX1_holdsWithout wsX3_firstDropping := goodIn_r _ [13, 14, 15, 16, 17, 18, 19, 20, 21, 22, 12, 23, 24, 25, 26, 27, 28, 29, 30, 31, 32, 33, 34, 35, 36, 37, 38, 39, 40, 41, 42, 43, 44, 45, 46, 47, 48, 49, 50, 51, 52, 53, 54, 55, 56, 57, 58, 59, 60, 61, 62, 63, 64, 65, 66, 67, 68, 69, 70, 71, 72, 73, 74, 75, 76, 77, 78, 79, 80, 81, 82, 83, 84, 85, 86, 87, 88, 89, 90, 91, 92, 93, 94, 95, 96, 97, 98, 99, 100, 101, 102, 103, 104, 105, 106, 107, 108, 109, 110, 111, 112, 113, 114, 115, 116, 117, 118, 119, 120, 121, 122, 123, 124, 125, 126, 127, 128, 129] (by decide +kernel) (by decide +kernel)
set_option maxRecDepth 20000 in
theorem gX1_holdsWithout_X3_firstDropping : GoodIn wsX1_holdsWithout (wsV RX1 70 RX3 yX3_firstDropping wsX3_firstDropping) := goodIn_app (goodIn_of _ (by decide +kernel)) ggX1_holdsWithout_X3_firstDropping
theorem dX1_holdsWithout_0 : decode cX1_holdsWithout 0 = .ok (.aload_n 0, 1) := by decide +kernel
theorem dX1_holdsWithout_1 : decode cX1_holdsWithout 1 = .ok (.iload_n 1, 1) := by decide +kernel
theorem dX1_holdsWithout_2 : decode cX1_holdsWithout 2 = .ok (.iload_n 2, 1) := by decide +kernel
theorem dX1_holdsWithout_3 : decode cX1_holdsWithout 3 = .ok (.invokestatic 66, 3) := by decide +kernel
theorem dX1_holdsWithout_6 : decode cX1_holdsWithout 6 = .ok (.aload_n 0, 1) := by decide +kernel
theorem dX1_holdsWithout_7 : decode cX1_holdsWithout 7 = .ok (.invokevirtual 70, 3) := by decide +kernel
theorem dX1_holdsWithout_10 : decode cX1_holdsWithout 10 = .ok (.ldc 15, 2) := by decide +kernel
theorem dX1_holdsWithout_12 : decode cX1_holdsWithout 12 = .ok (.if_icmp .ne 7, 3) := by decide +kernel
theorem dX1_holdsWithout_15 : decode cX1_holdsWithout 15 = .ok (.iconst 1, 1) := by decide +kernel
theorem dX1_holdsWithout_16 : decode cX1_holdsWithout 16 = .ok (.goto 4, 3) := by decide +kernel
theorem dX1_holdsWithout_19 : decode cX1_holdsWithout 19 = .ok (.iconst 0, 1) := by decide +kernel
theorem dX1_holdsWithout_20 : decode cX1_holdsWithout 20 = .ok (.istore_n 3, 1) := by decide +kernel
theorem dX1_holdsWithout_21 : decode cX1_holdsWithout 21 = .ok (.aload_n 0, 1) := by decide +kernel
theorem dX1_holdsWithout_22 : decode cX1_holdsWithout 22 = .ok (.iload_n 1, 1) := by decide +kernel
theorem dX1_holdsWithout_23 : decode cX1_holdsWithout 23 = .ok (.iconst 0, 1) := by decide +kernel
theorem dX1_holdsWithout_24 : decode cX1_holdsWithout 24 = .ok (.invokestatic 66, 3) := by decide +kernel
theorem dX1_holdsWithout_27 : decode cX1_holdsWithout 27 = .ok (.iload_n 3, 1) := by decide +kernel
theorem dX1_holdsWithout_28 : decode cX1_holdsWithout 28 = .ok (.ireturn, 1) := by decide +kernel
theorem dX1_takeOff_0 : decode cX1_takeOff 0 = .ok (.aload_n 0, 1) := by decide +kernel
theorem dX1_takeOff_1 : decode cX1_takeOff 1 = .ok (.getfield 31, 3) := by decide +kernel
theorem dX1_takeOff_4 : decode cX1_takeOff 4 = .ok (.astore_n 3, 1) := by decide +kernel
theorem dX1_takeOff_5 : decode cX1_takeOff 5 = .ok (.aload_n 3, 1) := by decide +kernel
theorem dX1_takeOff_6 : decode cX1_takeOff 6 = .ok (.arraylength, 1) := by decide +kernel
theorem dX1_takeOff_7 : decode cX1_takeOff 7 = .ok (.istore 4, 2) := by decide +kernel
theorem dX1_takeOff_9 : decode cX1_takeOff 9 = .ok (.iconst 0, 1) := by decide +kernel
theorem dX1_takeOff_10 : decode cX1_takeOff 10 = .ok (.istore 5, 2) := by decide +kernel
theorem dX1_takeOff_12 : decode cX1_takeOff 12 = .ok (.iload 5, 2) := by decide +kernel
theorem dX1_takeOff_14 : decode cX1_takeOff 14 = .ok (.iload 4, 2) := by decide +kernel
theorem dX1_takeOff_16 : decode cX1_takeOff 16 = .ok (.if_icmp .ge 56, 3) := by decide +kernel
theorem dX1_takeOff_19 : decode cX1_takeOff 19 = .ok (.aload_n 3, 1) := by decide +kernel
theorem dX1_takeOff_20 : decode cX1_takeOff 20 = .ok (.iload 5, 2) := by decide +kernel
theorem dX1_takeOff_22 : decode cX1_takeOff 22 = .ok (.aaload, 1) := by decide +kernel
theorem dX1_takeOff_23 : decode cX1_takeOff 23 = .ok (.astore 6, 2) := by decide +kernel
theorem dX1_takeOff_25 : decode cX1_takeOff 25 = .ok (.aload 6, 2) := by decide +kernel
theorem dX1_takeOff_27 : decode cX1_takeOff 27 = .ok (.ifnull 39, 3) := by decide +kernel
theorem dX1_takeOff_30 : decode cX1_takeOff 30 = .ok (.iload_n 1, 1) := by decide +kernel
theorem dX1_takeOff_31 : decode cX1_takeOff 31 = .ok (.aload 6, 2) := by decide +kernel
theorem dX1_takeOff_33 : decode cX1_takeOff 33 = .ok (.getfield 49, 3) := by decide +kernel
theorem dX1_takeOff_36 : decode cX1_takeOff 36 = .ok (.ishr, 1) := by decide +kernel
theorem dX1_takeOff_37 : decode cX1_takeOff 37 = .ok (.iconst 1, 1) := by decide +kernel
theorem dX1_takeOff_38 : decode cX1_takeOff 38 = .ok (.iand, 1) := by decide +kernel
theorem dX1_takeOff_39 : decode cX1_takeOff 39 = .ok (.iconst 1, 1) := by decide +kernel
theorem dX1_takeOff_40 : decode cX1_takeOff 40 = .ok (.if_icmp .ne 26, 3) := by decide +kernel
theorem dX1_takeOff_43 : decode cX1_takeOff 43 = .ok (.aload 6, 2) := by decide +kernel
theorem dX1_takeOff_45 : decode cX1_takeOff 45 = .ok (.iload_n 2, 1) := by decide +kernel
theorem dX1_takeOff_46 : decode cX1_takeOff 46 = .ok (.aload 6, 2) := by decide +kernel
theorem dX1_takeOff_48 : decode cX1_takeOff 48 = .ok (.getfield 49, 3) := by decide +kernel
theorem dX1_takeOff_51 : decode cX1_takeOff 51 = .ok (.ishr, 1) := by decide +kernel
theorem dX1_takeOff_52 : decode cX1_takeOff 52 = .ok (.iconst 1, 1) := by decide +kernel
theorem dX1_takeOff_53 : decode cX1_takeOff 53 = .ok (.iand, 1) := by decide +kernel
theorem dX1_takeOff_54 : decode cX1_takeOff 54 = .ok (.iconst 1, 1) := by decide +kernel
theorem dX1_takeOff_55 : decode cX1_takeOff 55 = .ok (.if_icmp .ne 7, 3) := by decide +kernel
theorem dX1_takeOff_58 : decode cX1_takeOff 58 = .ok (.iconst 1, 1) := by decide +kernel
theorem dX1_takeOff_59 : decode cX1_takeOff 59 = .ok (.goto 4, 3) := by decide +kernel
theorem dX1_takeOff_62 : decode cX1_takeOff 62 = .ok (.iconst 0, 1) := by decide +kernel
theorem dX1_takeOff_63 : decode cX1_takeOff 63 = .ok (.putfield 52, 3) := by decide +kernel
theorem dX1_takeOff_66 : decode cX1_takeOff 66 = .ok (.iinc 5 1, 3) := by decide +kernel
theorem dX1_takeOff_69 : decode cX1_takeOff 69 = .ok (.goto (-57), 3) := by decide +kernel
theorem dX1_takeOff_72 : decode cX1_takeOff 72 = .ok (.return_, 1) := by decide +kernel
set_option maxRecDepth 20000 in
theorem ggX1_ordersBehind_X1_ordersFrom : GoodIn wsX1_ordersBehind wsX1_ordersFrom := goodIn_r _ [4] (by decide +kernel) (by decide +kernel)
set_option maxRecDepth 20000 in
theorem gX1_ordersBehind_X1_ordersFrom : GoodIn wsX1_ordersBehind (va_wsS RX1 74 yX1_ordersFrom wsX1_ordersFrom) := goodIn_app (goodIn_of _ (by decide +kernel)) ggX1_ordersBehind_X1_ordersFrom
theorem dX1_ordersBehind_0 : decode cX1_ordersBehind 0 = .ok (.iload_n 2, 1) := by decide +kernel
theorem dX1_ordersBehind_1 : decode cX1_ordersBehind 1 = .ok (.iload_n 1, 1) := by decide +kernel
theorem dX1_ordersBehind_2 : decode cX1_ordersBehind 2 = .ok (.if_icmp .ne 5, 3) := by decide +kernel
theorem dX1_ordersBehind_5 : decode cX1_ordersBehind 5 = .ok (.iconst 1, 1) := by decide +kernel
theorem dX1_ordersBehind_6 : decode cX1_ordersBehind 6 = .ok (.ireturn, 1) := by decide +kernel
theorem dX1_ordersBehind_7 : decode cX1_ordersBehind 7 = .ok (.iconst 0, 1) := by decide +kernel
theorem dX1_ordersBehind_8 : decode cX1_ordersBehind 8 = .ok (.istore_n 3, 1) := by decide +kernel
theorem dX1_ordersBehind_9 : decode cX1_ordersBehind 9 = .ok (.iconst 0, 1) := by decide +kernel
theorem dX1_ordersBehind_10 : decode cX1_ordersBehind 10 = .ok (.istore 4, 2) := by decide +kernel
theorem dX1_ordersBehind_12 : decode cX1_ordersBehind 12 = .ok (.iload 4, 2) := by decide +kernel
theorem dX1_ordersBehind_14 : decode cX1_ordersBehind 14 = .ok (.bipush 6, 2) := by decide +kernel
theorem dX1_ordersBehind_16 : decode cX1_ordersBehind 16 = .ok (.if_icmp .ge 20, 3) := by decide +kernel
theorem dX1_ordersBehind_19 : decode cX1_ordersBehind 19 = .ok (.iload_n 3, 1) := by decide +kernel
theorem dX1_ordersBehind_20 : decode cX1_ordersBehind 20 = .ok (.aload_n 0, 1) := by decide +kernel
theorem dX1_ordersBehind_21 : decode cX1_ordersBehind 21 = .ok (.iload_n 1, 1) := by decide +kernel
theorem dX1_ordersBehind_22 : decode cX1_ordersBehind 22 = .ok (.iload_n 2, 1) := by decide +kernel
theorem dX1_ordersBehind_23 : decode cX1_ordersBehind 23 = .ok (.iload 4, 2) := by decide +kernel
theorem dX1_ordersBehind_25 : decode cX1_ordersBehind 25 = .ok (.invokestatic 74, 3) := by decide +kernel
theorem dX1_ordersBehind_28 : decode cX1_ordersBehind 28 = .ok (.iadd, 1) := by decide +kernel
theorem dX1_ordersBehind_29 : decode cX1_ordersBehind 29 = .ok (.istore_n 3, 1) := by decide +kernel
theorem dX1_ordersBehind_30 : decode cX1_ordersBehind 30 = .ok (.iinc 4 1, 3) := by decide +kernel
theorem dX1_ordersBehind_33 : decode cX1_ordersBehind 33 = .ok (.goto (-21), 3) := by decide +kernel
theorem dX1_ordersBehind_36 : decode cX1_ordersBehind 36 = .ok (.iload_n 3, 1) := by decide +kernel
theorem dX1_ordersBehind_37 : decode cX1_ordersBehind 37 = .ok (.ireturn, 1) := by decide +kernel
theorem dX1_ordersFrom_0 : decode cX1_ordersFrom 0 = .ok (.iload_n 1, 1) := by decide +kernel
theorem dX1_ordersFrom_1 : decode cX1_ordersFrom 1 = .ok (.iload_n 2, 1) := by decide +kernel
theorem dX1_ordersFrom_2 : decode cX1_ordersFrom 2 = .ok (.iconst (-1), 1) := by decide +kernel
theorem dX1_ordersFrom_3 : decode cX1_ordersFrom 3 = .ok (.ixor, 1) := by decide +kernel
theorem dX1_ordersFrom_4 : decode cX1_ordersFrom 4 = .ok (.iand, 1) := by decide +kernel
theorem dX1_ordersFrom_5 : decode cX1_ordersFrom 5 = .ok (.iconst 1, 1) := by decide +kernel
theorem dX1_ordersFrom_6 : decode cX1_ordersFrom 6 = .ok (.iload_n 3, 1) := by decide +kernel
theorem dX1_ordersFrom_7 : decode cX1_ordersFrom 7 = .ok (.ishl, 1) := by decide +kernel
theorem dX1_ordersFrom_8 : decode cX1_ordersFrom 8 = .ok (.iand, 1) := by decide +kernel
theorem dX1_ordersFrom_9 : decode cX1_ordersFrom 9 = .ok (.ifCond .eq 7, 3) := by decide +kernel
theorem dX1_ordersFrom_12 : decode cX1_ordersFrom 12 = .ok (.iconst 1, 1) := by decide +kernel
theorem dX1_ordersFrom_13 : decode cX1_ordersFrom 13 = .ok (.goto 4, 3) := by decide +kernel
theorem dX1_ordersFrom_16 : decode cX1_ordersFrom 16 = .ok (.iconst 0, 1) := by decide +kernel
theorem dX1_ordersFrom_17 : decode cX1_ordersFrom 17 = .ok (.istore 4, 2) := by decide +kernel
theorem dX1_ordersFrom_19 : decode cX1_ordersFrom 19 = .ok (.iload_n 2, 1) := by decide +kernel
theorem dX1_ordersFrom_20 : decode cX1_ordersFrom 20 = .ok (.iconst 1, 1) := by decide +kernel
theorem dX1_ordersFrom_21 : decode cX1_ordersFrom 21 = .ok (.iload_n 3, 1) := by decide +kernel
theorem dX1_ordersFrom_22 : decode cX1_ordersFrom 22 = .ok (.ishl, 1) := by decide +kernel
theorem dX1_ordersFrom_23 : decode cX1_ordersFrom 23 = .ok (.ior, 1) := by decide +kernel
theorem dX1_ordersFrom_24 : decode cX1_ordersFrom 24 = .ok (.istore 5, 2) := by decide +kernel
theorem dX1_ordersFrom_26 : decode cX1_ordersFrom 26 = .ok (.iload 4, 2) := by decide +kernel
theorem dX1_ordersFrom_28 : decode cX1_ordersFrom 28 = .ok (.ifCond .eq 22, 3) := by decide +kernel
theorem dX1_ordersFrom_31 : decode cX1_ordersFrom 31 = .ok (.iload 5, 2) := by decide +kernel
theorem dX1_ordersFrom_33 : decode cX1_ordersFrom 33 = .ok (.ifCond .lt 17, 3) := by decide +kernel
theorem dX1_ordersFrom_36 : decode cX1_ordersFrom 36 = .ok (.iload 5, 2) := by decide +kernel
theorem dX1_ordersFrom_38 : decode cX1_ordersFrom 38 = .ok (.aload_n 0, 1) := by decide +kernel
theorem dX1_ordersFrom_39 : decode cX1_ordersFrom 39 = .ok (.arraylength, 1) := by decide +kernel
theorem dX1_ordersFrom_40 : decode cX1_ordersFrom 40 = .ok (.if_icmp .ge 10, 3) := by decide +kernel
theorem dX1_ordersFrom_43 : decode cX1_ordersFrom 43 = .ok (.aload_n 0, 1) := by decide +kernel
theorem dX1_ordersFrom_44 : decode cX1_ordersFrom 44 = .ok (.iload 5, 2) := by decide +kernel
theorem dX1_ordersFrom_46 : decode cX1_ordersFrom 46 = .ok (.iaload, 1) := by decide +kernel
theorem dX1_ordersFrom_47 : decode cX1_ordersFrom 47 = .ok (.goto 4, 3) := by decide +kernel
theorem dX1_ordersFrom_50 : decode cX1_ordersFrom 50 = .ok (.iconst 0, 1) := by decide +kernel
theorem dX1_ordersFrom_51 : decode cX1_ordersFrom 51 = .ok (.ireturn, 1) := by decide +kernel
set_option maxRecDepth 20000 in
theorem ggX1_inFirstOrder_X1_ordersFrom : GoodIn wsX1_inFirstOrder wsX1_ordersFrom := goodIn_r _ [5] (by decide +kernel) (by decide +kernel)
set_option maxRecDepth 20000 in
theorem gX1_inFirstOrder_X1_ordersFrom : GoodIn wsX1_inFirstOrder (va_wsS RX1 74 yX1_ordersFrom wsX1_ordersFrom) := goodIn_app (goodIn_of _ (by decide +kernel)) ggX1_inFirstOrder_X1_ordersFrom
theorem dX1_inFirstOrder_0 : decode cX1_inFirstOrder 0 = .ok (.aload_n 0, 1) := by decide +kernel
theorem dX1_inFirstOrder_1 : decode cX1_inFirstOrder 1 = .ok (.iconst 0, 1) := by decide +kernel
theorem dX1_inFirstOrder_2 : decode cX1_inFirstOrder 2 = .ok (.iaload, 1) := by decide +kernel
theorem dX1_inFirstOrder_3 : decode cX1_inFirstOrder 3 = .ok (.ifCond .ne 6, 3) := by decide +kernel
theorem dX1_inFirstOrder_6 : decode cX1_inFirstOrder 6 = .ok (.ldc 15, 2) := by decide +kernel
theorem dX1_inFirstOrder_8 : decode cX1_inFirstOrder 8 = .ok (.ireturn, 1) := by decide +kernel
theorem dX1_inFirstOrder_9 : decode cX1_inFirstOrder 9 = .ok (.iconst 0, 1) := by decide +kernel
theorem dX1_inFirstOrder_10 : decode cX1_inFirstOrder 10 = .ok (.istore_n 3, 1) := by decide +kernel
theorem dX1_inFirstOrder_11 : decode cX1_inFirstOrder 11 = .ok (.ldc 15, 2) := by decide +kernel
theorem dX1_inFirstOrder_13 : decode cX1_inFirstOrder 13 = .ok (.istore 4, 2) := by decide +kernel
theorem dX1_inFirstOrder_15 : decode cX1_inFirstOrder 15 = .ok (.iconst 0, 1) := by decide +kernel
theorem dX1_inFirstOrder_16 : decode cX1_inFirstOrder 16 = .ok (.istore 5, 2) := by decide +kernel
theorem dX1_inFirstOrder_18 : decode cX1_inFirstOrder 18 = .ok (.iload 5, 2) := by decide +kernel
theorem dX1_inFirstOrder_20 : decode cX1_inFirstOrder 20 = .ok (.iload_n 2, 1) := by decide +kernel
theorem dX1_inFirstOrder_21 : decode cX1_inFirstOrder 21 = .ok (.if_icmp .gt 59, 3) := by decide +kernel
theorem dX1_inFirstOrder_24 : decode cX1_inFirstOrder 24 = .ok (.ldc 15, 2) := by decide +kernel
theorem dX1_inFirstOrder_26 : decode cX1_inFirstOrder 26 = .ok (.istore 4, 2) := by decide +kernel
theorem dX1_inFirstOrder_28 : decode cX1_inFirstOrder 28 = .ok (.iconst 5, 1) := by decide +kernel
theorem dX1_inFirstOrder_29 : decode cX1_inFirstOrder 29 = .ok (.istore 6, 2) := by decide +kernel
theorem dX1_inFirstOrder_31 : decode cX1_inFirstOrder 31 = .ok (.iload 6, 2) := by decide +kernel
theorem dX1_inFirstOrder_33 : decode cX1_inFirstOrder 33 = .ok (.ifCond .lt 24, 3) := by decide +kernel
theorem dX1_inFirstOrder_36 : decode cX1_inFirstOrder 36 = .ok (.aload_n 0, 1) := by decide +kernel
theorem dX1_inFirstOrder_37 : decode cX1_inFirstOrder 37 = .ok (.iload_n 1, 1) := by decide +kernel
theorem dX1_inFirstOrder_38 : decode cX1_inFirstOrder 38 = .ok (.iload_n 3, 1) := by decide +kernel
theorem dX1_inFirstOrder_39 : decode cX1_inFirstOrder 39 = .ok (.iload 6, 2) := by decide +kernel
theorem dX1_inFirstOrder_41 : decode cX1_inFirstOrder 41 = .ok (.invokestatic 74, 3) := by decide +kernel
theorem dX1_inFirstOrder_44 : decode cX1_inFirstOrder 44 = .ok (.ifCond .le 7, 3) := by decide +kernel
theorem dX1_inFirstOrder_47 : decode cX1_inFirstOrder 47 = .ok (.iload 6, 2) := by decide +kernel
theorem dX1_inFirstOrder_49 : decode cX1_inFirstOrder 49 = .ok (.istore 4, 2) := by decide +kernel
theorem dX1_inFirstOrder_51 : decode cX1_inFirstOrder 51 = .ok (.iinc 6 (-1), 3) := by decide +kernel
theorem dX1_inFirstOrder_54 : decode cX1_inFirstOrder 54 = .ok (.goto (-23), 3) := by decide +kernel
theorem dX1_inFirstOrder_57 : decode cX1_inFirstOrder 57 = .ok (.iload 4, 2) := by decide +kernel
theorem dX1_inFirstOrder_59 : decode cX1_inFirstOrder 59 = .ok (.ldc 15, 2) := by decide +kernel
theorem dX1_inFirstOrder_61 : decode cX1_inFirstOrder 61 = .ok (.if_icmp .ne 6, 3) := by decide +kernel
theorem dX1_inFirstOrder_64 : decode cX1_inFirstOrder 64 = .ok (.ldc 15, 2) := by decide +kernel
theorem dX1_inFirstOrder_66 : decode cX1_inFirstOrder 66 = .ok (.ireturn, 1) := by decide +kernel
theorem dX1_inFirstOrder_67 : decode cX1_inFirstOrder 67 = .ok (.iload_n 3, 1) := by decide +kernel
theorem dX1_inFirstOrder_68 : decode cX1_inFirstOrder 68 = .ok (.iconst 1, 1) := by decide +kernel
theorem dX1_inFirstOrder_69 : decode cX1_inFirstOrder 69 = .ok (.iload 4, 2) := by decide +kernel
theorem dX1_inFirstOrder_71 : decode cX1_inFirstOrder 71 = .ok (.ishl, 1) := by decide +kernel
theorem dX1_inFirstOrder_72 : decode cX1_inFirstOrder 72 = .ok (.ior, 1) := by decide +kernel
theorem dX1_inFirstOrder_73 : decode cX1_inFirstOrder 73 = .ok (.istore_n 3, 1) := by decide +kernel
theorem dX1_inFirstOrder_74 : decode cX1_inFirstOrder 74 = .ok (.iinc 5 1, 3) := by decide +kernel
theorem dX1_inFirstOrder_77 : decode cX1_inFirstOrder 77 = .ok (.goto (-59), 3) := by decide +kernel
theorem dX1_inFirstOrder_80 : decode cX1_inFirstOrder 80 = .ok (.iload 4, 2) := by decide +kernel
theorem dX1_inFirstOrder_82 : decode cX1_inFirstOrder 82 = .ok (.ireturn, 1) := by decide +kernel
set_option maxRecDepth 20000 in
theorem ggX1_cutRopes_X3_hangsAs : GoodIn wsX1_cutRopes wsX3_hangsAs := goodIn_r _ [6, 7, 8, 9, 10, 11, 12, 13, 14, 15, 16, 17, 18, 19, 20, 21, 5, 22, 23, 24, 25, 26, 27, 28, 29, 30, 31, 32, 33, 34, 35, 36, 37, 38, 39, 40, 41, 42, 43, 44, 45, 46, 47, 48, 49, 50, 51, 52, 53, 54, 55, 56, 57, 58, 59, 60, 61, 62, 63, 64, 65, 66, 67, 68, 69, 70, 71, 72, 73, 74, 75, 76, 77, 78, 79, 80, 81, 82, 83, 84, 85, 86, 87, 88, 89, 90, 91, 92, 93, 94, 95, 96, 97, 98, 99, 100, 101, 102, 103, 104, 105, 106, 107, 108, 109, 110, 111, 112, 113, 114, 115, 116, 117, 118, 119, 120, 121, 122, 123, 124, 125, 126, 127, 128, 129, 130, 131] (by decide +kernel) (by decide +kernel)
set_option maxRecDepth 20000 in
theorem gX1_cutRopes_X3_hangsAs : GoodIn wsX1_cutRopes (wsV RX1 82 RX3 yX3_hangsAs wsX3_hangsAs) := goodIn_app (goodIn_of _ (by decide +kernel)) ggX1_cutRopes_X3_hangsAs
theorem dX1_cutRopes_0 : decode cX1_cutRopes 0 = .ok (.iconst 0, 1) := by decide +kernel
theorem dX1_cutRopes_1 : decode cX1_cutRopes 1 = .ok (.istore_n 3, 1) := by decide +kernel
theorem dX1_cutRopes_2 : decode cX1_cutRopes 2 = .ok (.iconst 0, 1) := by decide +kernel
theorem dX1_cutRopes_3 : decode cX1_cutRopes 3 = .ok (.istore 4, 2) := by decide +kernel
theorem dX1_cutRopes_5 : decode cX1_cutRopes 5 = .ok (.iload 4, 2) := by decide +kernel
theorem dX1_cutRopes_7 : decode cX1_cutRopes 7 = .ok (.iconst 3, 1) := by decide +kernel
theorem dX1_cutRopes_8 : decode cX1_cutRopes 8 = .ok (.if_icmp .ge 60, 3) := by decide +kernel
theorem dX1_cutRopes_11 : decode cX1_cutRopes 11 = .ok (.aload_n 0, 1) := by decide +kernel
theorem dX1_cutRopes_12 : decode cX1_cutRopes 12 = .ok (.getfield 78, 3) := by decide +kernel
theorem dX1_cutRopes_15 : decode cX1_cutRopes 15 = .ok (.iload 4, 2) := by decide +kernel
theorem dX1_cutRopes_17 : decode cX1_cutRopes 17 = .ok (.iaload, 1) := by decide +kernel
theorem dX1_cutRopes_18 : decode cX1_cutRopes 18 = .ok (.istore 5, 2) := by decide +kernel
theorem dX1_cutRopes_20 : decode cX1_cutRopes 20 = .ok (.iload 5, 2) := by decide +kernel
theorem dX1_cutRopes_22 : decode cX1_cutRopes 22 = .ok (.iconst 1, 1) := by decide +kernel
theorem dX1_cutRopes_23 : decode cX1_cutRopes 23 = .ok (.if_icmp .le 39, 3) := by decide +kernel
theorem dX1_cutRopes_26 : decode cX1_cutRopes 26 = .ok (.aload_n 0, 1) := by decide +kernel
theorem dX1_cutRopes_27 : decode cX1_cutRopes 27 = .ok (.getfield 78, 3) := by decide +kernel
theorem dX1_cutRopes_30 : decode cX1_cutRopes 30 = .ok (.iload 4, 2) := by decide +kernel
theorem dX1_cutRopes_32 : decode cX1_cutRopes 32 = .ok (.iload 5, 2) := by decide +kernel
theorem dX1_cutRopes_34 : decode cX1_cutRopes 34 = .ok (.iconst 1, 1) := by decide +kernel
theorem dX1_cutRopes_35 : decode cX1_cutRopes 35 = .ok (.isub, 1) := by decide +kernel
theorem dX1_cutRopes_36 : decode cX1_cutRopes 36 = .ok (.iastore, 1) := by decide +kernel
theorem dX1_cutRopes_37 : decode cX1_cutRopes 37 = .ok (.aload_n 0, 1) := by decide +kernel
theorem dX1_cutRopes_38 : decode cX1_cutRopes 38 = .ok (.aload_n 1, 1) := by decide +kernel
theorem dX1_cutRopes_39 : decode cX1_cutRopes 39 = .ok (.iload_n 2, 1) := by decide +kernel
theorem dX1_cutRopes_40 : decode cX1_cutRopes 40 = .ok (.invokevirtual 82, 3) := by decide +kernel
theorem dX1_cutRopes_43 : decode cX1_cutRopes 43 = .ok (.ifCond .eq 10, 3) := by decide +kernel
theorem dX1_cutRopes_46 : decode cX1_cutRopes 46 = .ok (.iload_n 3, 1) := by decide +kernel
theorem dX1_cutRopes_47 : decode cX1_cutRopes 47 = .ok (.iconst 1, 1) := by decide +kernel
theorem dX1_cutRopes_48 : decode cX1_cutRopes 48 = .ok (.iload 4, 2) := by decide +kernel
theorem dX1_cutRopes_50 : decode cX1_cutRopes 50 = .ok (.ishl, 1) := by decide +kernel
theorem dX1_cutRopes_51 : decode cX1_cutRopes 51 = .ok (.ior, 1) := by decide +kernel
theorem dX1_cutRopes_52 : decode cX1_cutRopes 52 = .ok (.istore_n 3, 1) := by decide +kernel
theorem dX1_cutRopes_53 : decode cX1_cutRopes 53 = .ok (.aload_n 0, 1) := by decide +kernel
theorem dX1_cutRopes_54 : decode cX1_cutRopes 54 = .ok (.getfield 78, 3) := by decide +kernel
theorem dX1_cutRopes_57 : decode cX1_cutRopes 57 = .ok (.iload 4, 2) := by decide +kernel
theorem dX1_cutRopes_59 : decode cX1_cutRopes 59 = .ok (.iload 5, 2) := by decide +kernel
theorem dX1_cutRopes_61 : decode cX1_cutRopes 61 = .ok (.iastore, 1) := by decide +kernel
theorem dX1_cutRopes_62 : decode cX1_cutRopes 62 = .ok (.iinc 4 1, 3) := by decide +kernel
theorem dX1_cutRopes_65 : decode cX1_cutRopes 65 = .ok (.goto (-60), 3) := by decide +kernel
theorem dX1_cutRopes_68 : decode cX1_cutRopes 68 = .ok (.iload_n 3, 1) := by decide +kernel
theorem dX1_cutRopes_69 : decode cX1_cutRopes 69 = .ok (.ireturn, 1) := by decide +kernel
set_option maxRecDepth 20000 in
theorem ggX1_goodsInBox_X3_depth : GoodIn wsX1_goodsInBox wsX3_depth := goodIn_r _ [9, 10, 11, 12, 8, 13, 14, 15, 16, 17, 18, 19, 20, 21, 22, 23, 24, 25, 26, 27, 28, 29, 30, 31, 32, 33, 34, 35, 36, 37, 38, 39, 40, 41, 42, 43, 44, 45, 46, 47, 48, 49, 50, 51, 52, 53, 54, 55, 56, 57, 58, 59, 60, 61, 62, 63, 64, 65, 66, 67, 68, 69, 70, 71, 72, 73, 74, 75, 76, 77, 113, 114, 115, 116, 117, 118, 78, 79, 80, 81, 82, 83, 84, 85, 86, 87, 88, 89, 90, 91, 92, 93, 94, 95, 96, 97, 98, 99, 100, 101, 102, 103, 104, 105, 106, 107, 108, 109, 110, 111, 112] (by decide +kernel) (by decide +kernel)
set_option maxRecDepth 20000 in
theorem gX1_goodsInBox_X3_depth : GoodIn wsX1_goodsInBox (wsV RX1 89 RX3 yX3_depth wsX3_depth) := goodIn_app (goodIn_of _ (by decide +kernel)) ggX1_goodsInBox_X3_depth
theorem dX1_goodsInBox_0 : decode cX1_goodsInBox 0 = .ok (.aload_n 1, 1) := by decide +kernel
theorem dX1_goodsInBox_1 : decode cX1_goodsInBox 1 = .ok (.getfield 86, 3) := by decide +kernel
theorem dX1_goodsInBox_4 : decode cX1_goodsInBox 4 = .ok (.istore 4, 2) := by decide +kernel
theorem dX1_goodsInBox_6 : decode cX1_goodsInBox 6 = .ok (.ldc 15, 2) := by decide +kernel
theorem dX1_goodsInBox_8 : decode cX1_goodsInBox 8 = .ok (.istore 5, 2) := by decide +kernel
theorem dX1_goodsInBox_10 : decode cX1_goodsInBox 10 = .ok (.ldc 15, 2) := by decide +kernel
theorem dX1_goodsInBox_12 : decode cX1_goodsInBox 12 = .ok (.istore 6, 2) := by decide +kernel
theorem dX1_goodsInBox_14 : decode cX1_goodsInBox 14 = .ok (.iconst 0, 1) := by decide +kernel
theorem dX1_goodsInBox_15 : decode cX1_goodsInBox 15 = .ok (.istore 7, 2) := by decide +kernel
theorem dX1_goodsInBox_17 : decode cX1_goodsInBox 17 = .ok (.iload 7, 2) := by decide +kernel
theorem dX1_goodsInBox_19 : decode cX1_goodsInBox 19 = .ok (.bipush 20, 2) := by decide +kernel
theorem dX1_goodsInBox_21 : decode cX1_goodsInBox 21 = .ok (.if_icmp .gt 51, 3) := by decide +kernel
theorem dX1_goodsInBox_24 : decode cX1_goodsInBox 24 = .ok (.aload_n 1, 1) := by decide +kernel
theorem dX1_goodsInBox_25 : decode cX1_goodsInBox 25 = .ok (.iload 7, 2) := by decide +kernel
theorem dX1_goodsInBox_27 : decode cX1_goodsInBox 27 = .ok (.putfield 86, 3) := by decide +kernel
theorem dX1_goodsInBox_30 : decode cX1_goodsInBox 30 = .ok (.aload_n 0, 1) := by decide +kernel
theorem dX1_goodsInBox_31 : decode cX1_goodsInBox 31 = .ok (.aload_n 1, 1) := by decide +kernel
theorem dX1_goodsInBox_32 : decode cX1_goodsInBox 32 = .ok (.getfield 35, 3) := by decide +kernel
theorem dX1_goodsInBox_35 : decode cX1_goodsInBox 35 = .ok (.aload_n 1, 1) := by decide +kernel
theorem dX1_goodsInBox_36 : decode cX1_goodsInBox 36 = .ok (.getfield 42, 3) := by decide +kernel
theorem dX1_goodsInBox_39 : decode cX1_goodsInBox 39 = .ok (.invokevirtual 89, 3) := by decide +kernel
theorem dX1_goodsInBox_42 : decode cX1_goodsInBox 42 = .ok (.iload_n 2, 1) := by decide +kernel
theorem dX1_goodsInBox_43 : decode cX1_goodsInBox 43 = .ok (.if_icmp .ne 23, 3) := by decide +kernel
theorem dX1_goodsInBox_46 : decode cX1_goodsInBox 46 = .ok (.iload 5, 2) := by decide +kernel
theorem dX1_goodsInBox_48 : decode cX1_goodsInBox 48 = .ok (.ldc 15, 2) := by decide +kernel
theorem dX1_goodsInBox_50 : decode cX1_goodsInBox 50 = .ok (.if_icmp .ne 8, 3) := by decide +kernel
theorem dX1_goodsInBox_53 : decode cX1_goodsInBox 53 = .ok (.iload 7, 2) := by decide +kernel
theorem dX1_goodsInBox_55 : decode cX1_goodsInBox 55 = .ok (.goto 5, 3) := by decide +kernel
theorem dX1_goodsInBox_58 : decode cX1_goodsInBox 58 = .ok (.iload 5, 2) := by decide +kernel
theorem dX1_goodsInBox_60 : decode cX1_goodsInBox 60 = .ok (.istore 5, 2) := by decide +kernel
theorem dX1_goodsInBox_62 : decode cX1_goodsInBox 62 = .ok (.iload 7, 2) := by decide +kernel
theorem dX1_goodsInBox_64 : decode cX1_goodsInBox 64 = .ok (.istore 6, 2) := by decide +kernel
theorem dX1_goodsInBox_66 : decode cX1_goodsInBox 66 = .ok (.iinc 7 1, 3) := by decide +kernel
theorem dX1_goodsInBox_69 : decode cX1_goodsInBox 69 = .ok (.goto (-52), 3) := by decide +kernel
theorem dX1_goodsInBox_72 : decode cX1_goodsInBox 72 = .ok (.aload_n 1, 1) := by decide +kernel
theorem dX1_goodsInBox_73 : decode cX1_goodsInBox 73 = .ok (.iload 4, 2) := by decide +kernel
theorem dX1_goodsInBox_75 : decode cX1_goodsInBox 75 = .ok (.putfield 86, 3) := by decide +kernel
theorem dX1_goodsInBox_78 : decode cX1_goodsInBox 78 = .ok (.iload_n 3, 1) := by decide +kernel
theorem dX1_goodsInBox_79 : decode cX1_goodsInBox 79 = .ok (.ifCond .ne 8, 3) := by decide +kernel
theorem dX1_goodsInBox_82 : decode cX1_goodsInBox 82 = .ok (.iload 5, 2) := by decide +kernel
theorem dX1_goodsInBox_84 : decode cX1_goodsInBox 84 = .ok (.goto 5, 3) := by decide +kernel
theorem dX1_goodsInBox_87 : decode cX1_goodsInBox 87 = .ok (.iload 6, 2) := by decide +kernel
theorem dX1_goodsInBox_89 : decode cX1_goodsInBox 89 = .ok (.ireturn, 1) := by decide +kernel
set_option maxRecDepth 20000 in
theorem ggX1_goodsRead_X3_hangsAs : GoodIn wsX1_goodsRead wsX3_hangsAs := goodIn_r _ [7, 8, 9, 10, 11, 12, 13, 14, 15, 16, 17, 18, 19, 20, 21, 22, 6, 23, 24, 25, 26, 27, 28, 29, 30, 31, 32, 33, 34, 35, 36, 37, 38, 39, 40, 41, 42, 43, 44, 45, 46, 47, 48, 49, 50, 51, 52, 53, 54, 55, 56, 57, 58, 59, 60, 61, 62, 63, 64, 65, 66, 67, 68, 69, 70, 71, 72, 73, 74, 75, 76, 77, 78, 79, 80, 81, 82, 83, 84, 85, 86, 87, 88, 124, 125, 126, 127, 128, 129, 130, 131, 132, 89, 90, 91, 92, 93, 94, 95, 96, 97, 98, 99, 100, 101, 102, 103, 104, 105, 106, 107, 108, 109, 110, 111, 112, 113, 114, 115, 116, 117, 118, 119, 120, 121, 122, 123] (by decide +kernel) (by decide +kernel)
set_option maxRecDepth 20000 in
theorem gX1_goodsRead_X3_hangsAs : GoodIn wsX1_goodsRead (wsV RX1 82 RX3 yX3_hangsAs wsX3_hangsAs) := goodIn_app (goodIn_of _ (by decide +kernel)) ggX1_goodsRead_X3_hangsAs
theorem dX1_goodsRead_0 : decode cX1_goodsRead 0 = .ok (.aload_n 1, 1) := by decide +kernel
theorem dX1_goodsRead_1 : decode cX1_goodsRead 1 = .ok (.getfield 86, 3) := by decide +kernel
theorem dX1_goodsRead_4 : decode cX1_goodsRead 4 = .ok (.istore 6, 2) := by decide +kernel
theorem dX1_goodsRead_6 : decode cX1_goodsRead 6 = .ok (.aload_n 2, 1) := by decide +kernel
theorem dX1_goodsRead_7 : decode cX1_goodsRead 7 = .ok (.getfield 86, 3) := by decide +kernel
theorem dX1_goodsRead_10 : decode cX1_goodsRead 10 = .ok (.istore 7, 2) := by decide +kernel
theorem dX1_goodsRead_12 : decode cX1_goodsRead 12 = .ok (.iconst 0, 1) := by decide +kernel
theorem dX1_goodsRead_13 : decode cX1_goodsRead 13 = .ok (.istore 8, 2) := by decide +kernel
theorem dX1_goodsRead_15 : decode cX1_goodsRead 15 = .ok (.ldc 15, 2) := by decide +kernel
theorem dX1_goodsRead_17 : decode cX1_goodsRead 17 = .ok (.istore 9, 2) := by decide +kernel
theorem dX1_goodsRead_19 : decode cX1_goodsRead 19 = .ok (.iconst 0, 1) := by decide +kernel
theorem dX1_goodsRead_20 : decode cX1_goodsRead 20 = .ok (.istore 10, 2) := by decide +kernel
theorem dX1_goodsRead_22 : decode cX1_goodsRead 22 = .ok (.iload 10, 2) := by decide +kernel
theorem dX1_goodsRead_24 : decode cX1_goodsRead 24 = .ok (.bipush 20, 2) := by decide +kernel
theorem dX1_goodsRead_26 : decode cX1_goodsRead 26 = .ok (.if_icmp .gt 72, 3) := by decide +kernel
theorem dX1_goodsRead_29 : decode cX1_goodsRead 29 = .ok (.iconst 0, 1) := by decide +kernel
theorem dX1_goodsRead_30 : decode cX1_goodsRead 30 = .ok (.istore 11, 2) := by decide +kernel
theorem dX1_goodsRead_32 : decode cX1_goodsRead 32 = .ok (.iload 11, 2) := by decide +kernel
theorem dX1_goodsRead_34 : decode cX1_goodsRead 34 = .ok (.bipush 20, 2) := by decide +kernel
theorem dX1_goodsRead_36 : decode cX1_goodsRead 36 = .ok (.if_icmp .gt 56, 3) := by decide +kernel
theorem dX1_goodsRead_39 : decode cX1_goodsRead 39 = .ok (.aload_n 1, 1) := by decide +kernel
theorem dX1_goodsRead_40 : decode cX1_goodsRead 40 = .ok (.iload 10, 2) := by decide +kernel
theorem dX1_goodsRead_42 : decode cX1_goodsRead 42 = .ok (.putfield 86, 3) := by decide +kernel
theorem dX1_goodsRead_45 : decode cX1_goodsRead 45 = .ok (.aload_n 2, 1) := by decide +kernel
theorem dX1_goodsRead_46 : decode cX1_goodsRead 46 = .ok (.iload 11, 2) := by decide +kernel
theorem dX1_goodsRead_48 : decode cX1_goodsRead 48 = .ok (.putfield 86, 3) := by decide +kernel
theorem dX1_goodsRead_51 : decode cX1_goodsRead 51 = .ok (.aload_n 0, 1) := by decide +kernel
theorem dX1_goodsRead_52 : decode cX1_goodsRead 52 = .ok (.aload_n 3, 1) := by decide +kernel
theorem dX1_goodsRead_53 : decode cX1_goodsRead 53 = .ok (.iload 4, 2) := by decide +kernel
theorem dX1_goodsRead_55 : decode cX1_goodsRead 55 = .ok (.invokevirtual 82, 3) := by decide +kernel
theorem dX1_goodsRead_58 : decode cX1_goodsRead 58 = .ok (.ifCond .eq 28, 3) := by decide +kernel
theorem dX1_goodsRead_61 : decode cX1_goodsRead 61 = .ok (.iload 9, 2) := by decide +kernel
theorem dX1_goodsRead_63 : decode cX1_goodsRead 63 = .ok (.ldc 15, 2) := by decide +kernel
theorem dX1_goodsRead_65 : decode cX1_goodsRead 65 = .ok (.if_icmp .ne 14, 3) := by decide +kernel
theorem dX1_goodsRead_68 : decode cX1_goodsRead 68 = .ok (.bipush 21, 2) := by decide +kernel
theorem dX1_goodsRead_70 : decode cX1_goodsRead 70 = .ok (.iload 10, 2) := by decide +kernel
theorem dX1_goodsRead_72 : decode cX1_goodsRead 72 = .ok (.imul, 1) := by decide +kernel
theorem dX1_goodsRead_73 : decode cX1_goodsRead 73 = .ok (.iload 11, 2) := by decide +kernel
theorem dX1_goodsRead_75 : decode cX1_goodsRead 75 = .ok (.iadd, 1) := by decide +kernel
theorem dX1_goodsRead_76 : decode cX1_goodsRead 76 = .ok (.goto 5, 3) := by decide +kernel
theorem dX1_goodsRead_79 : decode cX1_goodsRead 79 = .ok (.iload 9, 2) := by decide +kernel
theorem dX1_goodsRead_81 : decode cX1_goodsRead 81 = .ok (.istore 9, 2) := by decide +kernel
theorem dX1_goodsRead_83 : decode cX1_goodsRead 83 = .ok (.iinc 8 1, 3) := by decide +kernel
theorem dX1_goodsRead_86 : decode cX1_goodsRead 86 = .ok (.iinc 11 1, 3) := by decide +kernel
theorem dX1_goodsRead_89 : decode cX1_goodsRead 89 = .ok (.goto (-57), 3) := by decide +kernel
theorem dX1_goodsRead_92 : decode cX1_goodsRead 92 = .ok (.iinc 10 1, 3) := by decide +kernel
theorem dX1_goodsRead_95 : decode cX1_goodsRead 95 = .ok (.goto (-73), 3) := by decide +kernel
theorem dX1_goodsRead_98 : decode cX1_goodsRead 98 = .ok (.aload_n 1, 1) := by decide +kernel
theorem dX1_goodsRead_99 : decode cX1_goodsRead 99 = .ok (.iload 6, 2) := by decide +kernel
theorem dX1_goodsRead_101 : decode cX1_goodsRead 101 = .ok (.putfield 86, 3) := by decide +kernel
theorem dX1_goodsRead_104 : decode cX1_goodsRead 104 = .ok (.aload_n 2, 1) := by decide +kernel
theorem dX1_goodsRead_105 : decode cX1_goodsRead 105 = .ok (.iload 7, 2) := by decide +kernel
theorem dX1_goodsRead_107 : decode cX1_goodsRead 107 = .ok (.putfield 86, 3) := by decide +kernel
theorem dX1_goodsRead_110 : decode cX1_goodsRead 110 = .ok (.iload 5, 2) := by decide +kernel
theorem dX1_goodsRead_112 : decode cX1_goodsRead 112 = .ok (.ifCond .ne 8, 3) := by decide +kernel
theorem dX1_goodsRead_115 : decode cX1_goodsRead 115 = .ok (.iload 8, 2) := by decide +kernel
theorem dX1_goodsRead_117 : decode cX1_goodsRead 117 = .ok (.goto 5, 3) := by decide +kernel
theorem dX1_goodsRead_120 : decode cX1_goodsRead 120 = .ok (.iload 9, 2) := by decide +kernel
theorem dX1_goodsRead_122 : decode cX1_goodsRead 122 = .ok (.ireturn, 1) := by decide +kernel
set_option maxRecDepth 20000 in
theorem ggX1_leastTaut_X3_firstDropping : GoodIn wsX1_leastTaut wsX3_firstDropping := goodIn_r _ [7, 8, 9, 10, 11, 12, 13, 14, 15, 16, 6, 17, 18, 19, 20, 21, 22, 23, 24, 25, 26, 27, 28, 29, 30, 31, 32, 33, 34, 35, 36, 37, 38, 39, 40, 41, 42, 43, 44, 45, 46, 47, 48, 49, 50, 51, 52, 53, 54, 55, 56, 57, 58, 59, 60, 61, 62, 63, 64, 65, 66, 67, 68, 69, 70, 71, 72, 73, 74, 75, 76, 77, 78, 79, 80, 81, 82, 83, 84, 85, 86, 87, 88, 89, 90, 91, 92, 93, 94, 95, 96, 97, 98, 99, 100, 101, 102, 103, 104, 105, 106, 107, 108, 109, 110, 111, 112, 113, 114, 115, 116, 117, 118, 119, 120, 121, 122, 123] (by decide +kernel) (by decide +kernel)
set_option maxRecDepth 20000 in
theorem gX1_leastTaut_X3_firstDropping : GoodIn wsX1_leastTaut (wsV RX1 70 RX3 yX3_firstDropping wsX3_firstDropping) := goodIn_app (goodIn_of _ (by decide +kernel)) ggX1_leastTaut_X3_firstDropping
theorem dX1_leastTaut_0 : decode cX1_leastTaut 0 = .ok (.iload_n 1, 1) := by decide +kernel
theorem dX1_leastTaut_1 : decode cX1_leastTaut 1 = .ok (.ifCond .lt 8, 3) := by decide +kernel
theorem dX1_leastTaut_4 : decode cX1_leastTaut 4 = .ok (.iload_n 1, 1) := by decide +kernel
theorem dX1_leastTaut_5 : decode cX1_leastTaut 5 = .ok (.iconst 3, 1) := by decide +kernel
theorem dX1_leastTaut_6 : decode cX1_leastTaut 6 = .ok (.if_icmp .lt 6, 3) := by decide +kernel
theorem dX1_leastTaut_9 : decode cX1_leastTaut 9 = .ok (.ldc 15, 2) := by decide +kernel
theorem dX1_leastTaut_11 : decode cX1_leastTaut 11 = .ok (.ireturn, 1) := by decide +kernel
theorem dX1_leastTaut_12 : decode cX1_leastTaut 12 = .ok (.aload_n 0, 1) := by decide +kernel
theorem dX1_leastTaut_13 : decode cX1_leastTaut 13 = .ok (.getfield 78, 3) := by decide +kernel
theorem dX1_leastTaut_16 : decode cX1_leastTaut 16 = .ok (.iload_n 1, 1) := by decide +kernel
theorem dX1_leastTaut_17 : decode cX1_leastTaut 17 = .ok (.iaload, 1) := by decide +kernel
theorem dX1_leastTaut_18 : decode cX1_leastTaut 18 = .ok (.istore_n 2, 1) := by decide +kernel
theorem dX1_leastTaut_19 : decode cX1_leastTaut 19 = .ok (.ldc 15, 2) := by decide +kernel
theorem dX1_leastTaut_21 : decode cX1_leastTaut 21 = .ok (.istore_n 3, 1) := by decide +kernel
theorem dX1_leastTaut_22 : decode cX1_leastTaut 22 = .ok (.iconst 1, 1) := by decide +kernel
theorem dX1_leastTaut_23 : decode cX1_leastTaut 23 = .ok (.istore 4, 2) := by decide +kernel
theorem dX1_leastTaut_25 : decode cX1_leastTaut 25 = .ok (.iload 4, 2) := by decide +kernel
theorem dX1_leastTaut_27 : decode cX1_leastTaut 27 = .ok (.bipush 40, 2) := by decide +kernel
theorem dX1_leastTaut_29 : decode cX1_leastTaut 29 = .ok (.if_icmp .gt 35, 3) := by decide +kernel
theorem dX1_leastTaut_32 : decode cX1_leastTaut 32 = .ok (.iload_n 3, 1) := by decide +kernel
theorem dX1_leastTaut_33 : decode cX1_leastTaut 33 = .ok (.ldc 15, 2) := by decide +kernel
theorem dX1_leastTaut_35 : decode cX1_leastTaut 35 = .ok (.if_icmp .ne 29, 3) := by decide +kernel
theorem dX1_leastTaut_38 : decode cX1_leastTaut 38 = .ok (.aload_n 0, 1) := by decide +kernel
theorem dX1_leastTaut_39 : decode cX1_leastTaut 39 = .ok (.getfield 78, 3) := by decide +kernel
theorem dX1_leastTaut_42 : decode cX1_leastTaut 42 = .ok (.iload_n 1, 1) := by decide +kernel
theorem dX1_leastTaut_43 : decode cX1_leastTaut 43 = .ok (.iload 4, 2) := by decide +kernel
theorem dX1_leastTaut_45 : decode cX1_leastTaut 45 = .ok (.iastore, 1) := by decide +kernel
theorem dX1_leastTaut_46 : decode cX1_leastTaut 46 = .ok (.aload_n 0, 1) := by decide +kernel
theorem dX1_leastTaut_47 : decode cX1_leastTaut 47 = .ok (.invokevirtual 70, 3) := by decide +kernel
theorem dX1_leastTaut_50 : decode cX1_leastTaut 50 = .ok (.ldc 15, 2) := by decide +kernel
theorem dX1_leastTaut_52 : decode cX1_leastTaut 52 = .ok (.if_icmp .ne 6, 3) := by decide +kernel
theorem dX1_leastTaut_55 : decode cX1_leastTaut 55 = .ok (.iload 4, 2) := by decide +kernel
theorem dX1_leastTaut_57 : decode cX1_leastTaut 57 = .ok (.istore_n 3, 1) := by decide +kernel
theorem dX1_leastTaut_58 : decode cX1_leastTaut 58 = .ok (.iinc 4 1, 3) := by decide +kernel
theorem dX1_leastTaut_61 : decode cX1_leastTaut 61 = .ok (.goto (-36), 3) := by decide +kernel
theorem dX1_leastTaut_64 : decode cX1_leastTaut 64 = .ok (.aload_n 0, 1) := by decide +kernel
theorem dX1_leastTaut_65 : decode cX1_leastTaut 65 = .ok (.getfield 78, 3) := by decide +kernel
theorem dX1_leastTaut_68 : decode cX1_leastTaut 68 = .ok (.iload_n 1, 1) := by decide +kernel
theorem dX1_leastTaut_69 : decode cX1_leastTaut 69 = .ok (.iload_n 2, 1) := by decide +kernel
theorem dX1_leastTaut_70 : decode cX1_leastTaut 70 = .ok (.iastore, 1) := by decide +kernel
theorem dX1_leastTaut_71 : decode cX1_leastTaut 71 = .ok (.iload_n 3, 1) := by decide +kernel
theorem dX1_leastTaut_72 : decode cX1_leastTaut 72 = .ok (.ireturn, 1) := by decide +kernel
set_option maxRecDepth 20000 in
theorem ggX1_rainsToDrop_X3_firstDropping : GoodIn wsX1_rainsToDrop wsX3_firstDropping := goodIn_r _ [7, 8, 9, 10, 11, 12, 13, 14, 15, 16, 6, 17, 18, 19, 20, 21, 22, 23, 24, 25, 26, 27, 28, 29, 30, 31, 32, 33, 34, 35, 36, 37, 38, 39, 40, 41, 42, 43, 44, 45, 46, 47, 48, 49, 50, 51, 52, 53, 54, 55, 56, 57, 58, 59, 60, 61, 62, 63, 64, 65, 66, 67, 68, 69, 70, 71, 72, 73, 74, 75, 76, 77, 78, 79, 80, 81, 82, 83, 84, 85, 86, 87, 88, 89, 90, 91, 92, 93, 94, 95, 96, 97, 98, 99, 100, 101, 102, 103, 104, 105, 106, 107, 108, 109, 110, 111, 112, 113, 114, 115, 116, 117, 118, 119, 120, 121, 122, 123] (by decide +kernel) (by decide +kernel)
set_option maxRecDepth 20000 in
theorem gX1_rainsToDrop_X3_firstDropping : GoodIn wsX1_rainsToDrop (wsV RX1 70 RX3 yX3_firstDropping wsX3_firstDropping) := goodIn_app (goodIn_of _ (by decide +kernel)) ggX1_rainsToDrop_X3_firstDropping
theorem dX1_rainsToDrop_0 : decode cX1_rainsToDrop 0 = .ok (.aload_n 0, 1) := by decide +kernel
theorem dX1_rainsToDrop_1 : decode cX1_rainsToDrop 1 = .ok (.getfield 92, 3) := by decide +kernel
theorem dX1_rainsToDrop_4 : decode cX1_rainsToDrop 4 = .ok (.istore_n 2, 1) := by decide +kernel
theorem dX1_rainsToDrop_5 : decode cX1_rainsToDrop 5 = .ok (.ldc 15, 2) := by decide +kernel
theorem dX1_rainsToDrop_7 : decode cX1_rainsToDrop 7 = .ok (.istore_n 3, 1) := by decide +kernel
theorem dX1_rainsToDrop_8 : decode cX1_rainsToDrop 8 = .ok (.iconst 0, 1) := by decide +kernel
theorem dX1_rainsToDrop_9 : decode cX1_rainsToDrop 9 = .ok (.istore 4, 2) := by decide +kernel
theorem dX1_rainsToDrop_11 : decode cX1_rainsToDrop 11 = .ok (.iload 4, 2) := by decide +kernel
theorem dX1_rainsToDrop_13 : decode cX1_rainsToDrop 13 = .ok (.bipush 99, 2) := by decide +kernel
theorem dX1_rainsToDrop_15 : decode cX1_rainsToDrop 15 = .ok (.if_icmp .gt 48, 3) := by decide +kernel
theorem dX1_rainsToDrop_18 : decode cX1_rainsToDrop 18 = .ok (.iload_n 3, 1) := by decide +kernel
theorem dX1_rainsToDrop_19 : decode cX1_rainsToDrop 19 = .ok (.ldc 15, 2) := by decide +kernel
theorem dX1_rainsToDrop_21 : decode cX1_rainsToDrop 21 = .ok (.if_icmp .ne 42, 3) := by decide +kernel
theorem dX1_rainsToDrop_24 : decode cX1_rainsToDrop 24 = .ok (.aload_n 0, 1) := by decide +kernel
theorem dX1_rainsToDrop_25 : decode cX1_rainsToDrop 25 = .ok (.iload_n 2, 1) := by decide +kernel
theorem dX1_rainsToDrop_26 : decode cX1_rainsToDrop 26 = .ok (.iload 4, 2) := by decide +kernel
theorem dX1_rainsToDrop_28 : decode cX1_rainsToDrop 28 = .ok (.iadd, 1) := by decide +kernel
theorem dX1_rainsToDrop_29 : decode cX1_rainsToDrop 29 = .ok (.putfield 92, 3) := by decide +kernel
theorem dX1_rainsToDrop_32 : decode cX1_rainsToDrop 32 = .ok (.aload_n 0, 1) := by decide +kernel
theorem dX1_rainsToDrop_33 : decode cX1_rainsToDrop 33 = .ok (.invokevirtual 70, 3) := by decide +kernel
theorem dX1_rainsToDrop_36 : decode cX1_rainsToDrop 36 = .ok (.istore 5, 2) := by decide +kernel
theorem dX1_rainsToDrop_38 : decode cX1_rainsToDrop 38 = .ok (.iload 5, 2) := by decide +kernel
theorem dX1_rainsToDrop_40 : decode cX1_rainsToDrop 40 = .ok (.ldc 15, 2) := by decide +kernel
theorem dX1_rainsToDrop_42 : decode cX1_rainsToDrop 42 = .ok (.if_icmp .eq 15, 3) := by decide +kernel
theorem dX1_rainsToDrop_45 : decode cX1_rainsToDrop 45 = .ok (.iload_n 1, 1) := by decide +kernel
theorem dX1_rainsToDrop_46 : decode cX1_rainsToDrop 46 = .ok (.ifCond .ne 8, 3) := by decide +kernel
theorem dX1_rainsToDrop_49 : decode cX1_rainsToDrop 49 = .ok (.iload 4, 2) := by decide +kernel
theorem dX1_rainsToDrop_51 : decode cX1_rainsToDrop 51 = .ok (.goto 5, 3) := by decide +kernel
theorem dX1_rainsToDrop_54 : decode cX1_rainsToDrop 54 = .ok (.iload 5, 2) := by decide +kernel
theorem dX1_rainsToDrop_56 : decode cX1_rainsToDrop 56 = .ok (.istore_n 3, 1) := by decide +kernel
theorem dX1_rainsToDrop_57 : decode cX1_rainsToDrop 57 = .ok (.iinc 4 1, 3) := by decide +kernel
theorem dX1_rainsToDrop_60 : decode cX1_rainsToDrop 60 = .ok (.goto (-49), 3) := by decide +kernel
theorem dX1_rainsToDrop_63 : decode cX1_rainsToDrop 63 = .ok (.aload_n 0, 1) := by decide +kernel
theorem dX1_rainsToDrop_64 : decode cX1_rainsToDrop 64 = .ok (.iload_n 2, 1) := by decide +kernel
theorem dX1_rainsToDrop_65 : decode cX1_rainsToDrop 65 = .ok (.putfield 92, 3) := by decide +kernel
theorem dX1_rainsToDrop_68 : decode cX1_rainsToDrop 68 = .ok (.iload_n 3, 1) := by decide +kernel
theorem dX1_rainsToDrop_69 : decode cX1_rainsToDrop 69 = .ok (.ireturn, 1) := by decide +kernel
set_option maxRecDepth 20000 in
theorem ggX1_dearestPlace_X1_canStand : GoodIn wsX1_dearestPlace wsX1_canStand := goodIn_r _ [6, 7, 8, 9, 10, 11, 12, 13, 14, 15, 16, 91, 92, 93, 94, 95, 96, 97, 98, 99, 100, 101, 102, 103, 104, 105, 106, 107, 108, 109, 110, 111, 112, 113, 114, 115, 116, 117, 118, 119, 120, 121, 122, 123, 124, 125, 126, 127, 128, 129, 130, 131] (by decide +kernel) (by decide +kernel)
set_option maxRecDepth 20000 in
theorem gX1_dearestPlace_X1_canStand : GoodIn wsX1_dearestPlace (va_wsS RX1 95 yX1_canStand wsX1_canStand) := goodIn_app (goodIn_of _ (by decide +kernel)) ggX1_dearestPlace_X1_canStand
set_option maxRecDepth 20000 in
theorem ggX1_dearestPlace_X3_price : GoodIn wsX1_dearestPlace wsX3_price := goodIn_r _ [20, 21, 15, 16, 22, 23, 24, 25, 26, 27, 28, 12, 29, 30, 31, 32, 33, 34, 14, 35, 36, 37, 38, 39, 40, 41, 42, 43, 44, 45, 46, 47, 48, 49, 50, 51, 52, 53, 54, 55, 56, 57, 58, 59, 60, 61, 62, 63, 64, 65, 66, 67, 68, 69, 70, 71, 72, 73, 74, 75, 76, 77, 78, 79, 80, 81, 82, 83, 84, 85, 86, 87, 88, 89, 90, 91, 92, 93, 94, 95, 96, 97, 98, 99, 100, 101, 102, 103, 104, 105, 106, 107, 108, 109, 110, 111, 112, 113, 114, 115, 116, 117, 118, 119, 120, 121, 122, 123, 124, 125, 126, 127, 128, 129, 130, 131] (by decide +kernel) (by decide +kernel)
set_option maxRecDepth 20000 in
theorem gX1_dearestPlace_X3_price : GoodIn wsX1_dearestPlace (wsV RX1 99 RX3 yX3_price wsX3_price) := goodIn_app (goodIn_of _ (by decide +kernel)) ggX1_dearestPlace_X3_price
theorem dX1_dearestPlace_0 : decode cX1_dearestPlace 0 = .ok (.aload_n 1, 1) := by decide +kernel
theorem dX1_dearestPlace_1 : decode cX1_dearestPlace 1 = .ok (.getfield 42, 3) := by decide +kernel
theorem dX1_dearestPlace_4 : decode cX1_dearestPlace 4 = .ok (.istore_n 2, 1) := by decide +kernel
theorem dX1_dearestPlace_5 : decode cX1_dearestPlace 5 = .ok (.iload_n 2, 1) := by decide +kernel
theorem dX1_dearestPlace_6 : decode cX1_dearestPlace 6 = .ok (.istore_n 3, 1) := by decide +kernel
theorem dX1_dearestPlace_7 : decode cX1_dearestPlace 7 = .ok (.ldc 15, 2) := by decide +kernel
theorem dX1_dearestPlace_9 : decode cX1_dearestPlace 9 = .ok (.istore 4, 2) := by decide +kernel
theorem dX1_dearestPlace_11 : decode cX1_dearestPlace 11 = .ok (.iconst 1, 1) := by decide +kernel
theorem dX1_dearestPlace_12 : decode cX1_dearestPlace 12 = .ok (.istore 5, 2) := by decide +kernel
theorem dX1_dearestPlace_14 : decode cX1_dearestPlace 14 = .ok (.iload 5, 2) := by decide +kernel
theorem dX1_dearestPlace_16 : decode cX1_dearestPlace 16 = .ok (.bipush 8, 2) := by decide +kernel
theorem dX1_dearestPlace_18 : decode cX1_dearestPlace 18 = .ok (.if_icmp .gt 51, 3) := by decide +kernel
theorem dX1_dearestPlace_21 : decode cX1_dearestPlace 21 = .ok (.aload_n 0, 1) := by decide +kernel
theorem dX1_dearestPlace_22 : decode cX1_dearestPlace 22 = .ok (.aload_n 1, 1) := by decide +kernel
theorem dX1_dearestPlace_23 : decode cX1_dearestPlace 23 = .ok (.iload 5, 2) := by decide +kernel
theorem dX1_dearestPlace_25 : decode cX1_dearestPlace 25 = .ok (.invokestatic 95, 3) := by decide +kernel
theorem dX1_dearestPlace_28 : decode cX1_dearestPlace 28 = .ok (.ifCond .eq 35, 3) := by decide +kernel
theorem dX1_dearestPlace_31 : decode cX1_dearestPlace 31 = .ok (.aload_n 1, 1) := by decide +kernel
theorem dX1_dearestPlace_32 : decode cX1_dearestPlace 32 = .ok (.iload 5, 2) := by decide +kernel
theorem dX1_dearestPlace_34 : decode cX1_dearestPlace 34 = .ok (.putfield 42, 3) := by decide +kernel
theorem dX1_dearestPlace_37 : decode cX1_dearestPlace 37 = .ok (.aload_n 0, 1) := by decide +kernel
theorem dX1_dearestPlace_38 : decode cX1_dearestPlace 38 = .ok (.aload_n 1, 1) := by decide +kernel
theorem dX1_dearestPlace_39 : decode cX1_dearestPlace 39 = .ok (.invokevirtual 99, 3) := by decide +kernel
theorem dX1_dearestPlace_42 : decode cX1_dearestPlace 42 = .ok (.istore 6, 2) := by decide +kernel
theorem dX1_dearestPlace_44 : decode cX1_dearestPlace 44 = .ok (.aload_n 1, 1) := by decide +kernel
theorem dX1_dearestPlace_45 : decode cX1_dearestPlace 45 = .ok (.iload_n 2, 1) := by decide +kernel
theorem dX1_dearestPlace_46 : decode cX1_dearestPlace 46 = .ok (.putfield 42, 3) := by decide +kernel
theorem dX1_dearestPlace_49 : decode cX1_dearestPlace 49 = .ok (.iload 6, 2) := by decide +kernel
theorem dX1_dearestPlace_51 : decode cX1_dearestPlace 51 = .ok (.iload 4, 2) := by decide +kernel
theorem dX1_dearestPlace_53 : decode cX1_dearestPlace 53 = .ok (.if_icmp .le 10, 3) := by decide +kernel
theorem dX1_dearestPlace_56 : decode cX1_dearestPlace 56 = .ok (.iload 6, 2) := by decide +kernel
theorem dX1_dearestPlace_58 : decode cX1_dearestPlace 58 = .ok (.istore 4, 2) := by decide +kernel
theorem dX1_dearestPlace_60 : decode cX1_dearestPlace 60 = .ok (.iload 5, 2) := by decide +kernel
theorem dX1_dearestPlace_62 : decode cX1_dearestPlace 62 = .ok (.istore_n 3, 1) := by decide +kernel
theorem dX1_dearestPlace_63 : decode cX1_dearestPlace 63 = .ok (.iinc 5 1, 3) := by decide +kernel
theorem dX1_dearestPlace_66 : decode cX1_dearestPlace 66 = .ok (.goto (-52), 3) := by decide +kernel
theorem dX1_dearestPlace_69 : decode cX1_dearestPlace 69 = .ok (.iload_n 3, 1) := by decide +kernel
theorem dX1_dearestPlace_70 : decode cX1_dearestPlace 70 = .ok (.ireturn, 1) := by decide +kernel
set_option maxRecDepth 20000 in
theorem ggX1_rentedPlaces_X1_canStand : GoodIn wsX1_rentedPlaces wsX1_canStand := goodIn_r _ [5, 6, 7, 8, 9, 10, 11, 12, 13, 14, 15, 92, 93, 94, 95, 96, 97, 98, 99, 100, 101, 102, 103, 104, 105, 106, 107, 108, 109, 110, 111, 112, 113, 114, 115, 116, 117, 118, 119, 120, 121, 122, 123, 124, 125, 126, 127, 128, 129, 130, 131, 132] (by decide +kernel) (by decide +kernel)
set_option maxRecDepth 20000 in
theorem gX1_rentedPlaces_X1_canStand : GoodIn wsX1_rentedPlaces (va_wsS RX1 95 yX1_canStand wsX1_canStand) := goodIn_app (goodIn_of _ (by decide +kernel)) ggX1_rentedPlaces_X1_canStand
set_option maxRecDepth 20000 in
theorem ggX1_rentedPlaces_X3_meets : GoodIn wsX1_rentedPlaces wsX3_meets := goodIn_r _ [19, 14, 15, 20, 21, 22, 23, 24, 25, 26, 11, 27, 28, 29, 30, 31, 32, 13, 33, 34, 35, 36, 37, 38, 39, 40, 41, 42, 43, 44, 45, 46, 47, 48, 49, 50, 51, 52, 53, 54, 55, 56, 57, 58, 59, 60, 61, 62, 63, 64, 65, 66, 67, 68, 69, 70, 71, 72, 73, 74, 75, 76, 77, 78, 79, 80, 81, 82, 83, 84, 85, 86, 87, 88, 89, 90, 91, 92, 93, 94, 95, 96, 97, 98, 99, 100, 101, 102, 103, 104, 105, 106, 107, 108, 109, 110, 111, 112, 113, 114, 115, 116, 117, 118, 119, 120, 121, 122, 123, 124, 125, 126, 127, 128, 129, 130, 131, 132] (by decide +kernel) (by decide +kernel)
set_option maxRecDepth 20000 in
theorem gX1_rentedPlaces_X3_meets : GoodIn wsX1_rentedPlaces (wsV RX1 25 RX3 yX3_meets wsX3_meets) := goodIn_app (goodIn_of _ (by decide +kernel)) ggX1_rentedPlaces_X3_meets
theorem dX1_rentedPlaces_0 : decode cX1_rentedPlaces 0 = .ok (.aload_n 1, 1) := by decide +kernel
theorem dX1_rentedPlaces_1 : decode cX1_rentedPlaces 1 = .ok (.getfield 42, 3) := by decide +kernel
theorem dX1_rentedPlaces_4 : decode cX1_rentedPlaces 4 = .ok (.istore 4, 2) := by decide +kernel
theorem dX1_rentedPlaces_6 : decode cX1_rentedPlaces 6 = .ok (.iconst 0, 1) := by decide +kernel
theorem dX1_rentedPlaces_7 : decode cX1_rentedPlaces 7 = .ok (.istore 5, 2) := by decide +kernel
theorem dX1_rentedPlaces_9 : decode cX1_rentedPlaces 9 = .ok (.iconst 1, 1) := by decide +kernel
theorem dX1_rentedPlaces_10 : decode cX1_rentedPlaces 10 = .ok (.istore 6, 2) := by decide +kernel
theorem dX1_rentedPlaces_12 : decode cX1_rentedPlaces 12 = .ok (.iload 6, 2) := by decide +kernel
theorem dX1_rentedPlaces_14 : decode cX1_rentedPlaces 14 = .ok (.bipush 8, 2) := by decide +kernel
theorem dX1_rentedPlaces_16 : decode cX1_rentedPlaces 16 = .ok (.if_icmp .gt 51, 3) := by decide +kernel
theorem dX1_rentedPlaces_19 : decode cX1_rentedPlaces 19 = .ok (.aload_n 0, 1) := by decide +kernel
theorem dX1_rentedPlaces_20 : decode cX1_rentedPlaces 20 = .ok (.aload_n 1, 1) := by decide +kernel
theorem dX1_rentedPlaces_21 : decode cX1_rentedPlaces 21 = .ok (.iload 6, 2) := by decide +kernel
theorem dX1_rentedPlaces_23 : decode cX1_rentedPlaces 23 = .ok (.invokestatic 95, 3) := by decide +kernel
theorem dX1_rentedPlaces_26 : decode cX1_rentedPlaces 26 = .ok (.ifCond .eq 35, 3) := by decide +kernel
theorem dX1_rentedPlaces_29 : decode cX1_rentedPlaces 29 = .ok (.aload_n 1, 1) := by decide +kernel
theorem dX1_rentedPlaces_30 : decode cX1_rentedPlaces 30 = .ok (.iload 6, 2) := by decide +kernel
theorem dX1_rentedPlaces_32 : decode cX1_rentedPlaces 32 = .ok (.putfield 42, 3) := by decide +kernel
theorem dX1_rentedPlaces_35 : decode cX1_rentedPlaces 35 = .ok (.aload_n 0, 1) := by decide +kernel
theorem dX1_rentedPlaces_36 : decode cX1_rentedPlaces 36 = .ok (.aload_n 2, 1) := by decide +kernel
theorem dX1_rentedPlaces_37 : decode cX1_rentedPlaces 37 = .ok (.aload_n 3, 1) := by decide +kernel
theorem dX1_rentedPlaces_38 : decode cX1_rentedPlaces 38 = .ok (.invokevirtual 25, 3) := by decide +kernel
theorem dX1_rentedPlaces_41 : decode cX1_rentedPlaces 41 = .ok (.ifCond .eq 14, 3) := by decide +kernel
theorem dX1_rentedPlaces_44 : decode cX1_rentedPlaces 44 = .ok (.iload 5, 2) := by decide +kernel
theorem dX1_rentedPlaces_46 : decode cX1_rentedPlaces 46 = .ok (.iconst 1, 1) := by decide +kernel
theorem dX1_rentedPlaces_47 : decode cX1_rentedPlaces 47 = .ok (.iload 6, 2) := by decide +kernel
theorem dX1_rentedPlaces_49 : decode cX1_rentedPlaces 49 = .ok (.iconst 1, 1) := by decide +kernel
theorem dX1_rentedPlaces_50 : decode cX1_rentedPlaces 50 = .ok (.isub, 1) := by decide +kernel
theorem dX1_rentedPlaces_51 : decode cX1_rentedPlaces 51 = .ok (.ishl, 1) := by decide +kernel
theorem dX1_rentedPlaces_52 : decode cX1_rentedPlaces 52 = .ok (.ior, 1) := by decide +kernel
theorem dX1_rentedPlaces_53 : decode cX1_rentedPlaces 53 = .ok (.istore 5, 2) := by decide +kernel
theorem dX1_rentedPlaces_55 : decode cX1_rentedPlaces 55 = .ok (.aload_n 1, 1) := by decide +kernel
theorem dX1_rentedPlaces_56 : decode cX1_rentedPlaces 56 = .ok (.iload 4, 2) := by decide +kernel
theorem dX1_rentedPlaces_58 : decode cX1_rentedPlaces 58 = .ok (.putfield 42, 3) := by decide +kernel
theorem dX1_rentedPlaces_61 : decode cX1_rentedPlaces 61 = .ok (.iinc 6 1, 3) := by decide +kernel
theorem dX1_rentedPlaces_64 : decode cX1_rentedPlaces 64 = .ok (.goto (-52), 3) := by decide +kernel
theorem dX1_rentedPlaces_67 : decode cX1_rentedPlaces 67 = .ok (.iload 5, 2) := by decide +kernel
theorem dX1_rentedPlaces_69 : decode cX1_rentedPlaces 69 = .ok (.ireturn, 1) := by decide +kernel
set_option maxRecDepth 20000 in
theorem ggX1_canStand_X3_standing : GoodIn wsX1_canStand wsX3_standing := goodIn_r _ [7, 8, 9, 10, 46, 47, 48, 49, 50, 51, 11, 12, 13, 14, 15, 16, 17, 18, 19, 20, 21, 22, 23, 24, 25, 26, 27, 28, 29, 30, 31, 32, 33, 34, 35, 36, 37, 38, 39, 40, 41, 42, 43, 44, 45] (by decide +kernel) (by decide +kernel)
set_option maxRecDepth 20000 in
theorem gX1_canStand_X3_standing : GoodIn wsX1_canStand (wsV RX1 38 RX3 yX3_standing wsX3_standing) := goodIn_app (goodIn_of _ (by decide +kernel)) ggX1_canStand_X3_standing
theorem dX1_canStand_0 : decode cX1_canStand 0 = .ok (.aload_n 0, 1) := by decide +kernel
theorem dX1_canStand_1 : decode cX1_canStand 1 = .ok (.aload_n 1, 1) := by decide +kernel
theorem dX1_canStand_2 : decode cX1_canStand 2 = .ok (.getfield 35, 3) := by decide +kernel
theorem dX1_canStand_5 : decode cX1_canStand 5 = .ok (.iload_n 2, 1) := by decide +kernel
theorem dX1_canStand_6 : decode cX1_canStand 6 = .ok (.invokevirtual 38, 3) := by decide +kernel
theorem dX1_canStand_9 : decode cX1_canStand 9 = .ok (.astore_n 3, 1) := by decide +kernel
theorem dX1_canStand_10 : decode cX1_canStand 10 = .ok (.aload_n 3, 1) := by decide +kernel
theorem dX1_canStand_11 : decode cX1_canStand 11 = .ok (.ifnull 14, 3) := by decide +kernel
theorem dX1_canStand_14 : decode cX1_canStand 14 = .ok (.aload_n 3, 1) := by decide +kernel
theorem dX1_canStand_15 : decode cX1_canStand 15 = .ok (.getfield 49, 3) := by decide +kernel
theorem dX1_canStand_18 : decode cX1_canStand 18 = .ok (.aload_n 1, 1) := by decide +kernel
theorem dX1_canStand_19 : decode cX1_canStand 19 = .ok (.getfield 49, 3) := by decide +kernel
theorem dX1_canStand_22 : decode cX1_canStand 22 = .ok (.if_icmp .ne 7, 3) := by decide +kernel
theorem dX1_canStand_25 : decode cX1_canStand 25 = .ok (.iconst 1, 1) := by decide +kernel
theorem dX1_canStand_26 : decode cX1_canStand 26 = .ok (.goto 4, 3) := by decide +kernel
theorem dX1_canStand_29 : decode cX1_canStand 29 = .ok (.iconst 0, 1) := by decide +kernel
theorem dX1_canStand_30 : decode cX1_canStand 30 = .ok (.ireturn, 1) := by decide +kernel
set_option maxRecDepth 20000 in
theorem ggX1_afterWind_X3_firstDropping : GoodIn wsX1_afterWind wsX3_firstDropping := goodIn_r _ [21, 22, 23, 24, 25, 26, 27, 28, 29, 30, 20, 31, 32, 33, 34, 35, 36, 37, 38, 39, 40, 41, 42, 43, 44, 45, 46, 47, 48, 49, 50, 51, 52, 53, 54, 55, 56, 57, 58, 59, 60, 61, 62, 63, 64, 65, 66, 67, 68, 69, 70, 71, 72, 73, 74, 75, 76, 77, 78, 79, 80, 81, 82, 83, 84, 85, 86, 87, 88, 89, 90, 91, 92, 93, 94, 95, 96, 97, 98, 99, 100, 101, 102, 103, 104, 105, 106, 107, 108, 109, 110, 111, 112, 113, 114, 115, 116, 117, 118, 119, 120, 121, 122, 123, 124, 125, 126, 127, 128, 129, 130, 131, 132, 133, 134, 135, 136, 137] (by decide +kernel) (by decide +kernel)
set_option maxRecDepth 20000 in
theorem gX1_afterWind_X3_firstDropping : GoodIn wsX1_afterWind (wsV RX1 70 RX3 yX3_firstDropping wsX3_firstDropping) := goodIn_app (goodIn_of _ (by decide +kernel)) ggX1_afterWind_X3_firstDropping
theorem dX1_afterWind_0 : decode cX1_afterWind 0 = .ok (.aload_n 0, 1) := by decide +kernel
theorem dX1_afterWind_1 : decode cX1_afterWind 1 = .ok (.getfield 78, 3) := by decide +kernel
theorem dX1_afterWind_4 : decode cX1_afterWind 4 = .ok (.invokevirtual 103, 3) := by decide +kernel
theorem dX1_afterWind_7 : decode cX1_afterWind 7 = .ok (.checkcast 104, 3) := by decide +kernel
theorem dX1_afterWind_10 : decode cX1_afterWind 10 = .ok (.astore 4, 2) := by decide +kernel
theorem dX1_afterWind_12 : decode cX1_afterWind 12 = .ok (.iload_n 2, 1) := by decide +kernel
theorem dX1_afterWind_13 : decode cX1_afterWind 13 = .ok (.i2l, 1) := by decide +kernel
theorem dX1_afterWind_14 : decode cX1_afterWind 14 = .ok (.lstore 5, 2) := by decide +kernel
theorem dX1_afterWind_16 : decode cX1_afterWind 16 = .ok (.iconst 0, 1) := by decide +kernel
theorem dX1_afterWind_17 : decode cX1_afterWind 17 = .ok (.istore 7, 2) := by decide +kernel
theorem dX1_afterWind_19 : decode cX1_afterWind 19 = .ok (.iconst 0, 1) := by decide +kernel
theorem dX1_afterWind_20 : decode cX1_afterWind 20 = .ok (.istore 8, 2) := by decide +kernel
theorem dX1_afterWind_22 : decode cX1_afterWind 22 = .ok (.iload 8, 2) := by decide +kernel
theorem dX1_afterWind_24 : decode cX1_afterWind 24 = .ok (.iload_n 1, 1) := by decide +kernel
theorem dX1_afterWind_25 : decode cX1_afterWind 25 = .ok (.if_icmp .ge 90, 3) := by decide +kernel
theorem dX1_afterWind_28 : decode cX1_afterWind 28 = .ok (.iconst 0, 1) := by decide +kernel
theorem dX1_afterWind_29 : decode cX1_afterWind 29 = .ok (.istore 9, 2) := by decide +kernel
theorem dX1_afterWind_31 : decode cX1_afterWind 31 = .ok (.iload 9, 2) := by decide +kernel
theorem dX1_afterWind_33 : decode cX1_afterWind 33 = .ok (.aload_n 0, 1) := by decide +kernel
theorem dX1_afterWind_34 : decode cX1_afterWind 34 = .ok (.getfield 108, 3) := by decide +kernel
theorem dX1_afterWind_37 : decode cX1_afterWind 37 = .ok (.if_icmp .ge 60, 3) := by decide +kernel
theorem dX1_afterWind_40 : decode cX1_afterWind 40 = .ok (.iload 9, 2) := by decide +kernel
theorem dX1_afterWind_42 : decode cX1_afterWind 42 = .ok (.iconst 3, 1) := by decide +kernel
theorem dX1_afterWind_43 : decode cX1_afterWind 43 = .ok (.if_icmp .ge 54, 3) := by decide +kernel
theorem dX1_afterWind_46 : decode cX1_afterWind 46 = .ok (.lload 5, 2) := by decide +kernel
theorem dX1_afterWind_48 : decode cX1_afterWind 48 = .ok (.ldc2_w 111, 3) := by decide +kernel
theorem dX1_afterWind_51 : decode cX1_afterWind 51 = .ok (.lmul, 1) := by decide +kernel
theorem dX1_afterWind_52 : decode cX1_afterWind 52 = .ok (.ldc2_w 113, 3) := by decide +kernel
theorem dX1_afterWind_55 : decode cX1_afterWind 55 = .ok (.lrem, 1) := by decide +kernel
theorem dX1_afterWind_56 : decode cX1_afterWind 56 = .ok (.lstore 5, 2) := by decide +kernel
theorem dX1_afterWind_58 : decode cX1_afterWind 58 = .ok (.lload 5, 2) := by decide +kernel
theorem dX1_afterWind_60 : decode cX1_afterWind 60 = .ok (.ldc2_w 115, 3) := by decide +kernel
theorem dX1_afterWind_63 : decode cX1_afterWind 63 = .ok (.lrem, 1) := by decide +kernel
theorem dX1_afterWind_64 : decode cX1_afterWind 64 = .ok (.lconst 0, 1) := by decide +kernel
theorem dX1_afterWind_65 : decode cX1_afterWind 65 = .ok (.lcmp, 1) := by decide +kernel
theorem dX1_afterWind_66 : decode cX1_afterWind 66 = .ok (.ifCond .ne 25, 3) := by decide +kernel
theorem dX1_afterWind_69 : decode cX1_afterWind 69 = .ok (.aload_n 0, 1) := by decide +kernel
theorem dX1_afterWind_70 : decode cX1_afterWind 70 = .ok (.getfield 78, 3) := by decide +kernel
theorem dX1_afterWind_73 : decode cX1_afterWind 73 = .ok (.iload 9, 2) := by decide +kernel
theorem dX1_afterWind_75 : decode cX1_afterWind 75 = .ok (.iaload, 1) := by decide +kernel
theorem dX1_afterWind_76 : decode cX1_afterWind 76 = .ok (.iconst 1, 1) := by decide +kernel
theorem dX1_afterWind_77 : decode cX1_afterWind 77 = .ok (.if_icmp .le 14, 3) := by decide +kernel
theorem dX1_afterWind_80 : decode cX1_afterWind 80 = .ok (.aload_n 0, 1) := by decide +kernel
theorem dX1_afterWind_81 : decode cX1_afterWind 81 = .ok (.getfield 78, 3) := by decide +kernel
theorem dX1_afterWind_84 : decode cX1_afterWind 84 = .ok (.iload 9, 2) := by decide +kernel
theorem dX1_afterWind_86 : decode cX1_afterWind 86 = .ok (.dup2, 1) := by decide +kernel
theorem dX1_afterWind_87 : decode cX1_afterWind 87 = .ok (.iaload, 1) := by decide +kernel
theorem dX1_afterWind_88 : decode cX1_afterWind 88 = .ok (.iconst 1, 1) := by decide +kernel
theorem dX1_afterWind_89 : decode cX1_afterWind 89 = .ok (.isub, 1) := by decide +kernel
theorem dX1_afterWind_90 : decode cX1_afterWind 90 = .ok (.iastore, 1) := by decide +kernel
theorem dX1_afterWind_91 : decode cX1_afterWind 91 = .ok (.iinc 9 1, 3) := by decide +kernel
theorem dX1_afterWind_94 : decode cX1_afterWind 94 = .ok (.goto (-63), 3) := by decide +kernel
theorem dX1_afterWind_97 : decode cX1_afterWind 97 = .ok (.aload_n 0, 1) := by decide +kernel
theorem dX1_afterWind_98 : decode cX1_afterWind 98 = .ok (.invokevirtual 70, 3) := by decide +kernel
theorem dX1_afterWind_101 : decode cX1_afterWind 101 = .ok (.ldc 15, 2) := by decide +kernel
theorem dX1_afterWind_103 : decode cX1_afterWind 103 = .ok (.if_icmp .ne 6, 3) := by decide +kernel
theorem dX1_afterWind_106 : decode cX1_afterWind 106 = .ok (.iinc 7 1, 3) := by decide +kernel
theorem dX1_afterWind_109 : decode cX1_afterWind 109 = .ok (.iinc 8 1, 3) := by decide +kernel
theorem dX1_afterWind_112 : decode cX1_afterWind 112 = .ok (.goto (-90), 3) := by decide +kernel
theorem dX1_afterWind_115 : decode cX1_afterWind 115 = .ok (.iload_n 3, 1) := by decide +kernel
theorem dX1_afterWind_116 : decode cX1_afterWind 116 = .ok (.ifCond .lt 17, 3) := by decide +kernel
theorem dX1_afterWind_119 : decode cX1_afterWind 119 = .ok (.iload_n 3, 1) := by decide +kernel
theorem dX1_afterWind_120 : decode cX1_afterWind 120 = .ok (.iconst 3, 1) := by decide +kernel
theorem dX1_afterWind_121 : decode cX1_afterWind 121 = .ok (.if_icmp .ge 12, 3) := by decide +kernel
theorem dX1_afterWind_124 : decode cX1_afterWind 124 = .ok (.aload_n 0, 1) := by decide +kernel
theorem dX1_afterWind_125 : decode cX1_afterWind 125 = .ok (.getfield 78, 3) := by decide +kernel
theorem dX1_afterWind_128 : decode cX1_afterWind 128 = .ok (.iload_n 3, 1) := by decide +kernel
theorem dX1_afterWind_129 : decode cX1_afterWind 129 = .ok (.iaload, 1) := by decide +kernel
theorem dX1_afterWind_130 : decode cX1_afterWind 130 = .ok (.goto 5, 3) := by decide +kernel
theorem dX1_afterWind_133 : decode cX1_afterWind 133 = .ok (.iload 7, 2) := by decide +kernel
theorem dX1_afterWind_135 : decode cX1_afterWind 135 = .ok (.istore 8, 2) := by decide +kernel
theorem dX1_afterWind_137 : decode cX1_afterWind 137 = .ok (.aload 4, 2) := by decide +kernel
theorem dX1_afterWind_139 : decode cX1_afterWind 139 = .ok (.iconst 0, 1) := by decide +kernel
theorem dX1_afterWind_140 : decode cX1_afterWind 140 = .ok (.aload_n 0, 1) := by decide +kernel
theorem dX1_afterWind_141 : decode cX1_afterWind 141 = .ok (.getfield 78, 3) := by decide +kernel
theorem dX1_afterWind_144 : decode cX1_afterWind 144 = .ok (.iconst 0, 1) := by decide +kernel
theorem dX1_afterWind_145 : decode cX1_afterWind 145 = .ok (.iconst 3, 1) := by decide +kernel
theorem dX1_afterWind_146 : decode cX1_afterWind 146 = .ok (.invokestatic 117, 3) := by decide +kernel
theorem dX1_afterWind_149 : decode cX1_afterWind 149 = .ok (.iload 8, 2) := by decide +kernel
theorem dX1_afterWind_151 : decode cX1_afterWind 151 = .ok (.ireturn, 1) := by decide +kernel
set_option maxRecDepth 20000 in
theorem ggX2_init_X7_init : GoodIn wsX2_init wsX7_init := goodIn_r _ [3, 4, 5, 6, 7, 8, 9, 10, 11, 12, 13, 14, 15, 16, 17, 18, 19, 20, 21, 22, 23, 24, 25, 26, 27, 28, 29, 30, 31, 32, 33, 34, 35, 36, 37, 38, 39, 40, 41, 42, 43, 44, 45, 46, 47, 48, 49, 50, 51] (by decide +kernel) (by decide +kernel)
set_option maxRecDepth 20000 in
theorem gX2_init_X7_init_n3 : GoodIn wsX2_init (wsX7_init) := ggX2_init_X7_init
theorem dX2_init_0 : decode cX2_init 0 = .ok (.aload_n 0, 1) := by decide +kernel
theorem dX2_init_1 : decode cX2_init 1 = .ok (.invokespecial 3, 3) := by decide +kernel
theorem dX2_init_4 : decode cX2_init 4 = .ok (.return_, 1) := by decide +kernel
theorem dX2_kindTold_0 : decode cX2_kindTold 0 = .ok (.iconst 2, 1) := by decide +kernel
theorem dX2_kindTold_1 : decode cX2_kindTold 1 = .ok (.ireturn, 1) := by decide +kernel
theorem dX2_wares_0 : decode cX2_wares 0 = .ok (.aload_n 0, 1) := by decide +kernel
theorem dX2_wares_1 : decode cX2_wares 1 = .ok (.getfield 9, 3) := by decide +kernel
theorem dX2_wares_4 : decode cX2_wares 4 = .ok (.iconst 2, 1) := by decide +kernel
theorem dX2_wares_5 : decode cX2_wares 5 = .ok (.idiv, 1) := by decide +kernel
theorem dX2_wares_6 : decode cX2_wares 6 = .ok (.ireturn, 1) := by decide +kernel
set_option maxRecDepth 20000 in
theorem ggX2_size_X9_leave : GoodIn wsX2_size wsX9_leave := goodIn_r _ [5, 6, 7, 93, 94] (by decide +kernel) (by decide +kernel)
set_option maxRecDepth 20000 in
theorem gX2_size_X9_leave : GoodIn wsX2_size (wsV RX2 15 RX9 yX9_leave wsX9_leave) := goodIn_app (goodIn_of _ (by decide +kernel)) ggX2_size_X9_leave
set_option maxRecDepth 20000 in
theorem ggX2_size_X7_size : GoodIn wsX2_size wsX7_size := goodIn_r _ [13, 14, 2, 3, 4, 5, 6, 7, 15, 16, 17, 18, 19, 20, 21, 22, 23, 24, 25, 26, 27, 28, 29, 30, 31, 32, 33, 12, 34, 35, 36, 37, 38, 39, 40, 41, 42, 43, 44, 45, 46, 47, 48, 49, 50, 51, 52, 53, 54, 55, 56, 57, 58, 59, 60, 61, 62, 63, 64, 65, 66, 67, 68, 69, 70, 71, 72, 73, 74, 75, 76, 77, 78, 79, 80, 81, 82, 83, 84, 85, 86, 87, 88, 89, 1, 90, 10, 91, 92, 93, 94, 95, 96, 97, 98, 99, 100, 101, 102, 103, 104, 105, 106, 107, 108, 109, 110, 111, 112, 113, 114, 115, 116, 117, 118, 119, 120, 121, 122, 123, 124, 125, 126, 127, 128, 129] (by decide +kernel) (by decide +kernel)
set_option maxRecDepth 20000 in
theorem gX2_size_X7_size_s21 : GoodIn wsX2_size (va_wsSU RX2 21 yX7_size wsX7_size) := goodIn_app (goodIn_of _ (by decide +kernel)) ggX2_size_X7_size
theorem dX2_size_0 : decode cX2_size 0 = .ok (.aload_n 1, 1) := by decide +kernel
theorem dX2_size_1 : decode cX2_size 1 = .ok (.bipush 12, 2) := by decide +kernel
theorem dX2_size_3 : decode cX2_size 3 = .ok (.invokevirtual 15, 3) := by decide +kernel
theorem dX2_size_6 : decode cX2_size 6 = .ok (.aload_n 0, 1) := by decide +kernel
theorem dX2_size_7 : decode cX2_size 7 = .ok (.aload_n 1, 1) := by decide +kernel
theorem dX2_size_8 : decode cX2_size 8 = .ok (.invokespecial 21, 3) := by decide +kernel
theorem dX2_size_11 : decode cX2_size 11 = .ok (.ineg, 1) := by decide +kernel
theorem dX2_size_12 : decode cX2_size 12 = .ok (.ireturn, 1) := by decide +kernel
set_option maxRecDepth 20000 in
theorem ggX2_mark_X9_leave : GoodIn wsX2_mark wsX9_leave := goodIn_r _ [5, 6, 7, 72, 73] (by decide +kernel) (by decide +kernel)
set_option maxRecDepth 20000 in
theorem gX2_mark_X9_leave : GoodIn wsX2_mark (wsV RX2 15 RX9 yX9_leave wsX9_leave) := goodIn_app (goodIn_of _ (by decide +kernel)) ggX2_mark_X9_leave
set_option maxRecDepth 20000 in
theorem ggX2_mark_X7_mark : GoodIn wsX2_mark wsX7_mark := goodIn_r _ [13, 14, 2, 3, 4, 5, 6, 7, 15, 16, 17, 18, 19, 20, 21, 22, 23, 24, 25, 26, 27, 28, 29, 30, 31, 32, 33, 34, 35, 36, 37, 38, 39, 40, 41, 42, 43, 44, 45, 46, 47, 48, 49, 50, 51, 52, 53, 54, 55, 56, 57, 58, 59, 60, 61, 62, 63, 64, 65, 66, 67, 68, 69, 70, 71, 72, 73, 74, 75, 76, 77, 78, 79, 80, 81, 82, 83, 84, 85, 86, 87, 88, 89, 90, 91, 92, 93, 94, 95, 96, 97, 98, 99, 100, 101, 102, 103, 104, 105, 106, 107, 108] (by decide +kernel) (by decide +kernel)
set_option maxRecDepth 20000 in
theorem gX2_mark_X7_mark_s25 : GoodIn wsX2_mark (va_wsSU RX2 25 yX7_mark wsX7_mark) := goodIn_app (goodIn_of _ (by decide +kernel)) ggX2_mark_X7_mark
theorem dX2_mark_0 : decode cX2_mark 0 = .ok (.aload_n 1, 1) := by decide +kernel
theorem dX2_mark_1 : decode cX2_mark 1 = .ok (.bipush 24, 2) := by decide +kernel
theorem dX2_mark_3 : decode cX2_mark 3 = .ok (.invokevirtual 15, 3) := by decide +kernel
theorem dX2_mark_6 : decode cX2_mark 6 = .ok (.iconst 2, 1) := by decide +kernel
theorem dX2_mark_7 : decode cX2_mark 7 = .ok (.aload_n 0, 1) := by decide +kernel
theorem dX2_mark_8 : decode cX2_mark 8 = .ok (.aload_n 1, 1) := by decide +kernel
theorem dX2_mark_9 : decode cX2_mark 9 = .ok (.invokespecial 25, 3) := by decide +kernel
theorem dX2_mark_12 : decode cX2_mark 12 = .ok (.imul, 1) := by decide +kernel
theorem dX2_mark_13 : decode cX2_mark 13 = .ok (.ireturn, 1) := by decide +kernel
theorem dX3_init_0 : decode cX3_init 0 = .ok (.aload_n 0, 1) := by decide +kernel
theorem dX3_init_1 : decode cX3_init 1 = .ok (.invokespecial 3, 3) := by decide +kernel
theorem dX3_init_4 : decode cX3_init 4 = .ok (.aload_n 0, 1) := by decide +kernel
theorem dX3_init_5 : decode cX3_init 5 = .ok (.iconst 0, 1) := by decide +kernel
theorem dX3_init_6 : decode cX3_init 6 = .ok (.putfield 9, 3) := by decide +kernel
theorem dX3_init_9 : decode cX3_init 9 = .ok (.aload_n 0, 1) := by decide +kernel
theorem dX3_init_10 : decode cX3_init 10 = .ok (.iconst 0, 1) := by decide +kernel
theorem dX3_init_11 : decode cX3_init 11 = .ok (.putfield 15, 3) := by decide +kernel
theorem dX3_init_14 : decode cX3_init 14 = .ok (.aload_n 0, 1) := by decide +kernel
theorem dX3_init_15 : decode cX3_init 15 = .ok (.iconst 3, 1) := by decide +kernel
theorem dX3_init_16 : decode cX3_init 16 = .ok (.newarray .int, 2) := by decide +kernel
theorem dX3_init_18 : decode cX3_init 18 = .ok (.putfield 18, 3) := by decide +kernel
theorem dX3_init_21 : decode cX3_init 21 = .ok (.aload_n 0, 1) := by decide +kernel
theorem dX3_init_22 : decode cX3_init 22 = .ok (.bipush 6, 2) := by decide +kernel
theorem dX3_init_24 : decode cX3_init 24 = .ok (.anewarray 22, 3) := by decide +kernel
theorem dX3_init_27 : decode cX3_init 27 = .ok (.putfield 24, 3) := by decide +kernel
theorem dX3_init_30 : decode cX3_init 30 = .ok (.aload_n 0, 1) := by decide +kernel
theorem dX3_init_31 : decode cX3_init 31 = .ok (.iload_n 1, 1) := by decide +kernel
theorem dX3_init_32 : decode cX3_init 32 = .ok (.putfield 28, 3) := by decide +kernel
theorem dX3_init_35 : decode cX3_init 35 = .ok (.aload_n 0, 1) := by decide +kernel
theorem dX3_init_36 : decode cX3_init 36 = .ok (.iload_n 2, 1) := by decide +kernel
theorem dX3_init_37 : decode cX3_init 37 = .ok (.putfield 31, 3) := by decide +kernel
theorem dX3_init_40 : decode cX3_init 40 = .ok (.return_, 1) := by decide +kernel
theorem dX3_addRope_0 : decode cX3_addRope 0 = .ok (.aload_n 0, 1) := by decide +kernel
theorem dX3_addRope_1 : decode cX3_addRope 1 = .ok (.getfield 9, 3) := by decide +kernel
theorem dX3_addRope_4 : decode cX3_addRope 4 = .ok (.iconst 3, 1) := by decide +kernel
theorem dX3_addRope_5 : decode cX3_addRope 5 = .ok (.if_icmp .ge 23, 3) := by decide +kernel
theorem dX3_addRope_8 : decode cX3_addRope 8 = .ok (.aload_n 0, 1) := by decide +kernel
theorem dX3_addRope_9 : decode cX3_addRope 9 = .ok (.getfield 18, 3) := by decide +kernel
theorem dX3_addRope_12 : decode cX3_addRope 12 = .ok (.aload_n 0, 1) := by decide +kernel
theorem dX3_addRope_13 : decode cX3_addRope 13 = .ok (.getfield 9, 3) := by decide +kernel
theorem dX3_addRope_16 : decode cX3_addRope 16 = .ok (.iload_n 1, 1) := by decide +kernel
theorem dX3_addRope_17 : decode cX3_addRope 17 = .ok (.iastore, 1) := by decide +kernel
theorem dX3_addRope_18 : decode cX3_addRope 18 = .ok (.aload_n 0, 1) := by decide +kernel
theorem dX3_addRope_19 : decode cX3_addRope 19 = .ok (.dup, 1) := by decide +kernel
theorem dX3_addRope_20 : decode cX3_addRope 20 = .ok (.getfield 9, 3) := by decide +kernel
theorem dX3_addRope_23 : decode cX3_addRope 23 = .ok (.iconst 1, 1) := by decide +kernel
theorem dX3_addRope_24 : decode cX3_addRope 24 = .ok (.iadd, 1) := by decide +kernel
theorem dX3_addRope_25 : decode cX3_addRope 25 = .ok (.putfield 9, 3) := by decide +kernel
theorem dX3_addRope_28 : decode cX3_addRope 28 = .ok (.return_, 1) := by decide +kernel
theorem dX3_addStall_0 : decode cX3_addStall 0 = .ok (.aload_n 0, 1) := by decide +kernel
theorem dX3_addStall_1 : decode cX3_addStall 1 = .ok (.getfield 15, 3) := by decide +kernel
theorem dX3_addStall_4 : decode cX3_addStall 4 = .ok (.bipush 6, 2) := by decide +kernel
theorem dX3_addStall_6 : decode cX3_addStall 6 = .ok (.if_icmp .ge 47, 3) := by decide +kernel
theorem dX3_addStall_9 : decode cX3_addStall 9 = .ok (.aload_n 1, 1) := by decide +kernel
theorem dX3_addStall_10 : decode cX3_addStall 10 = .ok (.aload_n 0, 1) := by decide +kernel
theorem dX3_addStall_11 : decode cX3_addStall 11 = .ok (.getfield 15, 3) := by decide +kernel
theorem dX3_addStall_14 : decode cX3_addStall 14 = .ok (.putfield 34, 3) := by decide +kernel
theorem dX3_addStall_17 : decode cX3_addStall 17 = .ok (.aload_n 1, 1) := by decide +kernel
theorem dX3_addStall_18 : decode cX3_addStall 18 = .ok (.iload_n 2, 1) := by decide +kernel
theorem dX3_addStall_19 : decode cX3_addStall 19 = .ok (.putfield 37, 3) := by decide +kernel
theorem dX3_addStall_22 : decode cX3_addStall 22 = .ok (.aload_n 1, 1) := by decide +kernel
theorem dX3_addStall_23 : decode cX3_addStall 23 = .ok (.iload_n 3, 1) := by decide +kernel
theorem dX3_addStall_24 : decode cX3_addStall 24 = .ok (.putfield 40, 3) := by decide +kernel
theorem dX3_addStall_27 : decode cX3_addStall 27 = .ok (.aload_n 1, 1) := by decide +kernel
theorem dX3_addStall_28 : decode cX3_addStall 28 = .ok (.iload 4, 2) := by decide +kernel
theorem dX3_addStall_30 : decode cX3_addStall 30 = .ok (.putfield 43, 3) := by decide +kernel
theorem dX3_addStall_33 : decode cX3_addStall 33 = .ok (.aload_n 0, 1) := by decide +kernel
theorem dX3_addStall_34 : decode cX3_addStall 34 = .ok (.getfield 24, 3) := by decide +kernel
theorem dX3_addStall_37 : decode cX3_addStall 37 = .ok (.aload_n 0, 1) := by decide +kernel
theorem dX3_addStall_38 : decode cX3_addStall 38 = .ok (.getfield 15, 3) := by decide +kernel
theorem dX3_addStall_41 : decode cX3_addStall 41 = .ok (.aload_n 1, 1) := by decide +kernel
theorem dX3_addStall_42 : decode cX3_addStall 42 = .ok (.aastore, 1) := by decide +kernel
theorem dX3_addStall_43 : decode cX3_addStall 43 = .ok (.aload_n 0, 1) := by decide +kernel
theorem dX3_addStall_44 : decode cX3_addStall 44 = .ok (.dup, 1) := by decide +kernel
theorem dX3_addStall_45 : decode cX3_addStall 45 = .ok (.getfield 15, 3) := by decide +kernel
theorem dX3_addStall_48 : decode cX3_addStall 48 = .ok (.iconst 1, 1) := by decide +kernel
theorem dX3_addStall_49 : decode cX3_addStall 49 = .ok (.iadd, 1) := by decide +kernel
theorem dX3_addStall_50 : decode cX3_addStall 50 = .ok (.putfield 15, 3) := by decide +kernel
theorem dX3_addStall_53 : decode cX3_addStall 53 = .ok (.return_, 1) := by decide +kernel
set_option maxRecDepth 20000 in
theorem ggX3_twin_X3_init : GoodIn wsX3_twin wsX3_init := goodIn_r _ [16, 17, 18, 19, 6, 7, 20, 8, 21, 13, 4, 5, 87, 88, 89, 90, 91, 92] (by decide +kernel) (by decide +kernel)
set_option maxRecDepth 20000 in
theorem gX3_twin_X3_init : GoodIn wsX3_twin (wsX3_init) := ggX3_twin_X3_init
set_option maxRecDepth 20000 in
theorem ggX3_twin_X6_twin : GoodIn wsX3_twin wsX6_twin := goodIn_r _ [27, 28, 29, 30, 31, 32, 33, 34, 35, 36, 37, 38, 39, 40, 41, 42, 43, 44, 45, 46, 47, 48, 49, 50, 51, 52, 53, 54, 55, 56, 57, 58, 26, 59, 60, 61, 62, 63, 64, 65, 66, 67, 68, 69, 70, 71, 72, 73, 74, 75, 76, 18, 19, 77, 78, 79, 80, 81, 82, 93, 94, 95, 96, 97, 98, 99, 100, 101, 102, 103, 104, 105, 106, 107, 108, 109, 110, 111, 112, 113, 114, 115, 116, 117, 118, 119, 120, 121, 122, 123, 124, 125, 126, 127] (by decide +kernel) (by decide +kernel)
set_option maxRecDepth 20000 in
theorem gX3_twin_X6_twin_u55X0 : GoodIn wsX3_twin (va_wsU RX3 55 RX0 "HungStalls$Stall" ⟨"HungStalls$Stall", "twin", "()LHungStalls$Stall;"⟩ yX6_twin wsX6_twin) := goodIn_app (goodIn_of _ (by decide +kernel)) ggX3_twin_X6_twin
set_option maxRecDepth 20000 in
theorem gX3_twin_X6_twin_u55X2 : GoodIn wsX3_twin (va_wsU RX3 55 RX2 "HungStalls$Stall" ⟨"HungStalls$Stall", "twin", "()LHungStalls$Stall;"⟩ yX6_twin wsX6_twin) := goodIn_app (goodIn_of _ (by decide +kernel)) ggX3_twin_X6_twin
set_option maxRecDepth 20000 in
theorem gX3_twin_X6_twin_u55X4 : GoodIn wsX3_twin (va_wsU RX3 55 RX4 "HungStalls$Stall" ⟨"HungStalls$Stall", "twin", "()LHungStalls$Stall;"⟩ yX6_twin wsX6_twin) := goodIn_app (goodIn_of _ (by decide +kernel)) ggX3_twin_X6_twin
set_option maxRecDepth 20000 in
theorem gX3_twin_X6_twin_u55X7 : GoodIn wsX3_twin (va_wsU RX3 55 RX7 "HungStalls$Stall" ⟨"HungStalls$Stall", "twin", "()LHungStalls$Stall;"⟩ yX6_twin wsX6_twin) := goodIn_app (goodIn_of _ (by decide +kernel)) ggX3_twin_X6_twin
set_option maxRecDepth 20000 in
theorem gX3_twin_X6_twin_u55X10 : GoodIn wsX3_twin (va_wsU RX3 55 RX10 "HungStalls$Stall" ⟨"HungStalls$Stall", "twin", "()LHungStalls$Stall;"⟩ yX6_twin wsX6_twin) := goodIn_app (goodIn_of _ (by decide +kernel)) ggX3_twin_X6_twin
theorem dX3_twin_0 : decode cX3_twin 0 = .ok (.new 10, 3) := by decide +kernel
theorem dX3_twin_3 : decode cX3_twin 3 = .ok (.dup, 1) := by decide +kernel
theorem dX3_twin_4 : decode cX3_twin 4 = .ok (.aload_n 0, 1) := by decide +kernel
theorem dX3_twin_5 : decode cX3_twin 5 = .ok (.getfield 28, 3) := by decide +kernel
theorem dX3_twin_8 : decode cX3_twin 8 = .ok (.aload_n 0, 1) := by decide +kernel
theorem dX3_twin_9 : decode cX3_twin 9 = .ok (.getfield 31, 3) := by decide +kernel
theorem dX3_twin_12 : decode cX3_twin 12 = .ok (.invokespecial 46, 3) := by decide +kernel
theorem dX3_twin_15 : decode cX3_twin 15 = .ok (.astore_n 1, 1) := by decide +kernel
theorem dX3_twin_16 : decode cX3_twin 16 = .ok (.aload_n 1, 1) := by decide +kernel
theorem dX3_twin_17 : decode cX3_twin 17 = .ok (.aload_n 0, 1) := by decide +kernel
theorem dX3_twin_18 : decode cX3_twin 18 = .ok (.getfield 9, 3) := by decide +kernel
theorem dX3_twin_21 : decode cX3_twin 21 = .ok (.putfield 9, 3) := by decide +kernel
theorem dX3_twin_24 : decode cX3_twin 24 = .ok (.aload_n 1, 1) := by decide +kernel
theorem dX3_twin_25 : decode cX3_twin 25 = .ok (.aload_n 0, 1) := by decide +kernel
theorem dX3_twin_26 : decode cX3_twin 26 = .ok (.getfield 15, 3) := by decide +kernel
theorem dX3_twin_29 : decode cX3_twin 29 = .ok (.putfield 15, 3) := by decide +kernel
theorem dX3_twin_32 : decode cX3_twin 32 = .ok (.aload_n 0, 1) := by decide +kernel
theorem dX3_twin_33 : decode cX3_twin 33 = .ok (.getfield 18, 3) := by decide +kernel
theorem dX3_twin_36 : decode cX3_twin 36 = .ok (.iconst 0, 1) := by decide +kernel
theorem dX3_twin_37 : decode cX3_twin 37 = .ok (.aload_n 1, 1) := by decide +kernel
theorem dX3_twin_38 : decode cX3_twin 38 = .ok (.getfield 18, 3) := by decide +kernel
theorem dX3_twin_41 : decode cX3_twin 41 = .ok (.iconst 0, 1) := by decide +kernel
theorem dX3_twin_42 : decode cX3_twin 42 = .ok (.iconst 3, 1) := by decide +kernel
theorem dX3_twin_43 : decode cX3_twin 43 = .ok (.invokestatic 49, 3) := by decide +kernel
theorem dX3_twin_46 : decode cX3_twin 46 = .ok (.iconst 0, 1) := by decide +kernel
theorem dX3_twin_47 : decode cX3_twin 47 = .ok (.istore_n 2, 1) := by decide +kernel
theorem dX3_twin_48 : decode cX3_twin 48 = .ok (.iload_n 2, 1) := by decide +kernel
theorem dX3_twin_49 : decode cX3_twin 49 = .ok (.bipush 6, 2) := by decide +kernel
theorem dX3_twin_51 : decode cX3_twin 51 = .ok (.if_icmp .ge 30, 3) := by decide +kernel
theorem dX3_twin_54 : decode cX3_twin 54 = .ok (.aload_n 0, 1) := by decide +kernel
theorem dX3_twin_55 : decode cX3_twin 55 = .ok (.getfield 24, 3) := by decide +kernel
theorem dX3_twin_58 : decode cX3_twin 58 = .ok (.iload_n 2, 1) := by decide +kernel
theorem dX3_twin_59 : decode cX3_twin 59 = .ok (.aaload, 1) := by decide +kernel
theorem dX3_twin_60 : decode cX3_twin 60 = .ok (.astore_n 3, 1) := by decide +kernel
theorem dX3_twin_61 : decode cX3_twin 61 = .ok (.aload_n 3, 1) := by decide +kernel
theorem dX3_twin_62 : decode cX3_twin 62 = .ok (.ifnull 13, 3) := by decide +kernel
theorem dX3_twin_65 : decode cX3_twin 65 = .ok (.aload_n 1, 1) := by decide +kernel
theorem dX3_twin_66 : decode cX3_twin 66 = .ok (.getfield 24, 3) := by decide +kernel
theorem dX3_twin_69 : decode cX3_twin 69 = .ok (.iload_n 2, 1) := by decide +kernel
theorem dX3_twin_70 : decode cX3_twin 70 = .ok (.aload_n 3, 1) := by decide +kernel
theorem dX3_twin_71 : decode cX3_twin 71 = .ok (.invokevirtual 55, 3) := by decide +kernel
theorem dX3_twin_74 : decode cX3_twin 74 = .ok (.aastore, 1) := by decide +kernel
theorem dX3_twin_75 : decode cX3_twin 75 = .ok (.iinc 2 1, 3) := by decide +kernel
theorem dX3_twin_78 : decode cX3_twin 78 = .ok (.goto (-30), 3) := by decide +kernel
theorem dX3_twin_81 : decode cX3_twin 81 = .ok (.aload_n 1, 1) := by decide +kernel
theorem dX3_twin_82 : decode cX3_twin 82 = .ok (.areturn, 1) := by decide +kernel
set_option maxRecDepth 20000 in
theorem ggX3_put_X6_put : GoodIn wsX3_put wsX6_put := goodIn_r _ [9, 10, 11, 12, 13, 24, 25, 26, 27, 28, 29, 30, 31, 32, 33, 34, 35, 36, 37, 38, 39, 40, 41, 42, 43, 44, 45, 46, 47, 48, 49, 50, 51, 52, 53, 54, 55, 56, 57, 58] (by decide +kernel) (by decide +kernel)
set_option maxRecDepth 20000 in
theorem gX3_put_X6_put_u59X0 : GoodIn wsX3_put (va_wsU RX3 59 RX0 "HungStalls$Stall" ⟨"HungStalls$Stall", "put", "(II)V"⟩ yX6_put wsX6_put) := goodIn_app (goodIn_of _ (by decide +kernel)) ggX3_put_X6_put
set_option maxRecDepth 20000 in
theorem gX3_put_X6_put_u59X2 : GoodIn wsX3_put (va_wsU RX3 59 RX2 "HungStalls$Stall" ⟨"HungStalls$Stall", "put", "(II)V"⟩ yX6_put wsX6_put) := goodIn_app (goodIn_of _ (by decide +kernel)) ggX3_put_X6_put
set_option maxRecDepth 20000 in
theorem gX3_put_X6_put_u59X4 : GoodIn wsX3_put (va_wsU RX3 59 RX4 "HungStalls$Stall" ⟨"HungStalls$Stall", "put", "(II)V"⟩ yX6_put wsX6_put) := goodIn_app (goodIn_of _ (by decide +kernel)) ggX3_put_X6_put
set_option maxRecDepth 20000 in
theorem gX3_put_X6_put_u59X7 : GoodIn wsX3_put (va_wsU RX3 59 RX7 "HungStalls$Stall" ⟨"HungStalls$Stall", "put", "(II)V"⟩ yX6_put wsX6_put) := goodIn_app (goodIn_of _ (by decide +kernel)) ggX3_put_X6_put
set_option maxRecDepth 20000 in
theorem gX3_put_X6_put_u59X10 : GoodIn wsX3_put (va_wsU RX3 59 RX10 "HungStalls$Stall" ⟨"HungStalls$Stall", "put", "(II)V"⟩ yX6_put wsX6_put) := goodIn_app (goodIn_of _ (by decide +kernel)) ggX3_put_X6_put
theorem dX3_put_0 : decode cX3_put 0 = .ok (.iload_n 1, 1) := by decide +kernel
theorem dX3_put_1 : decode cX3_put 1 = .ok (.iconst 4, 1) := by decide +kernel
theorem dX3_put_2 : decode cX3_put 2 = .ok (.if_icmp .ne 11, 3) := by decide +kernel
theorem dX3_put_5 : decode cX3_put 5 = .ok (.aload_n 0, 1) := by decide +kernel
theorem dX3_put_6 : decode cX3_put 6 = .ok (.iload_n 3, 1) := by decide +kernel
theorem dX3_put_7 : decode cX3_put 7 = .ok (.putfield 31, 3) := by decide +kernel
theorem dX3_put_10 : decode cX3_put 10 = .ok (.goto 57, 3) := by decide +kernel
theorem dX3_put_13 : decode cX3_put 13 = .ok (.iload_n 1, 1) := by decide +kernel
theorem dX3_put_14 : decode cX3_put 14 = .ok (.iconst 5, 1) := by decide +kernel
theorem dX3_put_15 : decode cX3_put 15 = .ok (.if_icmp .ne 22, 3) := by decide +kernel
theorem dX3_put_18 : decode cX3_put 18 = .ok (.iload_n 2, 1) := by decide +kernel
theorem dX3_put_19 : decode cX3_put 19 = .ok (.ifCond .lt 48, 3) := by decide +kernel
theorem dX3_put_22 : decode cX3_put 22 = .ok (.iload_n 2, 1) := by decide +kernel
theorem dX3_put_23 : decode cX3_put 23 = .ok (.iconst 3, 1) := by decide +kernel
theorem dX3_put_24 : decode cX3_put 24 = .ok (.if_icmp .ge 43, 3) := by decide +kernel
theorem dX3_put_27 : decode cX3_put 27 = .ok (.aload_n 0, 1) := by decide +kernel
theorem dX3_put_28 : decode cX3_put 28 = .ok (.getfield 18, 3) := by decide +kernel
theorem dX3_put_31 : decode cX3_put 31 = .ok (.iload_n 2, 1) := by decide +kernel
theorem dX3_put_32 : decode cX3_put 32 = .ok (.iload_n 3, 1) := by decide +kernel
theorem dX3_put_33 : decode cX3_put 33 = .ok (.iastore, 1) := by decide +kernel
theorem dX3_put_34 : decode cX3_put 34 = .ok (.goto 33, 3) := by decide +kernel
theorem dX3_put_37 : decode cX3_put 37 = .ok (.iload_n 2, 1) := by decide +kernel
theorem dX3_put_38 : decode cX3_put 38 = .ok (.ifCond .lt 29, 3) := by decide +kernel
theorem dX3_put_41 : decode cX3_put 41 = .ok (.iload_n 2, 1) := by decide +kernel
theorem dX3_put_42 : decode cX3_put 42 = .ok (.bipush 6, 2) := by decide +kernel
theorem dX3_put_44 : decode cX3_put 44 = .ok (.if_icmp .ge 23, 3) := by decide +kernel
theorem dX3_put_47 : decode cX3_put 47 = .ok (.aload_n 0, 1) := by decide +kernel
theorem dX3_put_48 : decode cX3_put 48 = .ok (.getfield 24, 3) := by decide +kernel
theorem dX3_put_51 : decode cX3_put 51 = .ok (.iload_n 2, 1) := by decide +kernel
theorem dX3_put_52 : decode cX3_put 52 = .ok (.aaload, 1) := by decide +kernel
theorem dX3_put_53 : decode cX3_put 53 = .ok (.astore 4, 2) := by decide +kernel
theorem dX3_put_55 : decode cX3_put 55 = .ok (.aload 4, 2) := by decide +kernel
theorem dX3_put_57 : decode cX3_put 57 = .ok (.ifnull 10, 3) := by decide +kernel
theorem dX3_put_60 : decode cX3_put 60 = .ok (.aload 4, 2) := by decide +kernel
theorem dX3_put_62 : decode cX3_put 62 = .ok (.iload_n 1, 1) := by decide +kernel
theorem dX3_put_63 : decode cX3_put 63 = .ok (.iload_n 3, 1) := by decide +kernel
theorem dX3_put_64 : decode cX3_put 64 = .ok (.invokevirtual 59, 3) := by decide +kernel
theorem dX3_put_67 : decode cX3_put 67 = .ok (.return_, 1) := by decide +kernel
theorem dX3_standing_0 : decode cX3_standing 0 = .ok (.aload_n 0, 1) := by decide +kernel
theorem dX3_standing_1 : decode cX3_standing 1 = .ok (.getfield 24, 3) := by decide +kernel
theorem dX3_standing_4 : decode cX3_standing 4 = .ok (.astore_n 3, 1) := by decide +kernel
theorem dX3_standing_5 : decode cX3_standing 5 = .ok (.aload_n 3, 1) := by decide +kernel
theorem dX3_standing_6 : decode cX3_standing 6 = .ok (.arraylength, 1) := by decide +kernel
theorem dX3_standing_7 : decode cX3_standing 7 = .ok (.istore 4, 2) := by decide +kernel
theorem dX3_standing_9 : decode cX3_standing 9 = .ok (.iconst 0, 1) := by decide +kernel
theorem dX3_standing_10 : decode cX3_standing 10 = .ok (.istore 5, 2) := by decide +kernel
theorem dX3_standing_12 : decode cX3_standing 12 = .ok (.iload 5, 2) := by decide +kernel
theorem dX3_standing_14 : decode cX3_standing 14 = .ok (.iload 4, 2) := by decide +kernel
theorem dX3_standing_16 : decode cX3_standing 16 = .ok (.if_icmp .ge 41, 3) := by decide +kernel
theorem dX3_standing_19 : decode cX3_standing 19 = .ok (.aload_n 3, 1) := by decide +kernel
theorem dX3_standing_20 : decode cX3_standing 20 = .ok (.iload 5, 2) := by decide +kernel
theorem dX3_standing_22 : decode cX3_standing 22 = .ok (.aaload, 1) := by decide +kernel
theorem dX3_standing_23 : decode cX3_standing 23 = .ok (.astore 6, 2) := by decide +kernel
theorem dX3_standing_25 : decode cX3_standing 25 = .ok (.aload 6, 2) := by decide +kernel
theorem dX3_standing_27 : decode cX3_standing 27 = .ok (.ifnull 24, 3) := by decide +kernel
theorem dX3_standing_30 : decode cX3_standing 30 = .ok (.aload 6, 2) := by decide +kernel
theorem dX3_standing_32 : decode cX3_standing 32 = .ok (.getfield 37, 3) := by decide +kernel
theorem dX3_standing_35 : decode cX3_standing 35 = .ok (.iload_n 1, 1) := by decide +kernel
theorem dX3_standing_36 : decode cX3_standing 36 = .ok (.if_icmp .ne 15, 3) := by decide +kernel
theorem dX3_standing_39 : decode cX3_standing 39 = .ok (.aload 6, 2) := by decide +kernel
theorem dX3_standing_41 : decode cX3_standing 41 = .ok (.getfield 40, 3) := by decide +kernel
theorem dX3_standing_44 : decode cX3_standing 44 = .ok (.iload_n 2, 1) := by decide +kernel
theorem dX3_standing_45 : decode cX3_standing 45 = .ok (.if_icmp .ne 6, 3) := by decide +kernel
theorem dX3_standing_48 : decode cX3_standing 48 = .ok (.aload 6, 2) := by decide +kernel
theorem dX3_standing_50 : decode cX3_standing 50 = .ok (.areturn, 1) := by decide +kernel
theorem dX3_standing_51 : decode cX3_standing 51 = .ok (.iinc 5 1, 3) := by decide +kernel
theorem dX3_standing_54 : decode cX3_standing 54 = .ok (.goto (-42), 3) := by decide +kernel
theorem dX3_standing_57 : decode cX3_standing 57 = .ok (.aconst_null, 1) := by decide +kernel
theorem dX3_standing_58 : decode cX3_standing 58 = .ok (.areturn, 1) := by decide +kernel
set_option maxRecDepth 20000 in
theorem ggX3_sag_X6_weight : GoodIn wsX3_sag wsX6_weight := goodIn_r _ [18, 19, 20, 21, 22, 23, 24, 25, 26, 27, 28, 29, 30, 31, 32, 33, 34, 35, 36, 37, 38, 17, 39, 40, 41, 42, 43, 44, 45, 46, 47, 48, 49, 50, 51, 52, 53, 54, 55, 56, 57, 58, 59, 60, 71, 72, 73, 74, 75, 76, 77, 78, 79, 80, 81, 82, 83, 84, 85, 86, 87, 88, 89, 90, 91, 92, 93, 94, 95, 96, 97, 98, 99, 100, 101, 102, 103, 104, 105] (by decide +kernel) (by decide +kernel)
set_option maxRecDepth 20000 in
theorem gX3_sag_X6_weight_u62X0 : GoodIn wsX3_sag (va_wsU RX3 62 RX0 "HungStalls$Stall" ⟨"HungStalls$Stall", "weight", "()I"⟩ yX6_weight wsX6_weight) := goodIn_app (goodIn_of _ (by decide +kernel)) ggX3_sag_X6_weight
set_option maxRecDepth 20000 in
theorem gX3_sag_X6_weight_u62X2 : GoodIn wsX3_sag (va_wsU RX3 62 RX2 "HungStalls$Stall" ⟨"HungStalls$Stall", "weight", "()I"⟩ yX6_weight wsX6_weight) := goodIn_app (goodIn_of _ (by decide +kernel)) ggX3_sag_X6_weight
set_option maxRecDepth 20000 in
theorem gX3_sag_X6_weight_u62X4 : GoodIn wsX3_sag (va_wsU RX3 62 RX4 "HungStalls$Stall" ⟨"HungStalls$Stall", "weight", "()I"⟩ yX6_weight wsX6_weight) := goodIn_app (goodIn_of _ (by decide +kernel)) ggX3_sag_X6_weight
set_option maxRecDepth 20000 in
theorem gX3_sag_X6_weight_u62X7 : GoodIn wsX3_sag (va_wsU RX3 62 RX7 "HungStalls$Stall" ⟨"HungStalls$Stall", "weight", "()I"⟩ yX6_weight wsX6_weight) := goodIn_app (goodIn_of _ (by decide +kernel)) ggX3_sag_X6_weight
set_option maxRecDepth 20000 in
theorem gX3_sag_X6_weight_u62X10 : GoodIn wsX3_sag (va_wsU RX3 62 RX10 "HungStalls$Stall" ⟨"HungStalls$Stall", "weight", "()I"⟩ yX6_weight wsX6_weight) := goodIn_app (goodIn_of _ (by decide +kernel)) ggX3_sag_X6_weight
theorem dX3_sag_0 : decode cX3_sag 0 = .ok (.iload_n 1, 1) := by decide +kernel
theorem dX3_sag_1 : decode cX3_sag 1 = .ok (.ifCond .lt 8, 3) := by decide +kernel
theorem dX3_sag_4 : decode cX3_sag 4 = .ok (.iload_n 1, 1) := by decide +kernel
theorem dX3_sag_5 : decode cX3_sag 5 = .ok (.iconst 3, 1) := by decide +kernel
theorem dX3_sag_6 : decode cX3_sag 6 = .ok (.if_icmp .lt 7, 3) := by decide +kernel
theorem dX3_sag_9 : decode cX3_sag 9 = .ok (.iconst 0, 1) := by decide +kernel
theorem dX3_sag_10 : decode cX3_sag 10 = .ok (.goto 9, 3) := by decide +kernel
theorem dX3_sag_13 : decode cX3_sag 13 = .ok (.aload_n 0, 1) := by decide +kernel
theorem dX3_sag_14 : decode cX3_sag 14 = .ok (.getfield 18, 3) := by decide +kernel
theorem dX3_sag_17 : decode cX3_sag 17 = .ok (.iload_n 1, 1) := by decide +kernel
theorem dX3_sag_18 : decode cX3_sag 18 = .ok (.iaload, 1) := by decide +kernel
theorem dX3_sag_19 : decode cX3_sag 19 = .ok (.istore_n 3, 1) := by decide +kernel
theorem dX3_sag_20 : decode cX3_sag 20 = .ok (.iload_n 3, 1) := by decide +kernel
theorem dX3_sag_21 : decode cX3_sag 21 = .ok (.iconst 1, 1) := by decide +kernel
theorem dX3_sag_22 : decode cX3_sag 22 = .ok (.if_icmp .ge 5, 3) := by decide +kernel
theorem dX3_sag_25 : decode cX3_sag 25 = .ok (.iconst 0, 1) := by decide +kernel
theorem dX3_sag_26 : decode cX3_sag 26 = .ok (.ireturn, 1) := by decide +kernel
theorem dX3_sag_27 : decode cX3_sag 27 = .ok (.iconst 0, 1) := by decide +kernel
theorem dX3_sag_28 : decode cX3_sag 28 = .ok (.istore 4, 2) := by decide +kernel
theorem dX3_sag_30 : decode cX3_sag 30 = .ok (.aload_n 0, 1) := by decide +kernel
theorem dX3_sag_31 : decode cX3_sag 31 = .ok (.getfield 24, 3) := by decide +kernel
theorem dX3_sag_34 : decode cX3_sag 34 = .ok (.astore 5, 2) := by decide +kernel
theorem dX3_sag_36 : decode cX3_sag 36 = .ok (.aload 5, 2) := by decide +kernel
theorem dX3_sag_38 : decode cX3_sag 38 = .ok (.arraylength, 1) := by decide +kernel
theorem dX3_sag_39 : decode cX3_sag 39 = .ok (.istore 6, 2) := by decide +kernel
theorem dX3_sag_41 : decode cX3_sag 41 = .ok (.iconst 0, 1) := by decide +kernel
theorem dX3_sag_42 : decode cX3_sag 42 = .ok (.istore 7, 2) := by decide +kernel
theorem dX3_sag_44 : decode cX3_sag 44 = .ok (.iload 7, 2) := by decide +kernel
theorem dX3_sag_46 : decode cX3_sag 46 = .ok (.iload 6, 2) := by decide +kernel
theorem dX3_sag_48 : decode cX3_sag 48 = .ok (.if_icmp .ge 63, 3) := by decide +kernel
theorem dX3_sag_51 : decode cX3_sag 51 = .ok (.aload 5, 2) := by decide +kernel
theorem dX3_sag_53 : decode cX3_sag 53 = .ok (.iload 7, 2) := by decide +kernel
theorem dX3_sag_55 : decode cX3_sag 55 = .ok (.aaload, 1) := by decide +kernel
theorem dX3_sag_56 : decode cX3_sag 56 = .ok (.astore 8, 2) := by decide +kernel
theorem dX3_sag_58 : decode cX3_sag 58 = .ok (.aload 8, 2) := by decide +kernel
theorem dX3_sag_60 : decode cX3_sag 60 = .ok (.ifnull 45, 3) := by decide +kernel
theorem dX3_sag_63 : decode cX3_sag 63 = .ok (.aload 8, 2) := by decide +kernel
theorem dX3_sag_65 : decode cX3_sag 65 = .ok (.getfield 37, 3) := by decide +kernel
theorem dX3_sag_68 : decode cX3_sag 68 = .ok (.iload_n 1, 1) := by decide +kernel
theorem dX3_sag_69 : decode cX3_sag 69 = .ok (.if_icmp .ne 36, 3) := by decide +kernel
theorem dX3_sag_72 : decode cX3_sag 72 = .ok (.iload 4, 2) := by decide +kernel
theorem dX3_sag_74 : decode cX3_sag 74 = .ok (.aload 8, 2) := by decide +kernel
theorem dX3_sag_76 : decode cX3_sag 76 = .ok (.invokevirtual 62, 3) := by decide +kernel
theorem dX3_sag_79 : decode cX3_sag 79 = .ok (.iload_n 2, 1) := by decide +kernel
theorem dX3_sag_80 : decode cX3_sag 80 = .ok (.aload 8, 2) := by decide +kernel
theorem dX3_sag_82 : decode cX3_sag 82 = .ok (.getfield 40, 3) := by decide +kernel
theorem dX3_sag_85 : decode cX3_sag 85 = .ok (.invokestatic 66, 3) := by decide +kernel
theorem dX3_sag_88 : decode cX3_sag 88 = .ok (.imul, 1) := by decide +kernel
theorem dX3_sag_89 : decode cX3_sag 89 = .ok (.bipush 9, 2) := by decide +kernel
theorem dX3_sag_91 : decode cX3_sag 91 = .ok (.iload_n 2, 1) := by decide +kernel
theorem dX3_sag_92 : decode cX3_sag 92 = .ok (.aload 8, 2) := by decide +kernel
theorem dX3_sag_94 : decode cX3_sag 94 = .ok (.getfield 40, 3) := by decide +kernel
theorem dX3_sag_97 : decode cX3_sag 97 = .ok (.invokestatic 72, 3) := by decide +kernel
theorem dX3_sag_100 : decode cX3_sag 100 = .ok (.isub, 1) := by decide +kernel
theorem dX3_sag_101 : decode cX3_sag 101 = .ok (.imul, 1) := by decide +kernel
theorem dX3_sag_102 : decode cX3_sag 102 = .ok (.iadd, 1) := by decide +kernel
theorem dX3_sag_103 : decode cX3_sag 103 = .ok (.istore 4, 2) := by decide +kernel
theorem dX3_sag_105 : decode cX3_sag 105 = .ok (.iinc 7 1, 3) := by decide +kernel
theorem dX3_sag_108 : decode cX3_sag 108 = .ok (.goto (-64), 3) := by decide +kernel
theorem dX3_sag_111 : decode cX3_sag 111 = .ok (.iload 4, 2) := by decide +kernel
theorem dX3_sag_113 : decode cX3_sag 113 = .ok (.iload_n 3, 1) := by decide +kernel
theorem dX3_sag_114 : decode cX3_sag 114 = .ok (.idiv, 1) := by decide +kernel
theorem dX3_sag_115 : decode cX3_sag 115 = .ok (.aload_n 0, 1) := by decide +kernel
theorem dX3_sag_116 : decode cX3_sag 116 = .ok (.getfield 31, 3) := by decide +kernel
theorem dX3_sag_119 : decode cX3_sag 119 = .ok (.iadd, 1) := by decide +kernel
theorem dX3_sag_120 : decode cX3_sag 120 = .ok (.ireturn, 1) := by decide +kernel
set_option maxRecDepth 20000 in
theorem ggX3_depth_X3_sag : GoodIn wsX3_depth wsX3_sag := goodIn_r _ [5, 6, 7, 8, 9, 10, 11, 12, 13, 14, 15, 16, 17, 18, 19, 20, 21, 22, 23, 24, 25, 26, 27, 28, 29, 30, 31, 32, 33, 34, 35, 36, 37, 38, 39, 40, 41, 42, 43, 44, 45, 46, 47, 48, 49, 50, 51, 52, 53, 54, 55, 56, 57, 58, 59, 60, 61, 62, 63, 64, 65, 66, 67, 68, 69, 70, 71, 72, 73, 74, 75, 76, 77, 78, 79, 80, 81, 82, 83, 84, 85, 86, 87, 88, 89, 90, 91, 92, 93, 94, 95, 96, 97, 98, 99, 100, 101, 102, 103, 104, 105, 106, 107, 108, 109, 110] (by decide +kernel) (by decide +kernel)
set_option maxRecDepth 20000 in
theorem gX3_depth_X3_sag : GoodIn wsX3_depth (wsV RX3 75 RX3 yX3_sag wsX3_sag) := goodIn_app (goodIn_of _ (by decide +kernel)) ggX3_depth_X3_sag
theorem dX3_depth_0 : decode cX3_depth 0 = .ok (.aload_n 0, 1) := by decide +kernel
theorem dX3_depth_1 : decode cX3_depth 1 = .ok (.iload_n 1, 1) := by decide +kernel
theorem dX3_depth_2 : decode cX3_depth 2 = .ok (.iload_n 2, 1) := by decide +kernel
theorem dX3_depth_3 : decode cX3_depth 3 = .ok (.invokevirtual 75, 3) := by decide +kernel
theorem dX3_depth_6 : decode cX3_depth 6 = .ok (.aload_n 0, 1) := by decide +kernel
theorem dX3_depth_7 : decode cX3_depth 7 = .ok (.iload_n 1, 1) := by decide +kernel
theorem dX3_depth_8 : decode cX3_depth 8 = .ok (.iconst 1, 1) := by decide +kernel
theorem dX3_depth_9 : decode cX3_depth 9 = .ok (.isub, 1) := by decide +kernel
theorem dX3_depth_10 : decode cX3_depth 10 = .ok (.iload_n 2, 1) := by decide +kernel
theorem dX3_depth_11 : decode cX3_depth 11 = .ok (.invokevirtual 75, 3) := by decide +kernel
theorem dX3_depth_14 : decode cX3_depth 14 = .ok (.aload_n 0, 1) := by decide +kernel
theorem dX3_depth_15 : decode cX3_depth 15 = .ok (.iload_n 1, 1) := by decide +kernel
theorem dX3_depth_16 : decode cX3_depth 16 = .ok (.iconst 1, 1) := by decide +kernel
theorem dX3_depth_17 : decode cX3_depth 17 = .ok (.iadd, 1) := by decide +kernel
theorem dX3_depth_18 : decode cX3_depth 18 = .ok (.iload_n 2, 1) := by decide +kernel
theorem dX3_depth_19 : decode cX3_depth 19 = .ok (.invokevirtual 75, 3) := by decide +kernel
theorem dX3_depth_22 : decode cX3_depth 22 = .ok (.iadd, 1) := by decide +kernel
theorem dX3_depth_23 : decode cX3_depth 23 = .ok (.iconst 4, 1) := by decide +kernel
theorem dX3_depth_24 : decode cX3_depth 24 = .ok (.idiv, 1) := by decide +kernel
theorem dX3_depth_25 : decode cX3_depth 25 = .ok (.isub, 1) := by decide +kernel
theorem dX3_depth_26 : decode cX3_depth 26 = .ok (.ireturn, 1) := by decide +kernel
set_option maxRecDepth 20000 in
theorem ggX3_price_X3_depth : GoodIn wsX3_price wsX3_depth := goodIn_r _ [12, 13, 14, 15, 11, 16, 17, 18, 2, 3, 19, 20, 6, 21, 4, 5, 7, 22, 23, 24, 25, 26, 27, 28, 29, 30, 31, 32, 33, 34, 35, 36, 37, 38, 39, 40, 41, 42, 43, 44, 45, 46, 47, 48, 49, 50, 51, 52, 53, 54, 55, 56, 57, 58, 59, 60, 61, 62, 63, 64, 65, 66, 67, 68, 69, 70, 71, 72, 73, 74, 110, 111, 112, 113, 114, 115, 75, 76, 77, 78, 79, 80, 81, 82, 83, 84, 85, 86, 87, 88, 89, 90, 91, 92, 93, 94, 95, 96, 97, 98, 99, 100, 101, 102, 103, 104, 105, 106, 107, 108, 109] (by decide +kernel) (by decide +kernel)
set_option maxRecDepth 20000 in
theorem gX3_price_X3_depth : GoodIn wsX3_price (wsV RX3 78 RX3 yX3_depth wsX3_depth) := goodIn_app (goodIn_of _ (by decide +kernel)) ggX3_price_X3_depth
theorem dX3_price_0 : decode cX3_price 0 = .ok (.iconst 0, 1) := by decide +kernel
theorem dX3_price_1 : decode cX3_price 1 = .ok (.aload_n 1, 1) := by decide +kernel
theorem dX3_price_2 : decode cX3_price 2 = .ok (.getfield 43, 3) := by decide +kernel
theorem dX3_price_5 : decode cX3_price 5 = .ok (.aload_n 0, 1) := by decide +kernel
theorem dX3_price_6 : decode cX3_price 6 = .ok (.aload_n 1, 1) := by decide +kernel
theorem dX3_price_7 : decode cX3_price 7 = .ok (.getfield 37, 3) := by decide +kernel
theorem dX3_price_10 : decode cX3_price 10 = .ok (.aload_n 1, 1) := by decide +kernel
theorem dX3_price_11 : decode cX3_price 11 = .ok (.getfield 40, 3) := by decide +kernel
theorem dX3_price_14 : decode cX3_price 14 = .ok (.invokevirtual 78, 3) := by decide +kernel
theorem dX3_price_17 : decode cX3_price 17 = .ok (.iconst 5, 1) := by decide +kernel
theorem dX3_price_18 : decode cX3_price 18 = .ok (.idiv, 1) := by decide +kernel
theorem dX3_price_19 : decode cX3_price 19 = .ok (.isub, 1) := by decide +kernel
theorem dX3_price_20 : decode cX3_price 20 = .ok (.invokestatic 72, 3) := by decide +kernel
theorem dX3_price_23 : decode cX3_price 23 = .ok (.ireturn, 1) := by decide +kernel
set_option maxRecDepth 20000 in
theorem ggX3_dropping_X3_depth : GoodIn wsX3_dropping wsX3_depth := goodIn_r _ [10, 11, 12, 13, 9, 14, 15, 1, 2, 3, 16, 17, 18, 19, 20, 21, 22, 23, 24, 25, 26, 27, 28, 29, 30, 31, 32, 33, 34, 35, 36, 37, 38, 39, 40, 41, 42, 43, 44, 45, 46, 47, 48, 49, 50, 51, 52, 53, 54, 55, 56, 57, 58, 59, 60, 61, 62, 63, 64, 65, 66, 67, 68, 69, 70, 71, 72, 73, 74, 75, 76, 77, 78, 79, 80, 81, 82, 83, 84, 85, 86, 87, 88, 89, 90, 91, 92, 93, 94, 95, 96, 97, 98, 99, 100, 101, 102, 103, 104, 105, 106, 107, 108, 109, 110, 111, 112, 113, 114, 115, 116] (by decide +kernel) (by decide +kernel)
set_option maxRecDepth 20000 in
theorem gX3_dropping_X3_depth : GoodIn wsX3_dropping (wsV RX3 78 RX3 yX3_depth wsX3_depth) := goodIn_app (goodIn_of _ (by decide +kernel)) ggX3_dropping_X3_depth
theorem dX3_dropping_0 : decode cX3_dropping 0 = .ok (.iconst 0, 1) := by decide +kernel
theorem dX3_dropping_1 : decode cX3_dropping 1 = .ok (.istore_n 1, 1) := by decide +kernel
theorem dX3_dropping_2 : decode cX3_dropping 2 = .ok (.aload_n 0, 1) := by decide +kernel
theorem dX3_dropping_3 : decode cX3_dropping 3 = .ok (.getfield 24, 3) := by decide +kernel
theorem dX3_dropping_6 : decode cX3_dropping 6 = .ok (.astore_n 2, 1) := by decide +kernel
theorem dX3_dropping_7 : decode cX3_dropping 7 = .ok (.aload_n 2, 1) := by decide +kernel
theorem dX3_dropping_8 : decode cX3_dropping 8 = .ok (.arraylength, 1) := by decide +kernel
theorem dX3_dropping_9 : decode cX3_dropping 9 = .ok (.istore_n 3, 1) := by decide +kernel
theorem dX3_dropping_10 : decode cX3_dropping 10 = .ok (.iconst 0, 1) := by decide +kernel
theorem dX3_dropping_11 : decode cX3_dropping 11 = .ok (.istore 4, 2) := by decide +kernel
theorem dX3_dropping_13 : decode cX3_dropping 13 = .ok (.iload 4, 2) := by decide +kernel
theorem dX3_dropping_15 : decode cX3_dropping 15 = .ok (.iload_n 3, 1) := by decide +kernel
theorem dX3_dropping_16 : decode cX3_dropping 16 = .ok (.if_icmp .ge 51, 3) := by decide +kernel
theorem dX3_dropping_19 : decode cX3_dropping 19 = .ok (.aload_n 2, 1) := by decide +kernel
theorem dX3_dropping_20 : decode cX3_dropping 20 = .ok (.iload 4, 2) := by decide +kernel
theorem dX3_dropping_22 : decode cX3_dropping 22 = .ok (.aaload, 1) := by decide +kernel
theorem dX3_dropping_23 : decode cX3_dropping 23 = .ok (.astore 5, 2) := by decide +kernel
theorem dX3_dropping_25 : decode cX3_dropping 25 = .ok (.aload 5, 2) := by decide +kernel
theorem dX3_dropping_27 : decode cX3_dropping 27 = .ok (.ifnull 34, 3) := by decide +kernel
theorem dX3_dropping_30 : decode cX3_dropping 30 = .ok (.aload_n 0, 1) := by decide +kernel
theorem dX3_dropping_31 : decode cX3_dropping 31 = .ok (.aload 5, 2) := by decide +kernel
theorem dX3_dropping_33 : decode cX3_dropping 33 = .ok (.getfield 37, 3) := by decide +kernel
theorem dX3_dropping_36 : decode cX3_dropping 36 = .ok (.aload 5, 2) := by decide +kernel
theorem dX3_dropping_38 : decode cX3_dropping 38 = .ok (.getfield 40, 3) := by decide +kernel
theorem dX3_dropping_41 : decode cX3_dropping 41 = .ok (.invokevirtual 78, 3) := by decide +kernel
theorem dX3_dropping_44 : decode cX3_dropping 44 = .ok (.aload_n 0, 1) := by decide +kernel
theorem dX3_dropping_45 : decode cX3_dropping 45 = .ok (.getfield 28, 3) := by decide +kernel
theorem dX3_dropping_48 : decode cX3_dropping 48 = .ok (.if_icmp .le 13, 3) := by decide +kernel
theorem dX3_dropping_51 : decode cX3_dropping 51 = .ok (.iload_n 1, 1) := by decide +kernel
theorem dX3_dropping_52 : decode cX3_dropping 52 = .ok (.iconst 1, 1) := by decide +kernel
theorem dX3_dropping_53 : decode cX3_dropping 53 = .ok (.aload 5, 2) := by decide +kernel
theorem dX3_dropping_55 : decode cX3_dropping 55 = .ok (.getfield 34, 3) := by decide +kernel
theorem dX3_dropping_58 : decode cX3_dropping 58 = .ok (.ishl, 1) := by decide +kernel
theorem dX3_dropping_59 : decode cX3_dropping 59 = .ok (.ior, 1) := by decide +kernel
theorem dX3_dropping_60 : decode cX3_dropping 60 = .ok (.istore_n 1, 1) := by decide +kernel
theorem dX3_dropping_61 : decode cX3_dropping 61 = .ok (.iinc 4 1, 3) := by decide +kernel
theorem dX3_dropping_64 : decode cX3_dropping 64 = .ok (.goto (-51), 3) := by decide +kernel
theorem dX3_dropping_67 : decode cX3_dropping 67 = .ok (.iload_n 1, 1) := by decide +kernel
theorem dX3_dropping_68 : decode cX3_dropping 68 = .ok (.ireturn, 1) := by decide +kernel
set_option maxRecDepth 20000 in
theorem ggX3_firstDropping_X3_depth : GoodIn wsX3_firstDropping wsX3_depth := goodIn_r _ [11, 12, 13, 14, 10, 15, 16, 1, 2, 3, 17, 18, 19, 20, 21, 22, 23, 24, 25, 26, 27, 28, 29, 30, 31, 32, 33, 34, 35, 36, 37, 38, 39, 40, 41, 42, 43, 44, 45, 46, 47, 48, 49, 50, 51, 52, 53, 54, 55, 56, 57, 58, 59, 60, 61, 62, 63, 64, 65, 66, 67, 68, 69, 70, 71, 72, 73, 74, 75, 76, 77, 78, 79, 80, 81, 82, 83, 84, 85, 86, 87, 88, 89, 90, 91, 92, 93, 94, 95, 96, 97, 98, 99, 100, 101, 102, 103, 104, 105, 106, 107, 108, 109, 110, 111, 112, 113, 114, 115, 116, 117] (by decide +kernel) (by decide +kernel)
set_option maxRecDepth 20000 in
theorem gX3_firstDropping_X3_depth : GoodIn wsX3_firstDropping (wsV RX3 78 RX3 yX3_depth wsX3_depth) := goodIn_app (goodIn_of _ (by decide +kernel)) ggX3_firstDropping_X3_depth
theorem dX3_firstDropping_0 : decode cX3_firstDropping 0 = .ok (.aload_n 0, 1) := by decide +kernel
theorem dX3_firstDropping_1 : decode cX3_firstDropping 1 = .ok (.getfield 24, 3) := by decide +kernel
theorem dX3_firstDropping_4 : decode cX3_firstDropping 4 = .ok (.astore_n 1, 1) := by decide +kernel
theorem dX3_firstDropping_5 : decode cX3_firstDropping 5 = .ok (.aload_n 1, 1) := by decide +kernel
theorem dX3_firstDropping_6 : decode cX3_firstDropping 6 = .ok (.arraylength, 1) := by decide +kernel
theorem dX3_firstDropping_7 : decode cX3_firstDropping 7 = .ok (.istore_n 2, 1) := by decide +kernel
theorem dX3_firstDropping_8 : decode cX3_firstDropping 8 = .ok (.iconst 0, 1) := by decide +kernel
theorem dX3_firstDropping_9 : decode cX3_firstDropping 9 = .ok (.istore_n 3, 1) := by decide +kernel
theorem dX3_firstDropping_10 : decode cX3_firstDropping 10 = .ok (.iload_n 3, 1) := by decide +kernel
theorem dX3_firstDropping_11 : decode cX3_firstDropping 11 = .ok (.iload_n 2, 1) := by decide +kernel
theorem dX3_firstDropping_12 : decode cX3_firstDropping 12 = .ok (.if_icmp .ge 46, 3) := by decide +kernel
theorem dX3_firstDropping_15 : decode cX3_firstDropping 15 = .ok (.aload_n 1, 1) := by decide +kernel
theorem dX3_firstDropping_16 : decode cX3_firstDropping 16 = .ok (.iload_n 3, 1) := by decide +kernel
theorem dX3_firstDropping_17 : decode cX3_firstDropping 17 = .ok (.aaload, 1) := by decide +kernel
theorem dX3_firstDropping_18 : decode cX3_firstDropping 18 = .ok (.astore 4, 2) := by decide +kernel
theorem dX3_firstDropping_20 : decode cX3_firstDropping 20 = .ok (.aload 4, 2) := by decide +kernel
theorem dX3_firstDropping_22 : decode cX3_firstDropping 22 = .ok (.ifnull 30, 3) := by decide +kernel
theorem dX3_firstDropping_25 : decode cX3_firstDropping 25 = .ok (.aload_n 0, 1) := by decide +kernel
theorem dX3_firstDropping_26 : decode cX3_firstDropping 26 = .ok (.aload 4, 2) := by decide +kernel
theorem dX3_firstDropping_28 : decode cX3_firstDropping 28 = .ok (.getfield 37, 3) := by decide +kernel
theorem dX3_firstDropping_31 : decode cX3_firstDropping 31 = .ok (.aload 4, 2) := by decide +kernel
theorem dX3_firstDropping_33 : decode cX3_firstDropping 33 = .ok (.getfield 40, 3) := by decide +kernel
theorem dX3_firstDropping_36 : decode cX3_firstDropping 36 = .ok (.invokevirtual 78, 3) := by decide +kernel
theorem dX3_firstDropping_39 : decode cX3_firstDropping 39 = .ok (.aload_n 0, 1) := by decide +kernel
theorem dX3_firstDropping_40 : decode cX3_firstDropping 40 = .ok (.getfield 28, 3) := by decide +kernel
theorem dX3_firstDropping_43 : decode cX3_firstDropping 43 = .ok (.if_icmp .le 9, 3) := by decide +kernel
theorem dX3_firstDropping_46 : decode cX3_firstDropping 46 = .ok (.aload 4, 2) := by decide +kernel
theorem dX3_firstDropping_48 : decode cX3_firstDropping 48 = .ok (.getfield 34, 3) := by decide +kernel
theorem dX3_firstDropping_51 : decode cX3_firstDropping 51 = .ok (.ireturn, 1) := by decide +kernel
theorem dX3_firstDropping_52 : decode cX3_firstDropping 52 = .ok (.iinc 3 1, 3) := by decide +kernel
theorem dX3_firstDropping_55 : decode cX3_firstDropping 55 = .ok (.goto (-45), 3) := by decide +kernel
theorem dX3_firstDropping_58 : decode cX3_firstDropping 58 = .ok (.ldc 81, 2) := by decide +kernel
theorem dX3_firstDropping_60 : decode cX3_firstDropping 60 = .ok (.ireturn, 1) := by decide +kernel
theorem dX3_joins_0 : decode cX3_joins 0 = .ok (.aload_n 1, 1) := by decide +kernel
theorem dX3_joins_1 : decode cX3_joins 1 = .ok (.getfield 37, 3) := by decide +kernel
theorem dX3_joins_4 : decode cX3_joins 4 = .ok (.aload_n 2, 1) := by decide +kernel
theorem dX3_joins_5 : decode cX3_joins 5 = .ok (.getfield 37, 3) := by decide +kernel
theorem dX3_joins_8 : decode cX3_joins 8 = .ok (.isub, 1) := by decide +kernel
theorem dX3_joins_9 : decode cX3_joins 9 = .ok (.invokestatic 82, 3) := by decide +kernel
theorem dX3_joins_12 : decode cX3_joins 12 = .ok (.iconst 1, 1) := by decide +kernel
theorem dX3_joins_13 : decode cX3_joins 13 = .ok (.if_icmp .ne 18, 3) := by decide +kernel
theorem dX3_joins_16 : decode cX3_joins 16 = .ok (.aload_n 1, 1) := by decide +kernel
theorem dX3_joins_17 : decode cX3_joins 17 = .ok (.getfield 40, 3) := by decide +kernel
theorem dX3_joins_20 : decode cX3_joins 20 = .ok (.aload_n 2, 1) := by decide +kernel
theorem dX3_joins_21 : decode cX3_joins 21 = .ok (.getfield 40, 3) := by decide +kernel
theorem dX3_joins_24 : decode cX3_joins 24 = .ok (.if_icmp .ne 7, 3) := by decide +kernel
theorem dX3_joins_27 : decode cX3_joins 27 = .ok (.iconst 1, 1) := by decide +kernel
theorem dX3_joins_28 : decode cX3_joins 28 = .ok (.goto 4, 3) := by decide +kernel
theorem dX3_joins_31 : decode cX3_joins 31 = .ok (.iconst 0, 1) := by decide +kernel
theorem dX3_joins_32 : decode cX3_joins 32 = .ok (.ireturn, 1) := by decide +kernel
set_option maxRecDepth 20000 in
theorem ggX3_meets_X3_depth : GoodIn wsX3_meets wsX3_depth := goodIn_r _ [11, 12, 13, 14, 10, 15, 16, 17, 1, 2, 18, 19, 5, 20, 21, 22, 23, 24, 25, 26, 27, 28, 29, 30, 31, 32, 33, 34, 35, 36, 37, 38, 39, 40, 41, 42, 43, 44, 45, 46, 47, 48, 49, 50, 51, 52, 53, 54, 55, 56, 57, 58, 59, 60, 61, 62, 63, 64, 65, 66, 67, 68, 69, 70, 71, 72, 73, 74, 75, 76, 112, 113, 114, 115, 116, 117, 77, 78, 79, 80, 81, 82, 83, 84, 85, 86, 87, 88, 89, 90, 91, 92, 93, 94, 95, 96, 97, 98, 99, 100, 101, 102, 103, 104, 105, 106, 107, 108, 109, 110, 111] (by decide +kernel) (by decide +kernel)
set_option maxRecDepth 20000 in
theorem gX3_meets_X3_depth : GoodIn wsX3_meets (wsV RX3 78 RX3 yX3_depth wsX3_depth) := goodIn_app (goodIn_of _ (by decide +kernel)) ggX3_meets_X3_depth
theorem dX3_meets_0 : decode cX3_meets 0 = .ok (.aload_n 0, 1) := by decide +kernel
theorem dX3_meets_1 : decode cX3_meets 1 = .ok (.aload_n 1, 1) := by decide +kernel
theorem dX3_meets_2 : decode cX3_meets 2 = .ok (.getfield 37, 3) := by decide +kernel
theorem dX3_meets_5 : decode cX3_meets 5 = .ok (.aload_n 1, 1) := by decide +kernel
theorem dX3_meets_6 : decode cX3_meets 6 = .ok (.getfield 40, 3) := by decide +kernel
theorem dX3_meets_9 : decode cX3_meets 9 = .ok (.invokevirtual 78, 3) := by decide +kernel
theorem dX3_meets_12 : decode cX3_meets 12 = .ok (.aload_n 0, 1) := by decide +kernel
theorem dX3_meets_13 : decode cX3_meets 13 = .ok (.aload_n 2, 1) := by decide +kernel
theorem dX3_meets_14 : decode cX3_meets 14 = .ok (.getfield 37, 3) := by decide +kernel
theorem dX3_meets_17 : decode cX3_meets 17 = .ok (.aload_n 2, 1) := by decide +kernel
theorem dX3_meets_18 : decode cX3_meets 18 = .ok (.getfield 40, 3) := by decide +kernel
theorem dX3_meets_21 : decode cX3_meets 21 = .ok (.invokevirtual 78, 3) := by decide +kernel
theorem dX3_meets_24 : decode cX3_meets 24 = .ok (.isub, 1) := by decide +kernel
theorem dX3_meets_25 : decode cX3_meets 25 = .ok (.invokestatic 82, 3) := by decide +kernel
theorem dX3_meets_28 : decode cX3_meets 28 = .ok (.iconst 1, 1) := by decide +kernel
theorem dX3_meets_29 : decode cX3_meets 29 = .ok (.if_icmp .gt 7, 3) := by decide +kernel
theorem dX3_meets_32 : decode cX3_meets 32 = .ok (.iconst 1, 1) := by decide +kernel
theorem dX3_meets_33 : decode cX3_meets 33 = .ok (.goto 4, 3) := by decide +kernel
theorem dX3_meets_36 : decode cX3_meets 36 = .ok (.iconst 0, 1) := by decide +kernel
theorem dX3_meets_37 : decode cX3_meets 37 = .ok (.ireturn, 1) := by decide +kernel
set_option maxRecDepth 20000 in
theorem ggX3_countWalkways_X3_joins : GoodIn wsX3_countWalkways wsX3_joins := goodIn_r _ [7, 8, 9, 10, 11, 12, 13, 92, 93, 94, 95, 96, 97, 98, 99, 100, 101, 102, 103, 104, 105, 106, 107, 108, 109, 110, 111, 112, 113, 114, 115, 116, 117, 118, 119, 120, 121, 122, 123, 124, 125, 126] (by decide +kernel) (by decide +kernel)
set_option maxRecDepth 20000 in
theorem gX3_countWalkways_X3_joins : GoodIn wsX3_countWalkways (wsV RX3 86 RX3 yX3_joins wsX3_joins) := goodIn_app (goodIn_of _ (by decide +kernel)) ggX3_countWalkways_X3_joins
set_option maxRecDepth 20000 in
theorem ggX3_countWalkways_X3_meets : GoodIn wsX3_countWalkways wsX3_meets := goodIn_r _ [17, 8, 13, 9, 10, 11, 12, 18, 19, 20, 6, 21, 22, 23, 24, 25, 26, 1, 27, 28, 29, 30, 31, 32, 33, 34, 35, 36, 37, 38, 39, 40, 41, 42, 43, 44, 45, 46, 47, 48, 49, 50, 51, 52, 53, 54, 55, 56, 57, 58, 59, 60, 61, 62, 63, 64, 65, 66, 67, 68, 69, 70, 71, 72, 73, 74, 75, 76, 77, 78, 79, 80, 81, 82, 83, 84, 85, 92, 93, 94, 95, 96, 97, 98, 99, 100, 101, 102, 103, 104, 105, 106, 107, 108, 109, 110, 111, 112, 113, 114, 115, 116, 117, 118, 119, 120, 121, 122, 123, 124, 125, 126, 86, 87, 88, 89, 90, 91] (by decide +kernel) (by decide +kernel)
set_option maxRecDepth 20000 in
theorem gX3_countWalkways_X3_meets : GoodIn wsX3_countWalkways (wsV RX3 90 RX3 yX3_meets wsX3_meets) := goodIn_app (goodIn_of _ (by decide +kernel)) ggX3_countWalkways_X3_meets
theorem dX3_countWalkways_0 : decode cX3_countWalkways 0 = .ok (.iconst 0, 1) := by decide +kernel
theorem dX3_countWalkways_1 : decode cX3_countWalkways 1 = .ok (.istore_n 2, 1) := by decide +kernel
theorem dX3_countWalkways_2 : decode cX3_countWalkways 2 = .ok (.aload_n 0, 1) := by decide +kernel
theorem dX3_countWalkways_3 : decode cX3_countWalkways 3 = .ok (.getfield 24, 3) := by decide +kernel
theorem dX3_countWalkways_6 : decode cX3_countWalkways 6 = .ok (.astore_n 3, 1) := by decide +kernel
theorem dX3_countWalkways_7 : decode cX3_countWalkways 7 = .ok (.aload_n 3, 1) := by decide +kernel
theorem dX3_countWalkways_8 : decode cX3_countWalkways 8 = .ok (.arraylength, 1) := by decide +kernel
theorem dX3_countWalkways_9 : decode cX3_countWalkways 9 = .ok (.istore 4, 2) := by decide +kernel
theorem dX3_countWalkways_11 : decode cX3_countWalkways 11 = .ok (.iconst 0, 1) := by decide +kernel
theorem dX3_countWalkways_12 : decode cX3_countWalkways 12 = .ok (.istore 5, 2) := by decide +kernel
theorem dX3_countWalkways_14 : decode cX3_countWalkways 14 = .ok (.iload 5, 2) := by decide +kernel
theorem dX3_countWalkways_16 : decode cX3_countWalkways 16 = .ok (.iload 4, 2) := by decide +kernel
theorem dX3_countWalkways_18 : decode cX3_countWalkways 18 = .ok (.if_icmp .ge 101, 3) := by decide +kernel
theorem dX3_countWalkways_21 : decode cX3_countWalkways 21 = .ok (.aload_n 3, 1) := by decide +kernel
theorem dX3_countWalkways_22 : decode cX3_countWalkways 22 = .ok (.iload 5, 2) := by decide +kernel
theorem dX3_countWalkways_24 : decode cX3_countWalkways 24 = .ok (.aaload, 1) := by decide +kernel
theorem dX3_countWalkways_25 : decode cX3_countWalkways 25 = .ok (.astore 6, 2) := by decide +kernel
theorem dX3_countWalkways_27 : decode cX3_countWalkways 27 = .ok (.aload_n 0, 1) := by decide +kernel
theorem dX3_countWalkways_28 : decode cX3_countWalkways 28 = .ok (.getfield 24, 3) := by decide +kernel
theorem dX3_countWalkways_31 : decode cX3_countWalkways 31 = .ok (.astore 7, 2) := by decide +kernel
theorem dX3_countWalkways_33 : decode cX3_countWalkways 33 = .ok (.aload 7, 2) := by decide +kernel
theorem dX3_countWalkways_35 : decode cX3_countWalkways 35 = .ok (.arraylength, 1) := by decide +kernel
theorem dX3_countWalkways_36 : decode cX3_countWalkways 36 = .ok (.istore 8, 2) := by decide +kernel
theorem dX3_countWalkways_38 : decode cX3_countWalkways 38 = .ok (.iconst 0, 1) := by decide +kernel
theorem dX3_countWalkways_39 : decode cX3_countWalkways 39 = .ok (.istore 9, 2) := by decide +kernel
theorem dX3_countWalkways_41 : decode cX3_countWalkways 41 = .ok (.iload 9, 2) := by decide +kernel
theorem dX3_countWalkways_43 : decode cX3_countWalkways 43 = .ok (.iload 8, 2) := by decide +kernel
theorem dX3_countWalkways_45 : decode cX3_countWalkways 45 = .ok (.if_icmp .ge 68, 3) := by decide +kernel
theorem dX3_countWalkways_48 : decode cX3_countWalkways 48 = .ok (.aload 7, 2) := by decide +kernel
theorem dX3_countWalkways_50 : decode cX3_countWalkways 50 = .ok (.iload 9, 2) := by decide +kernel
theorem dX3_countWalkways_52 : decode cX3_countWalkways 52 = .ok (.aaload, 1) := by decide +kernel
theorem dX3_countWalkways_53 : decode cX3_countWalkways 53 = .ok (.astore 10, 2) := by decide +kernel
theorem dX3_countWalkways_55 : decode cX3_countWalkways 55 = .ok (.aload 6, 2) := by decide +kernel
theorem dX3_countWalkways_57 : decode cX3_countWalkways 57 = .ok (.ifnull 50, 3) := by decide +kernel
theorem dX3_countWalkways_60 : decode cX3_countWalkways 60 = .ok (.aload 10, 2) := by decide +kernel
theorem dX3_countWalkways_62 : decode cX3_countWalkways 62 = .ok (.ifnull 45, 3) := by decide +kernel
theorem dX3_countWalkways_65 : decode cX3_countWalkways 65 = .ok (.aload 6, 2) := by decide +kernel
theorem dX3_countWalkways_67 : decode cX3_countWalkways 67 = .ok (.getfield 34, 3) := by decide +kernel
theorem dX3_countWalkways_70 : decode cX3_countWalkways 70 = .ok (.aload 10, 2) := by decide +kernel
theorem dX3_countWalkways_72 : decode cX3_countWalkways 72 = .ok (.getfield 34, 3) := by decide +kernel
theorem dX3_countWalkways_75 : decode cX3_countWalkways 75 = .ok (.if_icmp .ge 32, 3) := by decide +kernel
theorem dX3_countWalkways_78 : decode cX3_countWalkways 78 = .ok (.aload_n 0, 1) := by decide +kernel
theorem dX3_countWalkways_79 : decode cX3_countWalkways 79 = .ok (.aload 6, 2) := by decide +kernel
theorem dX3_countWalkways_81 : decode cX3_countWalkways 81 = .ok (.aload 10, 2) := by decide +kernel
theorem dX3_countWalkways_83 : decode cX3_countWalkways 83 = .ok (.invokevirtual 86, 3) := by decide +kernel
theorem dX3_countWalkways_86 : decode cX3_countWalkways 86 = .ok (.ifCond .eq 21, 3) := by decide +kernel
theorem dX3_countWalkways_89 : decode cX3_countWalkways 89 = .ok (.iload_n 1, 1) := by decide +kernel
theorem dX3_countWalkways_90 : decode cX3_countWalkways 90 = .ok (.ifCond .eq 14, 3) := by decide +kernel
theorem dX3_countWalkways_93 : decode cX3_countWalkways 93 = .ok (.aload_n 0, 1) := by decide +kernel
theorem dX3_countWalkways_94 : decode cX3_countWalkways 94 = .ok (.aload 6, 2) := by decide +kernel
theorem dX3_countWalkways_96 : decode cX3_countWalkways 96 = .ok (.aload 10, 2) := by decide +kernel
theorem dX3_countWalkways_98 : decode cX3_countWalkways 98 = .ok (.invokevirtual 90, 3) := by decide +kernel
theorem dX3_countWalkways_101 : decode cX3_countWalkways 101 = .ok (.ifCond .eq 6, 3) := by decide +kernel
theorem dX3_countWalkways_104 : decode cX3_countWalkways 104 = .ok (.iinc 2 1, 3) := by decide +kernel
theorem dX3_countWalkways_107 : decode cX3_countWalkways 107 = .ok (.iinc 9 1, 3) := by decide +kernel
theorem dX3_countWalkways_110 : decode cX3_countWalkways 110 = .ok (.goto (-69), 3) := by decide +kernel
theorem dX3_countWalkways_113 : decode cX3_countWalkways 113 = .ok (.iinc 5 1, 3) := by decide +kernel
theorem dX3_countWalkways_116 : decode cX3_countWalkways 116 = .ok (.goto (-102), 3) := by decide +kernel
theorem dX3_countWalkways_119 : decode cX3_countWalkways 119 = .ok (.iload_n 2, 1) := by decide +kernel
theorem dX3_countWalkways_120 : decode cX3_countWalkways 120 = .ok (.ireturn, 1) := by decide +kernel
set_option maxRecDepth 20000 in
theorem ggX3_hangsAs_X5_has : GoodIn wsX3_hangsAs wsX5_has := goodIn_r _ [11, 12, 89, 90, 91] (by decide +kernel) (by decide +kernel)
set_option maxRecDepth 20000 in
theorem gX3_hangsAs_X5_has : GoodIn wsX3_hangsAs (wsV RX3 93 RX5 yX5_has wsX5_has) := goodIn_app (goodIn_of _ (by decide +kernel)) ggX3_hangsAs_X5_has
set_option maxRecDepth 20000 in
theorem ggX3_hangsAs_X3_depth : GoodIn wsX3_hangsAs wsX3_depth := goodIn_r _ [17, 18, 19, 20, 16, 21, 22, 2, 5, 6, 23, 24, 25, 26, 27, 28, 29, 30, 31, 32, 33, 34, 35, 36, 37, 38, 39, 40, 41, 42, 43, 44, 45, 46, 47, 48, 49, 50, 51, 52, 53, 54, 55, 56, 57, 58, 59, 60, 61, 62, 63, 64, 65, 66, 67, 68, 69, 70, 71, 72, 73, 74, 75, 76, 77, 78, 79, 80, 81, 82, 83, 84, 85, 86, 87, 88, 92, 93, 94, 95, 96, 97, 98, 99, 100, 101, 102, 103, 104, 105, 106, 107, 108, 109, 110, 111, 112, 113, 114, 115, 116, 117, 118, 119, 120, 121, 122, 123, 124, 125, 126] (by decide +kernel) (by decide +kernel)
set_option maxRecDepth 20000 in
theorem gX3_hangsAs_X3_depth : GoodIn wsX3_hangsAs (wsV RX3 78 RX3 yX3_depth wsX3_depth) := goodIn_app (goodIn_of _ (by decide +kernel)) ggX3_hangsAs_X3_depth
theorem dX3_hangsAs_0 : decode cX3_hangsAs 0 = .ok (.aload_n 1, 1) := by decide +kernel
theorem dX3_hangsAs_1 : decode cX3_hangsAs 1 = .ok (.iload_n 2, 1) := by decide +kernel
theorem dX3_hangsAs_2 : decode cX3_hangsAs 2 = .ok (.aload_n 0, 1) := by decide +kernel
theorem dX3_hangsAs_3 : decode cX3_hangsAs 3 = .ok (.getfield 15, 3) := by decide +kernel
theorem dX3_hangsAs_6 : decode cX3_hangsAs 6 = .ok (.invokevirtual 93, 3) := by decide +kernel
theorem dX3_hangsAs_9 : decode cX3_hangsAs 9 = .ok (.ifCond .ne 5, 3) := by decide +kernel
theorem dX3_hangsAs_12 : decode cX3_hangsAs 12 = .ok (.iconst 0, 1) := by decide +kernel
theorem dX3_hangsAs_13 : decode cX3_hangsAs 13 = .ok (.ireturn, 1) := by decide +kernel
theorem dX3_hangsAs_14 : decode cX3_hangsAs 14 = .ok (.aload_n 0, 1) := by decide +kernel
theorem dX3_hangsAs_15 : decode cX3_hangsAs 15 = .ok (.getfield 24, 3) := by decide +kernel
theorem dX3_hangsAs_18 : decode cX3_hangsAs 18 = .ok (.astore_n 3, 1) := by decide +kernel
theorem dX3_hangsAs_19 : decode cX3_hangsAs 19 = .ok (.aload_n 3, 1) := by decide +kernel
theorem dX3_hangsAs_20 : decode cX3_hangsAs 20 = .ok (.arraylength, 1) := by decide +kernel
theorem dX3_hangsAs_21 : decode cX3_hangsAs 21 = .ok (.istore 4, 2) := by decide +kernel
theorem dX3_hangsAs_23 : decode cX3_hangsAs 23 = .ok (.iconst 0, 1) := by decide +kernel
theorem dX3_hangsAs_24 : decode cX3_hangsAs 24 = .ok (.istore 5, 2) := by decide +kernel
theorem dX3_hangsAs_26 : decode cX3_hangsAs 26 = .ok (.iload 5, 2) := by decide +kernel
theorem dX3_hangsAs_28 : decode cX3_hangsAs 28 = .ok (.iload 4, 2) := by decide +kernel
theorem dX3_hangsAs_30 : decode cX3_hangsAs 30 = .ok (.if_icmp .ge 51, 3) := by decide +kernel
theorem dX3_hangsAs_33 : decode cX3_hangsAs 33 = .ok (.aload_n 3, 1) := by decide +kernel
theorem dX3_hangsAs_34 : decode cX3_hangsAs 34 = .ok (.iload 5, 2) := by decide +kernel
theorem dX3_hangsAs_36 : decode cX3_hangsAs 36 = .ok (.aaload, 1) := by decide +kernel
theorem dX3_hangsAs_37 : decode cX3_hangsAs 37 = .ok (.astore 6, 2) := by decide +kernel
theorem dX3_hangsAs_39 : decode cX3_hangsAs 39 = .ok (.aload 6, 2) := by decide +kernel
theorem dX3_hangsAs_41 : decode cX3_hangsAs 41 = .ok (.ifnull 34, 3) := by decide +kernel
theorem dX3_hangsAs_44 : decode cX3_hangsAs 44 = .ok (.aload_n 1, 1) := by decide +kernel
theorem dX3_hangsAs_45 : decode cX3_hangsAs 45 = .ok (.getfield 99, 3) := by decide +kernel
theorem dX3_hangsAs_48 : decode cX3_hangsAs 48 = .ok (.iload_n 2, 1) := by decide +kernel
theorem dX3_hangsAs_49 : decode cX3_hangsAs 49 = .ok (.aload 6, 2) := by decide +kernel
theorem dX3_hangsAs_51 : decode cX3_hangsAs 51 = .ok (.getfield 34, 3) := by decide +kernel
theorem dX3_hangsAs_54 : decode cX3_hangsAs 54 = .ok (.iadd, 1) := by decide +kernel
theorem dX3_hangsAs_55 : decode cX3_hangsAs 55 = .ok (.iaload, 1) := by decide +kernel
theorem dX3_hangsAs_56 : decode cX3_hangsAs 56 = .ok (.aload_n 0, 1) := by decide +kernel
theorem dX3_hangsAs_57 : decode cX3_hangsAs 57 = .ok (.aload 6, 2) := by decide +kernel
theorem dX3_hangsAs_59 : decode cX3_hangsAs 59 = .ok (.getfield 37, 3) := by decide +kernel
theorem dX3_hangsAs_62 : decode cX3_hangsAs 62 = .ok (.aload 6, 2) := by decide +kernel
theorem dX3_hangsAs_64 : decode cX3_hangsAs 64 = .ok (.getfield 40, 3) := by decide +kernel
theorem dX3_hangsAs_67 : decode cX3_hangsAs 67 = .ok (.invokevirtual 78, 3) := by decide +kernel
theorem dX3_hangsAs_70 : decode cX3_hangsAs 70 = .ok (.if_icmp .eq 5, 3) := by decide +kernel
theorem dX3_hangsAs_73 : decode cX3_hangsAs 73 = .ok (.iconst 0, 1) := by decide +kernel
theorem dX3_hangsAs_74 : decode cX3_hangsAs 74 = .ok (.ireturn, 1) := by decide +kernel
theorem dX3_hangsAs_75 : decode cX3_hangsAs 75 = .ok (.iinc 5 1, 3) := by decide +kernel
theorem dX3_hangsAs_78 : decode cX3_hangsAs 78 = .ok (.goto (-52), 3) := by decide +kernel
theorem dX3_hangsAs_81 : decode cX3_hangsAs 81 = .ok (.iconst 1, 1) := by decide +kernel
theorem dX3_hangsAs_82 : decode cX3_hangsAs 82 = .ok (.ireturn, 1) := by decide +kernel
set_option maxRecDepth 20000 in
theorem ggX4_init_X6_init : GoodIn wsX4_init wsX6_init := goodIn_r _ [3, 4, 5, 6, 7, 8, 9, 10, 11, 12, 13, 14, 15, 16, 17, 18, 19, 20, 21, 22, 23, 24, 25, 26, 27, 28, 29, 30, 31, 32, 33, 34, 35, 36, 37, 38, 39, 40, 41, 42, 43, 44, 45, 46, 47, 48] (by decide +kernel) (by decide +kernel)
set_option maxRecDepth 20000 in
theorem gX4_init_X6_init_n3 : GoodIn wsX4_init (wsX6_init) := ggX4_init_X6_init
theorem dX4_init_0 : decode cX4_init 0 = .ok (.aload_n 0, 1) := by decide +kernel
theorem dX4_init_1 : decode cX4_init 1 = .ok (.invokespecial 3, 3) := by decide +kernel
theorem dX4_init_4 : decode cX4_init 4 = .ok (.return_, 1) := by decide +kernel
theorem dX4_kindTold_0 : decode cX4_kindTold 0 = .ok (.iconst 4, 1) := by decide +kernel
theorem dX4_kindTold_1 : decode cX4_kindTold 1 = .ok (.ireturn, 1) := by decide +kernel
theorem dX4_buyersThatCount_0 : decode cX4_buyersThatCount 0 = .ok (.iconst 0, 1) := by decide +kernel
theorem dX4_buyersThatCount_1 : decode cX4_buyersThatCount 1 = .ok (.ireturn, 1) := by decide +kernel
set_option maxRecDepth 20000 in
theorem ggX4_size_X9_leave : GoodIn wsX4_size wsX9_leave := goodIn_r _ [5, 6, 7, 16, 17] (by decide +kernel) (by decide +kernel)
set_option maxRecDepth 20000 in
theorem gX4_size_X9_leave : GoodIn wsX4_size (wsV RX4 9 RX9 yX9_leave wsX9_leave) := goodIn_app (goodIn_of _ (by decide +kernel)) ggX4_size_X9_leave
set_option maxRecDepth 20000 in
theorem ggX4_size_X6_size : GoodIn wsX4_size wsX6_size := goodIn_r _ [13, 14, 15, 2, 3, 4, 5, 6, 7, 18, 19, 20, 21, 22, 23, 24, 25, 26, 27, 28, 29, 30, 31, 32, 33, 34, 35, 36, 37, 38, 39, 40, 41, 42, 43, 44, 45, 46, 47, 48, 49, 50, 51, 52, 16, 17] (by decide +kernel) (by decide +kernel)
set_option maxRecDepth 20000 in
theorem gX4_size_X6_size_s15 : GoodIn wsX4_size (va_wsSU RX4 15 yX6_size wsX6_size) := goodIn_app (goodIn_of _ (by decide +kernel)) ggX4_size_X6_size
theorem dX4_size_0 : decode cX4_size 0 = .ok (.aload_n 1, 1) := by decide +kernel
theorem dX4_size_1 : decode cX4_size 1 = .ok (.bipush 13, 2) := by decide +kernel
theorem dX4_size_3 : decode cX4_size 3 = .ok (.invokevirtual 9, 3) := by decide +kernel
theorem dX4_size_6 : decode cX4_size 6 = .ok (.aload_n 0, 1) := by decide +kernel
theorem dX4_size_7 : decode cX4_size 7 = .ok (.aload_n 1, 1) := by decide +kernel
theorem dX4_size_8 : decode cX4_size 8 = .ok (.invokespecial 15, 3) := by decide +kernel
theorem dX4_size_11 : decode cX4_size 11 = .ok (.bipush 100, 2) := by decide +kernel
theorem dX4_size_13 : decode cX4_size 13 = .ok (.isub, 1) := by decide +kernel
theorem dX4_size_14 : decode cX4_size 14 = .ok (.ireturn, 1) := by decide +kernel
set_option maxRecDepth 20000 in
theorem ggX4_mark_X9_leave : GoodIn wsX4_mark wsX9_leave := goodIn_r _ [5, 6, 7, 36, 37] (by decide +kernel) (by decide +kernel)
set_option maxRecDepth 20000 in
theorem gX4_mark_X9_leave : GoodIn wsX4_mark (wsV RX4 9 RX9 yX9_leave wsX9_leave) := goodIn_app (goodIn_of _ (by decide +kernel)) ggX4_mark_X9_leave
set_option maxRecDepth 20000 in
theorem ggX4_mark_X6_mark : GoodIn wsX4_mark wsX6_mark := goodIn_r _ [13, 14, 15, 2, 3, 4, 5, 6, 7, 38, 39, 40, 41, 42, 43, 44, 45, 46, 47, 48, 49, 50, 51, 52, 53, 54, 55, 56, 57, 58, 59, 60, 61, 62, 63, 64, 65, 66, 67, 68, 69, 70, 71, 72, 36, 37] (by decide +kernel) (by decide +kernel)
set_option maxRecDepth 20000 in
theorem gX4_mark_X6_mark_s19 : GoodIn wsX4_mark (va_wsSU RX4 19 yX6_mark wsX6_mark) := goodIn_app (goodIn_of _ (by decide +kernel)) ggX4_mark_X6_mark
set_option maxRecDepth 20000 in
theorem ggX4_mark_X4_size : GoodIn wsX4_mark wsX4_size := goodIn_r _ [20, 1, 2, 3, 4, 5, 6, 7, 21, 22, 10, 23, 12, 24, 25, 15, 36, 37, 38, 39, 40, 41, 42, 43, 44, 45, 46, 47, 48, 49, 50, 51, 52, 53, 54, 55, 56, 57, 58, 59, 60, 61, 62, 63, 64, 65, 66, 67, 68, 69, 70, 71, 72] (by decide +kernel) (by decide +kernel)
set_option maxRecDepth 20000 in
theorem gX4_mark_X4_size : GoodIn wsX4_mark (wsV RX4 22 RX4 yX4_size wsX4_size) := goodIn_app (goodIn_of _ (by decide +kernel)) ggX4_mark_X4_size
set_option maxRecDepth 20000 in
theorem ggX4_mark_X10_size : GoodIn wsX4_mark wsX10_size := goodIn_r _ [32, 33, 2, 3, 4, 5, 6, 7, 34, 27, 35, 17, 19, 20, 1, 21, 22, 10, 23, 12, 24, 25, 15, 36, 37, 38, 39, 40, 41, 42, 43, 44, 45, 46, 47, 48, 49, 50, 51, 52, 53, 54, 55, 56, 57, 58, 59, 60, 61, 62, 63, 64, 65, 66, 67, 68, 69, 70, 71, 72] (by decide +kernel) (by decide +kernel)
set_option maxRecDepth 20000 in
theorem gX4_mark_X10_size_u22X10 : GoodIn wsX4_mark (va_wsO RX4 22 RX10 "HungStalls$Notary" ⟨"HungStalls$Notary", "size", "(LHungStalls$Trace;)I"⟩ yX10_size wsX10_size) := goodIn_app (goodIn_of _ (by decide +kernel)) ggX4_mark_X10_size
theorem dX4_mark_0 : decode cX4_mark 0 = .ok (.aload_n 1, 1) := by decide +kernel
theorem dX4_mark_1 : decode cX4_mark 1 = .ok (.bipush 23, 2) := by decide +kernel
theorem dX4_mark_3 : decode cX4_mark 3 = .ok (.invokevirtual 9, 3) := by decide +kernel
theorem dX4_mark_6 : decode cX4_mark 6 = .ok (.aload_n 0, 1) := by decide +kernel
theorem dX4_mark_7 : decode cX4_mark 7 = .ok (.aload_n 1, 1) := by decide +kernel
theorem dX4_mark_8 : decode cX4_mark 8 = .ok (.invokespecial 19, 3) := by decide +kernel
theorem dX4_mark_11 : decode cX4_mark 11 = .ok (.istore_n 2, 1) := by decide +kernel
theorem dX4_mark_12 : decode cX4_mark 12 = .ok (.iload_n 2, 1) := by decide +kernel
theorem dX4_mark_13 : decode cX4_mark 13 = .ok (.aload_n 0, 1) := by decide +kernel
theorem dX4_mark_14 : decode cX4_mark 14 = .ok (.aload_n 1, 1) := by decide +kernel
theorem dX4_mark_15 : decode cX4_mark 15 = .ok (.invokevirtual 22, 3) := by decide +kernel
theorem dX4_mark_18 : decode cX4_mark 18 = .ok (.isub, 1) := by decide +kernel
theorem dX4_mark_19 : decode cX4_mark 19 = .ok (.ireturn, 1) := by decide +kernel
theorem dX5_init_0 : decode cX5_init 0 = .ok (.aload_n 0, 1) := by decide +kernel
theorem dX5_init_1 : decode cX5_init 1 = .ok (.invokespecial 3, 3) := by decide +kernel
theorem dX5_init_4 : decode cX5_init 4 = .ok (.aload_n 0, 1) := by decide +kernel
theorem dX5_init_5 : decode cX5_init 5 = .ok (.iconst (-1), 1) := by decide +kernel
theorem dX5_init_6 : decode cX5_init 6 = .ok (.putfield 11, 3) := by decide +kernel
theorem dX5_init_9 : decode cX5_init 9 = .ok (.aload_n 0, 1) := by decide +kernel
theorem dX5_init_10 : decode cX5_init 10 = .ok (.iconst 0, 1) := by decide +kernel
theorem dX5_init_11 : decode cX5_init 11 = .ok (.putfield 15, 3) := by decide +kernel
theorem dX5_init_14 : decode cX5_init 14 = .ok (.aload_n 0, 1) := by decide +kernel
theorem dX5_init_15 : decode cX5_init 15 = .ok (.bipush 40, 2) := by decide +kernel
theorem dX5_init_17 : decode cX5_init 17 = .ok (.newarray .int, 2) := by decide +kernel
theorem dX5_init_19 : decode cX5_init 19 = .ok (.putfield 18, 3) := by decide +kernel
theorem dX5_init_22 : decode cX5_init 22 = .ok (.return_, 1) := by decide +kernel
set_option maxRecDepth 20000 in
theorem ggX5_begin_J7_fill_53178 : GoodIn wsX5_begin wsJ7_fill_53178 := goodIn_r _ [7] (by decide +kernel) (by decide +kernel)
set_option maxRecDepth 20000 in
theorem gX5_begin_J7_fill_53178 : GoodIn wsX5_begin (va_wsS RX5 22 yJ7_fill_53178 wsJ7_fill_53178) := goodIn_app (goodIn_of _ (by decide +kernel)) ggX5_begin_J7_fill_53178
theorem dX5_begin_0 : decode cX5_begin 0 = .ok (.aload_n 0, 1) := by decide +kernel
theorem dX5_begin_1 : decode cX5_begin 1 = .ok (.iload_n 1, 1) := by decide +kernel
theorem dX5_begin_2 : decode cX5_begin 2 = .ok (.putfield 11, 3) := by decide +kernel
theorem dX5_begin_5 : decode cX5_begin 5 = .ok (.aload_n 0, 1) := by decide +kernel
theorem dX5_begin_6 : decode cX5_begin 6 = .ok (.iload_n 2, 1) := by decide +kernel
theorem dX5_begin_7 : decode cX5_begin 7 = .ok (.putfield 15, 3) := by decide +kernel
theorem dX5_begin_10 : decode cX5_begin 10 = .ok (.aload_n 0, 1) := by decide +kernel
theorem dX5_begin_11 : decode cX5_begin 11 = .ok (.getfield 18, 3) := by decide +kernel
theorem dX5_begin_14 : decode cX5_begin 14 = .ok (.iconst 0, 1) := by decide +kernel
theorem dX5_begin_15 : decode cX5_begin 15 = .ok (.invokestatic 22, 3) := by decide +kernel
theorem dX5_begin_18 : decode cX5_begin 18 = .ok (.return_, 1) := by decide +kernel
theorem dX5_isMissing_0 : decode cX5_isMissing 0 = .ok (.aload_n 0, 1) := by decide +kernel
theorem dX5_isMissing_1 : decode cX5_isMissing 1 = .ok (.getfield 11, 3) := by decide +kernel
theorem dX5_isMissing_4 : decode cX5_isMissing 4 = .ok (.iconst (-1), 1) := by decide +kernel
theorem dX5_isMissing_5 : decode cX5_isMissing 5 = .ok (.if_icmp .ne 7, 3) := by decide +kernel
theorem dX5_isMissing_8 : decode cX5_isMissing 8 = .ok (.iconst 1, 1) := by decide +kernel
theorem dX5_isMissing_9 : decode cX5_isMissing 9 = .ok (.goto 4, 3) := by decide +kernel
theorem dX5_isMissing_12 : decode cX5_isMissing 12 = .ok (.iconst 0, 1) := by decide +kernel
theorem dX5_isMissing_13 : decode cX5_isMissing 13 = .ok (.ireturn, 1) := by decide +kernel
theorem dX5_has_0 : decode cX5_has 0 = .ok (.iload_n 1, 1) := by decide +kernel
theorem dX5_has_1 : decode cX5_has 1 = .ok (.ifCond .lt 29, 3) := by decide +kernel
theorem dX5_has_4 : decode cX5_has 4 = .ok (.iload_n 2, 1) := by decide +kernel
theorem dX5_has_5 : decode cX5_has 5 = .ok (.ifCond .lt 25, 3) := by decide +kernel
theorem dX5_has_8 : decode cX5_has 8 = .ok (.iload_n 2, 1) := by decide +kernel
theorem dX5_has_9 : decode cX5_has 9 = .ok (.aload_n 0, 1) := by decide +kernel
theorem dX5_has_10 : decode cX5_has 10 = .ok (.getfield 15, 3) := by decide +kernel
theorem dX5_has_13 : decode cX5_has 13 = .ok (.if_icmp .gt 17, 3) := by decide +kernel
theorem dX5_has_16 : decode cX5_has 16 = .ok (.iload_n 1, 1) := by decide +kernel
theorem dX5_has_17 : decode cX5_has 17 = .ok (.aload_n 0, 1) := by decide +kernel
theorem dX5_has_18 : decode cX5_has 18 = .ok (.getfield 15, 3) := by decide +kernel
theorem dX5_has_21 : decode cX5_has 21 = .ok (.iload_n 2, 1) := by decide +kernel
theorem dX5_has_22 : decode cX5_has 22 = .ok (.isub, 1) := by decide +kernel
theorem dX5_has_23 : decode cX5_has 23 = .ok (.if_icmp .gt 7, 3) := by decide +kernel
theorem dX5_has_26 : decode cX5_has 26 = .ok (.iconst 1, 1) := by decide +kernel
theorem dX5_has_27 : decode cX5_has 27 = .ok (.goto 4, 3) := by decide +kernel
theorem dX5_has_30 : decode cX5_has 30 = .ok (.iconst 0, 1) := by decide +kernel
theorem dX5_has_31 : decode cX5_has 31 = .ok (.ireturn, 1) := by decide +kernel
theorem dX5_cutToLane_0 : decode cX5_cutToLane 0 = .ok (.aload_n 0, 1) := by decide +kernel
theorem dX5_cutToLane_1 : decode cX5_cutToLane 1 = .ok (.getfield 11, 3) := by decide +kernel
theorem dX5_cutToLane_4 : decode cX5_cutToLane 4 = .ok (.lookupswitch 34 #[(0, 28), (1, 31)], 28) := by decide +kernel
theorem dX5_cutToLane_32 : decode cX5_cutToLane 32 = .ok (.iload_n 1, 1) := by decide +kernel
theorem dX5_cutToLane_33 : decode cX5_cutToLane 33 = .ok (.i2b, 1) := by decide +kernel
theorem dX5_cutToLane_34 : decode cX5_cutToLane 34 = .ok (.ireturn, 1) := by decide +kernel
theorem dX5_cutToLane_35 : decode cX5_cutToLane 35 = .ok (.iload_n 1, 1) := by decide +kernel
theorem dX5_cutToLane_36 : decode cX5_cutToLane 36 = .ok (.i2s, 1) := by decide +kernel
theorem dX5_cutToLane_37 : decode cX5_cutToLane 37 = .ok (.ireturn, 1) := by decide +kernel
theorem dX5_cutToLane_38 : decode cX5_cutToLane 38 = .ok (.iload_n 1, 1) := by decide +kernel
theorem dX5_cutToLane_39 : decode cX5_cutToLane 39 = .ok (.ireturn, 1) := by decide +kernel
theorem dX6_init_0 : decode cX6_init 0 = .ok (.aload_n 0, 1) := by decide +kernel
theorem dX6_init_1 : decode cX6_init 1 = .ok (.invokespecial 3, 3) := by decide +kernel
theorem dX6_init_4 : decode cX6_init 4 = .ok (.aload_n 0, 1) := by decide +kernel
theorem dX6_init_5 : decode cX6_init 5 = .ok (.iconst 0, 1) := by decide +kernel
theorem dX6_init_6 : decode cX6_init 6 = .ok (.putfield 9, 3) := by decide +kernel
theorem dX6_init_9 : decode cX6_init 9 = .ok (.aload_n 0, 1) := by decide +kernel
theorem dX6_init_10 : decode cX6_init 10 = .ok (.iconst 0, 1) := by decide +kernel
theorem dX6_init_11 : decode cX6_init 11 = .ok (.putfield 15, 3) := by decide +kernel
theorem dX6_init_14 : decode cX6_init 14 = .ok (.aload_n 0, 1) := by decide +kernel
theorem dX6_init_15 : decode cX6_init 15 = .ok (.iconst 0, 1) := by decide +kernel
theorem dX6_init_16 : decode cX6_init 16 = .ok (.putfield 18, 3) := by decide +kernel
theorem dX6_init_19 : decode cX6_init 19 = .ok (.aload_n 0, 1) := by decide +kernel
theorem dX6_init_20 : decode cX6_init 20 = .ok (.iconst 0, 1) := by decide +kernel
theorem dX6_init_21 : decode cX6_init 21 = .ok (.putfield 21, 3) := by decide +kernel
theorem dX6_init_24 : decode cX6_init 24 = .ok (.aload_n 0, 1) := by decide +kernel
theorem dX6_init_25 : decode cX6_init 25 = .ok (.iconst 0, 1) := by decide +kernel
theorem dX6_init_26 : decode cX6_init 26 = .ok (.putfield 24, 3) := by decide +kernel
theorem dX6_init_29 : decode cX6_init 29 = .ok (.aload_n 0, 1) := by decide +kernel
theorem dX6_init_30 : decode cX6_init 30 = .ok (.iconst 0, 1) := by decide +kernel
theorem dX6_init_31 : decode cX6_init 31 = .ok (.putfield 27, 3) := by decide +kernel
theorem dX6_init_34 : decode cX6_init 34 = .ok (.aload_n 0, 1) := by decide +kernel
theorem dX6_init_35 : decode cX6_init 35 = .ok (.iconst 0, 1) := by decide +kernel
theorem dX6_init_36 : decode cX6_init 36 = .ok (.putfield 30, 3) := by decide +kernel
theorem dX6_init_39 : decode cX6_init 39 = .ok (.return_, 1) := by decide +kernel
set_option maxRecDepth 20000 in
theorem ggX6_ofKind_X2_init : GoodIn wsX6_ofKind wsX2_init := goodIn_r _ [17, 18, 15, 19, 20, 21, 22, 23, 24, 25, 26, 27, 28, 29, 30, 31, 32, 46, 47, 48, 49, 50, 51, 52, 39, 40, 41, 42, 43, 44, 45, 53, 54, 55, 56, 57, 58, 59, 67, 68, 69, 70, 71, 72, 73, 60, 61, 62, 63, 64, 65, 66] (by decide +kernel) (by decide +kernel)
set_option maxRecDepth 20000 in
theorem gX6_ofKind_X2_init_n36 : GoodIn wsX6_ofKind (wsX2_init) := ggX6_ofKind_X2_init
set_option maxRecDepth 20000 in
theorem ggX6_ofKind_X0_init : GoodIn wsX6_ofKind wsX0_init := goodIn_r _ [34, 18, 15, 19, 20, 21, 22, 23, 24, 25, 26, 27, 28, 29, 30, 31, 32, 46, 47, 48, 49, 50, 51, 52, 39, 40, 41, 42, 43, 44, 45, 53, 54, 55, 56, 57, 58, 59, 67, 68, 69, 70, 71, 72, 73, 60, 61, 62, 63, 64, 65, 66] (by decide +kernel) (by decide +kernel)
set_option maxRecDepth 20000 in
theorem gX6_ofKind_X0_init_n39 : GoodIn wsX6_ofKind (wsX0_init) := ggX6_ofKind_X0_init
set_option maxRecDepth 20000 in
theorem ggX6_ofKind_X4_init : GoodIn wsX6_ofKind wsX4_init := goodIn_r _ [36, 20, 21, 22, 23, 24, 25, 26, 27, 28, 29, 30, 31, 32, 46, 47, 48, 49, 50, 51, 52, 39, 40, 41, 42, 43, 44, 45, 53, 54, 55, 56, 57, 58, 59, 67, 68, 69, 70, 71, 72, 73, 60, 61, 62, 63, 64, 65, 66] (by decide +kernel) (by decide +kernel)
set_option maxRecDepth 20000 in
theorem gX6_ofKind_X4_init_n42 : GoodIn wsX6_ofKind (wsX4_init) := ggX6_ofKind_X4_init
set_option maxRecDepth 20000 in
theorem ggX6_ofKind_X10_init : GoodIn wsX6_ofKind wsX10_init := goodIn_r _ [38, 35, 9, 36, 20, 21, 22, 23, 24, 25, 26, 27, 28, 29, 30, 31, 32, 46, 47, 48, 49, 50, 51, 52, 39, 40, 41, 42, 43, 44, 45, 53, 54, 55, 56, 57, 58, 59, 67, 68, 69, 70, 71, 72, 73, 60, 61, 62, 63, 64, 65, 66] (by decide +kernel) (by decide +kernel)
set_option maxRecDepth 20000 in
theorem gX6_ofKind_X10_init_n45 : GoodIn wsX6_ofKind (wsX10_init) := ggX6_ofKind_X10_init
set_option maxRecDepth 20000 in
theorem ggX6_ofKind_X7_init : GoodIn wsX6_ofKind wsX7_init := goodIn_r _ [19, 20, 21, 22, 23, 24, 25, 26, 27, 28, 29, 30, 31, 32, 46, 47, 48, 49, 50, 51, 52, 39, 40, 41, 42, 43, 44, 45, 53, 54, 55, 56, 57, 58, 59, 67, 68, 69, 70, 71, 72, 73, 60, 61, 62, 63, 64, 65, 66] (by decide +kernel) (by decide +kernel)
set_option maxRecDepth 20000 in
theorem gX6_ofKind_X7_init_n48 : GoodIn wsX6_ofKind (wsX7_init) := ggX6_ofKind_X7_init
theorem dX6_ofKind_0 : decode cX6_ofKind 0 = .ok (.iload_n 0, 1) := by decide +kernel
theorem dX6_ofKind_1 : decode cX6_ofKind 1 = .ok (.tableswitch 63 2 5 #[31, 39, 47, 55], 31) := by decide +kernel
theorem dX6_ofKind_32 : decode cX6_ofKind 32 = .ok (.new 34, 3) := by decide +kernel
theorem dX6_ofKind_35 : decode cX6_ofKind 35 = .ok (.dup, 1) := by decide +kernel
theorem dX6_ofKind_36 : decode cX6_ofKind 36 = .ok (.invokespecial 36, 3) := by decide +kernel
theorem dX6_ofKind_39 : decode cX6_ofKind 39 = .ok (.areturn, 1) := by decide +kernel
theorem dX6_ofKind_40 : decode cX6_ofKind 40 = .ok (.new 37, 3) := by decide +kernel
theorem dX6_ofKind_43 : decode cX6_ofKind 43 = .ok (.dup, 1) := by decide +kernel
theorem dX6_ofKind_44 : decode cX6_ofKind 44 = .ok (.invokespecial 39, 3) := by decide +kernel
theorem dX6_ofKind_47 : decode cX6_ofKind 47 = .ok (.areturn, 1) := by decide +kernel
theorem dX6_ofKind_48 : decode cX6_ofKind 48 = .ok (.new 40, 3) := by decide +kernel
theorem dX6_ofKind_51 : decode cX6_ofKind 51 = .ok (.dup, 1) := by decide +kernel
theorem dX6_ofKind_52 : decode cX6_ofKind 52 = .ok (.invokespecial 42, 3) := by decide +kernel
theorem dX6_ofKind_55 : decode cX6_ofKind 55 = .ok (.areturn, 1) := by decide +kernel
theorem dX6_ofKind_56 : decode cX6_ofKind 56 = .ok (.new 43, 3) := by decide +kernel
theorem dX6_ofKind_59 : decode cX6_ofKind 59 = .ok (.dup, 1) := by decide +kernel
theorem dX6_ofKind_60 : decode cX6_ofKind 60 = .ok (.invokespecial 45, 3) := by decide +kernel
theorem dX6_ofKind_63 : decode cX6_ofKind 63 = .ok (.areturn, 1) := by decide +kernel
theorem dX6_ofKind_64 : decode cX6_ofKind 64 = .ok (.new 46, 3) := by decide +kernel
theorem dX6_ofKind_67 : decode cX6_ofKind 67 = .ok (.dup, 1) := by decide +kernel
theorem dX6_ofKind_68 : decode cX6_ofKind 68 = .ok (.invokespecial 48, 3) := by decide +kernel
theorem dX6_ofKind_71 : decode cX6_ofKind 71 = .ok (.areturn, 1) := by decide +kernel
set_option maxRecDepth 20000 in
theorem ggX6_twin_X0_kindTold : GoodIn wsX6_twin wsX0_kindTold := goodIn_r _ [13] (by decide +kernel) (by decide +kernel)
set_option maxRecDepth 20000 in
theorem gX6_twin_X0_kindTold_u49X0 : GoodIn wsX6_twin (va_wsU RX6 49 RX0 "HungStalls$Stall" ⟨"HungStalls$Stall", "kindTold", "()I"⟩ yX0_kindTold wsX0_kindTold) := goodIn_app (goodIn_of _ (by decide +kernel)) ggX6_twin_X0_kindTold
set_option maxRecDepth 20000 in
theorem ggX6_twin_X2_kindTold : GoodIn wsX6_twin wsX2_kindTold := goodIn_r _ [17] (by decide +kernel) (by decide +kernel)
set_option maxRecDepth 20000 in
theorem gX6_twin_X2_kindTold_u49X2 : GoodIn wsX6_twin (va_wsU RX6 49 RX2 "HungStalls$Stall" ⟨"HungStalls$Stall", "kindTold", "()I"⟩ yX2_kindTold wsX2_kindTold) := goodIn_app (goodIn_of _ (by decide +kernel)) ggX6_twin_X2_kindTold
set_option maxRecDepth 20000 in
theorem ggX6_twin_X4_kindTold : GoodIn wsX6_twin wsX4_kindTold := goodIn_r _ [21] (by decide +kernel) (by decide +kernel)
set_option maxRecDepth 20000 in
theorem gX6_twin_X4_kindTold_u49X4 : GoodIn wsX6_twin (va_wsU RX6 49 RX4 "HungStalls$Stall" ⟨"HungStalls$Stall", "kindTold", "()I"⟩ yX4_kindTold wsX4_kindTold) := goodIn_app (goodIn_of _ (by decide +kernel)) ggX6_twin_X4_kindTold
set_option maxRecDepth 20000 in
theorem ggX6_twin_X7_kindTold : GoodIn wsX6_twin wsX7_kindTold := goodIn_r _ [25] (by decide +kernel) (by decide +kernel)
set_option maxRecDepth 20000 in
theorem gX6_twin_X7_kindTold_u49X7 : GoodIn wsX6_twin (va_wsU RX6 49 RX7 "HungStalls$Stall" ⟨"HungStalls$Stall", "kindTold", "()I"⟩ yX7_kindTold wsX7_kindTold) := goodIn_app (goodIn_of _ (by decide +kernel)) ggX6_twin_X7_kindTold
set_option maxRecDepth 20000 in
theorem ggX6_twin_X10_kindTold : GoodIn wsX6_twin wsX10_kindTold := goodIn_r _ [29] (by decide +kernel) (by decide +kernel)
set_option maxRecDepth 20000 in
theorem gX6_twin_X10_kindTold_u49X10 : GoodIn wsX6_twin (va_wsU RX6 49 RX10 "HungStalls$Stall" ⟨"HungStalls$Stall", "kindTold", "()I"⟩ yX10_kindTold wsX10_kindTold) := goodIn_app (goodIn_of _ (by decide +kernel)) ggX6_twin_X10_kindTold
set_option maxRecDepth 20000 in
theorem ggX6_twin_X6_ofKind : GoodIn wsX6_twin wsX6_ofKind := goodIn_r _ [33, 34, 35, 16, 36, 37, 12, 38, 39, 20, 40, 41, 28, 42, 43, 24, 44, 45, 46, 47, 48, 32, 49, 50, 51, 52, 1, 2, 3, 4, 5, 6, 7, 53, 54, 55, 56, 57, 58, 66, 67, 68, 69, 70, 71, 72, 59, 60, 61, 62, 63, 64, 65, 73, 74, 75, 76, 77, 78, 79, 87, 88, 89, 90, 91, 92, 93, 80, 81, 82, 83, 84, 85, 86] (by decide +kernel) (by decide +kernel)
set_option maxRecDepth 20000 in
theorem gX6_twin_X6_ofKind : GoodIn wsX6_twin (va_wsS RX6 53 yX6_ofKind wsX6_ofKind) := goodIn_app (goodIn_of _ (by decide +kernel)) ggX6_twin_X6_ofKind
theorem dX6_twin_0 : decode cX6_twin 0 = .ok (.aload_n 0, 1) := by decide +kernel
theorem dX6_twin_1 : decode cX6_twin 1 = .ok (.invokevirtual 49, 3) := by decide +kernel
theorem dX6_twin_4 : decode cX6_twin 4 = .ok (.invokestatic 53, 3) := by decide +kernel
theorem dX6_twin_7 : decode cX6_twin 7 = .ok (.astore_n 1, 1) := by decide +kernel
theorem dX6_twin_8 : decode cX6_twin 8 = .ok (.aload_n 1, 1) := by decide +kernel
theorem dX6_twin_9 : decode cX6_twin 9 = .ok (.aload_n 0, 1) := by decide +kernel
theorem dX6_twin_10 : decode cX6_twin 10 = .ok (.getfield 9, 3) := by decide +kernel
theorem dX6_twin_13 : decode cX6_twin 13 = .ok (.putfield 9, 3) := by decide +kernel
theorem dX6_twin_16 : decode cX6_twin 16 = .ok (.aload_n 1, 1) := by decide +kernel
theorem dX6_twin_17 : decode cX6_twin 17 = .ok (.aload_n 0, 1) := by decide +kernel
theorem dX6_twin_18 : decode cX6_twin 18 = .ok (.getfield 15, 3) := by decide +kernel
theorem dX6_twin_21 : decode cX6_twin 21 = .ok (.putfield 15, 3) := by decide +kernel
theorem dX6_twin_24 : decode cX6_twin 24 = .ok (.aload_n 1, 1) := by decide +kernel
theorem dX6_twin_25 : decode cX6_twin 25 = .ok (.aload_n 0, 1) := by decide +kernel
theorem dX6_twin_26 : decode cX6_twin 26 = .ok (.getfield 18, 3) := by decide +kernel
theorem dX6_twin_29 : decode cX6_twin 29 = .ok (.putfield 18, 3) := by decide +kernel
theorem dX6_twin_32 : decode cX6_twin 32 = .ok (.aload_n 1, 1) := by decide +kernel
theorem dX6_twin_33 : decode cX6_twin 33 = .ok (.aload_n 0, 1) := by decide +kernel
theorem dX6_twin_34 : decode cX6_twin 34 = .ok (.getfield 21, 3) := by decide +kernel
theorem dX6_twin_37 : decode cX6_twin 37 = .ok (.putfield 21, 3) := by decide +kernel
theorem dX6_twin_40 : decode cX6_twin 40 = .ok (.aload_n 1, 1) := by decide +kernel
theorem dX6_twin_41 : decode cX6_twin 41 = .ok (.aload_n 0, 1) := by decide +kernel
theorem dX6_twin_42 : decode cX6_twin 42 = .ok (.getfield 24, 3) := by decide +kernel
theorem dX6_twin_45 : decode cX6_twin 45 = .ok (.putfield 24, 3) := by decide +kernel
theorem dX6_twin_48 : decode cX6_twin 48 = .ok (.aload_n 1, 1) := by decide +kernel
theorem dX6_twin_49 : decode cX6_twin 49 = .ok (.aload_n 0, 1) := by decide +kernel
theorem dX6_twin_50 : decode cX6_twin 50 = .ok (.getfield 27, 3) := by decide +kernel
theorem dX6_twin_53 : decode cX6_twin 53 = .ok (.putfield 27, 3) := by decide +kernel
theorem dX6_twin_56 : decode cX6_twin 56 = .ok (.aload_n 1, 1) := by decide +kernel
theorem dX6_twin_57 : decode cX6_twin 57 = .ok (.aload_n 0, 1) := by decide +kernel
theorem dX6_twin_58 : decode cX6_twin 58 = .ok (.getfield 30, 3) := by decide +kernel
theorem dX6_twin_61 : decode cX6_twin 61 = .ok (.putfield 30, 3) := by decide +kernel
theorem dX6_twin_64 : decode cX6_twin 64 = .ok (.aload_n 1, 1) := by decide +kernel
theorem dX6_twin_65 : decode cX6_twin 65 = .ok (.areturn, 1) := by decide +kernel
theorem dX6_put_0 : decode cX6_put 0 = .ok (.iload_n 1, 1) := by decide +kernel
theorem dX6_put_1 : decode cX6_put 1 = .ok (.tableswitch 72 0 3 #[31, 39, 47, 55], 31) := by decide +kernel
theorem dX6_put_32 : decode cX6_put 32 = .ok (.aload_n 0, 1) := by decide +kernel
theorem dX6_put_33 : decode cX6_put 33 = .ok (.iload_n 2, 1) := by decide +kernel
theorem dX6_put_34 : decode cX6_put 34 = .ok (.putfield 24, 3) := by decide +kernel
theorem dX6_put_37 : decode cX6_put 37 = .ok (.goto 36, 3) := by decide +kernel
theorem dX6_put_40 : decode cX6_put 40 = .ok (.aload_n 0, 1) := by decide +kernel
theorem dX6_put_41 : decode cX6_put 41 = .ok (.iload_n 2, 1) := by decide +kernel
theorem dX6_put_42 : decode cX6_put 42 = .ok (.putfield 27, 3) := by decide +kernel
theorem dX6_put_45 : decode cX6_put 45 = .ok (.goto 28, 3) := by decide +kernel
theorem dX6_put_48 : decode cX6_put 48 = .ok (.aload_n 0, 1) := by decide +kernel
theorem dX6_put_49 : decode cX6_put 49 = .ok (.iload_n 2, 1) := by decide +kernel
theorem dX6_put_50 : decode cX6_put 50 = .ok (.putfield 18, 3) := by decide +kernel
theorem dX6_put_53 : decode cX6_put 53 = .ok (.goto 20, 3) := by decide +kernel
theorem dX6_put_56 : decode cX6_put 56 = .ok (.aload_n 0, 1) := by decide +kernel
theorem dX6_put_57 : decode cX6_put 57 = .ok (.iload_n 2, 1) := by decide +kernel
theorem dX6_put_58 : decode cX6_put 58 = .ok (.iconst 1, 1) := by decide +kernel
theorem dX6_put_59 : decode cX6_put 59 = .ok (.if_icmp .ne 7, 3) := by decide +kernel
theorem dX6_put_62 : decode cX6_put 62 = .ok (.iconst 1, 1) := by decide +kernel
theorem dX6_put_63 : decode cX6_put 63 = .ok (.goto 4, 3) := by decide +kernel
theorem dX6_put_66 : decode cX6_put 66 = .ok (.iconst 0, 1) := by decide +kernel
theorem dX6_put_67 : decode cX6_put 67 = .ok (.putfield 30, 3) := by decide +kernel
theorem dX6_put_70 : decode cX6_put 70 = .ok (.goto 3, 3) := by decide +kernel
theorem dX6_put_73 : decode cX6_put 73 = .ok (.return_, 1) := by decide +kernel
theorem dX6_wares_0 : decode cX6_wares 0 = .ok (.aload_n 0, 1) := by decide +kernel
theorem dX6_wares_1 : decode cX6_wares 1 = .ok (.getfield 21, 3) := by decide +kernel
theorem dX6_wares_4 : decode cX6_wares 4 = .ok (.ireturn, 1) := by decide +kernel
theorem dX6_buyersThatCount_0 : decode cX6_buyersThatCount 0 = .ok (.aload_n 0, 1) := by decide +kernel
theorem dX6_buyersThatCount_1 : decode cX6_buyersThatCount 1 = .ok (.getfield 24, 3) := by decide +kernel
theorem dX6_buyersThatCount_4 : decode cX6_buyersThatCount 4 = .ok (.ireturn, 1) := by decide +kernel
set_option maxRecDepth 20000 in
theorem ggX6_weight_X0_wares : GoodIn wsX6_weight wsX0_wares := goodIn_r _ [9, 10, 11, 44, 45, 46, 47, 48, 49, 50, 51, 52, 53, 54, 55, 56, 57, 58, 59, 60, 61, 62, 63, 64, 65, 66, 67, 68, 69, 70, 71, 72, 73, 74, 75, 76, 77, 78] (by decide +kernel) (by decide +kernel)
set_option maxRecDepth 20000 in
theorem gX6_weight_X0_wares_u57X0 : GoodIn wsX6_weight (va_wsO RX6 57 RX0 "HungStalls$Stall" ⟨"HungStalls$Stall", "wares", "()I"⟩ yX0_wares wsX0_wares) := goodIn_app (goodIn_of _ (by decide +kernel)) ggX6_weight_X0_wares
set_option maxRecDepth 20000 in
theorem ggX6_weight_X2_wares : GoodIn wsX6_weight wsX2_wares := goodIn_r _ [16, 17, 18, 44, 45, 46, 47, 48, 49, 50, 51, 52, 53, 54, 55, 56, 57, 58, 59, 60, 61, 62, 63, 64, 65, 66, 67, 68, 69, 70, 71, 72, 73, 74, 75, 76, 77, 78] (by decide +kernel) (by decide +kernel)
set_option maxRecDepth 20000 in
theorem gX6_weight_X2_wares_u57X2 : GoodIn wsX6_weight (va_wsO RX6 57 RX2 "HungStalls$Stall" ⟨"HungStalls$Stall", "wares", "()I"⟩ yX2_wares wsX2_wares) := goodIn_app (goodIn_of _ (by decide +kernel)) ggX6_weight_X2_wares
set_option maxRecDepth 20000 in
theorem ggX6_weight_X6_wares : GoodIn wsX6_weight wsX6_wares := goodIn_r _ [12, 22, 44, 45, 46, 47, 48, 49, 50, 51, 52, 53, 54, 55, 56, 57, 58, 59, 60, 61, 62, 63, 64, 65, 66, 67, 68, 69, 70, 71, 72, 73, 74, 75, 76, 77, 78] (by decide +kernel) (by decide +kernel)
set_option maxRecDepth 20000 in
theorem gX6_weight_X6_wares_u57X4 : GoodIn wsX6_weight (va_wsU RX6 57 RX4 "HungStalls$Stall" ⟨"HungStalls$Stall", "wares", "()I"⟩ yX6_wares wsX6_wares) := goodIn_app (goodIn_of _ (by decide +kernel)) ggX6_weight_X6_wares
set_option maxRecDepth 20000 in
theorem gX6_weight_X6_wares_u57X7 : GoodIn wsX6_weight (va_wsU RX6 57 RX7 "HungStalls$Stall" ⟨"HungStalls$Stall", "wares", "()I"⟩ yX6_wares wsX6_wares) := goodIn_app (goodIn_of _ (by decide +kernel)) ggX6_weight_X6_wares
set_option maxRecDepth 20000 in
theorem ggX6_weight_X10_wares : GoodIn wsX6_weight wsX10_wares := goodIn_r _ [27, 28, 29, 44, 45, 46, 47, 48, 49, 50, 51, 52, 53, 54, 55, 56, 57, 58, 59, 60, 61, 62, 63, 64, 65, 66, 67, 68, 69, 70, 71, 72, 73, 74, 75, 76, 77, 78] (by decide +kernel) (by decide +kernel)
set_option maxRecDepth 20000 in
theorem gX6_weight_X10_wares_u57X10 : GoodIn wsX6_weight (va_wsO RX6 57 RX10 "HungStalls$Stall" ⟨"HungStalls$Stall", "wares", "()I"⟩ yX10_wares wsX10_wares) := goodIn_app (goodIn_of _ (by decide +kernel)) ggX6_weight_X10_wares
set_option maxRecDepth 20000 in
theorem ggX6_weight_X6_buyersThatCount : GoodIn wsX6_weight wsX6_buyersThatCount := goodIn_r _ [34, 35, 44, 45, 46, 47, 48, 49, 50, 51, 52, 53, 54, 55, 56, 57, 58, 59, 60, 61, 62, 63, 64, 65, 66, 67, 68, 69, 70, 71, 72, 73, 74, 75, 76, 77, 78] (by decide +kernel) (by decide +kernel)
set_option maxRecDepth 20000 in
theorem gX6_weight_X6_buyersThatCount_u60X0 : GoodIn wsX6_weight (va_wsU RX6 60 RX0 "HungStalls$Stall" ⟨"HungStalls$Stall", "buyersThatCount", "()I"⟩ yX6_buyersThatCount wsX6_buyersThatCount) := goodIn_app (goodIn_of _ (by decide +kernel)) ggX6_weight_X6_buyersThatCount
set_option maxRecDepth 20000 in
theorem gX6_weight_X6_buyersThatCount_u60X2 : GoodIn wsX6_weight (va_wsU RX6 60 RX2 "HungStalls$Stall" ⟨"HungStalls$Stall", "buyersThatCount", "()I"⟩ yX6_buyersThatCount wsX6_buyersThatCount) := goodIn_app (goodIn_of _ (by decide +kernel)) ggX6_weight_X6_buyersThatCount
set_option maxRecDepth 20000 in
theorem ggX6_weight_X4_buyersThatCount : GoodIn wsX6_weight wsX4_buyersThatCount := goodIn_r _ [41] (by decide +kernel) (by decide +kernel)
set_option maxRecDepth 20000 in
theorem gX6_weight_X4_buyersThatCount_u60X4 : GoodIn wsX6_weight (va_wsO RX6 60 RX4 "HungStalls$Stall" ⟨"HungStalls$Stall", "buyersThatCount", "()I"⟩ yX4_buyersThatCount wsX4_buyersThatCount) := goodIn_app (goodIn_of _ (by decide +kernel)) ggX6_weight_X4_buyersThatCount
set_option maxRecDepth 20000 in
theorem gX6_weight_X6_buyersThatCount_u60X7 : GoodIn wsX6_weight (va_wsU RX6 60 RX7 "HungStalls$Stall" ⟨"HungStalls$Stall", "buyersThatCount", "()I"⟩ yX6_buyersThatCount wsX6_buyersThatCount) := goodIn_app (goodIn_of _ (by decide +kernel)) ggX6_weight_X6_buyersThatCount
set_option maxRecDepth 20000 in
theorem gX6_weight_X4_buyersThatCount_u60X10 : GoodIn wsX6_weight (va_wsO RX6 60 RX10 "HungStalls$Stall" ⟨"HungStalls$Stall", "buyersThatCount", "()I"⟩ yX4_buyersThatCount wsX4_buyersThatCount) := goodIn_app (goodIn_of _ (by decide +kernel)) ggX6_weight_X4_buyersThatCount
theorem dX6_weight_0 : decode cX6_weight 0 = .ok (.aload_n 0, 1) := by decide +kernel
theorem dX6_weight_1 : decode cX6_weight 1 = .ok (.getfield 30, 3) := by decide +kernel
theorem dX6_weight_4 : decode cX6_weight 4 = .ok (.ifCond .eq 7, 3) := by decide +kernel
theorem dX6_weight_7 : decode cX6_weight 7 = .ok (.iconst 0, 1) := by decide +kernel
theorem dX6_weight_8 : decode cX6_weight 8 = .ok (.goto 7, 3) := by decide +kernel
theorem dX6_weight_11 : decode cX6_weight 11 = .ok (.aload_n 0, 1) := by decide +kernel
theorem dX6_weight_12 : decode cX6_weight 12 = .ok (.invokevirtual 57, 3) := by decide +kernel
theorem dX6_weight_15 : decode cX6_weight 15 = .ok (.aload_n 0, 1) := by decide +kernel
theorem dX6_weight_16 : decode cX6_weight 16 = .ok (.invokevirtual 60, 3) := by decide +kernel
theorem dX6_weight_19 : decode cX6_weight 19 = .ok (.iadd, 1) := by decide +kernel
theorem dX6_weight_20 : decode cX6_weight 20 = .ok (.aload_n 0, 1) := by decide +kernel
theorem dX6_weight_21 : decode cX6_weight 21 = .ok (.getfield 27, 3) := by decide +kernel
theorem dX6_weight_24 : decode cX6_weight 24 = .ok (.iadd, 1) := by decide +kernel
theorem dX6_weight_25 : decode cX6_weight 25 = .ok (.ireturn, 1) := by decide +kernel
set_option maxRecDepth 20000 in
theorem ggX6_size_X9_leave : GoodIn wsX6_size wsX9_leave := goodIn_r _ [6, 7, 8, 44, 45] (by decide +kernel) (by decide +kernel)
set_option maxRecDepth 20000 in
theorem gX6_size_X9_leave : GoodIn wsX6_size (wsV RX6 63 RX9 yX9_leave wsX9_leave) := goodIn_app (goodIn_of _ (by decide +kernel)) ggX6_size_X9_leave
theorem dX6_size_0 : decode cX6_size 0 = .ok (.aload_n 1, 1) := by decide +kernel
theorem dX6_size_1 : decode cX6_size 1 = .ok (.bipush 10, 2) := by decide +kernel
theorem dX6_size_3 : decode cX6_size 3 = .ok (.invokevirtual 63, 3) := by decide +kernel
theorem dX6_size_6 : decode cX6_size 6 = .ok (.aload_n 0, 1) := by decide +kernel
theorem dX6_size_7 : decode cX6_size 7 = .ok (.getfield 21, 3) := by decide +kernel
theorem dX6_size_10 : decode cX6_size 10 = .ok (.ireturn, 1) := by decide +kernel
set_option maxRecDepth 20000 in
theorem ggX6_mark_X9_leave : GoodIn wsX6_mark wsX9_leave := goodIn_r _ [6, 7, 8, 44, 45] (by decide +kernel) (by decide +kernel)
set_option maxRecDepth 20000 in
theorem gX6_mark_X9_leave : GoodIn wsX6_mark (wsV RX6 63 RX9 yX9_leave wsX9_leave) := goodIn_app (goodIn_of _ (by decide +kernel)) ggX6_mark_X9_leave
theorem dX6_mark_0 : decode cX6_mark 0 = .ok (.aload_n 1, 1) := by decide +kernel
theorem dX6_mark_1 : decode cX6_mark 1 = .ok (.bipush 20, 2) := by decide +kernel
theorem dX6_mark_3 : decode cX6_mark 3 = .ok (.invokevirtual 63, 3) := by decide +kernel
theorem dX6_mark_6 : decode cX6_mark 6 = .ok (.aload_n 0, 1) := by decide +kernel
theorem dX6_mark_7 : decode cX6_mark 7 = .ok (.getfield 9, 3) := by decide +kernel
theorem dX6_mark_10 : decode cX6_mark 10 = .ok (.ireturn, 1) := by decide +kernel
set_option maxRecDepth 20000 in
theorem ggX7_init_X6_init : GoodIn wsX7_init wsX6_init := goodIn_r _ [3, 4, 5, 6, 7, 8, 9, 10, 11, 12, 13, 14, 15, 16, 17, 18, 19, 20, 21, 22, 23, 24, 25, 26, 27, 28, 29, 30, 31, 32, 33, 34, 35, 36, 37, 38, 39, 40, 41, 42, 43, 44, 45, 46, 47, 48] (by decide +kernel) (by decide +kernel)
set_option maxRecDepth 20000 in
theorem gX7_init_X6_init_n3 : GoodIn wsX7_init (wsX6_init) := ggX7_init_X6_init
theorem dX7_init_0 : decode cX7_init 0 = .ok (.aload_n 0, 1) := by decide +kernel
theorem dX7_init_1 : decode cX7_init 1 = .ok (.invokespecial 3, 3) := by decide +kernel
theorem dX7_init_4 : decode cX7_init 4 = .ok (.return_, 1) := by decide +kernel
theorem dX7_kindTold_0 : decode cX7_kindTold 0 = .ok (.iconst 1, 1) := by decide +kernel
theorem dX7_kindTold_1 : decode cX7_kindTold 1 = .ok (.ireturn, 1) := by decide +kernel
set_option maxRecDepth 20000 in
theorem ggX7_size_X9_leave : GoodIn wsX7_size wsX9_leave := goodIn_r _ [5, 6, 7, 89, 90] (by decide +kernel) (by decide +kernel)
set_option maxRecDepth 20000 in
theorem gX7_size_X9_leave : GoodIn wsX7_size (wsV RX7 9 RX9 yX9_leave wsX9_leave) := goodIn_app (goodIn_of _ (by decide +kernel)) ggX7_size_X9_leave
set_option maxRecDepth 20000 in
theorem ggX7_size_X6_size : GoodIn wsX7_size wsX6_size := goodIn_r _ [13, 14, 15, 2, 3, 4, 5, 6, 7, 91, 92, 93, 94, 95, 96, 97, 98, 99, 100, 101, 102, 103, 104, 105, 106, 107, 108, 109, 110, 111, 112, 113, 114, 115, 116, 117, 118, 119, 120, 121, 122, 123, 124, 125, 89, 90] (by decide +kernel) (by decide +kernel)
set_option maxRecDepth 20000 in
theorem gX7_size_X6_size_s15 : GoodIn wsX7_size (va_wsSU RX7 15 yX6_size wsX6_size) := goodIn_app (goodIn_of _ (by decide +kernel)) ggX7_size_X6_size
set_option maxRecDepth 20000 in
theorem ggX7_size_X0_mark : GoodIn wsX7_size wsX0_mark := goodIn_r _ [22, 23, 2, 3, 4, 5, 6, 7, 24, 17, 25, 26, 27, 28, 1, 29, 30, 10, 31, 12, 32, 33, 15, 34, 35, 36, 37, 38, 39, 40, 41, 42, 43, 44, 45, 21, 46, 47, 48, 49, 50, 51, 52, 53, 54, 55, 56, 57, 14, 58, 59, 60, 61, 62, 63, 64, 65, 66, 67, 68, 69, 70, 71, 72, 73, 74, 75, 76, 77, 78, 79, 80, 89, 90, 91, 92, 93, 94, 95, 96, 97, 98, 99, 100, 101, 102, 103, 104, 105, 106, 107, 108, 109, 110, 111, 112, 113, 114, 115, 116, 117, 118, 119, 120, 121, 122, 123, 124, 125] (by decide +kernel) (by decide +kernel)
set_option maxRecDepth 20000 in
theorem gX7_size_X0_mark_u19X0 : GoodIn wsX7_size (va_wsO RX7 19 RX0 "HungStalls$Table" ⟨"HungStalls$Table", "mark", "(LHungStalls$Trace;)I"⟩ yX0_mark wsX0_mark) := goodIn_app (goodIn_of _ (by decide +kernel)) ggX7_size_X0_mark
set_option maxRecDepth 20000 in
theorem ggX7_size_X2_mark : GoodIn wsX7_size wsX2_mark := goodIn_r _ [83, 84, 2, 3, 4, 5, 6, 7, 85, 17, 86, 26, 27, 28, 1, 29, 30, 10, 31, 12, 32, 33, 15, 34, 35, 36, 37, 38, 39, 40, 41, 42, 43, 44, 45, 21, 46, 47, 48, 49, 50, 51, 52, 53, 54, 55, 56, 57, 14, 58, 59, 60, 61, 62, 63, 64, 65, 66, 67, 68, 69, 70, 71, 72, 73, 74, 75, 76, 77, 78, 79, 80, 89, 90, 91, 92, 93, 94, 95, 96, 97, 98, 99, 100, 101, 102, 103, 104, 105, 106, 107, 108, 109, 110, 111, 112, 113, 114, 115, 116, 117, 118, 119, 120, 121, 122, 123, 124, 125] (by decide +kernel) (by decide +kernel)
set_option maxRecDepth 20000 in
theorem gX7_size_X2_mark_u19X2 : GoodIn wsX7_size (va_wsO RX7 19 RX2 "HungStalls$Table" ⟨"HungStalls$Table", "mark", "(LHungStalls$Trace;)I"⟩ yX2_mark wsX2_mark) := goodIn_app (goodIn_of _ (by decide +kernel)) ggX7_size_X2_mark
set_option maxRecDepth 20000 in
theorem ggX7_size_X7_mark : GoodIn wsX7_size wsX7_mark := goodIn_r _ [28, 1, 2, 3, 4, 5, 6, 7, 29, 30, 10, 31, 12, 32, 33, 15, 34, 35, 36, 37, 38, 39, 40, 41, 42, 43, 44, 45, 21, 46, 47, 48, 49, 50, 51, 52, 53, 54, 55, 56, 57, 14, 58, 59, 60, 61, 62, 63, 64, 65, 66, 67, 68, 69, 70, 71, 72, 73, 74, 75, 76, 77, 78, 79, 80, 89, 90, 91, 92, 93, 94, 95, 96, 97, 98, 99, 100, 101, 102, 103, 104, 105, 106, 107, 108, 109, 110, 111, 112, 113, 114, 115, 116, 117, 118, 119, 120, 121, 122, 123, 124, 125] (by decide +kernel) (by decide +kernel)
set_option maxRecDepth 20000 in
theorem gX7_size_X7_mark : GoodIn wsX7_size (wsV RX7 19 RX7 yX7_mark wsX7_mark) := goodIn_app (goodIn_of _ (by decide +kernel)) ggX7_size_X7_mark
theorem dX7_size_0 : decode cX7_size 0 = .ok (.aload_n 1, 1) := by decide +kernel
theorem dX7_size_1 : decode cX7_size 1 = .ok (.bipush 11, 2) := by decide +kernel
theorem dX7_size_3 : decode cX7_size 3 = .ok (.invokevirtual 9, 3) := by decide +kernel
theorem dX7_size_6 : decode cX7_size 6 = .ok (.aload_n 0, 1) := by decide +kernel
theorem dX7_size_7 : decode cX7_size 7 = .ok (.aload_n 1, 1) := by decide +kernel
theorem dX7_size_8 : decode cX7_size 8 = .ok (.invokespecial 15, 3) := by decide +kernel
theorem dX7_size_11 : decode cX7_size 11 = .ok (.istore_n 2, 1) := by decide +kernel
theorem dX7_size_12 : decode cX7_size 12 = .ok (.iload_n 2, 1) := by decide +kernel
theorem dX7_size_13 : decode cX7_size 13 = .ok (.aload_n 0, 1) := by decide +kernel
theorem dX7_size_14 : decode cX7_size 14 = .ok (.aload_n 1, 1) := by decide +kernel
theorem dX7_size_15 : decode cX7_size 15 = .ok (.invokevirtual 19, 3) := by decide +kernel
theorem dX7_size_18 : decode cX7_size 18 = .ok (.iadd, 1) := by decide +kernel
theorem dX7_size_19 : decode cX7_size 19 = .ok (.ireturn, 1) := by decide +kernel
set_option maxRecDepth 20000 in
theorem ggX7_mark_X9_leave : GoodIn wsX7_mark wsX9_leave := goodIn_r _ [5, 6, 7, 65, 66] (by decide +kernel) (by decide +kernel)
set_option maxRecDepth 20000 in
theorem gX7_mark_X9_leave : GoodIn wsX7_mark (wsV RX7 9 RX9 yX9_leave wsX9_leave) := goodIn_app (goodIn_of _ (by decide +kernel)) ggX7_mark_X9_leave
set_option maxRecDepth 20000 in
theorem ggX7_mark_X6_mark : GoodIn wsX7_mark wsX6_mark := goodIn_r _ [13, 14, 15, 2, 3, 4, 5, 6, 7, 67, 68, 69, 70, 71, 72, 73, 74, 75, 76, 77, 78, 79, 80, 81, 82, 83, 84, 85, 86, 87, 88, 89, 90, 91, 92, 93, 94, 95, 96, 97, 98, 99, 100, 101, 65, 66] (by decide +kernel) (by decide +kernel)
set_option maxRecDepth 20000 in
theorem gX7_mark_X6_mark_s24 : GoodIn wsX7_mark (va_wsSU RX7 24 yX6_mark wsX6_mark) := goodIn_app (goodIn_of _ (by decide +kernel)) ggX7_mark_X6_mark
set_option maxRecDepth 20000 in
theorem ggX7_mark_X6_weight : GoodIn wsX7_mark wsX6_weight := goodIn_r _ [20, 21, 22, 23, 24, 25, 26, 27, 28, 29, 30, 31, 32, 33, 34, 35, 36, 37, 38, 39, 40, 12, 41, 42, 43, 44, 45, 46, 47, 48, 49, 50, 51, 52, 53, 54, 55, 56, 57, 58, 59, 60, 61, 62, 67, 68, 69, 70, 71, 72, 73, 74, 75, 76, 77, 78, 79, 80, 81, 82, 83, 84, 85, 86, 87, 88, 89, 90, 91, 92, 93, 94, 95, 96, 97, 98, 99, 100, 101] (by decide +kernel) (by decide +kernel)
set_option maxRecDepth 20000 in
theorem gX7_mark_X6_weight_u25X0 : GoodIn wsX7_mark (va_wsU RX7 25 RX0 "HungStalls$Stall" ⟨"HungStalls$Table", "weight", "()I"⟩ yX6_weight wsX6_weight) := goodIn_app (goodIn_of _ (by decide +kernel)) ggX7_mark_X6_weight
set_option maxRecDepth 20000 in
theorem gX7_mark_X6_weight_u25X2 : GoodIn wsX7_mark (va_wsU RX7 25 RX2 "HungStalls$Stall" ⟨"HungStalls$Table", "weight", "()I"⟩ yX6_weight wsX6_weight) := goodIn_app (goodIn_of _ (by decide +kernel)) ggX7_mark_X6_weight
set_option maxRecDepth 20000 in
theorem gX7_mark_X6_weight_u25X7 : GoodIn wsX7_mark (va_wsU RX7 25 RX7 "HungStalls$Stall" ⟨"HungStalls$Table", "weight", "()I"⟩ yX6_weight wsX6_weight) := goodIn_app (goodIn_of _ (by decide +kernel)) ggX7_mark_X6_weight
theorem dX7_mark_0 : decode cX7_mark 0 = .ok (.aload_n 1, 1) := by decide +kernel
theorem dX7_mark_1 : decode cX7_mark 1 = .ok (.bipush 21, 2) := by decide +kernel
theorem dX7_mark_3 : decode cX7_mark 3 = .ok (.invokevirtual 9, 3) := by decide +kernel
theorem dX7_mark_6 : decode cX7_mark 6 = .ok (.aload_n 0, 1) := by decide +kernel
theorem dX7_mark_7 : decode cX7_mark 7 = .ok (.aload_n 1, 1) := by decide +kernel
theorem dX7_mark_8 : decode cX7_mark 8 = .ok (.invokespecial 24, 3) := by decide +kernel
theorem dX7_mark_11 : decode cX7_mark 11 = .ok (.aload_n 0, 1) := by decide +kernel
theorem dX7_mark_12 : decode cX7_mark 12 = .ok (.invokevirtual 25, 3) := by decide +kernel
theorem dX7_mark_15 : decode cX7_mark 15 = .ok (.iadd, 1) := by decide +kernel
theorem dX7_mark_16 : decode cX7_mark 16 = .ok (.ireturn, 1) := by decide +kernel
theorem dX8_init_0 : decode cX8_init 0 = .ok (.aload_n 0, 1) := by decide +kernel
theorem dX8_init_1 : decode cX8_init 1 = .ok (.invokespecial 3, 3) := by decide +kernel
theorem dX8_init_4 : decode cX8_init 4 = .ok (.aload_n 0, 1) := by decide +kernel
theorem dX8_init_5 : decode cX8_init 5 = .ok (.bipush 100, 2) := by decide +kernel
theorem dX8_init_7 : decode cX8_init 7 = .ok (.newarray .int, 2) := by decide +kernel
theorem dX8_init_9 : decode cX8_init 9 = .ok (.putfield 9, 3) := by decide +kernel
theorem dX8_init_12 : decode cX8_init 12 = .ok (.aload_n 0, 1) := by decide +kernel
theorem dX8_init_13 : decode cX8_init 13 = .ok (.iconst 0, 1) := by decide +kernel
theorem dX8_init_14 : decode cX8_init 14 = .ok (.putfield 15, 3) := by decide +kernel
theorem dX8_init_17 : decode cX8_init 17 = .ok (.aload_n 0, 1) := by decide +kernel
theorem dX8_init_18 : decode cX8_init 18 = .ok (.iconst 0, 1) := by decide +kernel
theorem dX8_init_19 : decode cX8_init 19 = .ok (.putfield 19, 3) := by decide +kernel
theorem dX8_init_22 : decode cX8_init 22 = .ok (.aload_n 0, 1) := by decide +kernel
theorem dX8_init_23 : decode cX8_init 23 = .ok (.iconst 0, 1) := by decide +kernel
theorem dX8_init_24 : decode cX8_init 24 = .ok (.putfield 22, 3) := by decide +kernel
theorem dX8_init_27 : decode cX8_init 27 = .ok (.aload_n 0, 1) := by decide +kernel
theorem dX8_init_28 : decode cX8_init 28 = .ok (.iconst 0, 1) := by decide +kernel
theorem dX8_init_29 : decode cX8_init 29 = .ok (.putfield 25, 3) := by decide +kernel
theorem dX8_init_32 : decode cX8_init 32 = .ok (.return_, 1) := by decide +kernel
set_option maxRecDepth 20000 in
theorem ggX8_read_X8_readLaw : GoodIn wsX8_read wsX8_readLaw := goodIn_r _ [8, 9, 10, 11, 12, 13, 14, 7, 15, 2, 1, 16, 17, 18, 19, 20, 21, 22, 23, 3, 24, 25, 26, 27, 28, 29, 30, 31, 32, 33, 34, 35, 36, 37, 38, 39, 40, 41, 42, 43, 44, 45, 46, 47, 48, 49, 50, 51, 125, 126, 127, 128, 129, 130, 120, 121, 122, 123, 124] (by decide +kernel) (by decide +kernel)
set_option maxRecDepth 20000 in
theorem gX8_read_X8_readLaw : GoodIn wsX8_read (wsV RX8 28 RX8 yX8_readLaw wsX8_readLaw) := goodIn_app (goodIn_of _ (by decide +kernel)) ggX8_read_X8_readLaw
set_option maxRecDepth 20000 in
theorem ggX8_read_X8_next : GoodIn wsX8_read wsX8_next := goodIn_r _ [19, 1, 20, 21, 22, 7, 23, 3, 24, 25, 120, 121, 122, 123, 124] (by decide +kernel) (by decide +kernel)
set_option maxRecDepth 20000 in
theorem gX8_read_X8_next : GoodIn wsX8_read (wsV RX8 32 RX8 yX8_next wsX8_next) := goodIn_app (goodIn_of _ (by decide +kernel)) ggX8_read_X8_next
set_option maxRecDepth 20000 in
theorem ggX8_read_X8_readRope : GoodIn wsX8_read wsX8_readRope := goodIn_r _ [55, 56, 1, 2, 26, 27, 28, 7, 29, 30, 12, 13, 14, 15, 16, 17, 18, 19, 20, 21, 22, 23, 3, 24, 25, 31, 32, 33, 34, 35, 36, 37, 57, 58, 59, 11, 60, 44, 47, 125, 126, 127, 128, 129, 130, 120, 121, 122, 123, 124] (by decide +kernel) (by decide +kernel)
set_option maxRecDepth 20000 in
theorem gX8_read_X8_readRope : GoodIn wsX8_read (wsV RX8 36 RX8 yX8_readRope wsX8_readRope) := goodIn_app (goodIn_of _ (by decide +kernel)) ggX8_read_X8_readRope
set_option maxRecDepth 20000 in
theorem ggX8_read_X8_readStall : GoodIn wsX8_read wsX8_readStall := goodIn_r _ [64, 24, 1, 65, 56, 2, 16, 17, 18, 7, 19, 20, 21, 22, 23, 3, 25, 66, 67, 68, 26, 27, 28, 29, 30, 31, 32, 33, 34, 35, 36, 37, 12, 13, 14, 15, 69, 70, 71, 11, 72, 49, 73, 74, 75, 76, 77, 78, 79, 80, 81, 82, 83, 84, 85, 86, 87, 88, 89, 90, 91, 92, 93, 94, 95, 96, 97, 98, 99, 100, 42, 43, 101, 102, 103, 104, 105, 106, 107, 108, 109, 110, 111, 112, 113, 114, 115, 116, 117, 45, 118, 119, 120, 121, 122, 123, 124, 125, 126, 127, 128, 129, 130, 131, 132, 133, 134, 135, 136, 137, 138, 139, 140, 141, 142, 143, 144, 145, 146, 147, 148, 149, 150, 151, 152, 153, 154, 155, 156, 157, 158, 159, 160, 161, 162, 163, 164, 165] (by decide +kernel) (by decide +kernel)
set_option maxRecDepth 20000 in
theorem gX8_read_X8_readStall : GoodIn wsX8_read (wsV RX8 40 RX8 yX8_readStall wsX8_readStall) := goodIn_app (goodIn_of _ (by decide +kernel)) ggX8_read_X8_readStall
theorem dX8_read_0 : decode cX8_read 0 = .ok (.aload_n 0, 1) := by decide +kernel
theorem dX8_read_1 : decode cX8_read 1 = .ok (.iconst 0, 1) := by decide +kernel
theorem dX8_read_2 : decode cX8_read 2 = .ok (.putfield 19, 3) := by decide +kernel
theorem dX8_read_5 : decode cX8_read 5 = .ok (.aload_n 0, 1) := by decide +kernel
theorem dX8_read_6 : decode cX8_read 6 = .ok (.iconst 0, 1) := by decide +kernel
theorem dX8_read_7 : decode cX8_read 7 = .ok (.putfield 22, 3) := by decide +kernel
theorem dX8_read_10 : decode cX8_read 10 = .ok (.aload_n 0, 1) := by decide +kernel
theorem dX8_read_11 : decode cX8_read 11 = .ok (.invokevirtual 28, 3) := by decide +kernel
theorem dX8_read_14 : decode cX8_read 14 = .ok (.astore_n 1, 1) := by decide +kernel
theorem dX8_read_15 : decode cX8_read 15 = .ok (.iconst 0, 1) := by decide +kernel
theorem dX8_read_16 : decode cX8_read 16 = .ok (.istore_n 2, 1) := by decide +kernel
theorem dX8_read_17 : decode cX8_read 17 = .ok (.iload_n 2, 1) := by decide +kernel
theorem dX8_read_18 : decode cX8_read 18 = .ok (.iconst 3, 1) := by decide +kernel
theorem dX8_read_19 : decode cX8_read 19 = .ok (.if_icmp .gt 34, 3) := by decide +kernel
theorem dX8_read_22 : decode cX8_read 22 = .ok (.aload_n 0, 1) := by decide +kernel
theorem dX8_read_23 : decode cX8_read 23 = .ok (.getfield 22, 3) := by decide +kernel
theorem dX8_read_26 : decode cX8_read 26 = .ok (.ifCond .ne 27, 3) := by decide +kernel
theorem dX8_read_29 : decode cX8_read 29 = .ok (.iload_n 2, 1) := by decide +kernel
theorem dX8_read_30 : decode cX8_read 30 = .ok (.ifCond .eq 12, 3) := by decide +kernel
theorem dX8_read_33 : decode cX8_read 33 = .ok (.aload_n 0, 1) := by decide +kernel
theorem dX8_read_34 : decode cX8_read 34 = .ok (.invokevirtual 32, 3) := by decide +kernel
theorem dX8_read_37 : decode cX8_read 37 = .ok (.bipush 108, 2) := by decide +kernel
theorem dX8_read_39 : decode cX8_read 39 = .ok (.if_icmp .ne 14, 3) := by decide +kernel
theorem dX8_read_42 : decode cX8_read 42 = .ok (.aload_n 0, 1) := by decide +kernel
theorem dX8_read_43 : decode cX8_read 43 = .ok (.aload_n 1, 1) := by decide +kernel
theorem dX8_read_44 : decode cX8_read 44 = .ok (.invokevirtual 36, 3) := by decide +kernel
theorem dX8_read_47 : decode cX8_read 47 = .ok (.iinc 2 1, 3) := by decide +kernel
theorem dX8_read_50 : decode cX8_read 50 = .ok (.goto (-33), 3) := by decide +kernel
theorem dX8_read_53 : decode cX8_read 53 = .ok (.iconst 0, 1) := by decide +kernel
theorem dX8_read_54 : decode cX8_read 54 = .ok (.istore_n 2, 1) := by decide +kernel
theorem dX8_read_55 : decode cX8_read 55 = .ok (.iload_n 2, 1) := by decide +kernel
theorem dX8_read_56 : decode cX8_read 56 = .ok (.bipush 6, 2) := by decide +kernel
theorem dX8_read_58 : decode cX8_read 58 = .ok (.if_icmp .gt 32, 3) := by decide +kernel
theorem dX8_read_61 : decode cX8_read 61 = .ok (.aload_n 0, 1) := by decide +kernel
theorem dX8_read_62 : decode cX8_read 62 = .ok (.getfield 22, 3) := by decide +kernel
theorem dX8_read_65 : decode cX8_read 65 = .ok (.ifCond .ne 25, 3) := by decide +kernel
theorem dX8_read_68 : decode cX8_read 68 = .ok (.aload_n 0, 1) := by decide +kernel
theorem dX8_read_69 : decode cX8_read 69 = .ok (.getfield 19, 3) := by decide +kernel
theorem dX8_read_72 : decode cX8_read 72 = .ok (.aload_n 0, 1) := by decide +kernel
theorem dX8_read_73 : decode cX8_read 73 = .ok (.getfield 15, 3) := by decide +kernel
theorem dX8_read_76 : decode cX8_read 76 = .ok (.if_icmp .ge 14, 3) := by decide +kernel
theorem dX8_read_79 : decode cX8_read 79 = .ok (.aload_n 0, 1) := by decide +kernel
theorem dX8_read_80 : decode cX8_read 80 = .ok (.aload_n 1, 1) := by decide +kernel
theorem dX8_read_81 : decode cX8_read 81 = .ok (.invokevirtual 40, 3) := by decide +kernel
theorem dX8_read_84 : decode cX8_read 84 = .ok (.iinc 2 1, 3) := by decide +kernel
theorem dX8_read_87 : decode cX8_read 87 = .ok (.goto (-32), 3) := by decide +kernel
theorem dX8_read_90 : decode cX8_read 90 = .ok (.aload_n 0, 1) := by decide +kernel
theorem dX8_read_91 : decode cX8_read 91 = .ok (.getfield 22, 3) := by decide +kernel
theorem dX8_read_94 : decode cX8_read 94 = .ok (.ifCond .ne 7, 3) := by decide +kernel
theorem dX8_read_97 : decode cX8_read 97 = .ok (.aload_n 1, 1) := by decide +kernel
theorem dX8_read_98 : decode cX8_read 98 = .ok (.goto 4, 3) := by decide +kernel
theorem dX8_read_101 : decode cX8_read 101 = .ok (.aconst_null, 1) := by decide +kernel
theorem dX8_read_102 : decode cX8_read 102 = .ok (.areturn, 1) := by decide +kernel
set_option maxRecDepth 20000 in
theorem ggX8_readLaw_X8_pass : GoodIn wsX8_readLaw wsX8_pass := goodIn_r _ [8, 9, 10, 11, 12, 13, 7, 14, 15, 16, 17, 18, 19, 20, 21, 22, 23, 24, 25, 26, 54, 55, 56, 57, 58] (by decide +kernel) (by decide +kernel)
set_option maxRecDepth 20000 in
theorem gX8_readLaw_X8_pass : GoodIn wsX8_readLaw (wsV RX8 43 RX8 yX8_pass wsX8_pass) := goodIn_app (goodIn_of _ (by decide +kernel)) ggX8_readLaw_X8_pass
set_option maxRecDepth 20000 in
theorem ggX8_readLaw_X8_number : GoodIn wsX8_readLaw wsX8_number := goodIn_r _ [30, 10, 9, 20, 15, 16, 17, 7, 18, 19, 21, 31, 32, 33, 22, 23, 24, 25, 26, 54, 55, 56, 57, 58] (by decide +kernel) (by decide +kernel)
set_option maxRecDepth 20000 in
theorem gX8_readLaw_X8_number : GoodIn wsX8_readLaw (wsV RX8 47 RX8 yX8_number wsX8_number) := goodIn_app (goodIn_of _ (by decide +kernel)) ggX8_readLaw_X8_number
set_option maxRecDepth 20000 in
theorem ggX8_readLaw_X3_init : GoodIn wsX8_readLaw wsX3_init := goodIn_r _ [36, 37, 38, 39, 40, 41, 42, 43, 44, 45, 46, 47, 48, 49, 50, 51, 52, 53] (by decide +kernel) (by decide +kernel)
set_option maxRecDepth 20000 in
theorem gX8_readLaw_X3_init : GoodIn wsX8_readLaw (wsX3_init) := ggX8_readLaw_X3_init
theorem dX8_readLaw_0 : decode cX8_readLaw 0 = .ok (.aload_n 0, 1) := by decide +kernel
theorem dX8_readLaw_1 : decode cX8_readLaw 1 = .ok (.bipush 109, 2) := by decide +kernel
theorem dX8_readLaw_3 : decode cX8_readLaw 3 = .ok (.invokevirtual 43, 3) := by decide +kernel
theorem dX8_readLaw_6 : decode cX8_readLaw 6 = .ok (.aload_n 0, 1) := by decide +kernel
theorem dX8_readLaw_7 : decode cX8_readLaw 7 = .ok (.iconst 0, 1) := by decide +kernel
theorem dX8_readLaw_8 : decode cX8_readLaw 8 = .ok (.bipush 99, 2) := by decide +kernel
theorem dX8_readLaw_10 : decode cX8_readLaw 10 = .ok (.invokevirtual 47, 3) := by decide +kernel
theorem dX8_readLaw_13 : decode cX8_readLaw 13 = .ok (.istore_n 1, 1) := by decide +kernel
theorem dX8_readLaw_14 : decode cX8_readLaw 14 = .ok (.aload_n 0, 1) := by decide +kernel
theorem dX8_readLaw_15 : decode cX8_readLaw 15 = .ok (.bipush 44, 2) := by decide +kernel
theorem dX8_readLaw_17 : decode cX8_readLaw 17 = .ok (.invokevirtual 43, 3) := by decide +kernel
theorem dX8_readLaw_20 : decode cX8_readLaw 20 = .ok (.aload_n 0, 1) := by decide +kernel
theorem dX8_readLaw_21 : decode cX8_readLaw 21 = .ok (.iconst 0, 1) := by decide +kernel
theorem dX8_readLaw_22 : decode cX8_readLaw 22 = .ok (.bipush 20, 2) := by decide +kernel
theorem dX8_readLaw_24 : decode cX8_readLaw 24 = .ok (.invokevirtual 47, 3) := by decide +kernel
theorem dX8_readLaw_27 : decode cX8_readLaw 27 = .ok (.istore_n 2, 1) := by decide +kernel
theorem dX8_readLaw_28 : decode cX8_readLaw 28 = .ok (.aload_n 0, 1) := by decide +kernel
theorem dX8_readLaw_29 : decode cX8_readLaw 29 = .ok (.bipush 59, 2) := by decide +kernel
theorem dX8_readLaw_31 : decode cX8_readLaw 31 = .ok (.invokevirtual 43, 3) := by decide +kernel
theorem dX8_readLaw_34 : decode cX8_readLaw 34 = .ok (.new 51, 3) := by decide +kernel
theorem dX8_readLaw_37 : decode cX8_readLaw 37 = .ok (.dup, 1) := by decide +kernel
theorem dX8_readLaw_38 : decode cX8_readLaw 38 = .ok (.iload_n 1, 1) := by decide +kernel
theorem dX8_readLaw_39 : decode cX8_readLaw 39 = .ok (.iload_n 2, 1) := by decide +kernel
theorem dX8_readLaw_40 : decode cX8_readLaw 40 = .ok (.invokespecial 53, 3) := by decide +kernel
theorem dX8_readLaw_43 : decode cX8_readLaw 43 = .ok (.areturn, 1) := by decide +kernel
set_option maxRecDepth 20000 in
theorem ggX8_readRope_X8_tellFault : GoodIn wsX8_readRope wsX8_tellFault := goodIn_r _ [8, 3, 9, 45, 46, 47, 48, 49] (by decide +kernel) (by decide +kernel)
set_option maxRecDepth 20000 in
theorem gX8_readRope_X8_tellFault : GoodIn wsX8_readRope (wsV RX8 59 RX8 yX8_tellFault wsX8_tellFault) := goodIn_app (goodIn_of _ (by decide +kernel)) ggX8_readRope_X8_tellFault
set_option maxRecDepth 20000 in
theorem ggX8_readRope_X8_pass : GoodIn wsX8_readRope wsX8_pass := goodIn_r _ [13, 3, 2, 14, 15, 16, 7, 17, 18, 19, 20, 21, 22, 23, 24, 4, 5, 6, 8, 9, 45, 46, 47, 48, 49] (by decide +kernel) (by decide +kernel)
set_option maxRecDepth 20000 in
theorem gX8_readRope_X8_pass : GoodIn wsX8_readRope (wsV RX8 43 RX8 yX8_pass wsX8_pass) := goodIn_app (goodIn_of _ (by decide +kernel)) ggX8_readRope_X8_pass
set_option maxRecDepth 20000 in
theorem ggX8_readRope_X8_number : GoodIn wsX8_readRope wsX8_number := goodIn_r _ [28, 2, 3, 23, 18, 19, 20, 7, 21, 22, 24, 29, 30, 31, 4, 5, 6, 8, 9, 45, 46, 47, 48, 49] (by decide +kernel) (by decide +kernel)
set_option maxRecDepth 20000 in
theorem gX8_readRope_X8_number : GoodIn wsX8_readRope (wsV RX8 47 RX8 yX8_number wsX8_number) := goodIn_app (goodIn_of _ (by decide +kernel)) ggX8_readRope_X8_number
set_option maxRecDepth 20000 in
theorem ggX8_readRope_X3_addRope : GoodIn wsX8_readRope wsX3_addRope := goodIn_r _ [36, 37, 38, 39, 40, 41, 42, 43, 44] (by decide +kernel) (by decide +kernel)
set_option maxRecDepth 20000 in
theorem gX8_readRope_X3_addRope : GoodIn wsX8_readRope (wsV RX8 62 RX3 yX3_addRope wsX3_addRope) := goodIn_app (goodIn_of _ (by decide +kernel)) ggX8_readRope_X3_addRope
theorem dX8_readRope_0 : decode cX8_readRope 0 = .ok (.aload_n 1, 1) := by decide +kernel
theorem dX8_readRope_1 : decode cX8_readRope 1 = .ok (.getfield 56, 3) := by decide +kernel
theorem dX8_readRope_4 : decode cX8_readRope 4 = .ok (.iconst 3, 1) := by decide +kernel
theorem dX8_readRope_5 : decode cX8_readRope 5 = .ok (.if_icmp .ne 12, 3) := by decide +kernel
theorem dX8_readRope_8 : decode cX8_readRope 8 = .ok (.aload_n 0, 1) := by decide +kernel
theorem dX8_readRope_9 : decode cX8_readRope 9 = .ok (.iconst 3, 1) := by decide +kernel
theorem dX8_readRope_10 : decode cX8_readRope 10 = .ok (.aload_n 0, 1) := by decide +kernel
theorem dX8_readRope_11 : decode cX8_readRope 11 = .ok (.getfield 19, 3) := by decide +kernel
theorem dX8_readRope_14 : decode cX8_readRope 14 = .ok (.invokevirtual 59, 3) := by decide +kernel
theorem dX8_readRope_17 : decode cX8_readRope 17 = .ok (.aload_n 0, 1) := by decide +kernel
theorem dX8_readRope_18 : decode cX8_readRope 18 = .ok (.bipush 108, 2) := by decide +kernel
theorem dX8_readRope_20 : decode cX8_readRope 20 = .ok (.invokevirtual 43, 3) := by decide +kernel
theorem dX8_readRope_23 : decode cX8_readRope 23 = .ok (.aload_n 0, 1) := by decide +kernel
theorem dX8_readRope_24 : decode cX8_readRope 24 = .ok (.iconst 1, 1) := by decide +kernel
theorem dX8_readRope_25 : decode cX8_readRope 25 = .ok (.bipush 20, 2) := by decide +kernel
theorem dX8_readRope_27 : decode cX8_readRope 27 = .ok (.invokevirtual 47, 3) := by decide +kernel
theorem dX8_readRope_30 : decode cX8_readRope 30 = .ok (.istore_n 2, 1) := by decide +kernel
theorem dX8_readRope_31 : decode cX8_readRope 31 = .ok (.aload_n 0, 1) := by decide +kernel
theorem dX8_readRope_32 : decode cX8_readRope 32 = .ok (.bipush 59, 2) := by decide +kernel
theorem dX8_readRope_34 : decode cX8_readRope 34 = .ok (.invokevirtual 43, 3) := by decide +kernel
theorem dX8_readRope_37 : decode cX8_readRope 37 = .ok (.aload_n 0, 1) := by decide +kernel
theorem dX8_readRope_38 : decode cX8_readRope 38 = .ok (.getfield 22, 3) := by decide +kernel
theorem dX8_readRope_41 : decode cX8_readRope 41 = .ok (.ifCond .ne 8, 3) := by decide +kernel
theorem dX8_readRope_44 : decode cX8_readRope 44 = .ok (.aload_n 1, 1) := by decide +kernel
theorem dX8_readRope_45 : decode cX8_readRope 45 = .ok (.iload_n 2, 1) := by decide +kernel
theorem dX8_readRope_46 : decode cX8_readRope 46 = .ok (.invokevirtual 62, 3) := by decide +kernel
theorem dX8_readRope_49 : decode cX8_readRope 49 = .ok (.return_, 1) := by decide +kernel
set_option maxRecDepth 20000 in
theorem ggX8_readStall_X8_next : GoodIn wsX8_readStall wsX8_next := goodIn_r _ [10, 2, 11, 12, 13, 9, 14, 15, 1, 16, 92, 93, 94, 95, 96] (by decide +kernel) (by decide +kernel)
set_option maxRecDepth 20000 in
theorem gX8_readStall_X8_next : GoodIn wsX8_readStall (wsV RX8 32 RX8 yX8_next wsX8_next) := goodIn_app (goodIn_of _ (by decide +kernel)) ggX8_readStall_X8_next
set_option maxRecDepth 20000 in
theorem ggX8_readStall_X8_kindOf : GoodIn wsX8_readStall wsX8_kindOf := goodIn_r _ [19, 1] (by decide +kernel) (by decide +kernel)
set_option maxRecDepth 20000 in
theorem gX8_readStall_X8_kindOf : GoodIn wsX8_readStall (va_wsS RX8 65 yX8_kindOf wsX8_kindOf) := goodIn_app (goodIn_of _ (by decide +kernel)) ggX8_readStall_X8_kindOf
set_option maxRecDepth 20000 in
theorem ggX8_readStall_X8_tellFault : GoodIn wsX8_readStall wsX8_tellFault := goodIn_r _ [23, 5, 24, 92, 93, 94, 95, 96] (by decide +kernel) (by decide +kernel)
set_option maxRecDepth 20000 in
theorem gX8_readStall_X8_tellFault : GoodIn wsX8_readStall (wsV RX8 59 RX8 yX8_tellFault wsX8_tellFault) := goodIn_app (goodIn_of _ (by decide +kernel)) ggX8_readStall_X8_tellFault
set_option maxRecDepth 20000 in
theorem ggX8_readStall_X8_number : GoodIn wsX8_readStall wsX8_number := goodIn_r _ [28, 2, 5, 1, 11, 12, 13, 9, 14, 15, 16, 29, 30, 31, 20, 21, 22, 23, 24, 92, 93, 94, 95, 96] (by decide +kernel) (by decide +kernel)
set_option maxRecDepth 20000 in
theorem gX8_readStall_X8_number : GoodIn wsX8_readStall (wsV RX8 47 RX8 yX8_number wsX8_number) := goodIn_app (goodIn_of _ (by decide +kernel)) ggX8_readStall_X8_number
set_option maxRecDepth 20000 in
theorem ggX8_readStall_X8_pass : GoodIn wsX8_readStall wsX8_pass := goodIn_r _ [35, 5, 2, 6, 7, 8, 9, 10, 11, 12, 13, 14, 15, 1, 16, 20, 21, 22, 23, 24, 92, 93, 94, 95, 96] (by decide +kernel) (by decide +kernel)
set_option maxRecDepth 20000 in
theorem gX8_readStall_X8_pass : GoodIn wsX8_readStall (wsV RX8 43 RX8 yX8_pass wsX8_pass) := goodIn_app (goodIn_of _ (by decide +kernel)) ggX8_readStall_X8_pass
set_option maxRecDepth 20000 in
theorem ggX8_readStall_X3_standing : GoodIn wsX8_readStall wsX3_standing := goodIn_r _ [40, 41, 42, 43, 97, 98, 99, 100, 101, 102, 103, 104, 105, 106, 107, 108, 109, 110, 111, 112, 113, 114, 115, 116, 117, 118, 119, 120, 121, 122, 123, 124, 125, 126, 127, 128, 129, 130, 131, 132, 133, 134, 135, 136, 137] (by decide +kernel) (by decide +kernel)
set_option maxRecDepth 20000 in
theorem gX8_readStall_X3_standing : GoodIn wsX8_readStall (wsV RX8 73 RX3 yX3_standing wsX3_standing) := goodIn_app (goodIn_of _ (by decide +kernel)) ggX8_readStall_X3_standing
set_option maxRecDepth 20000 in
theorem ggX8_readStall_X6_ofKind : GoodIn wsX8_readStall wsX6_ofKind := goodIn_r _ [47, 48, 49, 50, 51, 52, 53, 54, 55, 56, 57, 58, 59, 60, 61, 62, 63, 64, 65, 66, 67, 46, 68, 69, 70, 71, 72, 73, 74, 75, 76, 77, 78, 79, 80, 81, 82, 83, 84, 110, 111, 112, 113, 114, 115, 116, 103, 104, 105, 106, 107, 108, 109, 117, 118, 119, 120, 121, 122, 123, 131, 132, 133, 134, 135, 136, 137, 124, 125, 126, 127, 128, 129, 130] (by decide +kernel) (by decide +kernel)
set_option maxRecDepth 20000 in
theorem gX8_readStall_X6_ofKind : GoodIn wsX8_readStall (va_wsS RX8 77 yX6_ofKind wsX6_ofKind) := goodIn_app (goodIn_of _ (by decide +kernel)) ggX8_readStall_X6_ofKind
set_option maxRecDepth 20000 in
theorem ggX8_readStall_X3_addStall : GoodIn wsX8_readStall wsX3_addStall := goodIn_r _ [88, 89, 90, 42, 43, 91, 41, 97, 98, 99, 100, 101, 102, 103, 104, 105, 106, 107, 108, 109, 110, 111, 112, 113, 114, 115, 116, 117, 118, 119, 120, 121, 122, 123, 124, 125, 126, 127, 128, 129, 130, 131, 132, 133, 134, 135, 136, 137] (by decide +kernel) (by decide +kernel)
set_option maxRecDepth 20000 in
theorem gX8_readStall_X3_addStall : GoodIn wsX8_readStall (wsV RX8 83 RX3 yX3_addStall wsX3_addStall) := goodIn_app (goodIn_of _ (by decide +kernel)) ggX8_readStall_X3_addStall
theorem dX8_readStall_0 : decode cX8_readStall 0 = .ok (.aload_n 0, 1) := by decide +kernel
theorem dX8_readStall_1 : decode cX8_readStall 1 = .ok (.invokevirtual 32, 3) := by decide +kernel
theorem dX8_readStall_4 : decode cX8_readStall 4 = .ok (.invokestatic 65, 3) := by decide +kernel
theorem dX8_readStall_7 : decode cX8_readStall 7 = .ok (.istore_n 2, 1) := by decide +kernel
theorem dX8_readStall_8 : decode cX8_readStall 8 = .ok (.iload_n 2, 1) := by decide +kernel
theorem dX8_readStall_9 : decode cX8_readStall 9 = .ok (.ldc 69, 2) := by decide +kernel
theorem dX8_readStall_11 : decode cX8_readStall 11 = .ok (.if_icmp .ne 15, 3) := by decide +kernel
theorem dX8_readStall_14 : decode cX8_readStall 14 = .ok (.aload_n 0, 1) := by decide +kernel
theorem dX8_readStall_15 : decode cX8_readStall 15 = .ok (.iconst 1, 1) := by decide +kernel
theorem dX8_readStall_16 : decode cX8_readStall 16 = .ok (.aload_n 0, 1) := by decide +kernel
theorem dX8_readStall_17 : decode cX8_readStall 17 = .ok (.getfield 19, 3) := by decide +kernel
theorem dX8_readStall_20 : decode cX8_readStall 20 = .ok (.invokevirtual 59, 3) := by decide +kernel
theorem dX8_readStall_23 : decode cX8_readStall 23 = .ok (.goto 21, 3) := by decide +kernel
theorem dX8_readStall_26 : decode cX8_readStall 26 = .ok (.aload_n 1, 1) := by decide +kernel
theorem dX8_readStall_27 : decode cX8_readStall 27 = .ok (.getfield 70, 3) := by decide +kernel
theorem dX8_readStall_30 : decode cX8_readStall 30 = .ok (.bipush 6, 2) := by decide +kernel
theorem dX8_readStall_32 : decode cX8_readStall 32 = .ok (.if_icmp .ne 12, 3) := by decide +kernel
theorem dX8_readStall_35 : decode cX8_readStall 35 = .ok (.aload_n 0, 1) := by decide +kernel
theorem dX8_readStall_36 : decode cX8_readStall 36 = .ok (.iconst 3, 1) := by decide +kernel
theorem dX8_readStall_37 : decode cX8_readStall 37 = .ok (.aload_n 0, 1) := by decide +kernel
theorem dX8_readStall_38 : decode cX8_readStall 38 = .ok (.getfield 19, 3) := by decide +kernel
theorem dX8_readStall_41 : decode cX8_readStall 41 = .ok (.invokevirtual 59, 3) := by decide +kernel
theorem dX8_readStall_44 : decode cX8_readStall 44 = .ok (.aload_n 0, 1) := by decide +kernel
theorem dX8_readStall_45 : decode cX8_readStall 45 = .ok (.dup, 1) := by decide +kernel
theorem dX8_readStall_46 : decode cX8_readStall 46 = .ok (.getfield 19, 3) := by decide +kernel
theorem dX8_readStall_49 : decode cX8_readStall 49 = .ok (.iconst 1, 1) := by decide +kernel
theorem dX8_readStall_50 : decode cX8_readStall 50 = .ok (.iadd, 1) := by decide +kernel
theorem dX8_readStall_51 : decode cX8_readStall 51 = .ok (.putfield 19, 3) := by decide +kernel
theorem dX8_readStall_54 : decode cX8_readStall 54 = .ok (.aload_n 0, 1) := by decide +kernel
theorem dX8_readStall_55 : decode cX8_readStall 55 = .ok (.iconst 0, 1) := by decide +kernel
theorem dX8_readStall_56 : decode cX8_readStall 56 = .ok (.aload_n 1, 1) := by decide +kernel
theorem dX8_readStall_57 : decode cX8_readStall 57 = .ok (.getfield 56, 3) := by decide +kernel
theorem dX8_readStall_60 : decode cX8_readStall 60 = .ok (.iconst 1, 1) := by decide +kernel
theorem dX8_readStall_61 : decode cX8_readStall 61 = .ok (.isub, 1) := by decide +kernel
theorem dX8_readStall_62 : decode cX8_readStall 62 = .ok (.invokevirtual 47, 3) := by decide +kernel
theorem dX8_readStall_65 : decode cX8_readStall 65 = .ok (.istore_n 3, 1) := by decide +kernel
theorem dX8_readStall_66 : decode cX8_readStall 66 = .ok (.aload_n 0, 1) := by decide +kernel
theorem dX8_readStall_67 : decode cX8_readStall 67 = .ok (.bipush 44, 2) := by decide +kernel
theorem dX8_readStall_69 : decode cX8_readStall 69 = .ok (.invokevirtual 43, 3) := by decide +kernel
theorem dX8_readStall_72 : decode cX8_readStall 72 = .ok (.aload_n 0, 1) := by decide +kernel
theorem dX8_readStall_73 : decode cX8_readStall 73 = .ok (.getfield 19, 3) := by decide +kernel
