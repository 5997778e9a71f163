theorem dX8_readStall_76 : decode cX8_readStall 76 = .ok (.istore 4, 2) := by decide +kernel
theorem dX8_readStall_78 : decode cX8_readStall 78 = .ok (.aload_n 0, 1) := by decide +kernel
theorem dX8_readStall_79 : decode cX8_readStall 79 = .ok (.iconst 1, 1) := by decide +kernel
theorem dX8_readStall_80 : decode cX8_readStall 80 = .ok (.bipush 8, 2) := by decide +kernel
theorem dX8_readStall_82 : decode cX8_readStall 82 = .ok (.invokevirtual 47, 3) := by decide +kernel
theorem dX8_readStall_85 : decode cX8_readStall 85 = .ok (.istore 5, 2) := by decide +kernel
theorem dX8_readStall_87 : decode cX8_readStall 87 = .ok (.aload_n 1, 1) := by decide +kernel
theorem dX8_readStall_88 : decode cX8_readStall 88 = .ok (.iload_n 3, 1) := by decide +kernel
theorem dX8_readStall_89 : decode cX8_readStall 89 = .ok (.iload 5, 2) := by decide +kernel
theorem dX8_readStall_91 : decode cX8_readStall 91 = .ok (.invokevirtual 73, 3) := by decide +kernel
theorem dX8_readStall_94 : decode cX8_readStall 94 = .ok (.ifnull 10, 3) := by decide +kernel
theorem dX8_readStall_97 : decode cX8_readStall 97 = .ok (.aload_n 0, 1) := by decide +kernel
theorem dX8_readStall_98 : decode cX8_readStall 98 = .ok (.iconst 2, 1) := by decide +kernel
theorem dX8_readStall_99 : decode cX8_readStall 99 = .ok (.iload 4, 2) := by decide +kernel
theorem dX8_readStall_101 : decode cX8_readStall 101 = .ok (.invokevirtual 59, 3) := by decide +kernel
theorem dX8_readStall_104 : decode cX8_readStall 104 = .ok (.aload_n 0, 1) := by decide +kernel
theorem dX8_readStall_105 : decode cX8_readStall 105 = .ok (.bipush 44, 2) := by decide +kernel
theorem dX8_readStall_107 : decode cX8_readStall 107 = .ok (.invokevirtual 43, 3) := by decide +kernel
theorem dX8_readStall_110 : decode cX8_readStall 110 = .ok (.aload_n 0, 1) := by decide +kernel
theorem dX8_readStall_111 : decode cX8_readStall 111 = .ok (.iconst 0, 1) := by decide +kernel
theorem dX8_readStall_112 : decode cX8_readStall 112 = .ok (.bipush 20, 2) := by decide +kernel
theorem dX8_readStall_114 : decode cX8_readStall 114 = .ok (.invokevirtual 47, 3) := by decide +kernel
theorem dX8_readStall_117 : decode cX8_readStall 117 = .ok (.istore 6, 2) := by decide +kernel
theorem dX8_readStall_119 : decode cX8_readStall 119 = .ok (.aload_n 0, 1) := by decide +kernel
theorem dX8_readStall_120 : decode cX8_readStall 120 = .ok (.bipush 59, 2) := by decide +kernel
theorem dX8_readStall_122 : decode cX8_readStall 122 = .ok (.invokevirtual 43, 3) := by decide +kernel
theorem dX8_readStall_125 : decode cX8_readStall 125 = .ok (.aload_n 0, 1) := by decide +kernel
theorem dX8_readStall_126 : decode cX8_readStall 126 = .ok (.getfield 22, 3) := by decide +kernel
theorem dX8_readStall_129 : decode cX8_readStall 129 = .ok (.ifCond .ne 16, 3) := by decide +kernel
theorem dX8_readStall_132 : decode cX8_readStall 132 = .ok (.aload_n 1, 1) := by decide +kernel
theorem dX8_readStall_133 : decode cX8_readStall 133 = .ok (.iload_n 2, 1) := by decide +kernel
theorem dX8_readStall_134 : decode cX8_readStall 134 = .ok (.invokestatic 77, 3) := by decide +kernel
theorem dX8_readStall_137 : decode cX8_readStall 137 = .ok (.iload_n 3, 1) := by decide +kernel
theorem dX8_readStall_138 : decode cX8_readStall 138 = .ok (.iload 5, 2) := by decide +kernel
theorem dX8_readStall_140 : decode cX8_readStall 140 = .ok (.iload 6, 2) := by decide +kernel
theorem dX8_readStall_142 : decode cX8_readStall 142 = .ok (.invokevirtual 83, 3) := by decide +kernel
theorem dX8_readStall_145 : decode cX8_readStall 145 = .ok (.return_, 1) := by decide +kernel
theorem dX8_kindOf_0 : decode cX8_kindOf 0 = .ok (.iload_n 0, 1) := by decide +kernel
theorem dX8_kindOf_1 : decode cX8_kindOf 1 = .ok (.lookupswitch 61 #[(98, 55), (106, 53), (110, 57), (116, 51), (118, 59)], 51) := by decide +kernel
theorem dX8_kindOf_52 : decode cX8_kindOf 52 = .ok (.iconst 1, 1) := by decide +kernel
theorem dX8_kindOf_53 : decode cX8_kindOf 53 = .ok (.ireturn, 1) := by decide +kernel
theorem dX8_kindOf_54 : decode cX8_kindOf 54 = .ok (.iconst 2, 1) := by decide +kernel
theorem dX8_kindOf_55 : decode cX8_kindOf 55 = .ok (.ireturn, 1) := by decide +kernel
theorem dX8_kindOf_56 : decode cX8_kindOf 56 = .ok (.iconst 3, 1) := by decide +kernel
theorem dX8_kindOf_57 : decode cX8_kindOf 57 = .ok (.ireturn, 1) := by decide +kernel
theorem dX8_kindOf_58 : decode cX8_kindOf 58 = .ok (.iconst 4, 1) := by decide +kernel
theorem dX8_kindOf_59 : decode cX8_kindOf 59 = .ok (.ireturn, 1) := by decide +kernel
theorem dX8_kindOf_60 : decode cX8_kindOf 60 = .ok (.iconst 5, 1) := by decide +kernel
theorem dX8_kindOf_61 : decode cX8_kindOf 61 = .ok (.ireturn, 1) := by decide +kernel
theorem dX8_kindOf_62 : decode cX8_kindOf 62 = .ok (.ldc 69, 2) := by decide +kernel
theorem dX8_kindOf_64 : decode cX8_kindOf 64 = .ok (.ireturn, 1) := by decide +kernel
set_option maxRecDepth 20000 in
theorem ggX8_next_X8_byteAt : GoodIn wsX8_next wsX8_byteAt := goodIn_r _ [6, 7, 8, 9, 10, 11, 12, 13, 14] (by decide +kernel) (by decide +kernel)
set_option maxRecDepth 20000 in
theorem gX8_next_X8_byteAt : GoodIn wsX8_next (wsV RX8 87 RX8 yX8_byteAt wsX8_byteAt) := goodIn_app (goodIn_of _ (by decide +kernel)) ggX8_next_X8_byteAt
theorem dX8_next_0 : decode cX8_next 0 = .ok (.aload_n 0, 1) := by decide +kernel
theorem dX8_next_1 : decode cX8_next 1 = .ok (.aload_n 0, 1) := by decide +kernel
theorem dX8_next_2 : decode cX8_next 2 = .ok (.getfield 19, 3) := by decide +kernel
theorem dX8_next_5 : decode cX8_next 5 = .ok (.invokevirtual 87, 3) := by decide +kernel
theorem dX8_next_8 : decode cX8_next 8 = .ok (.ireturn, 1) := by decide +kernel
theorem dX8_byteAt_0 : decode cX8_byteAt 0 = .ok (.iload_n 1, 1) := by decide +kernel
theorem dX8_byteAt_1 : decode cX8_byteAt 1 = .ok (.ifCond .lt 17, 3) := by decide +kernel
theorem dX8_byteAt_4 : decode cX8_byteAt 4 = .ok (.iload_n 1, 1) := by decide +kernel
theorem dX8_byteAt_5 : decode cX8_byteAt 5 = .ok (.aload_n 0, 1) := by decide +kernel
theorem dX8_byteAt_6 : decode cX8_byteAt 6 = .ok (.getfield 15, 3) := by decide +kernel
theorem dX8_byteAt_9 : decode cX8_byteAt 9 = .ok (.if_icmp .ge 9, 3) := by decide +kernel
theorem dX8_byteAt_12 : decode cX8_byteAt 12 = .ok (.iload_n 1, 1) := by decide +kernel
theorem dX8_byteAt_13 : decode cX8_byteAt 13 = .ok (.bipush 100, 2) := by decide +kernel
theorem dX8_byteAt_15 : decode cX8_byteAt 15 = .ok (.if_icmp .lt 8, 3) := by decide +kernel
theorem dX8_byteAt_18 : decode cX8_byteAt 18 = .ok (.ldc 69, 2) := by decide +kernel
theorem dX8_byteAt_20 : decode cX8_byteAt 20 = .ok (.goto 9, 3) := by decide +kernel
theorem dX8_byteAt_23 : decode cX8_byteAt 23 = .ok (.aload_n 0, 1) := by decide +kernel
theorem dX8_byteAt_24 : decode cX8_byteAt 24 = .ok (.getfield 9, 3) := by decide +kernel
theorem dX8_byteAt_27 : decode cX8_byteAt 27 = .ok (.iload_n 1, 1) := by decide +kernel
theorem dX8_byteAt_28 : decode cX8_byteAt 28 = .ok (.iaload, 1) := by decide +kernel
theorem dX8_byteAt_29 : decode cX8_byteAt 29 = .ok (.ireturn, 1) := by decide +kernel
theorem dX8_tellFault_0 : decode cX8_tellFault 0 = .ok (.aload_n 0, 1) := by decide +kernel
theorem dX8_tellFault_1 : decode cX8_tellFault 1 = .ok (.getfield 22, 3) := by decide +kernel
theorem dX8_tellFault_4 : decode cX8_tellFault 4 = .ok (.ifCond .ne 13, 3) := by decide +kernel
theorem dX8_tellFault_7 : decode cX8_tellFault 7 = .ok (.aload_n 0, 1) := by decide +kernel
theorem dX8_tellFault_8 : decode cX8_tellFault 8 = .ok (.iload_n 1, 1) := by decide +kernel
theorem dX8_tellFault_9 : decode cX8_tellFault 9 = .ok (.putfield 22, 3) := by decide +kernel
theorem dX8_tellFault_12 : decode cX8_tellFault 12 = .ok (.aload_n 0, 1) := by decide +kernel
theorem dX8_tellFault_13 : decode cX8_tellFault 13 = .ok (.iload_n 2, 1) := by decide +kernel
theorem dX8_tellFault_14 : decode cX8_tellFault 14 = .ok (.putfield 25, 3) := by decide +kernel
theorem dX8_tellFault_17 : decode cX8_tellFault 17 = .ok (.return_, 1) := by decide +kernel
set_option maxRecDepth 20000 in
theorem ggX8_pass_X8_next : GoodIn wsX8_pass wsX8_next := goodIn_r _ [7, 2, 8, 9, 10, 6, 11, 12, 13, 14, 20, 21, 22, 23, 24] (by decide +kernel) (by decide +kernel)
set_option maxRecDepth 20000 in
theorem gX8_pass_X8_next : GoodIn wsX8_pass (wsV RX8 32 RX8 yX8_next wsX8_next) := goodIn_app (goodIn_of _ (by decide +kernel)) ggX8_pass_X8_next
set_option maxRecDepth 20000 in
theorem ggX8_pass_X8_tellFault : GoodIn wsX8_pass wsX8_tellFault := goodIn_r _ [18, 1, 19, 20, 21, 22, 23, 24] (by decide +kernel) (by decide +kernel)
set_option maxRecDepth 20000 in
theorem gX8_pass_X8_tellFault : GoodIn wsX8_pass (wsV RX8 59 RX8 yX8_tellFault wsX8_tellFault) := goodIn_app (goodIn_of _ (by decide +kernel)) ggX8_pass_X8_tellFault
theorem dX8_pass_0 : decode cX8_pass 0 = .ok (.aload_n 0, 1) := by decide +kernel
theorem dX8_pass_1 : decode cX8_pass 1 = .ok (.getfield 22, 3) := by decide +kernel
theorem dX8_pass_4 : decode cX8_pass 4 = .ok (.ifCond .ne 24, 3) := by decide +kernel
theorem dX8_pass_7 : decode cX8_pass 7 = .ok (.aload_n 0, 1) := by decide +kernel
theorem dX8_pass_8 : decode cX8_pass 8 = .ok (.invokevirtual 32, 3) := by decide +kernel
theorem dX8_pass_11 : decode cX8_pass 11 = .ok (.iload_n 1, 1) := by decide +kernel
theorem dX8_pass_12 : decode cX8_pass 12 = .ok (.if_icmp .ne 16, 3) := by decide +kernel
theorem dX8_pass_15 : decode cX8_pass 15 = .ok (.aload_n 0, 1) := by decide +kernel
theorem dX8_pass_16 : decode cX8_pass 16 = .ok (.dup, 1) := by decide +kernel
theorem dX8_pass_17 : decode cX8_pass 17 = .ok (.getfield 19, 3) := by decide +kernel
theorem dX8_pass_20 : decode cX8_pass 20 = .ok (.iconst 1, 1) := by decide +kernel
theorem dX8_pass_21 : decode cX8_pass 21 = .ok (.iadd, 1) := by decide +kernel
theorem dX8_pass_22 : decode cX8_pass 22 = .ok (.putfield 19, 3) := by decide +kernel
theorem dX8_pass_25 : decode cX8_pass 25 = .ok (.goto 12, 3) := by decide +kernel
theorem dX8_pass_28 : decode cX8_pass 28 = .ok (.aload_n 0, 1) := by decide +kernel
theorem dX8_pass_29 : decode cX8_pass 29 = .ok (.iconst 1, 1) := by decide +kernel
theorem dX8_pass_30 : decode cX8_pass 30 = .ok (.aload_n 0, 1) := by decide +kernel
theorem dX8_pass_31 : decode cX8_pass 31 = .ok (.getfield 19, 3) := by decide +kernel
theorem dX8_pass_34 : decode cX8_pass 34 = .ok (.invokevirtual 59, 3) := by decide +kernel
theorem dX8_pass_37 : decode cX8_pass 37 = .ok (.return_, 1) := by decide +kernel
set_option maxRecDepth 20000 in
theorem ggX8_number_X8_byteAt : GoodIn wsX8_number wsX8_byteAt := goodIn_r _ [8, 9, 3, 10, 19, 20, 21, 22, 23] (by decide +kernel) (by decide +kernel)
set_option maxRecDepth 20000 in
theorem gX8_number_X8_byteAt : GoodIn wsX8_number (wsV RX8 87 RX8 yX8_byteAt wsX8_byteAt) := goodIn_app (goodIn_of _ (by decide +kernel)) ggX8_number_X8_byteAt
set_option maxRecDepth 20000 in
theorem ggX8_number_X8_isFigure : GoodIn wsX8_number wsX8_isFigure := goodIn_r _ [13] (by decide +kernel) (by decide +kernel)
set_option maxRecDepth 20000 in
theorem gX8_number_X8_isFigure : GoodIn wsX8_number (va_wsS RX8 90 yX8_isFigure wsX8_isFigure) := goodIn_app (goodIn_of _ (by decide +kernel)) ggX8_number_X8_isFigure
set_option maxRecDepth 20000 in
theorem ggX8_number_X8_tellFault : GoodIn wsX8_number wsX8_tellFault := goodIn_r _ [17, 2, 18, 19, 20, 21, 22, 23] (by decide +kernel) (by decide +kernel)
set_option maxRecDepth 20000 in
theorem gX8_number_X8_tellFault : GoodIn wsX8_number (wsV RX8 59 RX8 yX8_tellFault wsX8_tellFault) := goodIn_app (goodIn_of _ (by decide +kernel)) ggX8_number_X8_tellFault
theorem dX8_number_0 : decode cX8_number 0 = .ok (.aload_n 0, 1) := by decide +kernel
theorem dX8_number_1 : decode cX8_number 1 = .ok (.getfield 19, 3) := by decide +kernel
theorem dX8_number_4 : decode cX8_number 4 = .ok (.istore_n 3, 1) := by decide +kernel
theorem dX8_number_5 : decode cX8_number 5 = .ok (.iconst 0, 1) := by decide +kernel
theorem dX8_number_6 : decode cX8_number 6 = .ok (.istore 4, 2) := by decide +kernel
theorem dX8_number_8 : decode cX8_number 8 = .ok (.iconst 0, 1) := by decide +kernel
theorem dX8_number_9 : decode cX8_number 9 = .ok (.istore 5, 2) := by decide +kernel
theorem dX8_number_11 : decode cX8_number 11 = .ok (.iload 5, 2) := by decide +kernel
theorem dX8_number_13 : decode cX8_number 13 = .ok (.iconst 2, 1) := by decide +kernel
theorem dX8_number_14 : decode cX8_number 14 = .ok (.if_icmp .gt 42, 3) := by decide +kernel
theorem dX8_number_17 : decode cX8_number 17 = .ok (.aload_n 0, 1) := by decide +kernel
theorem dX8_number_18 : decode cX8_number 18 = .ok (.iload_n 3, 1) := by decide +kernel
theorem dX8_number_19 : decode cX8_number 19 = .ok (.iload 5, 2) := by decide +kernel
theorem dX8_number_21 : decode cX8_number 21 = .ok (.iadd, 1) := by decide +kernel
theorem dX8_number_22 : decode cX8_number 22 = .ok (.invokevirtual 87, 3) := by decide +kernel
theorem dX8_number_25 : decode cX8_number 25 = .ok (.invokestatic 90, 3) := by decide +kernel
theorem dX8_number_28 : decode cX8_number 28 = .ok (.ifCond .eq 28, 3) := by decide +kernel
theorem dX8_number_31 : decode cX8_number 31 = .ok (.bipush 10, 2) := by decide +kernel
theorem dX8_number_33 : decode cX8_number 33 = .ok (.iload 4, 2) := by decide +kernel
theorem dX8_number_35 : decode cX8_number 35 = .ok (.imul, 1) := by decide +kernel
theorem dX8_number_36 : decode cX8_number 36 = .ok (.aload_n 0, 1) := by decide +kernel
theorem dX8_number_37 : decode cX8_number 37 = .ok (.iload_n 3, 1) := by decide +kernel
theorem dX8_number_38 : decode cX8_number 38 = .ok (.iload 5, 2) := by decide +kernel
theorem dX8_number_40 : decode cX8_number 40 = .ok (.iadd, 1) := by decide +kernel
theorem dX8_number_41 : decode cX8_number 41 = .ok (.invokevirtual 87, 3) := by decide +kernel
theorem dX8_number_44 : decode cX8_number 44 = .ok (.iadd, 1) := by decide +kernel
theorem dX8_number_45 : decode cX8_number 45 = .ok (.bipush 48, 2) := by decide +kernel
theorem dX8_number_47 : decode cX8_number 47 = .ok (.isub, 1) := by decide +kernel
theorem dX8_number_48 : decode cX8_number 48 = .ok (.istore 4, 2) := by decide +kernel
theorem dX8_number_50 : decode cX8_number 50 = .ok (.iinc 5 1, 3) := by decide +kernel
theorem dX8_number_53 : decode cX8_number 53 = .ok (.goto (-42), 3) := by decide +kernel
theorem dX8_number_56 : decode cX8_number 56 = .ok (.iload 5, 2) := by decide +kernel
theorem dX8_number_58 : decode cX8_number 58 = .ok (.iconst 1, 1) := by decide +kernel
theorem dX8_number_59 : decode cX8_number 59 = .ok (.if_icmp .lt 9, 3) := by decide +kernel
theorem dX8_number_62 : decode cX8_number 62 = .ok (.iload 5, 2) := by decide +kernel
theorem dX8_number_64 : decode cX8_number 64 = .ok (.iconst 2, 1) := by decide +kernel
theorem dX8_number_65 : decode cX8_number 65 = .ok (.if_icmp .le 12, 3) := by decide +kernel
theorem dX8_number_68 : decode cX8_number 68 = .ok (.aload_n 0, 1) := by decide +kernel
theorem dX8_number_69 : decode cX8_number 69 = .ok (.iconst 1, 1) := by decide +kernel
theorem dX8_number_70 : decode cX8_number 70 = .ok (.iload_n 3, 1) := by decide +kernel
theorem dX8_number_71 : decode cX8_number 71 = .ok (.invokevirtual 59, 3) := by decide +kernel
theorem dX8_number_74 : decode cX8_number 74 = .ok (.goto 21, 3) := by decide +kernel
theorem dX8_number_77 : decode cX8_number 77 = .ok (.iload 4, 2) := by decide +kernel
theorem dX8_number_79 : decode cX8_number 79 = .ok (.iload_n 1, 1) := by decide +kernel
theorem dX8_number_80 : decode cX8_number 80 = .ok (.if_icmp .lt 9, 3) := by decide +kernel
theorem dX8_number_83 : decode cX8_number 83 = .ok (.iload 4, 2) := by decide +kernel
theorem dX8_number_85 : decode cX8_number 85 = .ok (.iload_n 2, 1) := by decide +kernel
theorem dX8_number_86 : decode cX8_number 86 = .ok (.if_icmp .le 9, 3) := by decide +kernel
theorem dX8_number_89 : decode cX8_number 89 = .ok (.aload_n 0, 1) := by decide +kernel
theorem dX8_number_90 : decode cX8_number 90 = .ok (.iconst 2, 1) := by decide +kernel
theorem dX8_number_91 : decode cX8_number 91 = .ok (.iload_n 3, 1) := by decide +kernel
theorem dX8_number_92 : decode cX8_number 92 = .ok (.invokevirtual 59, 3) := by decide +kernel
theorem dX8_number_95 : decode cX8_number 95 = .ok (.aload_n 0, 1) := by decide +kernel
theorem dX8_number_96 : decode cX8_number 96 = .ok (.getfield 22, 3) := by decide +kernel
theorem dX8_number_99 : decode cX8_number 99 = .ok (.ifCond .eq 6, 3) := by decide +kernel
theorem dX8_number_102 : decode cX8_number 102 = .ok (.ldc 69, 2) := by decide +kernel
theorem dX8_number_104 : decode cX8_number 104 = .ok (.ireturn, 1) := by decide +kernel
theorem dX8_number_105 : decode cX8_number 105 = .ok (.aload_n 0, 1) := by decide +kernel
theorem dX8_number_106 : decode cX8_number 106 = .ok (.iload_n 3, 1) := by decide +kernel
theorem dX8_number_107 : decode cX8_number 107 = .ok (.iload 5, 2) := by decide +kernel
theorem dX8_number_109 : decode cX8_number 109 = .ok (.iadd, 1) := by decide +kernel
theorem dX8_number_110 : decode cX8_number 110 = .ok (.putfield 19, 3) := by decide +kernel
theorem dX8_number_113 : decode cX8_number 113 = .ok (.iload 4, 2) := by decide +kernel
theorem dX8_number_115 : decode cX8_number 115 = .ok (.ireturn, 1) := by decide +kernel
theorem dX8_isFigure_0 : decode cX8_isFigure 0 = .ok (.iload_n 0, 1) := by decide +kernel
theorem dX8_isFigure_1 : decode cX8_isFigure 1 = .ok (.bipush 48, 2) := by decide +kernel
theorem dX8_isFigure_3 : decode cX8_isFigure 3 = .ok (.if_icmp .lt 13, 3) := by decide +kernel
theorem dX8_isFigure_6 : decode cX8_isFigure 6 = .ok (.iload_n 0, 1) := by decide +kernel
theorem dX8_isFigure_7 : decode cX8_isFigure 7 = .ok (.bipush 57, 2) := by decide +kernel
theorem dX8_isFigure_9 : decode cX8_isFigure 9 = .ok (.if_icmp .gt 7, 3) := by decide +kernel
theorem dX8_isFigure_12 : decode cX8_isFigure 12 = .ok (.iconst 1, 1) := by decide +kernel
theorem dX8_isFigure_13 : decode cX8_isFigure 13 = .ok (.goto 4, 3) := by decide +kernel
theorem dX8_isFigure_16 : decode cX8_isFigure 16 = .ok (.iconst 0, 1) := by decide +kernel
theorem dX8_isFigure_17 : decode cX8_isFigure 17 = .ok (.ireturn, 1) := by decide +kernel
theorem dX9_init_0 : decode cX9_init 0 = .ok (.aload_n 0, 1) := by decide +kernel
theorem dX9_init_1 : decode cX9_init 1 = .ok (.invokespecial 3, 3) := by decide +kernel
theorem dX9_init_4 : decode cX9_init 4 = .ok (.aload_n 0, 1) := by decide +kernel
theorem dX9_init_5 : decode cX9_init 5 = .ok (.bipush 16, 2) := by decide +kernel
theorem dX9_init_7 : decode cX9_init 7 = .ok (.newarray .int, 2) := by decide +kernel
theorem dX9_init_9 : decode cX9_init 9 = .ok (.putfield 9, 3) := by decide +kernel
theorem dX9_init_12 : decode cX9_init 12 = .ok (.aload_n 0, 1) := by decide +kernel
theorem dX9_init_13 : decode cX9_init 13 = .ok (.iconst 0, 1) := by decide +kernel
theorem dX9_init_14 : decode cX9_init 14 = .ok (.putfield 15, 3) := by decide +kernel
theorem dX9_init_17 : decode cX9_init 17 = .ok (.return_, 1) := by decide +kernel
theorem dX9_leave_0 : decode cX9_leave 0 = .ok (.aload_n 0, 1) := by decide +kernel
theorem dX9_leave_1 : decode cX9_leave 1 = .ok (.getfield 15, 3) := by decide +kernel
theorem dX9_leave_4 : decode cX9_leave 4 = .ok (.bipush 16, 2) := by decide +kernel
theorem dX9_leave_6 : decode cX9_leave 6 = .ok (.if_icmp .ge 23, 3) := by decide +kernel
theorem dX9_leave_9 : decode cX9_leave 9 = .ok (.aload_n 0, 1) := by decide +kernel
theorem dX9_leave_10 : decode cX9_leave 10 = .ok (.getfield 9, 3) := by decide +kernel
theorem dX9_leave_13 : decode cX9_leave 13 = .ok (.aload_n 0, 1) := by decide +kernel
theorem dX9_leave_14 : decode cX9_leave 14 = .ok (.getfield 15, 3) := by decide +kernel
theorem dX9_leave_17 : decode cX9_leave 17 = .ok (.iload_n 1, 1) := by decide +kernel
theorem dX9_leave_18 : decode cX9_leave 18 = .ok (.iastore, 1) := by decide +kernel
theorem dX9_leave_19 : decode cX9_leave 19 = .ok (.aload_n 0, 1) := by decide +kernel
theorem dX9_leave_20 : decode cX9_leave 20 = .ok (.dup, 1) := by decide +kernel
theorem dX9_leave_21 : decode cX9_leave 21 = .ok (.getfield 15, 3) := by decide +kernel
theorem dX9_leave_24 : decode cX9_leave 24 = .ok (.iconst 1, 1) := by decide +kernel
theorem dX9_leave_25 : decode cX9_leave 25 = .ok (.iadd, 1) := by decide +kernel
theorem dX9_leave_26 : decode cX9_leave 26 = .ok (.putfield 15, 3) := by decide +kernel
theorem dX9_leave_29 : decode cX9_leave 29 = .ok (.return_, 1) := by decide +kernel
set_option maxRecDepth 20000 in
theorem ggX10_init_X4_init : GoodIn wsX10_init wsX4_init := goodIn_r _ [3, 4, 5, 6, 7, 8, 9, 10, 11, 12, 13, 14, 15, 16, 17, 18, 19, 20, 21, 22, 23, 24, 25, 26, 27, 28, 29, 30, 31, 32, 33, 34, 35, 36, 37, 38, 39, 40, 41, 42, 43, 44, 45, 46, 47, 48, 49, 50, 51] (by decide +kernel) (by decide +kernel)
set_option maxRecDepth 20000 in
theorem gX10_init_X4_init_n3 : GoodIn wsX10_init (wsX4_init) := ggX10_init_X4_init
theorem dX10_init_0 : decode cX10_init 0 = .ok (.aload_n 0, 1) := by decide +kernel
theorem dX10_init_1 : decode cX10_init 1 = .ok (.invokespecial 3, 3) := by decide +kernel
theorem dX10_init_4 : decode cX10_init 4 = .ok (.return_, 1) := by decide +kernel
theorem dX10_kindTold_0 : decode cX10_kindTold 0 = .ok (.iconst 5, 1) := by decide +kernel
theorem dX10_kindTold_1 : decode cX10_kindTold 1 = .ok (.ireturn, 1) := by decide +kernel
theorem dX10_wares_0 : decode cX10_wares 0 = .ok (.aload_n 0, 1) := by decide +kernel
theorem dX10_wares_1 : decode cX10_wares 1 = .ok (.getfield 9, 3) := by decide +kernel
theorem dX10_wares_4 : decode cX10_wares 4 = .ok (.ineg, 1) := by decide +kernel
theorem dX10_wares_5 : decode cX10_wares 5 = .ok (.ireturn, 1) := by decide +kernel
set_option maxRecDepth 20000 in
theorem ggX10_size_X9_leave : GoodIn wsX10_size wsX9_leave := goodIn_r _ [5, 6, 7, 23, 24] (by decide +kernel) (by decide +kernel)
set_option maxRecDepth 20000 in
theorem gX10_size_X9_leave : GoodIn wsX10_size (wsV RX10 15 RX9 yX9_leave wsX9_leave) := goodIn_app (goodIn_of _ (by decide +kernel)) ggX10_size_X9_leave
set_option maxRecDepth 20000 in
theorem ggX10_size_X4_size : GoodIn wsX10_size wsX4_size := goodIn_r _ [13, 14, 2, 3, 4, 5, 6, 7, 15, 16, 17, 18, 19, 20, 21, 22, 23, 24, 25, 26, 27, 28, 29, 30, 31, 32, 33, 34, 35, 36, 37, 38, 39, 40, 41, 42, 43, 44, 45, 46, 47, 48, 49, 50, 51, 52, 53, 54, 55, 56, 57, 58, 59] (by decide +kernel) (by decide +kernel)
set_option maxRecDepth 20000 in
theorem gX10_size_X4_size_s21 : GoodIn wsX10_size (va_wsSU RX10 21 yX4_size wsX4_size) := goodIn_app (goodIn_of _ (by decide +kernel)) ggX10_size_X4_size
theorem dX10_size_0 : decode cX10_size 0 = .ok (.aload_n 1, 1) := by decide +kernel
theorem dX10_size_1 : decode cX10_size 1 = .ok (.bipush 14, 2) := by decide +kernel
theorem dX10_size_3 : decode cX10_size 3 = .ok (.invokevirtual 15, 3) := by decide +kernel
theorem dX10_size_6 : decode cX10_size 6 = .ok (.iconst 2, 1) := by decide +kernel
theorem dX10_size_7 : decode cX10_size 7 = .ok (.aload_n 0, 1) := by decide +kernel
theorem dX10_size_8 : decode cX10_size 8 = .ok (.aload_n 1, 1) := by decide +kernel
theorem dX10_size_9 : decode cX10_size 9 = .ok (.invokespecial 21, 3) := by decide +kernel
theorem dX10_size_12 : decode cX10_size 12 = .ok (.imul, 1) := by decide +kernel
theorem dX10_size_13 : decode cX10_size 13 = .ok (.ireturn, 1) := by decide +kernel
set_option maxRecDepth 20000 in
theorem ggX11_init_X8_init : GoodIn wsX11_init wsX8_init := goodIn_r _ [30, 31, 2, 3, 16, 32, 33, 34, 35, 36, 71, 72, 73, 74, 75] (by decide +kernel) (by decide +kernel)
set_option maxRecDepth 20000 in
theorem gX11_init_X8_init_n17 : GoodIn wsX11_init (wsX8_init) := ggX11_init_X8_init
set_option maxRecDepth 20000 in
theorem ggX11_init_X9_init : GoodIn wsX11_init wsX9_init := goodIn_r _ [38, 39, 2, 3, 16, 40, 41, 76, 77] (by decide +kernel) (by decide +kernel)
set_option maxRecDepth 20000 in
theorem gX11_init_X9_init_n24 : GoodIn wsX11_init (wsX9_init) := ggX11_init_X9_init
set_option maxRecDepth 20000 in
theorem ggX11_init_X3_init : GoodIn wsX11_init wsX3_init := goodIn_r _ [44, 45, 2, 3, 46, 47, 16, 48, 49, 50, 51, 52, 78, 79, 80, 81, 82, 83] (by decide +kernel) (by decide +kernel)
set_option maxRecDepth 20000 in
theorem gX11_init_X3_init : GoodIn wsX11_init (wsX3_init) := ggX11_init_X3_init
set_option maxRecDepth 20000 in
theorem ggX11_init_X5_init : GoodIn wsX11_init wsX5_init := goodIn_r _ [54, 55, 2, 3, 56, 57, 16, 58, 84, 85, 86] (by decide +kernel) (by decide +kernel)
set_option maxRecDepth 20000 in
theorem gX11_init_X5_init_n65 : GoodIn wsX11_init (wsX5_init) := ggX11_init_X5_init
theorem dX11_init_0 : decode cX11_init 0 = .ok (.aload_n 0, 1) := by decide +kernel
theorem dX11_init_1 : decode cX11_init 1 = .ok (.invokespecial 1, 3) := by decide +kernel
theorem dX11_init_4 : decode cX11_init 4 = .ok (.aload_n 0, 1) := by decide +kernel
theorem dX11_init_5 : decode cX11_init 5 = .ok (.bipush 8, 2) := by decide +kernel
theorem dX11_init_7 : decode cX11_init 7 = .ok (.anewarray 9, 3) := by decide +kernel
theorem dX11_init_10 : decode cX11_init 10 = .ok (.putfield 11, 3) := by decide +kernel
theorem dX11_init_13 : decode cX11_init 13 = .ok (.aload_n 0, 1) := by decide +kernel
theorem dX11_init_14 : decode cX11_init 14 = .ok (.new 15, 3) := by decide +kernel
theorem dX11_init_17 : decode cX11_init 17 = .ok (.dup, 1) := by decide +kernel
theorem dX11_init_18 : decode cX11_init 18 = .ok (.invokespecial 17, 3) := by decide +kernel
theorem dX11_init_21 : decode cX11_init 21 = .ok (.putfield 18, 3) := by decide +kernel
theorem dX11_init_24 : decode cX11_init 24 = .ok (.aload_n 0, 1) := by decide +kernel
theorem dX11_init_25 : decode cX11_init 25 = .ok (.new 22, 3) := by decide +kernel
theorem dX11_init_28 : decode cX11_init 28 = .ok (.dup, 1) := by decide +kernel
theorem dX11_init_29 : decode cX11_init 29 = .ok (.invokespecial 24, 3) := by decide +kernel
theorem dX11_init_32 : decode cX11_init 32 = .ok (.putfield 25, 3) := by decide +kernel
theorem dX11_init_35 : decode cX11_init 35 = .ok (.aload_n 0, 1) := by decide +kernel
theorem dX11_init_36 : decode cX11_init 36 = .ok (.iconst 2, 1) := by decide +kernel
theorem dX11_init_37 : decode cX11_init 37 = .ok (.anewarray 29, 3) := by decide +kernel
theorem dX11_init_40 : decode cX11_init 40 = .ok (.putfield 31, 3) := by decide +kernel
theorem dX11_init_43 : decode cX11_init 43 = .ok (.aload_n 0, 1) := by decide +kernel
theorem dX11_init_44 : decode cX11_init 44 = .ok (.bipush 64, 2) := by decide +kernel
theorem dX11_init_46 : decode cX11_init 46 = .ok (.newarray .int, 2) := by decide +kernel
theorem dX11_init_48 : decode cX11_init 48 = .ok (.putfield 35, 3) := by decide +kernel
theorem dX11_init_51 : decode cX11_init 51 = .ok (.aload_n 0, 1) := by decide +kernel
theorem dX11_init_52 : decode cX11_init 52 = .ok (.bipush 24, 2) := by decide +kernel
theorem dX11_init_54 : decode cX11_init 54 = .ok (.newarray .int, 2) := by decide +kernel
theorem dX11_init_56 : decode cX11_init 56 = .ok (.putfield 39, 3) := by decide +kernel
theorem dX11_init_59 : decode cX11_init 59 = .ok (.aload_n 0, 1) := by decide +kernel
theorem dX11_init_60 : decode cX11_init 60 = .ok (.bipush 24, 2) := by decide +kernel
theorem dX11_init_62 : decode cX11_init 62 = .ok (.newarray .int, 2) := by decide +kernel
theorem dX11_init_64 : decode cX11_init 64 = .ok (.putfield 42, 3) := by decide +kernel
theorem dX11_init_67 : decode cX11_init 67 = .ok (.aload_n 0, 1) := by decide +kernel
theorem dX11_init_68 : decode cX11_init 68 = .ok (.bipush 24, 2) := by decide +kernel
theorem dX11_init_70 : decode cX11_init 70 = .ok (.newarray .int, 2) := by decide +kernel
theorem dX11_init_72 : decode cX11_init 72 = .ok (.putfield 45, 3) := by decide +kernel
theorem dX11_init_75 : decode cX11_init 75 = .ok (.aload_n 0, 1) := by decide +kernel
theorem dX11_init_76 : decode cX11_init 76 = .ok (.iconst 0, 1) := by decide +kernel
theorem dX11_init_77 : decode cX11_init 77 = .ok (.putfield 48, 3) := by decide +kernel
theorem dX11_init_80 : decode cX11_init 80 = .ok (.aload_n 0, 1) := by decide +kernel
theorem dX11_init_81 : decode cX11_init 81 = .ok (.new 29, 3) := by decide +kernel
theorem dX11_init_84 : decode cX11_init 84 = .ok (.dup, 1) := by decide +kernel
theorem dX11_init_85 : decode cX11_init 85 = .ok (.iconst 0, 1) := by decide +kernel
theorem dX11_init_86 : decode cX11_init 86 = .ok (.iconst 0, 1) := by decide +kernel
theorem dX11_init_87 : decode cX11_init 87 = .ok (.invokespecial 52, 3) := by decide +kernel
theorem dX11_init_90 : decode cX11_init 90 = .ok (.putfield 55, 3) := by decide +kernel
theorem dX11_init_93 : decode cX11_init 93 = .ok (.aload_n 0, 1) := by decide +kernel
theorem dX11_init_94 : decode cX11_init 94 = .ok (.iconst 0, 1) := by decide +kernel
theorem dX11_init_95 : decode cX11_init 95 = .ok (.putfield 59, 3) := by decide +kernel
theorem dX11_init_98 : decode cX11_init 98 = .ok (.aload_n 0, 1) := by decide +kernel
theorem dX11_init_99 : decode cX11_init 99 = .ok (.iconst 0, 1) := by decide +kernel
theorem dX11_init_100 : decode cX11_init 100 = .ok (.putfield 62, 3) := by decide +kernel
theorem dX11_init_103 : decode cX11_init 103 = .ok (.iconst 0, 1) := by decide +kernel
theorem dX11_init_104 : decode cX11_init 104 = .ok (.istore_n 1, 1) := by decide +kernel
theorem dX11_init_105 : decode cX11_init 105 = .ok (.iload_n 1, 1) := by decide +kernel
theorem dX11_init_106 : decode cX11_init 106 = .ok (.aload_n 0, 1) := by decide +kernel
theorem dX11_init_107 : decode cX11_init 107 = .ok (.getfield 11, 3) := by decide +kernel
theorem dX11_init_110 : decode cX11_init 110 = .ok (.arraylength, 1) := by decide +kernel
theorem dX11_init_111 : decode cX11_init 111 = .ok (.if_icmp .ge 22, 3) := by decide +kernel
theorem dX11_init_114 : decode cX11_init 114 = .ok (.aload_n 0, 1) := by decide +kernel
theorem dX11_init_115 : decode cX11_init 115 = .ok (.getfield 11, 3) := by decide +kernel
theorem dX11_init_118 : decode cX11_init 118 = .ok (.iload_n 1, 1) := by decide +kernel
theorem dX11_init_119 : decode cX11_init 119 = .ok (.new 9, 3) := by decide +kernel
theorem dX11_init_122 : decode cX11_init 122 = .ok (.dup, 1) := by decide +kernel
theorem dX11_init_123 : decode cX11_init 123 = .ok (.invokespecial 65, 3) := by decide +kernel
theorem dX11_init_126 : decode cX11_init 126 = .ok (.aastore, 1) := by decide +kernel
theorem dX11_init_127 : decode cX11_init 127 = .ok (.iinc 1 1, 3) := by decide +kernel
theorem dX11_init_130 : decode cX11_init 130 = .ok (.goto (-25), 3) := by decide +kernel
theorem dX11_init_133 : decode cX11_init 133 = .ok (.return_, 1) := by decide +kernel
set_option maxRecDepth 20000 in
theorem ggX11_row_X11_rowAt : GoodIn wsX11_row wsX11_rowAt := goodIn_r _ [6, 7, 30, 31, 32, 33, 34, 35, 36, 37, 38, 39, 40, 41] (by decide +kernel) (by decide +kernel)
set_option maxRecDepth 20000 in
theorem gX11_row_X11_rowAt : GoodIn wsX11_row (wsV RX11 66 RX11 yX11_rowAt wsX11_rowAt) := goodIn_app (goodIn_of _ (by decide +kernel)) ggX11_row_X11_rowAt
set_option maxRecDepth 20000 in
theorem ggX11_row_X11_found : GoodIn wsX11_row wsX11_found := goodIn_r _ [11, 12, 13, 30, 31, 32, 33, 34, 35, 36, 37, 38, 39, 40, 41] (by decide +kernel) (by decide +kernel)
set_option maxRecDepth 20000 in
theorem gX11_row_X11_found : GoodIn wsX11_row (wsV RX11 71 RX11 yX11_found wsX11_found) := goodIn_app (goodIn_of _ (by decide +kernel)) ggX11_row_X11_found
set_option maxRecDepth 20000 in
theorem ggX11_row_X5_begin : GoodIn wsX11_row wsX5_begin := goodIn_r _ [18, 19, 20, 21, 22, 23, 24, 25, 42, 43, 44] (by decide +kernel) (by decide +kernel)
set_option maxRecDepth 20000 in
theorem gX11_row_X5_begin : GoodIn wsX11_row (wsV RX11 75 RX5 yX5_begin wsX5_begin) := goodIn_app (goodIn_of _ (by decide +kernel)) ggX11_row_X5_begin
set_option maxRecDepth 20000 in
theorem ggX11_row_X11_unfound : GoodIn wsX11_row wsX11_unfound := goodIn_r _ [29, 12, 30, 31, 32, 33, 34, 35, 36, 37, 38, 39, 40, 41] (by decide +kernel) (by decide +kernel)
set_option maxRecDepth 20000 in
theorem gX11_row_X11_unfound : GoodIn wsX11_row (wsV RX11 78 RX11 yX11_unfound wsX11_unfound) := goodIn_app (goodIn_of _ (by decide +kernel)) ggX11_row_X11_unfound
theorem dX11_row_0 : decode cX11_row 0 = .ok (.aload_n 0, 1) := by decide +kernel
theorem dX11_row_1 : decode cX11_row 1 = .ok (.iload_n 1, 1) := by decide +kernel
theorem dX11_row_2 : decode cX11_row 2 = .ok (.invokevirtual 66, 3) := by decide +kernel
theorem dX11_row_5 : decode cX11_row 5 = .ok (.astore 4, 2) := by decide +kernel
theorem dX11_row_7 : decode cX11_row 7 = .ok (.aload 4, 2) := by decide +kernel
theorem dX11_row_9 : decode cX11_row 9 = .ok (.ifnull 18, 3) := by decide +kernel
theorem dX11_row_12 : decode cX11_row 12 = .ok (.iload_n 2, 1) := by decide +kernel
theorem dX11_row_13 : decode cX11_row 13 = .ok (.ifCond .lt 14, 3) := by decide +kernel
theorem dX11_row_16 : decode cX11_row 16 = .ok (.iload_n 2, 1) := by decide +kernel
theorem dX11_row_17 : decode cX11_row 17 = .ok (.iconst 2, 1) := by decide +kernel
theorem dX11_row_18 : decode cX11_row 18 = .ok (.if_icmp .gt 9, 3) := by decide +kernel
theorem dX11_row_21 : decode cX11_row 21 = .ok (.iload_n 3, 1) := by decide +kernel
theorem dX11_row_22 : decode cX11_row 22 = .ok (.bipush 40, 2) := by decide +kernel
theorem dX11_row_24 : decode cX11_row 24 = .ok (.if_icmp .le 6, 3) := by decide +kernel
theorem dX11_row_27 : decode cX11_row 27 = .ok (.ldc 70, 2) := by decide +kernel
theorem dX11_row_29 : decode cX11_row 29 = .ok (.ireturn, 1) := by decide +kernel
theorem dX11_row_30 : decode cX11_row 30 = .ok (.iload_n 3, 1) := by decide +kernel
theorem dX11_row_31 : decode cX11_row 31 = .ok (.ifCond .ge 9, 3) := by decide +kernel
theorem dX11_row_34 : decode cX11_row 34 = .ok (.aload_n 0, 1) := by decide +kernel
theorem dX11_row_35 : decode cX11_row 35 = .ok (.iconst 4, 1) := by decide +kernel
theorem dX11_row_36 : decode cX11_row 36 = .ok (.invokevirtual 71, 3) := by decide +kernel
theorem dX11_row_39 : decode cX11_row 39 = .ok (.ireturn, 1) := by decide +kernel
theorem dX11_row_40 : decode cX11_row 40 = .ok (.aload 4, 2) := by decide +kernel
theorem dX11_row_42 : decode cX11_row 42 = .ok (.iload_n 2, 1) := by decide +kernel
theorem dX11_row_43 : decode cX11_row 43 = .ok (.iload_n 3, 1) := by decide +kernel
theorem dX11_row_44 : decode cX11_row 44 = .ok (.invokevirtual 75, 3) := by decide +kernel
theorem dX11_row_47 : decode cX11_row 47 = .ok (.aload_n 0, 1) := by decide +kernel
theorem dX11_row_48 : decode cX11_row 48 = .ok (.iload_n 3, 1) := by decide +kernel
theorem dX11_row_49 : decode cX11_row 49 = .ok (.invokevirtual 78, 3) := by decide +kernel
theorem dX11_row_52 : decode cX11_row 52 = .ok (.ireturn, 1) := by decide +kernel
set_option maxRecDepth 20000 in
theorem ggX11_set_X11_rowAt : GoodIn wsX11_set wsX11_rowAt := goodIn_r _ [7, 8, 37, 38, 39, 40, 41, 42, 43, 44, 45, 46, 47, 48] (by decide +kernel) (by decide +kernel)
set_option maxRecDepth 20000 in
theorem gX11_set_X11_rowAt : GoodIn wsX11_set (wsV RX11 66 RX11 yX11_rowAt wsX11_rowAt) := goodIn_app (goodIn_of _ (by decide +kernel)) ggX11_set_X11_rowAt
set_option maxRecDepth 20000 in
theorem ggX11_set_X5_isMissing : GoodIn wsX11_set wsX5_isMissing := goodIn_r _ [13, 14, 34, 35, 36] (by decide +kernel) (by decide +kernel)
set_option maxRecDepth 20000 in
theorem gX11_set_X5_isMissing : GoodIn wsX11_set (wsV RX11 81 RX5 yX5_isMissing wsX5_isMissing) := goodIn_app (goodIn_of _ (by decide +kernel)) ggX11_set_X5_isMissing
set_option maxRecDepth 20000 in
theorem ggX11_set_X11_found : GoodIn wsX11_set wsX11_found := goodIn_r _ [18, 19, 20, 37, 38, 39, 40, 41, 42, 43, 44, 45, 46, 47, 48] (by decide +kernel) (by decide +kernel)
set_option maxRecDepth 20000 in
theorem gX11_set_X11_found : GoodIn wsX11_set (wsV RX11 71 RX11 yX11_found wsX11_found) := goodIn_app (goodIn_of _ (by decide +kernel)) ggX11_set_X11_found
set_option maxRecDepth 20000 in
theorem ggX11_set_X5_has : GoodIn wsX11_set wsX5_has := goodIn_r _ [24, 25, 34, 35, 36] (by decide +kernel) (by decide +kernel)
set_option maxRecDepth 20000 in
theorem gX11_set_X5_has : GoodIn wsX11_set (wsV RX11 85 RX5 yX5_has wsX5_has) := goodIn_app (goodIn_of _ (by decide +kernel)) ggX11_set_X5_has
set_option maxRecDepth 20000 in
theorem ggX11_set_X5_cutToLane : GoodIn wsX11_set wsX5_cutToLane := goodIn_r _ [29, 14, 34, 35, 36] (by decide +kernel) (by decide +kernel)
set_option maxRecDepth 20000 in
theorem gX11_set_X5_cutToLane : GoodIn wsX11_set (wsV RX11 92 RX5 yX5_cutToLane wsX5_cutToLane) := goodIn_app (goodIn_of _ (by decide +kernel)) ggX11_set_X5_cutToLane
set_option maxRecDepth 20000 in
theorem ggX11_set_X11_unfound : GoodIn wsX11_set wsX11_unfound := goodIn_r _ [33, 19, 37, 38, 39, 40, 41, 42, 43, 44, 45, 46, 47, 48] (by decide +kernel) (by decide +kernel)
set_option maxRecDepth 20000 in
theorem gX11_set_X11_unfound : GoodIn wsX11_set (wsV RX11 78 RX11 yX11_unfound wsX11_unfound) := goodIn_app (goodIn_of _ (by decide +kernel)) ggX11_set_X11_unfound
theorem dX11_set_0 : decode cX11_set 0 = .ok (.aload_n 0, 1) := by decide +kernel
theorem dX11_set_1 : decode cX11_set 1 = .ok (.iload_n 1, 1) := by decide +kernel
theorem dX11_set_2 : decode cX11_set 2 = .ok (.invokevirtual 66, 3) := by decide +kernel
theorem dX11_set_5 : decode cX11_set 5 = .ok (.astore 4, 2) := by decide +kernel
theorem dX11_set_7 : decode cX11_set 7 = .ok (.aload 4, 2) := by decide +kernel
theorem dX11_set_9 : decode cX11_set 9 = .ok (.ifnonnull 6, 3) := by decide +kernel
theorem dX11_set_12 : decode cX11_set 12 = .ok (.ldc 70, 2) := by decide +kernel
theorem dX11_set_14 : decode cX11_set 14 = .ok (.ireturn, 1) := by decide +kernel
theorem dX11_set_15 : decode cX11_set 15 = .ok (.aload 4, 2) := by decide +kernel
theorem dX11_set_17 : decode cX11_set 17 = .ok (.invokevirtual 81, 3) := by decide +kernel
theorem dX11_set_20 : decode cX11_set 20 = .ok (.ifCond .eq 9, 3) := by decide +kernel
theorem dX11_set_23 : decode cX11_set 23 = .ok (.aload_n 0, 1) := by decide +kernel
theorem dX11_set_24 : decode cX11_set 24 = .ok (.iconst 1, 1) := by decide +kernel
theorem dX11_set_25 : decode cX11_set 25 = .ok (.invokevirtual 71, 3) := by decide +kernel
theorem dX11_set_28 : decode cX11_set 28 = .ok (.ireturn, 1) := by decide +kernel
theorem dX11_set_29 : decode cX11_set 29 = .ok (.aload 4, 2) := by decide +kernel
theorem dX11_set_31 : decode cX11_set 31 = .ok (.iload_n 2, 1) := by decide +kernel
theorem dX11_set_32 : decode cX11_set 32 = .ok (.iconst 1, 1) := by decide +kernel
theorem dX11_set_33 : decode cX11_set 33 = .ok (.invokevirtual 85, 3) := by decide +kernel
theorem dX11_set_36 : decode cX11_set 36 = .ok (.ifCond .ne 9, 3) := by decide +kernel
theorem dX11_set_39 : decode cX11_set 39 = .ok (.aload_n 0, 1) := by decide +kernel
theorem dX11_set_40 : decode cX11_set 40 = .ok (.iconst 2, 1) := by decide +kernel
theorem dX11_set_41 : decode cX11_set 41 = .ok (.invokevirtual 71, 3) := by decide +kernel
theorem dX11_set_44 : decode cX11_set 44 = .ok (.ireturn, 1) := by decide +kernel
theorem dX11_set_45 : decode cX11_set 45 = .ok (.aload 4, 2) := by decide +kernel
theorem dX11_set_47 : decode cX11_set 47 = .ok (.getfield 89, 3) := by decide +kernel
theorem dX11_set_50 : decode cX11_set 50 = .ok (.iload_n 2, 1) := by decide +kernel
theorem dX11_set_51 : decode cX11_set 51 = .ok (.aload 4, 2) := by decide +kernel
theorem dX11_set_53 : decode cX11_set 53 = .ok (.iload_n 3, 1) := by decide +kernel
theorem dX11_set_54 : decode cX11_set 54 = .ok (.invokevirtual 92, 3) := by decide +kernel
theorem dX11_set_57 : decode cX11_set 57 = .ok (.iastore, 1) := by decide +kernel
theorem dX11_set_58 : decode cX11_set 58 = .ok (.aload_n 0, 1) := by decide +kernel
theorem dX11_set_59 : decode cX11_set 59 = .ok (.aload 4, 2) := by decide +kernel
theorem dX11_set_61 : decode cX11_set 61 = .ok (.getfield 89, 3) := by decide +kernel
theorem dX11_set_64 : decode cX11_set 64 = .ok (.iload_n 2, 1) := by decide +kernel
theorem dX11_set_65 : decode cX11_set 65 = .ok (.iaload, 1) := by decide +kernel
theorem dX11_set_66 : decode cX11_set 66 = .ok (.invokevirtual 78, 3) := by decide +kernel
theorem dX11_set_69 : decode cX11_set 69 = .ok (.ireturn, 1) := by decide +kernel
set_option maxRecDepth 20000 in
theorem ggX11_copy_X11_rowAt : GoodIn wsX11_copy wsX11_rowAt := goodIn_r _ [12, 13, 38, 39, 40, 41, 42, 43, 44, 45, 46, 47, 48, 49] (by decide +kernel) (by decide +kernel)
set_option maxRecDepth 20000 in
theorem gX11_copy_X11_rowAt : GoodIn wsX11_copy (wsV RX11 66 RX11 yX11_rowAt wsX11_rowAt) := goodIn_app (goodIn_of _ (by decide +kernel)) ggX11_copy_X11_rowAt
set_option maxRecDepth 20000 in
theorem ggX11_copy_X5_isMissing : GoodIn wsX11_copy wsX5_isMissing := goodIn_r _ [18, 19, 35, 36, 37] (by decide +kernel) (by decide +kernel)
set_option maxRecDepth 20000 in
theorem gX11_copy_X5_isMissing : GoodIn wsX11_copy (wsV RX11 81 RX5 yX5_isMissing wsX5_isMissing) := goodIn_app (goodIn_of _ (by decide +kernel)) ggX11_copy_X5_isMissing
set_option maxRecDepth 20000 in
theorem ggX11_copy_X11_found : GoodIn wsX11_copy wsX11_found := goodIn_r _ [23, 24, 25, 38, 39, 40, 41, 42, 43, 44, 45, 46, 47, 48, 49] (by decide +kernel) (by decide +kernel)
set_option maxRecDepth 20000 in
theorem gX11_copy_X11_found : GoodIn wsX11_copy (wsV RX11 71 RX11 yX11_found wsX11_found) := goodIn_app (goodIn_of _ (by decide +kernel)) ggX11_copy_X11_found
set_option maxRecDepth 20000 in
theorem ggX11_copy_X5_has : GoodIn wsX11_copy wsX5_has := goodIn_r _ [29, 30, 35, 36, 37] (by decide +kernel) (by decide +kernel)
set_option maxRecDepth 20000 in
theorem gX11_copy_X5_has : GoodIn wsX11_copy (wsV RX11 85 RX5 yX5_has wsX5_has) := goodIn_app (goodIn_of _ (by decide +kernel)) ggX11_copy_X5_has
set_option maxRecDepth 20000 in
theorem ggX11_copy_X11_unfound : GoodIn wsX11_copy wsX11_unfound := goodIn_r _ [34, 24, 38, 39, 40, 41, 42, 43, 44, 45, 46, 47, 48, 49] (by decide +kernel) (by decide +kernel)
set_option maxRecDepth 20000 in
theorem gX11_copy_X11_unfound : GoodIn wsX11_copy (wsV RX11 78 RX11 yX11_unfound wsX11_unfound) := goodIn_app (goodIn_of _ (by decide +kernel)) ggX11_copy_X11_unfound
theorem dX11_copy_0 : decode cX11_copy 0 = .ok (.aload_n 0, 1) := by decide +kernel
theorem dX11_copy_1 : decode cX11_copy 1 = .ok (.iload_n 1, 1) := by decide +kernel
theorem dX11_copy_2 : decode cX11_copy 2 = .ok (.invokevirtual 66, 3) := by decide +kernel
theorem dX11_copy_5 : decode cX11_copy 5 = .ok (.astore 6, 2) := by decide +kernel
theorem dX11_copy_7 : decode cX11_copy 7 = .ok (.aload_n 0, 1) := by decide +kernel
theorem dX11_copy_8 : decode cX11_copy 8 = .ok (.iload_n 3, 1) := by decide +kernel
theorem dX11_copy_9 : decode cX11_copy 9 = .ok (.invokevirtual 66, 3) := by decide +kernel
theorem dX11_copy_12 : decode cX11_copy 12 = .ok (.astore 7, 2) := by decide +kernel
theorem dX11_copy_14 : decode cX11_copy 14 = .ok (.aload 6, 2) := by decide +kernel
theorem dX11_copy_16 : decode cX11_copy 16 = .ok (.ifnull 8, 3) := by decide +kernel
theorem dX11_copy_19 : decode cX11_copy 19 = .ok (.aload 7, 2) := by decide +kernel
theorem dX11_copy_21 : decode cX11_copy 21 = .ok (.ifnonnull 6, 3) := by decide +kernel
theorem dX11_copy_24 : decode cX11_copy 24 = .ok (.ldc 70, 2) := by decide +kernel
theorem dX11_copy_26 : decode cX11_copy 26 = .ok (.ireturn, 1) := by decide +kernel
theorem dX11_copy_27 : decode cX11_copy 27 = .ok (.aload 6, 2) := by decide +kernel
theorem dX11_copy_29 : decode cX11_copy 29 = .ok (.invokevirtual 81, 3) := by decide +kernel
theorem dX11_copy_32 : decode cX11_copy 32 = .ok (.ifCond .ne 11, 3) := by decide +kernel
theorem dX11_copy_35 : decode cX11_copy 35 = .ok (.aload 7, 2) := by decide +kernel
theorem dX11_copy_37 : decode cX11_copy 37 = .ok (.invokevirtual 81, 3) := by decide +kernel
theorem dX11_copy_40 : decode cX11_copy 40 = .ok (.ifCond .eq 9, 3) := by decide +kernel
theorem dX11_copy_43 : decode cX11_copy 43 = .ok (.aload_n 0, 1) := by decide +kernel
theorem dX11_copy_44 : decode cX11_copy 44 = .ok (.iconst 1, 1) := by decide +kernel
theorem dX11_copy_45 : decode cX11_copy 45 = .ok (.invokevirtual 71, 3) := by decide +kernel
theorem dX11_copy_48 : decode cX11_copy 48 = .ok (.ireturn, 1) := by decide +kernel
theorem dX11_copy_49 : decode cX11_copy 49 = .ok (.aload 6, 2) := by decide +kernel
theorem dX11_copy_51 : decode cX11_copy 51 = .ok (.getfield 95, 3) := by decide +kernel
theorem dX11_copy_54 : decode cX11_copy 54 = .ok (.aload 7, 2) := by decide +kernel
theorem dX11_copy_56 : decode cX11_copy 56 = .ok (.getfield 95, 3) := by decide +kernel
theorem dX11_copy_59 : decode cX11_copy 59 = .ok (.if_icmp .eq 9, 3) := by decide +kernel
theorem dX11_copy_62 : decode cX11_copy 62 = .ok (.aload_n 0, 1) := by decide +kernel
theorem dX11_copy_63 : decode cX11_copy 63 = .ok (.iconst 5, 1) := by decide +kernel
theorem dX11_copy_64 : decode cX11_copy 64 = .ok (.invokevirtual 71, 3) := by decide +kernel
theorem dX11_copy_67 : decode cX11_copy 67 = .ok (.ireturn, 1) := by decide +kernel
theorem dX11_copy_68 : decode cX11_copy 68 = .ok (.aload 6, 2) := by decide +kernel
theorem dX11_copy_70 : decode cX11_copy 70 = .ok (.iload_n 2, 1) := by decide +kernel
theorem dX11_copy_71 : decode cX11_copy 71 = .ok (.iload 5, 2) := by decide +kernel
theorem dX11_copy_73 : decode cX11_copy 73 = .ok (.invokevirtual 85, 3) := by decide +kernel
theorem dX11_copy_76 : decode cX11_copy 76 = .ok (.ifCond .eq 15, 3) := by decide +kernel
theorem dX11_copy_79 : decode cX11_copy 79 = .ok (.aload 7, 2) := by decide +kernel
theorem dX11_copy_81 : decode cX11_copy 81 = .ok (.iload 4, 2) := by decide +kernel
theorem dX11_copy_83 : decode cX11_copy 83 = .ok (.iload 5, 2) := by decide +kernel
theorem dX11_copy_85 : decode cX11_copy 85 = .ok (.invokevirtual 85, 3) := by decide +kernel
theorem dX11_copy_88 : decode cX11_copy 88 = .ok (.ifCond .ne 9, 3) := by decide +kernel
theorem dX11_copy_91 : decode cX11_copy 91 = .ok (.aload_n 0, 1) := by decide +kernel
theorem dX11_copy_92 : decode cX11_copy 92 = .ok (.iconst 2, 1) := by decide +kernel
theorem dX11_copy_93 : decode cX11_copy 93 = .ok (.invokevirtual 71, 3) := by decide +kernel
theorem dX11_copy_96 : decode cX11_copy 96 = .ok (.ireturn, 1) := by decide +kernel
theorem dX11_copy_97 : decode cX11_copy 97 = .ok (.aload 6, 2) := by decide +kernel
theorem dX11_copy_99 : decode cX11_copy 99 = .ok (.getfield 89, 3) := by decide +kernel
theorem dX11_copy_102 : decode cX11_copy 102 = .ok (.iload_n 2, 1) := by decide +kernel
theorem dX11_copy_103 : decode cX11_copy 103 = .ok (.aload 7, 2) := by decide +kernel
theorem dX11_copy_105 : decode cX11_copy 105 = .ok (.getfield 89, 3) := by decide +kernel
theorem dX11_copy_108 : decode cX11_copy 108 = .ok (.iload 4, 2) := by decide +kernel
theorem dX11_copy_110 : decode cX11_copy 110 = .ok (.iload 5, 2) := by decide +kernel
theorem dX11_copy_112 : decode cX11_copy 112 = .ok (.invokestatic 98, 3) := by decide +kernel
theorem dX11_copy_115 : decode cX11_copy 115 = .ok (.aload_n 0, 1) := by decide +kernel
theorem dX11_copy_116 : decode cX11_copy 116 = .ok (.iload 5, 2) := by decide +kernel
theorem dX11_copy_118 : decode cX11_copy 118 = .ok (.invokevirtual 78, 3) := by decide +kernel
theorem dX11_copy_121 : decode cX11_copy 121 = .ok (.ireturn, 1) := by decide +kernel
set_option maxRecDepth 20000 in
theorem ggX11_drop_X11_rowAt : GoodIn wsX11_drop wsX11_rowAt := goodIn_r _ [8, 9, 29, 30, 31, 32, 33, 34, 35, 36, 37, 38, 39, 40] (by decide +kernel) (by decide +kernel)
set_option maxRecDepth 20000 in
theorem gX11_drop_X11_rowAt : GoodIn wsX11_drop (wsV RX11 66 RX11 yX11_rowAt wsX11_rowAt) := goodIn_app (goodIn_of _ (by decide +kernel)) ggX11_drop_X11_rowAt
set_option maxRecDepth 20000 in
theorem ggX11_drop_X5_isMissing : GoodIn wsX11_drop wsX5_isMissing := goodIn_r _ [14, 15, 26, 27, 28] (by decide +kernel) (by decide +kernel)
set_option maxRecDepth 20000 in
theorem gX11_drop_X5_isMissing : GoodIn wsX11_drop (wsV RX11 81 RX5 yX5_isMissing wsX5_isMissing) := goodIn_app (goodIn_of _ (by decide +kernel)) ggX11_drop_X5_isMissing
set_option maxRecDepth 20000 in
theorem ggX11_drop_X11_found : GoodIn wsX11_drop wsX11_found := goodIn_r _ [19, 20, 21, 29, 30, 31, 32, 33, 34, 35, 36, 37, 38, 39, 40] (by decide +kernel) (by decide +kernel)
set_option maxRecDepth 20000 in
theorem gX11_drop_X11_found : GoodIn wsX11_drop (wsV RX11 71 RX11 yX11_found wsX11_found) := goodIn_app (goodIn_of _ (by decide +kernel)) ggX11_drop_X11_found
set_option maxRecDepth 20000 in
theorem ggX11_drop_X11_unfound : GoodIn wsX11_drop wsX11_unfound := goodIn_r _ [25, 20, 29, 30, 31, 32, 33, 34, 35, 36, 37, 38, 39, 40] (by decide +kernel) (by decide +kernel)
set_option maxRecDepth 20000 in
theorem gX11_drop_X11_unfound : GoodIn wsX11_drop (wsV RX11 78 RX11 yX11_unfound wsX11_unfound) := goodIn_app (goodIn_of _ (by decide +kernel)) ggX11_drop_X11_unfound
theorem dX11_drop_0 : decode cX11_drop 0 = .ok (.aload_n 0, 1) := by decide +kernel
theorem dX11_drop_1 : decode cX11_drop 1 = .ok (.iload_n 1, 1) := by decide +kernel
theorem dX11_drop_2 : decode cX11_drop 2 = .ok (.invokevirtual 66, 3) := by decide +kernel
theorem dX11_drop_5 : decode cX11_drop 5 = .ok (.astore_n 2, 1) := by decide +kernel
theorem dX11_drop_6 : decode cX11_drop 6 = .ok (.aload_n 2, 1) := by decide +kernel
theorem dX11_drop_7 : decode cX11_drop 7 = .ok (.ifnonnull 6, 3) := by decide +kernel
theorem dX11_drop_10 : decode cX11_drop 10 = .ok (.ldc 70, 2) := by decide +kernel
theorem dX11_drop_12 : decode cX11_drop 12 = .ok (.ireturn, 1) := by decide +kernel
theorem dX11_drop_13 : decode cX11_drop 13 = .ok (.aload_n 2, 1) := by decide +kernel
theorem dX11_drop_14 : decode cX11_drop 14 = .ok (.invokevirtual 81, 3) := by decide +kernel
theorem dX11_drop_17 : decode cX11_drop 17 = .ok (.ifCond .eq 9, 3) := by decide +kernel
theorem dX11_drop_20 : decode cX11_drop 20 = .ok (.aload_n 0, 1) := by decide +kernel
theorem dX11_drop_21 : decode cX11_drop 21 = .ok (.iconst 1, 1) := by decide +kernel
theorem dX11_drop_22 : decode cX11_drop 22 = .ok (.invokevirtual 71, 3) := by decide +kernel
theorem dX11_drop_25 : decode cX11_drop 25 = .ok (.ireturn, 1) := by decide +kernel
theorem dX11_drop_26 : decode cX11_drop 26 = .ok (.aload_n 2, 1) := by decide +kernel
theorem dX11_drop_27 : decode cX11_drop 27 = .ok (.iconst (-1), 1) := by decide +kernel
theorem dX11_drop_28 : decode cX11_drop 28 = .ok (.putfield 95, 3) := by decide +kernel
theorem dX11_drop_31 : decode cX11_drop 31 = .ok (.aload_n 0, 1) := by decide +kernel
theorem dX11_drop_32 : decode cX11_drop 32 = .ok (.aload_n 2, 1) := by decide +kernel
theorem dX11_drop_33 : decode cX11_drop 33 = .ok (.getfield 104, 3) := by decide +kernel
theorem dX11_drop_36 : decode cX11_drop 36 = .ok (.invokevirtual 78, 3) := by decide +kernel
theorem dX11_drop_39 : decode cX11_drop 39 = .ok (.ireturn, 1) := by decide +kernel
theorem dX11_feed_0 : decode cX11_feed 0 = .ok (.iload_n 1, 1) := by decide +kernel
theorem dX11_feed_1 : decode cX11_feed 1 = .ok (.ifCond .lt 10, 3) := by decide +kernel
theorem dX11_feed_4 : decode cX11_feed 4 = .ok (.iload_n 1, 1) := by decide +kernel
theorem dX11_feed_5 : decode cX11_feed 5 = .ok (.sipush 255, 3) := by decide +kernel
theorem dX11_feed_8 : decode cX11_feed 8 = .ok (.if_icmp .le 6, 3) := by decide +kernel
theorem dX11_feed_11 : decode cX11_feed 11 = .ok (.ldc 70, 2) := by decide +kernel
theorem dX11_feed_13 : decode cX11_feed 13 = .ok (.ireturn, 1) := by decide +kernel
theorem dX11_feed_14 : decode cX11_feed 14 = .ok (.aload_n 0, 1) := by decide +kernel
theorem dX11_feed_15 : decode cX11_feed 15 = .ok (.getfield 18, 3) := by decide +kernel
theorem dX11_feed_18 : decode cX11_feed 18 = .ok (.getfield 107, 3) := by decide +kernel
theorem dX11_feed_21 : decode cX11_feed 21 = .ok (.bipush 100, 2) := by decide +kernel
theorem dX11_feed_23 : decode cX11_feed 23 = .ok (.if_icmp .lt 6, 3) := by decide +kernel
theorem dX11_feed_26 : decode cX11_feed 26 = .ok (.ldc 110, 2) := by decide +kernel
theorem dX11_feed_28 : decode cX11_feed 28 = .ok (.ireturn, 1) := by decide +kernel
theorem dX11_feed_29 : decode cX11_feed 29 = .ok (.aload_n 0, 1) := by decide +kernel
theorem dX11_feed_30 : decode cX11_feed 30 = .ok (.getfield 18, 3) := by decide +kernel
theorem dX11_feed_33 : decode cX11_feed 33 = .ok (.getfield 111, 3) := by decide +kernel
theorem dX11_feed_36 : decode cX11_feed 36 = .ok (.aload_n 0, 1) := by decide +kernel
theorem dX11_feed_37 : decode cX11_feed 37 = .ok (.getfield 18, 3) := by decide +kernel
theorem dX11_feed_40 : decode cX11_feed 40 = .ok (.getfield 107, 3) := by decide +kernel
theorem dX11_feed_43 : decode cX11_feed 43 = .ok (.iload_n 1, 1) := by decide +kernel
theorem dX11_feed_44 : decode cX11_feed 44 = .ok (.iastore, 1) := by decide +kernel
theorem dX11_feed_45 : decode cX11_feed 45 = .ok (.aload_n 0, 1) := by decide +kernel
theorem dX11_feed_46 : decode cX11_feed 46 = .ok (.getfield 18, 3) := by decide +kernel
theorem dX11_feed_49 : decode cX11_feed 49 = .ok (.dup, 1) := by decide +kernel
theorem dX11_feed_50 : decode cX11_feed 50 = .ok (.getfield 107, 3) := by decide +kernel
theorem dX11_feed_53 : decode cX11_feed 53 = .ok (.iconst 1, 1) := by decide +kernel
theorem dX11_feed_54 : decode cX11_feed 54 = .ok (.iadd, 1) := by decide +kernel
theorem dX11_feed_55 : decode cX11_feed 55 = .ok (.putfield 107, 3) := by decide +kernel
theorem dX11_feed_58 : decode cX11_feed 58 = .ok (.aload_n 0, 1) := by decide +kernel
theorem dX11_feed_59 : decode cX11_feed 59 = .ok (.getfield 18, 3) := by decide +kernel
theorem dX11_feed_62 : decode cX11_feed 62 = .ok (.getfield 107, 3) := by decide +kernel
theorem dX11_feed_65 : decode cX11_feed 65 = .ok (.ireturn, 1) := by decide +kernel
set_option maxRecDepth 20000 in
theorem ggX11_market_X8_read : GoodIn wsX11_market wsX8_read := goodIn_r _ [14, 15, 16, 17, 18, 19, 20, 13, 21, 22, 23, 24, 25, 26, 27, 28, 29, 30, 31, 32, 33, 34, 35, 36, 37, 38, 39, 40, 41, 42, 43, 44, 45, 46, 47, 48, 49, 50, 51, 52, 53, 54, 55, 56, 57, 58, 59, 60, 61, 62, 63, 64, 65, 66, 67, 68, 69, 70, 71, 72, 73, 74, 75, 76, 77, 78, 79, 80, 81, 82, 83, 84, 85, 86, 87, 88, 89, 90, 91, 92, 93, 94, 95, 96, 97, 98, 99, 100, 101, 102, 103, 104, 105, 106, 107, 108, 109, 110, 111, 112, 113, 114, 115, 116, 117, 118, 119, 120, 121, 122, 123, 124, 125, 126, 127, 128, 129, 130, 131, 132, 145, 146, 147, 148, 149, 150, 151, 152, 153, 154, 155, 156, 157, 158, 159, 160, 161, 162, 163, 164, 165, 166, 167, 168, 169, 170, 171, 172, 173, 174, 175, 176, 177, 178, 179, 180, 181, 182, 183, 184, 185, 186, 187, 188, 189, 190] (by decide +kernel) (by decide +kernel)
set_option maxRecDepth 20000 in
theorem gX11_market_X8_read : GoodIn wsX11_market (wsV RX11 114 RX8 yX8_read wsX8_read) := goodIn_app (goodIn_of _ (by decide +kernel)) ggX11_market_X8_read
theorem dX11_market_0 : decode cX11_market 0 = .ok (.aload_n 0, 1) := by decide +kernel
theorem dX11_market_1 : decode cX11_market 1 = .ok (.getfield 18, 3) := by decide +kernel
theorem dX11_market_4 : decode cX11_market 4 = .ok (.invokevirtual 114, 3) := by decide +kernel
theorem dX11_market_7 : decode cX11_market 7 = .ok (.astore_n 1, 1) := by decide +kernel
theorem dX11_market_8 : decode cX11_market 8 = .ok (.aload_n 0, 1) := by decide +kernel
theorem dX11_market_9 : decode cX11_market 9 = .ok (.getfield 18, 3) := by decide +kernel
theorem dX11_market_12 : decode cX11_market 12 = .ok (.iconst 0, 1) := by decide +kernel
theorem dX11_market_13 : decode cX11_market 13 = .ok (.putfield 107, 3) := by decide +kernel
theorem dX11_market_16 : decode cX11_market 16 = .ok (.aload_n 1, 1) := by decide +kernel
theorem dX11_market_17 : decode cX11_market 17 = .ok (.ifnonnull 25, 3) := by decide +kernel
theorem dX11_market_20 : decode cX11_market 20 = .ok (.aload_n 0, 1) := by decide +kernel
theorem dX11_market_21 : decode cX11_market 21 = .ok (.aload_n 0, 1) := by decide +kernel
theorem dX11_market_22 : decode cX11_market 22 = .ok (.getfield 18, 3) := by decide +kernel
theorem dX11_market_25 : decode cX11_market 25 = .ok (.getfield 118, 3) := by decide +kernel
theorem dX11_market_28 : decode cX11_market 28 = .ok (.putfield 59, 3) := by decide +kernel
theorem dX11_market_31 : decode cX11_market 31 = .ok (.ldc 121, 2) := by decide +kernel
theorem dX11_market_33 : decode cX11_market 33 = .ok (.aload_n 0, 1) := by decide +kernel
theorem dX11_market_34 : decode cX11_market 34 = .ok (.getfield 18, 3) := by decide +kernel
theorem dX11_market_37 : decode cX11_market 37 = .ok (.getfield 122, 3) := by decide +kernel
theorem dX11_market_40 : decode cX11_market 40 = .ok (.isub, 1) := by decide +kernel
theorem dX11_market_41 : decode cX11_market 41 = .ok (.ireturn, 1) := by decide +kernel
theorem dX11_market_42 : decode cX11_market 42 = .ok (.aload_n 0, 1) := by decide +kernel
theorem dX11_market_43 : decode cX11_market 43 = .ok (.aload_n 1, 1) := by decide +kernel
theorem dX11_market_44 : decode cX11_market 44 = .ok (.putfield 55, 3) := by decide +kernel
theorem dX11_market_47 : decode cX11_market 47 = .ok (.aload_n 0, 1) := by decide +kernel
theorem dX11_market_48 : decode cX11_market 48 = .ok (.iconst 0, 1) := by decide +kernel
theorem dX11_market_49 : decode cX11_market 49 = .ok (.putfield 48, 3) := by decide +kernel
theorem dX11_market_52 : decode cX11_market 52 = .ok (.aload_n 1, 1) := by decide +kernel
theorem dX11_market_53 : decode cX11_market 53 = .ok (.getfield 125, 3) := by decide +kernel
theorem dX11_market_56 : decode cX11_market 56 = .ok (.ireturn, 1) := by decide +kernel
theorem dX11_fault_0 : decode cX11_fault 0 = .ok (.aload_n 0, 1) := by decide +kernel
theorem dX11_fault_1 : decode cX11_fault 1 = .ok (.getfield 59, 3) := by decide +kernel
theorem dX11_fault_4 : decode cX11_fault 4 = .ok (.ireturn, 1) := by decide +kernel
set_option maxRecDepth 20000 in
theorem ggX11_undo_X3_put : GoodIn wsX11_undo wsX3_put := goodIn_r _ [11, 12, 13, 14, 15, 16, 17, 18, 19, 20, 21, 22, 23, 24, 25, 26, 27, 28, 41, 42, 43, 44, 45, 46, 47, 48, 49, 50, 51, 52, 53, 54, 55, 56, 57, 58, 59, 60, 61, 62, 63, 64, 65, 66, 67, 68, 69, 70, 71, 72, 73, 74, 75, 76, 77, 78, 79, 80, 81] (by decide +kernel) (by decide +kernel)
set_option maxRecDepth 20000 in
theorem gX11_undo_X3_put : GoodIn wsX11_undo (wsV RX11 129 RX3 yX3_put wsX3_put) := goodIn_app (goodIn_of _ (by decide +kernel)) ggX11_undo_X3_put
theorem dX11_undo_0 : decode cX11_undo 0 = .ok (.aload_n 0, 1) := by decide +kernel
theorem dX11_undo_1 : decode cX11_undo 1 = .ok (.getfield 48, 3) := by decide +kernel
theorem dX11_undo_4 : decode cX11_undo 4 = .ok (.iconst 1, 1) := by decide +kernel
theorem dX11_undo_5 : decode cX11_undo 5 = .ok (.if_icmp .lt 12, 3) := by decide +kernel
theorem dX11_undo_8 : decode cX11_undo 8 = .ok (.aload_n 0, 1) := by decide +kernel
theorem dX11_undo_9 : decode cX11_undo 9 = .ok (.getfield 48, 3) := by decide +kernel
theorem dX11_undo_12 : decode cX11_undo 12 = .ok (.bipush 24, 2) := by decide +kernel
theorem dX11_undo_14 : decode cX11_undo 14 = .ok (.if_icmp .le 6, 3) := by decide +kernel
theorem dX11_undo_17 : decode cX11_undo 17 = .ok (.ldc 128, 2) := by decide +kernel
theorem dX11_undo_19 : decode cX11_undo 19 = .ok (.ireturn, 1) := by decide +kernel
theorem dX11_undo_20 : decode cX11_undo 20 = .ok (.aload_n 0, 1) := by decide +kernel
theorem dX11_undo_21 : decode cX11_undo 21 = .ok (.dup, 1) := by decide +kernel
theorem dX11_undo_22 : decode cX11_undo 22 = .ok (.getfield 48, 3) := by decide +kernel
theorem dX11_undo_25 : decode cX11_undo 25 = .ok (.iconst 1, 1) := by decide +kernel
theorem dX11_undo_26 : decode cX11_undo 26 = .ok (.isub, 1) := by decide +kernel
theorem dX11_undo_27 : decode cX11_undo 27 = .ok (.putfield 48, 3) := by decide +kernel
theorem dX11_undo_30 : decode cX11_undo 30 = .ok (.aload_n 0, 1) := by decide +kernel
theorem dX11_undo_31 : decode cX11_undo 31 = .ok (.getfield 55, 3) := by decide +kernel
theorem dX11_undo_34 : decode cX11_undo 34 = .ok (.aload_n 0, 1) := by decide +kernel
theorem dX11_undo_35 : decode cX11_undo 35 = .ok (.getfield 39, 3) := by decide +kernel
theorem dX11_undo_38 : decode cX11_undo 38 = .ok (.aload_n 0, 1) := by decide +kernel
theorem dX11_undo_39 : decode cX11_undo 39 = .ok (.getfield 48, 3) := by decide +kernel
theorem dX11_undo_42 : decode cX11_undo 42 = .ok (.iaload, 1) := by decide +kernel
theorem dX11_undo_43 : decode cX11_undo 43 = .ok (.aload_n 0, 1) := by decide +kernel
theorem dX11_undo_44 : decode cX11_undo 44 = .ok (.getfield 42, 3) := by decide +kernel
theorem dX11_undo_47 : decode cX11_undo 47 = .ok (.aload_n 0, 1) := by decide +kernel
theorem dX11_undo_48 : decode cX11_undo 48 = .ok (.getfield 48, 3) := by decide +kernel
theorem dX11_undo_51 : decode cX11_undo 51 = .ok (.iaload, 1) := by decide +kernel
theorem dX11_undo_52 : decode cX11_undo 52 = .ok (.aload_n 0, 1) := by decide +kernel
theorem dX11_undo_53 : decode cX11_undo 53 = .ok (.getfield 45, 3) := by decide +kernel
theorem dX11_undo_56 : decode cX11_undo 56 = .ok (.aload_n 0, 1) := by decide +kernel
theorem dX11_undo_57 : decode cX11_undo 57 = .ok (.getfield 48, 3) := by decide +kernel
theorem dX11_undo_60 : decode cX11_undo 60 = .ok (.iaload, 1) := by decide +kernel
theorem dX11_undo_61 : decode cX11_undo 61 = .ok (.invokevirtual 129, 3) := by decide +kernel
theorem dX11_undo_64 : decode cX11_undo 64 = .ok (.aload_n 0, 1) := by decide +kernel
theorem dX11_undo_65 : decode cX11_undo 65 = .ok (.getfield 48, 3) := by decide +kernel
theorem dX11_undo_68 : decode cX11_undo 68 = .ok (.ireturn, 1) := by decide +kernel
set_option maxRecDepth 20000 in
theorem ggX11_buyers_X11_stallAt : GoodIn wsX11_buyers wsX11_stallAt := goodIn_r _ [7, 8, 9, 83, 84, 85, 86, 87, 88, 89, 90, 91, 92, 93, 94, 95, 96, 97, 98, 99, 100] (by decide +kernel) (by decide +kernel)
set_option maxRecDepth 20000 in
theorem gX11_buyers_X11_stallAt : GoodIn wsX11_buyers (wsV RX11 133 RX11 yX11_stallAt wsX11_stallAt) := goodIn_app (goodIn_of _ (by decide +kernel)) ggX11_buyers_X11_stallAt
set_option maxRecDepth 20000 in
theorem ggX11_buyers_X11_act : GoodIn wsX11_buyers wsX11_act := goodIn_r _ [13, 14, 15, 16, 17, 8, 18, 19, 20, 6, 21, 22, 23, 24, 25, 26, 27, 28, 29, 30, 31, 32, 33, 34, 35, 36, 37, 38, 39, 40, 41, 42, 43, 44, 45, 46, 47, 83, 84, 85, 86, 87, 88, 89, 90, 91, 92, 93, 94, 95, 96, 97, 98, 99, 100, 48, 49, 50, 51, 52, 53, 54, 55, 56, 57, 58, 59, 60, 61, 62, 63, 64, 65, 66, 67, 68, 69, 70, 71, 72, 73, 74, 75, 76, 77, 78, 79, 80, 81, 82] (by decide +kernel) (by decide +kernel)
set_option maxRecDepth 20000 in
theorem gX11_buyers_X11_act : GoodIn wsX11_buyers (wsV RX11 142 RX11 yX11_act wsX11_act) := goodIn_app (goodIn_of _ (by decide +kernel)) ggX11_buyers_X11_act
theorem dX11_buyers_0 : decode cX11_buyers 0 = .ok (.aload_n 0, 1) := by decide +kernel
theorem dX11_buyers_1 : decode cX11_buyers 1 = .ok (.iload_n 1, 1) := by decide +kernel
theorem dX11_buyers_2 : decode cX11_buyers 2 = .ok (.invokevirtual 133, 3) := by decide +kernel
theorem dX11_buyers_5 : decode cX11_buyers 5 = .ok (.astore_n 3, 1) := by decide +kernel
theorem dX11_buyers_6 : decode cX11_buyers 6 = .ok (.aload_n 3, 1) := by decide +kernel
theorem dX11_buyers_7 : decode cX11_buyers 7 = .ok (.ifnull 13, 3) := by decide +kernel
theorem dX11_buyers_10 : decode cX11_buyers 10 = .ok (.iload_n 2, 1) := by decide +kernel
theorem dX11_buyers_11 : decode cX11_buyers 11 = .ok (.ifCond .lt 9, 3) := by decide +kernel
theorem dX11_buyers_14 : decode cX11_buyers 14 = .ok (.iload_n 2, 1) := by decide +kernel
theorem dX11_buyers_15 : decode cX11_buyers 15 = .ok (.bipush 20, 2) := by decide +kernel
theorem dX11_buyers_17 : decode cX11_buyers 17 = .ok (.if_icmp .le 6, 3) := by decide +kernel
theorem dX11_buyers_20 : decode cX11_buyers 20 = .ok (.ldc 70, 2) := by decide +kernel
theorem dX11_buyers_22 : decode cX11_buyers 22 = .ok (.ireturn, 1) := by decide +kernel
theorem dX11_buyers_23 : decode cX11_buyers 23 = .ok (.aload_n 3, 1) := by decide +kernel
theorem dX11_buyers_24 : decode cX11_buyers 24 = .ok (.getfield 137, 3) := by decide +kernel
theorem dX11_buyers_27 : decode cX11_buyers 27 = .ok (.istore 4, 2) := by decide +kernel
theorem dX11_buyers_29 : decode cX11_buyers 29 = .ok (.aload_n 0, 1) := by decide +kernel
theorem dX11_buyers_30 : decode cX11_buyers 30 = .ok (.iconst 0, 1) := by decide +kernel
theorem dX11_buyers_31 : decode cX11_buyers 31 = .ok (.iload_n 1, 1) := by decide +kernel
theorem dX11_buyers_32 : decode cX11_buyers 32 = .ok (.iload 4, 2) := by decide +kernel
theorem dX11_buyers_34 : decode cX11_buyers 34 = .ok (.iload_n 2, 1) := by decide +kernel
theorem dX11_buyers_35 : decode cX11_buyers 35 = .ok (.invokevirtual 142, 3) := by decide +kernel
theorem dX11_buyers_38 : decode cX11_buyers 38 = .ok (.iload 4, 2) := by decide +kernel
theorem dX11_buyers_40 : decode cX11_buyers 40 = .ok (.ireturn, 1) := by decide +kernel
set_option maxRecDepth 20000 in
theorem ggX11_girl_X11_stallAt : GoodIn wsX11_girl wsX11_stallAt := goodIn_r _ [9, 10, 11, 85, 86, 87, 88, 89, 90, 91, 92, 93, 94, 95, 96, 97, 98, 99, 100, 101, 102] (by decide +kernel) (by decide +kernel)
set_option maxRecDepth 20000 in
theorem gX11_girl_X11_stallAt : GoodIn wsX11_girl (wsV RX11 133 RX11 yX11_stallAt wsX11_stallAt) := goodIn_app (goodIn_of _ (by decide +kernel)) ggX11_girl_X11_stallAt
set_option maxRecDepth 20000 in
theorem ggX11_girl_X11_act : GoodIn wsX11_girl wsX11_act := goodIn_r _ [15, 16, 17, 18, 19, 10, 20, 21, 22, 8, 23, 24, 25, 26, 27, 28, 29, 30, 31, 32, 33, 34, 35, 36, 37, 38, 39, 40, 41, 42, 43, 44, 45, 46, 47, 48, 49, 85, 86, 87, 88, 89, 90, 91, 92, 93, 94, 95, 96, 97, 98, 99, 100, 101, 102, 50, 51, 52, 53, 54, 55, 56, 57, 58, 59, 60, 61, 62, 63, 64, 65, 66, 67, 68, 69, 70, 71, 72, 73, 74, 75, 76, 77, 78, 79, 80, 81, 82, 83, 84] (by decide +kernel) (by decide +kernel)
set_option maxRecDepth 20000 in
theorem gX11_girl_X11_act : GoodIn wsX11_girl (wsV RX11 142 RX11 yX11_act wsX11_act) := goodIn_app (goodIn_of _ (by decide +kernel)) ggX11_girl_X11_act
theorem dX11_girl_0 : decode cX11_girl 0 = .ok (.aload_n 0, 1) := by decide +kernel
theorem dX11_girl_1 : decode cX11_girl 1 = .ok (.iload_n 1, 1) := by decide +kernel
theorem dX11_girl_2 : decode cX11_girl 2 = .ok (.invokevirtual 133, 3) := by decide +kernel
theorem dX11_girl_5 : decode cX11_girl 5 = .ok (.astore_n 3, 1) := by decide +kernel
theorem dX11_girl_6 : decode cX11_girl 6 = .ok (.aload_n 3, 1) := by decide +kernel
theorem dX11_girl_7 : decode cX11_girl 7 = .ok (.ifnull 13, 3) := by decide +kernel
theorem dX11_girl_10 : decode cX11_girl 10 = .ok (.iload_n 2, 1) := by decide +kernel
theorem dX11_girl_11 : decode cX11_girl 11 = .ok (.iconst 1, 1) := by decide +kernel
theorem dX11_girl_12 : decode cX11_girl 12 = .ok (.if_icmp .eq 11, 3) := by decide +kernel
theorem dX11_girl_15 : decode cX11_girl 15 = .ok (.iload_n 2, 1) := by decide +kernel
theorem dX11_girl_16 : decode cX11_girl 16 = .ok (.iconst (-1), 1) := by decide +kernel
theorem dX11_girl_17 : decode cX11_girl 17 = .ok (.if_icmp .eq 6, 3) := by decide +kernel
theorem dX11_girl_20 : decode cX11_girl 20 = .ok (.ldc 70, 2) := by decide +kernel
theorem dX11_girl_22 : decode cX11_girl 22 = .ok (.ireturn, 1) := by decide +kernel
theorem dX11_girl_23 : decode cX11_girl 23 = .ok (.iload_n 2, 1) := by decide +kernel
theorem dX11_girl_24 : decode cX11_girl 24 = .ok (.iconst (-1), 1) := by decide +kernel
theorem dX11_girl_25 : decode cX11_girl 25 = .ok (.if_icmp .ne 13, 3) := by decide +kernel
theorem dX11_girl_28 : decode cX11_girl 28 = .ok (.aload_n 3, 1) := by decide +kernel
theorem dX11_girl_29 : decode cX11_girl 29 = .ok (.getfield 146, 3) := by decide +kernel
theorem dX11_girl_32 : decode cX11_girl 32 = .ok (.ifCond .ne 6, 3) := by decide +kernel
theorem dX11_girl_35 : decode cX11_girl 35 = .ok (.ldc 128, 2) := by decide +kernel
theorem dX11_girl_37 : decode cX11_girl 37 = .ok (.ireturn, 1) := by decide +kernel
theorem dX11_girl_38 : decode cX11_girl 38 = .ok (.iload_n 2, 1) := by decide +kernel
theorem dX11_girl_39 : decode cX11_girl 39 = .ok (.iconst 1, 1) := by decide +kernel
theorem dX11_girl_40 : decode cX11_girl 40 = .ok (.if_icmp .ne 15, 3) := by decide +kernel
theorem dX11_girl_43 : decode cX11_girl 43 = .ok (.aload_n 3, 1) := by decide +kernel
theorem dX11_girl_44 : decode cX11_girl 44 = .ok (.getfield 146, 3) := by decide +kernel
theorem dX11_girl_47 : decode cX11_girl 47 = .ok (.bipush 9, 2) := by decide +kernel
theorem dX11_girl_49 : decode cX11_girl 49 = .ok (.if_icmp .lt 6, 3) := by decide +kernel
theorem dX11_girl_52 : decode cX11_girl 52 = .ok (.ldc 110, 2) := by decide +kernel
theorem dX11_girl_54 : decode cX11_girl 54 = .ok (.ireturn, 1) := by decide +kernel
theorem dX11_girl_55 : decode cX11_girl 55 = .ok (.aload_n 0, 1) := by decide +kernel
theorem dX11_girl_56 : decode cX11_girl 56 = .ok (.iconst 1, 1) := by decide +kernel
theorem dX11_girl_57 : decode cX11_girl 57 = .ok (.iload_n 1, 1) := by decide +kernel
theorem dX11_girl_58 : decode cX11_girl 58 = .ok (.aload_n 3, 1) := by decide +kernel
theorem dX11_girl_59 : decode cX11_girl 59 = .ok (.getfield 146, 3) := by decide +kernel
theorem dX11_girl_62 : decode cX11_girl 62 = .ok (.aload_n 3, 1) := by decide +kernel
theorem dX11_girl_63 : decode cX11_girl 63 = .ok (.getfield 146, 3) := by decide +kernel
theorem dX11_girl_66 : decode cX11_girl 66 = .ok (.iload_n 2, 1) := by decide +kernel
theorem dX11_girl_67 : decode cX11_girl 67 = .ok (.iadd, 1) := by decide +kernel
theorem dX11_girl_68 : decode cX11_girl 68 = .ok (.invokevirtual 142, 3) := by decide +kernel
theorem dX11_girl_71 : decode cX11_girl 71 = .ok (.aload_n 3, 1) := by decide +kernel
theorem dX11_girl_72 : decode cX11_girl 72 = .ok (.getfield 146, 3) := by decide +kernel
theorem dX11_girl_75 : decode cX11_girl 75 = .ok (.ireturn, 1) := by decide +kernel
set_option maxRecDepth 20000 in
theorem ggX11_slide_X11_stallAt : GoodIn wsX11_slide wsX11_stallAt := goodIn_r _ [10, 2, 11, 59, 60, 61, 62, 63, 64, 65, 66, 67, 68, 69, 70, 106, 107, 108, 109, 110, 111] (by decide +kernel) (by decide +kernel)
set_option maxRecDepth 20000 in
theorem gX11_slide_X11_stallAt : GoodIn wsX11_slide (wsV RX11 133 RX11 yX11_stallAt wsX11_stallAt) := goodIn_app (goodIn_of _ (by decide +kernel)) ggX11_slide_X11_stallAt
set_option maxRecDepth 20000 in
theorem ggX11_slide_X11_noPlace : GoodIn wsX11_slide wsX11_noPlace := goodIn_r _ [14] (by decide +kernel) (by decide +kernel)
set_option maxRecDepth 20000 in
theorem gX11_slide_X11_noPlace : GoodIn wsX11_slide (va_wsS RX11 149 yX11_noPlace wsX11_noPlace) := goodIn_app (goodIn_of _ (by decide +kernel)) ggX11_slide_X11_noPlace
set_option maxRecDepth 20000 in
theorem ggX11_slide_X3_standing : GoodIn wsX11_slide wsX3_standing := goodIn_r _ [19, 20, 21, 22, 106, 107, 108, 109, 110, 111, 71, 72, 73, 74, 75, 76, 77, 78, 79, 80, 81, 82, 83, 84, 85, 86, 87, 88, 89, 90, 91, 92, 93, 94, 95, 96, 97, 98, 99, 100, 101, 102, 103, 104, 105] (by decide +kernel) (by decide +kernel)
set_option maxRecDepth 20000 in
theorem gX11_slide_X3_standing : GoodIn wsX11_slide (wsV RX11 156 RX3 yX3_standing wsX3_standing) := goodIn_app (goodIn_of _ (by decide +kernel)) ggX11_slide_X3_standing
set_option maxRecDepth 20000 in
theorem ggX11_slide_X11_act : GoodIn wsX11_slide wsX11_act := goodIn_r _ [26, 27, 28, 29, 30, 2, 31, 32, 33, 9, 34, 35, 36, 37, 38, 39, 40, 41, 18, 42, 43, 44, 20, 45, 46, 47, 48, 49, 50, 51, 52, 53, 54, 55, 56, 57, 58, 59, 60, 61, 62, 63, 64, 65, 66, 67, 68, 69, 70, 106, 107, 108, 109, 110, 111, 71, 72, 73, 74, 75, 76, 77, 78, 79, 80, 81, 82, 83, 84, 85, 86, 87, 88, 89, 90, 91, 92, 93, 94, 95, 96, 97, 98, 99, 100, 101, 102, 103, 104, 105] (by decide +kernel) (by decide +kernel)
set_option maxRecDepth 20000 in
theorem gX11_slide_X11_act : GoodIn wsX11_slide (wsV RX11 142 RX11 yX11_act wsX11_act) := goodIn_app (goodIn_of _ (by decide +kernel)) ggX11_slide_X11_act
theorem dX11_slide_0 : decode cX11_slide 0 = .ok (.aload_n 0, 1) := by decide +kernel
theorem dX11_slide_1 : decode cX11_slide 1 = .ok (.iload_n 1, 1) := by decide +kernel
theorem dX11_slide_2 : decode cX11_slide 2 = .ok (.invokevirtual 133, 3) := by decide +kernel
theorem dX11_slide_5 : decode cX11_slide 5 = .ok (.astore_n 3, 1) := by decide +kernel
theorem dX11_slide_6 : decode cX11_slide 6 = .ok (.aload_n 3, 1) := by decide +kernel
theorem dX11_slide_7 : decode cX11_slide 7 = .ok (.ifnull 10, 3) := by decide +kernel
theorem dX11_slide_10 : decode cX11_slide 10 = .ok (.iload_n 2, 1) := by decide +kernel
theorem dX11_slide_11 : decode cX11_slide 11 = .ok (.invokestatic 149, 3) := by decide +kernel
theorem dX11_slide_14 : decode cX11_slide 14 = .ok (.ifCond .eq 6, 3) := by decide +kernel
theorem dX11_slide_17 : decode cX11_slide 17 = .ok (.ldc 70, 2) := by decide +kernel
theorem dX11_slide_19 : decode cX11_slide 19 = .ok (.ireturn, 1) := by decide +kernel
theorem dX11_slide_20 : decode cX11_slide 20 = .ok (.aload_n 0, 1) := by decide +kernel
theorem dX11_slide_21 : decode cX11_slide 21 = .ok (.getfield 55, 3) := by decide +kernel
theorem dX11_slide_24 : decode cX11_slide 24 = .ok (.aload_n 3, 1) := by decide +kernel
theorem dX11_slide_25 : decode cX11_slide 25 = .ok (.getfield 153, 3) := by decide +kernel
theorem dX11_slide_28 : decode cX11_slide 28 = .ok (.iload_n 2, 1) := by decide +kernel
theorem dX11_slide_29 : decode cX11_slide 29 = .ok (.invokevirtual 156, 3) := by decide +kernel
theorem dX11_slide_32 : decode cX11_slide 32 = .ok (.ifnull 6, 3) := by decide +kernel
theorem dX11_slide_35 : decode cX11_slide 35 = .ok (.ldc 128, 2) := by decide +kernel
theorem dX11_slide_37 : decode cX11_slide 37 = .ok (.ireturn, 1) := by decide +kernel
theorem dX11_slide_38 : decode cX11_slide 38 = .ok (.aload_n 3, 1) := by decide +kernel
theorem dX11_slide_39 : decode cX11_slide 39 = .ok (.getfield 160, 3) := by decide +kernel
theorem dX11_slide_42 : decode cX11_slide 42 = .ok (.istore 4, 2) := by decide +kernel
theorem dX11_slide_44 : decode cX11_slide 44 = .ok (.aload_n 0, 1) := by decide +kernel
theorem dX11_slide_45 : decode cX11_slide 45 = .ok (.iconst 2, 1) := by decide +kernel
theorem dX11_slide_46 : decode cX11_slide 46 = .ok (.iload_n 1, 1) := by decide +kernel
theorem dX11_slide_47 : decode cX11_slide 47 = .ok (.iload 4, 2) := by decide +kernel
theorem dX11_slide_49 : decode cX11_slide 49 = .ok (.iload_n 2, 1) := by decide +kernel
theorem dX11_slide_50 : decode cX11_slide 50 = .ok (.invokevirtual 142, 3) := by decide +kernel
theorem dX11_slide_53 : decode cX11_slide 53 = .ok (.iload 4, 2) := by decide +kernel
theorem dX11_slide_55 : decode cX11_slide 55 = .ok (.ireturn, 1) := by decide +kernel
set_option maxRecDepth 20000 in
theorem ggX11_unload_X11_stallAt : GoodIn wsX11_unload wsX11_stallAt := goodIn_r _ [8, 9, 10, 132, 133, 134, 135, 136, 137, 138, 139, 140, 141, 142, 143, 144, 145, 146, 147, 148, 149] (by decide +kernel) (by decide +kernel)
set_option maxRecDepth 20000 in
theorem gX11_unload_X11_stallAt : GoodIn wsX11_unload (wsV RX11 133 RX11 yX11_stallAt wsX11_stallAt) := goodIn_app (goodIn_of _ (by decide +kernel)) ggX11_unload_X11_stallAt
set_option maxRecDepth 20000 in
theorem ggX11_unload_X11_act : GoodIn wsX11_unload wsX11_act := goodIn_r _ [14, 15, 16, 17, 18, 9, 19, 20, 21, 7, 22, 23, 24, 25, 26, 27, 28, 29, 30, 31, 32, 33, 34, 35, 36, 37, 38, 39, 40, 41, 42, 43, 44, 45, 46, 47, 48, 132, 133, 134, 135, 136, 137, 138, 139, 140, 141, 142, 143, 144, 145, 146, 147, 148, 149, 97, 98, 99, 100, 101, 102, 103, 104, 105, 106, 107, 108, 109, 110, 111, 112, 113, 114, 115, 116, 117, 118, 119, 120, 121, 122, 123, 124, 125, 126, 127, 128, 129, 130, 131] (by decide +kernel) (by decide +kernel)
set_option maxRecDepth 20000 in
theorem gX11_unload_X11_act : GoodIn wsX11_unload (wsV RX11 142 RX11 yX11_act wsX11_act) := goodIn_app (goodIn_of _ (by decide +kernel)) ggX11_unload_X11_act
set_option maxRecDepth 20000 in
theorem ggX11_unload_X6_weight : GoodIn wsX11_unload wsX6_weight := goodIn_r _ [53, 44, 42, 54, 55, 56, 57, 58, 59, 60, 61, 62, 63, 64, 65, 66, 67, 68, 69, 70, 71, 39, 72, 73, 74, 75, 76, 77, 78, 79, 80, 81, 82, 83, 84, 41, 85, 86, 87, 88, 89, 90, 91, 92, 97, 98, 99, 100, 101, 102, 103, 104, 105, 106, 107, 108, 109, 110, 111, 112, 113, 114, 115, 116, 117, 118, 119, 120, 121, 122, 123, 124, 125, 126, 127, 128, 129, 130, 131] (by decide +kernel) (by decide +kernel)
set_option maxRecDepth 20000 in
theorem gX11_unload_X6_weight_u167X0 : GoodIn wsX11_unload (va_wsU RX11 167 RX0 "HungStalls$Stall" ⟨"HungStalls$Stall", "weight", "()I"⟩ yX6_weight wsX6_weight) := goodIn_app (goodIn_of _ (by decide +kernel)) ggX11_unload_X6_weight
set_option maxRecDepth 20000 in
theorem gX11_unload_X6_weight_u167X2 : GoodIn wsX11_unload (va_wsU RX11 167 RX2 "HungStalls$Stall" ⟨"HungStalls$Stall", "weight", "()I"⟩ yX6_weight wsX6_weight) := goodIn_app (goodIn_of _ (by decide +kernel)) ggX11_unload_X6_weight
set_option maxRecDepth 20000 in
theorem gX11_unload_X6_weight_u167X4 : GoodIn wsX11_unload (va_wsU RX11 167 RX4 "HungStalls$Stall" ⟨"HungStalls$Stall", "weight", "()I"⟩ yX6_weight wsX6_weight) := goodIn_app (goodIn_of _ (by decide +kernel)) ggX11_unload_X6_weight
set_option maxRecDepth 20000 in
theorem gX11_unload_X6_weight_u167X7 : GoodIn wsX11_unload (va_wsU RX11 167 RX7 "HungStalls$Stall" ⟨"HungStalls$Stall", "weight", "()I"⟩ yX6_weight wsX6_weight) := goodIn_app (goodIn_of _ (by decide +kernel)) ggX11_unload_X6_weight
set_option maxRecDepth 20000 in
theorem gX11_unload_X6_weight_u167X10 : GoodIn wsX11_unload (va_wsU RX11 167 RX10 "HungStalls$Stall" ⟨"HungStalls$Stall", "weight", "()I"⟩ yX6_weight wsX6_weight) := goodIn_app (goodIn_of _ (by decide +kernel)) ggX11_unload_X6_weight
theorem dX11_unload_0 : decode cX11_unload 0 = .ok (.aload_n 0, 1) := by decide +kernel
theorem dX11_unload_1 : decode cX11_unload 1 = .ok (.iload_n 1, 1) := by decide +kernel
theorem dX11_unload_2 : decode cX11_unload 2 = .ok (.invokevirtual 133, 3) := by decide +kernel
theorem dX11_unload_5 : decode cX11_unload 5 = .ok (.astore_n 3, 1) := by decide +kernel
theorem dX11_unload_6 : decode cX11_unload 6 = .ok (.aload_n 3, 1) := by decide +kernel
theorem dX11_unload_7 : decode cX11_unload 7 = .ok (.ifnull 12, 3) := by decide +kernel
theorem dX11_unload_10 : decode cX11_unload 10 = .ok (.iload_n 2, 1) := by decide +kernel
theorem dX11_unload_11 : decode cX11_unload 11 = .ok (.ifCond .eq 11, 3) := by decide +kernel
theorem dX11_unload_14 : decode cX11_unload 14 = .ok (.iload_n 2, 1) := by decide +kernel
theorem dX11_unload_15 : decode cX11_unload 15 = .ok (.iconst 1, 1) := by decide +kernel
theorem dX11_unload_16 : decode cX11_unload 16 = .ok (.if_icmp .eq 6, 3) := by decide +kernel
theorem dX11_unload_19 : decode cX11_unload 19 = .ok (.ldc 70, 2) := by decide +kernel
theorem dX11_unload_21 : decode cX11_unload 21 = .ok (.ireturn, 1) := by decide +kernel
theorem dX11_unload_22 : decode cX11_unload 22 = .ok (.aload_n 3, 1) := by decide +kernel
theorem dX11_unload_23 : decode cX11_unload 23 = .ok (.getfield 163, 3) := by decide +kernel
theorem dX11_unload_26 : decode cX11_unload 26 = .ok (.iload_n 2, 1) := by decide +kernel
theorem dX11_unload_27 : decode cX11_unload 27 = .ok (.iconst 1, 1) := by decide +kernel
theorem dX11_unload_28 : decode cX11_unload 28 = .ok (.if_icmp .ne 7, 3) := by decide +kernel
theorem dX11_unload_31 : decode cX11_unload 31 = .ok (.iconst 1, 1) := by decide +kernel
theorem dX11_unload_32 : decode cX11_unload 32 = .ok (.goto 4, 3) := by decide +kernel
theorem dX11_unload_35 : decode cX11_unload 35 = .ok (.iconst 0, 1) := by decide +kernel
theorem dX11_unload_36 : decode cX11_unload 36 = .ok (.if_icmp .ne 6, 3) := by decide +kernel
theorem dX11_unload_39 : decode cX11_unload 39 = .ok (.ldc 128, 2) := by decide +kernel
theorem dX11_unload_41 : decode cX11_unload 41 = .ok (.ireturn, 1) := by decide +kernel
theorem dX11_unload_42 : decode cX11_unload 42 = .ok (.aload_n 0, 1) := by decide +kernel
theorem dX11_unload_43 : decode cX11_unload 43 = .ok (.iconst 3, 1) := by decide +kernel
theorem dX11_unload_44 : decode cX11_unload 44 = .ok (.iload_n 1, 1) := by decide +kernel
theorem dX11_unload_45 : decode cX11_unload 45 = .ok (.iconst 1, 1) := by decide +kernel
theorem dX11_unload_46 : decode cX11_unload 46 = .ok (.iload_n 2, 1) := by decide +kernel
theorem dX11_unload_47 : decode cX11_unload 47 = .ok (.isub, 1) := by decide +kernel
theorem dX11_unload_48 : decode cX11_unload 48 = .ok (.iload_n 2, 1) := by decide +kernel
theorem dX11_unload_49 : decode cX11_unload 49 = .ok (.invokevirtual 142, 3) := by decide +kernel
theorem dX11_unload_52 : decode cX11_unload 52 = .ok (.aload_n 3, 1) := by decide +kernel
theorem dX11_unload_53 : decode cX11_unload 53 = .ok (.invokevirtual 167, 3) := by decide +kernel
theorem dX11_unload_56 : decode cX11_unload 56 = .ok (.ireturn, 1) := by decide +kernel
set_option maxRecDepth 20000 in
theorem ggX11_rain_X11_noMarket : GoodIn wsX11_rain wsX11_noMarket := goodIn_r _ [9, 2, 10, 49, 50, 51, 52, 53, 54, 55, 56, 57, 58, 59, 60, 61, 62, 63, 64, 65, 66] (by decide +kernel) (by decide +kernel)
set_option maxRecDepth 20000 in
theorem gX11_rain_X11_noMarket : GoodIn wsX11_rain (wsV RX11 171 RX11 yX11_noMarket wsX11_noMarket) := goodIn_app (goodIn_of _ (by decide +kernel)) ggX11_rain_X11_noMarket
set_option maxRecDepth 20000 in
theorem ggX11_rain_X11_act : GoodIn wsX11_rain wsX11_act := goodIn_r _ [14, 15, 16, 17, 18, 2, 19, 20, 21, 8, 22, 23, 24, 25, 26, 27, 28, 29, 30, 31, 32, 33, 34, 35, 36, 37, 38, 39, 40, 41, 42, 43, 44, 45, 46, 47, 48, 49, 50, 51, 52, 53, 54, 55, 56, 57, 58, 59, 60, 61, 62, 63, 64, 65, 66, 67, 68, 69, 70, 71, 72, 73, 74, 75, 76, 77, 78, 79, 80, 81, 82, 83, 84, 85, 86, 87, 88, 89, 90, 91, 92, 93, 94, 95, 96, 97, 98, 99, 100, 101] (by decide +kernel) (by decide +kernel)
set_option maxRecDepth 20000 in
theorem gX11_rain_X11_act : GoodIn wsX11_rain (wsV RX11 142 RX11 yX11_act wsX11_act) := goodIn_app (goodIn_of _ (by decide +kernel)) ggX11_rain_X11_act
theorem dX11_rain_0 : decode cX11_rain 0 = .ok (.aload_n 0, 1) := by decide +kernel
theorem dX11_rain_1 : decode cX11_rain 1 = .ok (.invokevirtual 171, 3) := by decide +kernel
theorem dX11_rain_4 : decode cX11_rain 4 = .ok (.ifCond .eq 6, 3) := by decide +kernel
theorem dX11_rain_7 : decode cX11_rain 7 = .ok (.ldc 128, 2) := by decide +kernel
theorem dX11_rain_9 : decode cX11_rain 9 = .ok (.ireturn, 1) := by decide +kernel
theorem dX11_rain_10 : decode cX11_rain 10 = .ok (.aload_n 0, 1) := by decide +kernel
theorem dX11_rain_11 : decode cX11_rain 11 = .ok (.getfield 55, 3) := by decide +kernel
theorem dX11_rain_14 : decode cX11_rain 14 = .ok (.getfield 174, 3) := by decide +kernel
theorem dX11_rain_17 : decode cX11_rain 17 = .ok (.bipush 99, 2) := by decide +kernel
theorem dX11_rain_19 : decode cX11_rain 19 = .ok (.if_icmp .lt 6, 3) := by decide +kernel
theorem dX11_rain_22 : decode cX11_rain 22 = .ok (.ldc 110, 2) := by decide +kernel
theorem dX11_rain_24 : decode cX11_rain 24 = .ok (.ireturn, 1) := by decide +kernel
theorem dX11_rain_25 : decode cX11_rain 25 = .ok (.aload_n 0, 1) := by decide +kernel
theorem dX11_rain_26 : decode cX11_rain 26 = .ok (.iconst 4, 1) := by decide +kernel
theorem dX11_rain_27 : decode cX11_rain 27 = .ok (.iconst 0, 1) := by decide +kernel
theorem dX11_rain_28 : decode cX11_rain 28 = .ok (.aload_n 0, 1) := by decide +kernel
theorem dX11_rain_29 : decode cX11_rain 29 = .ok (.getfield 55, 3) := by decide +kernel
theorem dX11_rain_32 : decode cX11_rain 32 = .ok (.getfield 174, 3) := by decide +kernel
theorem dX11_rain_35 : decode cX11_rain 35 = .ok (.aload_n 0, 1) := by decide +kernel
theorem dX11_rain_36 : decode cX11_rain 36 = .ok (.getfield 55, 3) := by decide +kernel
theorem dX11_rain_39 : decode cX11_rain 39 = .ok (.getfield 174, 3) := by decide +kernel
theorem dX11_rain_42 : decode cX11_rain 42 = .ok (.iconst 1, 1) := by decide +kernel
theorem dX11_rain_43 : decode cX11_rain 43 = .ok (.iadd, 1) := by decide +kernel
theorem dX11_rain_44 : decode cX11_rain 44 = .ok (.invokevirtual 142, 3) := by decide +kernel
theorem dX11_rain_47 : decode cX11_rain 47 = .ok (.aload_n 0, 1) := by decide +kernel
theorem dX11_rain_48 : decode cX11_rain 48 = .ok (.getfield 55, 3) := by decide +kernel
theorem dX11_rain_51 : decode cX11_rain 51 = .ok (.getfield 174, 3) := by decide +kernel
theorem dX11_rain_54 : decode cX11_rain 54 = .ok (.ireturn, 1) := by decide +kernel
set_option maxRecDepth 20000 in
theorem ggX11_cut_X11_noRope : GoodIn wsX11_cut wsX11_noRope := goodIn_r _ [9, 2, 10, 49, 50, 51, 52, 53, 54, 55, 56, 57, 58, 59, 60, 61, 62, 63, 64, 65, 66] (by decide +kernel) (by decide +kernel)
set_option maxRecDepth 20000 in
theorem gX11_cut_X11_noRope : GoodIn wsX11_cut (wsV RX11 177 RX11 yX11_noRope wsX11_noRope) := goodIn_app (goodIn_of _ (by decide +kernel)) ggX11_cut_X11_noRope
set_option maxRecDepth 20000 in
theorem ggX11_cut_X11_act : GoodIn wsX11_cut wsX11_act := goodIn_r _ [14, 15, 16, 17, 18, 2, 19, 20, 21, 8, 22, 23, 24, 25, 26, 27, 28, 29, 30, 31, 32, 33, 34, 35, 36, 37, 38, 39, 40, 41, 42, 43, 44, 45, 46, 47, 48, 49, 50, 51, 52, 53, 54, 55, 56, 57, 58, 59, 60, 61, 62, 63, 64, 65, 66, 67, 68, 69, 70, 71, 72, 73, 74, 75, 76, 77, 78, 79, 80, 81, 82, 83, 84, 85, 86, 87, 88, 89, 90, 91, 92, 93, 94, 95, 96, 97, 98, 99, 100, 101] (by decide +kernel) (by decide +kernel)
set_option maxRecDepth 20000 in
theorem gX11_cut_X11_act : GoodIn wsX11_cut (wsV RX11 142 RX11 yX11_act wsX11_act) := goodIn_app (goodIn_of _ (by decide +kernel)) ggX11_cut_X11_act
theorem dX11_cut_0 : decode cX11_cut 0 = .ok (.aload_n 0, 1) := by decide +kernel
theorem dX11_cut_1 : decode cX11_cut 1 = .ok (.iload_n 1, 1) := by decide +kernel
theorem dX11_cut_2 : decode cX11_cut 2 = .ok (.invokevirtual 177, 3) := by decide +kernel
theorem dX11_cut_5 : decode cX11_cut 5 = .ok (.ifCond .eq 6, 3) := by decide +kernel
theorem dX11_cut_8 : decode cX11_cut 8 = .ok (.ldc 70, 2) := by decide +kernel
theorem dX11_cut_10 : decode cX11_cut 10 = .ok (.ireturn, 1) := by decide +kernel
theorem dX11_cut_11 : decode cX11_cut 11 = .ok (.aload_n 0, 1) := by decide +kernel
theorem dX11_cut_12 : decode cX11_cut 12 = .ok (.getfield 55, 3) := by decide +kernel
theorem dX11_cut_15 : decode cX11_cut 15 = .ok (.getfield 180, 3) := by decide +kernel
theorem dX11_cut_18 : decode cX11_cut 18 = .ok (.iload_n 1, 1) := by decide +kernel
theorem dX11_cut_19 : decode cX11_cut 19 = .ok (.iaload, 1) := by decide +kernel
theorem dX11_cut_20 : decode cX11_cut 20 = .ok (.istore_n 2, 1) := by decide +kernel
theorem dX11_cut_21 : decode cX11_cut 21 = .ok (.iload_n 2, 1) := by decide +kernel
theorem dX11_cut_22 : decode cX11_cut 22 = .ok (.iconst 1, 1) := by decide +kernel
theorem dX11_cut_23 : decode cX11_cut 23 = .ok (.if_icmp .gt 6, 3) := by decide +kernel
theorem dX11_cut_26 : decode cX11_cut 26 = .ok (.ldc 128, 2) := by decide +kernel
theorem dX11_cut_28 : decode cX11_cut 28 = .ok (.ireturn, 1) := by decide +kernel
theorem dX11_cut_29 : decode cX11_cut 29 = .ok (.aload_n 0, 1) := by decide +kernel
theorem dX11_cut_30 : decode cX11_cut 30 = .ok (.iconst 5, 1) := by decide +kernel
theorem dX11_cut_31 : decode cX11_cut 31 = .ok (.iload_n 1, 1) := by decide +kernel
theorem dX11_cut_32 : decode cX11_cut 32 = .ok (.iload_n 2, 1) := by decide +kernel
theorem dX11_cut_33 : decode cX11_cut 33 = .ok (.iload_n 2, 1) := by decide +kernel
theorem dX11_cut_34 : decode cX11_cut 34 = .ok (.iconst 1, 1) := by decide +kernel
theorem dX11_cut_35 : decode cX11_cut 35 = .ok (.isub, 1) := by decide +kernel
theorem dX11_cut_36 : decode cX11_cut 36 = .ok (.invokevirtual 142, 3) := by decide +kernel
theorem dX11_cut_39 : decode cX11_cut 39 = .ok (.iload_n 2, 1) := by decide +kernel
theorem dX11_cut_40 : decode cX11_cut 40 = .ok (.iconst 1, 1) := by decide +kernel
theorem dX11_cut_41 : decode cX11_cut 41 = .ok (.isub, 1) := by decide +kernel
theorem dX11_cut_42 : decode cX11_cut 42 = .ok (.ireturn, 1) := by decide +kernel
set_option maxRecDepth 20000 in
theorem ggX11_stall_X11_stallAt : GoodIn wsX11_stall wsX11_stallAt := goodIn_r _ [13, 8, 14, 130, 131, 132, 133, 134, 135, 136, 137, 138, 139, 140, 141, 142, 143, 144, 145, 146, 147] (by decide +kernel) (by decide +kernel)
set_option maxRecDepth 20000 in
theorem gX11_stall_X11_stallAt : GoodIn wsX11_stall (wsV RX11 133 RX11 yX11_stallAt wsX11_stallAt) := goodIn_app (goodIn_of _ (by decide +kernel)) ggX11_stall_X11_stallAt
set_option maxRecDepth 20000 in
theorem ggX11_stall_X6_weight : GoodIn wsX11_stall wsX6_weight := goodIn_r _ [20, 21, 22, 23, 24, 25, 26, 27, 28, 29, 30, 31, 32, 33, 34, 35, 36, 37, 38, 39, 40, 19, 41, 42, 43, 44, 45, 46, 47, 48, 49, 50, 51, 52, 53, 54, 55, 56, 57, 58, 59, 60, 61, 62, 95, 96, 97, 98, 99, 100, 101, 102, 103, 104, 105, 106, 107, 108, 109, 110, 111, 112, 113, 114, 115, 116, 117, 118, 119, 120, 121, 122, 123, 124, 125, 126, 127, 128, 129] (by decide +kernel) (by decide +kernel)
set_option maxRecDepth 20000 in
theorem gX11_stall_X6_weight_u167X0 : GoodIn wsX11_stall (va_wsU RX11 167 RX0 "HungStalls$Stall" ⟨"HungStalls$Stall", "weight", "()I"⟩ yX6_weight wsX6_weight) := goodIn_app (goodIn_of _ (by decide +kernel)) ggX11_stall_X6_weight
set_option maxRecDepth 20000 in
theorem gX11_stall_X6_weight_u167X2 : GoodIn wsX11_stall (va_wsU RX11 167 RX2 "HungStalls$Stall" ⟨"HungStalls$Stall", "weight", "()I"⟩ yX6_weight wsX6_weight) := goodIn_app (goodIn_of _ (by decide +kernel)) ggX11_stall_X6_weight
set_option maxRecDepth 20000 in
theorem gX11_stall_X6_weight_u167X4 : GoodIn wsX11_stall (va_wsU RX11 167 RX4 "HungStalls$Stall" ⟨"HungStalls$Stall", "weight", "()I"⟩ yX6_weight wsX6_weight) := goodIn_app (goodIn_of _ (by decide +kernel)) ggX11_stall_X6_weight
set_option maxRecDepth 20000 in
theorem gX11_stall_X6_weight_u167X7 : GoodIn wsX11_stall (va_wsU RX11 167 RX7 "HungStalls$Stall" ⟨"HungStalls$Stall", "weight", "()I"⟩ yX6_weight wsX6_weight) := goodIn_app (goodIn_of _ (by decide +kernel)) ggX11_stall_X6_weight
set_option maxRecDepth 20000 in
theorem gX11_stall_X6_weight_u167X10 : GoodIn wsX11_stall (va_wsU RX11 167 RX10 "HungStalls$Stall" ⟨"HungStalls$Stall", "weight", "()I"⟩ yX6_weight wsX6_weight) := goodIn_app (goodIn_of _ (by decide +kernel)) ggX11_stall_X6_weight
set_option maxRecDepth 20000 in
theorem ggX11_stall_X3_depth : GoodIn wsX11_stall wsX3_depth := goodIn_r _ [71, 72, 73, 74, 70, 75, 76, 77, 78, 79, 80, 81, 82, 83, 84, 85, 86, 87, 88, 16, 17, 18, 19, 20, 21, 22, 23, 24, 25, 26, 27, 28, 29, 30, 31, 32, 33, 34, 35, 36, 37, 38, 39, 40, 41, 42, 43, 44, 45, 46, 47, 48, 49, 50, 51, 52, 53, 54, 55, 56, 57, 58, 59, 60, 61, 62, 63, 64, 65, 66, 142, 143, 144, 145, 146, 147, 95, 96, 97, 98, 99, 100, 101, 102, 103, 104, 105, 106, 107, 108, 109, 110, 111, 112, 113, 114, 115, 116, 117, 118, 119, 120, 121, 122, 123, 124, 125, 126, 127, 128, 129] (by decide +kernel) (by decide +kernel)
set_option maxRecDepth 20000 in
theorem gX11_stall_X3_depth : GoodIn wsX11_stall (wsV RX11 186 RX3 yX3_depth wsX3_depth) := goodIn_app (goodIn_of _ (by decide +kernel)) ggX11_stall_X3_depth
set_option maxRecDepth 20000 in
theorem ggX11_stall_X3_price : GoodIn wsX11_stall wsX3_price := goodIn_r _ [92, 93, 78, 79, 84, 85, 82, 86, 94, 68, 69, 70, 71, 72, 73, 74, 75, 76, 77, 80, 81, 83, 87, 88, 16, 17, 18, 19, 20, 21, 22, 23, 24, 25, 26, 27, 28, 29, 30, 31, 32, 33, 34, 35, 36, 37, 38, 39, 40, 41, 42, 43, 44, 45, 46, 47, 48, 49, 50, 51, 52, 53, 54, 55, 56, 57, 58, 59, 60, 61, 62, 63, 64, 65, 66, 95, 96, 97, 98, 99, 100, 101, 102, 103, 104, 105, 106, 107, 108, 109, 110, 111, 112, 113, 114, 115, 116, 117, 118, 119, 120, 121, 122, 123, 124, 125, 126, 127, 128, 129, 142, 143, 144, 145, 146, 147] (by decide +kernel) (by decide +kernel)
set_option maxRecDepth 20000 in
theorem gX11_stall_X3_price : GoodIn wsX11_stall (wsV RX11 190 RX3 yX3_price wsX3_price) := goodIn_app (goodIn_of _ (by decide +kernel)) ggX11_stall_X3_price
theorem dX11_stall_0 : decode cX11_stall 0 = .ok (.aload_n 0, 1) := by decide +kernel
theorem dX11_stall_1 : decode cX11_stall 1 = .ok (.iload_n 1, 1) := by decide +kernel
theorem dX11_stall_2 : decode cX11_stall 2 = .ok (.invokevirtual 133, 3) := by decide +kernel
theorem dX11_stall_5 : decode cX11_stall 5 = .ok (.astore_n 3, 1) := by decide +kernel
theorem dX11_stall_6 : decode cX11_stall 6 = .ok (.aload_n 3, 1) := by decide +kernel
theorem dX11_stall_7 : decode cX11_stall 7 = .ok (.ifnonnull 6, 3) := by decide +kernel
theorem dX11_stall_10 : decode cX11_stall 10 = .ok (.ldc 70, 2) := by decide +kernel
theorem dX11_stall_12 : decode cX11_stall 12 = .ok (.ireturn, 1) := by decide +kernel
theorem dX11_stall_13 : decode cX11_stall 13 = .ok (.iload_n 2, 1) := by decide +kernel
theorem dX11_stall_14 : decode cX11_stall 14 = .ok (.tableswitch 118 0 8 #[50, 55, 60, 65, 70, 75, 88, 93, 109], 50) := by decide +kernel
theorem dX11_stall_64 : decode cX11_stall 64 = .ok (.aload_n 3, 1) := by decide +kernel
theorem dX11_stall_65 : decode cX11_stall 65 = .ok (.getfield 153, 3) := by decide +kernel
theorem dX11_stall_68 : decode cX11_stall 68 = .ok (.ireturn, 1) := by decide +kernel
theorem dX11_stall_69 : decode cX11_stall 69 = .ok (.aload_n 3, 1) := by decide +kernel
theorem dX11_stall_70 : decode cX11_stall 70 = .ok (.getfield 160, 3) := by decide +kernel
theorem dX11_stall_73 : decode cX11_stall 73 = .ok (.ireturn, 1) := by decide +kernel
theorem dX11_stall_74 : decode cX11_stall 74 = .ok (.aload_n 3, 1) := by decide +kernel
theorem dX11_stall_75 : decode cX11_stall 75 = .ok (.getfield 183, 3) := by decide +kernel
theorem dX11_stall_78 : decode cX11_stall 78 = .ok (.ireturn, 1) := by decide +kernel
theorem dX11_stall_79 : decode cX11_stall 79 = .ok (.aload_n 3, 1) := by decide +kernel
theorem dX11_stall_80 : decode cX11_stall 80 = .ok (.getfield 137, 3) := by decide +kernel
theorem dX11_stall_83 : decode cX11_stall 83 = .ok (.ireturn, 1) := by decide +kernel
theorem dX11_stall_84 : decode cX11_stall 84 = .ok (.aload_n 3, 1) := by decide +kernel
theorem dX11_stall_85 : decode cX11_stall 85 = .ok (.getfield 146, 3) := by decide +kernel
theorem dX11_stall_88 : decode cX11_stall 88 = .ok (.ireturn, 1) := by decide +kernel
theorem dX11_stall_89 : decode cX11_stall 89 = .ok (.aload_n 3, 1) := by decide +kernel
theorem dX11_stall_90 : decode cX11_stall 90 = .ok (.getfield 163, 3) := by decide +kernel
theorem dX11_stall_93 : decode cX11_stall 93 = .ok (.ifCond .eq 7, 3) := by decide +kernel
theorem dX11_stall_96 : decode cX11_stall 96 = .ok (.iconst 1, 1) := by decide +kernel
theorem dX11_stall_97 : decode cX11_stall 97 = .ok (.goto 4, 3) := by decide +kernel
theorem dX11_stall_100 : decode cX11_stall 100 = .ok (.iconst 0, 1) := by decide +kernel
theorem dX11_stall_101 : decode cX11_stall 101 = .ok (.ireturn, 1) := by decide +kernel
theorem dX11_stall_102 : decode cX11_stall 102 = .ok (.aload_n 3, 1) := by decide +kernel
theorem dX11_stall_103 : decode cX11_stall 103 = .ok (.invokevirtual 167, 3) := by decide +kernel
theorem dX11_stall_106 : decode cX11_stall 106 = .ok (.ireturn, 1) := by decide +kernel
theorem dX11_stall_107 : decode cX11_stall 107 = .ok (.aload_n 0, 1) := by decide +kernel
theorem dX11_stall_108 : decode cX11_stall 108 = .ok (.getfield 55, 3) := by decide +kernel
theorem dX11_stall_111 : decode cX11_stall 111 = .ok (.aload_n 3, 1) := by decide +kernel
theorem dX11_stall_112 : decode cX11_stall 112 = .ok (.getfield 153, 3) := by decide +kernel
theorem dX11_stall_115 : decode cX11_stall 115 = .ok (.aload_n 3, 1) := by decide +kernel
theorem dX11_stall_116 : decode cX11_stall 116 = .ok (.getfield 160, 3) := by decide +kernel
theorem dX11_stall_119 : decode cX11_stall 119 = .ok (.invokevirtual 186, 3) := by decide +kernel
theorem dX11_stall_122 : decode cX11_stall 122 = .ok (.ireturn, 1) := by decide +kernel
theorem dX11_stall_123 : decode cX11_stall 123 = .ok (.aload_n 0, 1) := by decide +kernel
theorem dX11_stall_124 : decode cX11_stall 124 = .ok (.getfield 55, 3) := by decide +kernel
theorem dX11_stall_127 : decode cX11_stall 127 = .ok (.aload_n 3, 1) := by decide +kernel
theorem dX11_stall_128 : decode cX11_stall 128 = .ok (.invokevirtual 190, 3) := by decide +kernel
theorem dX11_stall_131 : decode cX11_stall 131 = .ok (.ireturn, 1) := by decide +kernel
theorem dX11_stall_132 : decode cX11_stall 132 = .ok (.ldc 70, 2) := by decide +kernel
theorem dX11_stall_134 : decode cX11_stall 134 = .ok (.ireturn, 1) := by decide +kernel
set_option maxRecDepth 20000 in
theorem ggX11_rope_X11_noRope : GoodIn wsX11_rope wsX11_noRope := goodIn_r _ [8, 2, 9, 96, 97, 98, 99, 100, 101, 102, 103, 104, 105, 106, 107, 108, 109, 110, 111, 112, 113] (by decide +kernel) (by decide +kernel)
set_option maxRecDepth 20000 in
theorem gX11_rope_X11_noRope : GoodIn wsX11_rope (wsV RX11 177 RX11 yX11_noRope wsX11_noRope) := goodIn_app (goodIn_of _ (by decide +kernel)) ggX11_rope_X11_noRope
set_option maxRecDepth 20000 in
theorem ggX11_rope_X11_noPlace : GoodIn wsX11_rope wsX11_noPlace := goodIn_r _ [12] (by decide +kernel) (by decide +kernel)
set_option maxRecDepth 20000 in
theorem gX11_rope_X11_noPlace : GoodIn wsX11_rope (va_wsS RX11 149 yX11_noPlace wsX11_noPlace) := goodIn_app (goodIn_of _ (by decide +kernel)) ggX11_rope_X11_noPlace
set_option maxRecDepth 20000 in
theorem ggX11_rope_X3_sag : GoodIn wsX11_rope wsX3_sag := goodIn_r _ [17, 18, 19, 20, 21, 22, 23, 24, 25, 26, 27, 28, 29, 30, 31, 32, 33, 34, 35, 36, 37, 38, 39, 40, 41, 42, 43, 44, 45, 46, 47, 48, 49, 50, 51, 52, 53, 54, 55, 56, 57, 58, 59, 60, 61, 62, 63, 64, 65, 66, 67, 68, 69, 70, 71, 72, 73, 74, 75, 76, 77, 78, 79, 80, 81, 108, 109, 110, 111, 112, 113, 114, 115, 116, 117, 118, 119, 120, 121, 122, 123, 124, 125, 126, 127, 128, 129, 130, 131, 132, 133, 134, 135, 136, 137, 138, 139, 140, 141, 142, 143, 144, 145, 146, 147, 148] (by decide +kernel) (by decide +kernel)
set_option maxRecDepth 20000 in
theorem gX11_rope_X3_sag : GoodIn wsX11_rope (wsV RX11 194 RX3 yX3_sag wsX3_sag) := goodIn_app (goodIn_of _ (by decide +kernel)) ggX11_rope_X3_sag
set_option maxRecDepth 20000 in
theorem ggX11_rope_X3_depth : GoodIn wsX11_rope wsX3_depth := goodIn_r _ [85, 86, 14, 15, 16, 17, 18, 19, 20, 21, 22, 23, 24, 25, 26, 27, 28, 29, 30, 31, 32, 33, 34, 35, 36, 37, 38, 39, 40, 41, 42, 43, 44, 45, 46, 47, 48, 49, 50, 51, 52, 53, 54, 55, 56, 57, 58, 59, 60, 61, 62, 63, 64, 65, 66, 67, 68, 69, 70, 71, 72, 73, 74, 75, 76, 77, 78, 79, 80, 81, 108, 109, 110, 111, 112, 113, 114, 115, 116, 117, 118, 119, 120, 121, 122, 123, 124, 125, 126, 127, 128, 129, 130, 131, 132, 133, 134, 135, 136, 137, 138, 139, 140, 141, 142, 143, 144, 145, 146, 147, 148] (by decide +kernel) (by decide +kernel)
set_option maxRecDepth 20000 in
theorem gX11_rope_X3_depth : GoodIn wsX11_rope (wsV RX11 186 RX3 yX3_depth wsX3_depth) := goodIn_app (goodIn_of _ (by decide +kernel)) ggX11_rope_X3_depth
set_option maxRecDepth 20000 in
theorem ggX11_rope_X3_standing : GoodIn wsX11_rope wsX3_standing := goodIn_r _ [90, 19, 20, 21, 108, 109, 110, 111, 112, 113, 114, 115, 116, 117, 118, 119, 120, 121, 122, 123, 124, 125, 126, 127, 128, 129, 130, 131, 132, 133, 134, 135, 136, 137, 138, 139, 140, 141, 142, 143, 144, 145, 146, 147, 148] (by decide +kernel) (by decide +kernel)
set_option maxRecDepth 20000 in
theorem gX11_rope_X3_standing : GoodIn wsX11_rope (wsV RX11 156 RX3 yX3_standing wsX3_standing) := goodIn_app (goodIn_of _ (by decide +kernel)) ggX11_rope_X3_standing
set_option maxRecDepth 20000 in
theorem ggX11_rope_X11_numberOf : GoodIn wsX11_rope wsX11_numberOf := goodIn_r _ [93, 94, 95, 114, 115, 116, 117, 118, 119, 120, 121, 122, 123, 124, 125, 126, 127, 128, 129, 130, 131, 132, 133, 134, 135, 136, 137, 138, 139, 140, 141, 142, 143, 144, 145, 146, 147, 148] (by decide +kernel) (by decide +kernel)
set_option maxRecDepth 20000 in
theorem gX11_rope_X11_numberOf : GoodIn wsX11_rope (va_wsS RX11 197 yX11_numberOf wsX11_numberOf) := goodIn_app (goodIn_of _ (by decide +kernel)) ggX11_rope_X11_numberOf
theorem dX11_rope_0 : decode cX11_rope 0 = .ok (.aload_n 0, 1) := by decide +kernel
theorem dX11_rope_1 : decode cX11_rope 1 = .ok (.iload_n 1, 1) := by decide +kernel
theorem dX11_rope_2 : decode cX11_rope 2 = .ok (.invokevirtual 177, 3) := by decide +kernel
theorem dX11_rope_5 : decode cX11_rope 5 = .ok (.ifCond .ne 10, 3) := by decide +kernel
theorem dX11_rope_8 : decode cX11_rope 8 = .ok (.iload_n 2, 1) := by decide +kernel
theorem dX11_rope_9 : decode cX11_rope 9 = .ok (.invokestatic 149, 3) := by decide +kernel
theorem dX11_rope_12 : decode cX11_rope 12 = .ok (.ifCond .eq 6, 3) := by decide +kernel
theorem dX11_rope_15 : decode cX11_rope 15 = .ok (.ldc 70, 2) := by decide +kernel
theorem dX11_rope_17 : decode cX11_rope 17 = .ok (.ireturn, 1) := by decide +kernel
theorem dX11_rope_18 : decode cX11_rope 18 = .ok (.iload_n 3, 1) := by decide +kernel
theorem dX11_rope_19 : decode cX11_rope 19 = .ok (.tableswitch 72 0 3 #[29, 39, 49, 59], 29) := by decide +kernel
theorem dX11_rope_48 : decode cX11_rope 48 = .ok (.aload_n 0, 1) := by decide +kernel
theorem dX11_rope_49 : decode cX11_rope 49 = .ok (.getfield 55, 3) := by decide +kernel
theorem dX11_rope_52 : decode cX11_rope 52 = .ok (.iload_n 1, 1) := by decide +kernel
theorem dX11_rope_53 : decode cX11_rope 53 = .ok (.iload_n 2, 1) := by decide +kernel
theorem dX11_rope_54 : decode cX11_rope 54 = .ok (.invokevirtual 194, 3) := by decide +kernel
theorem dX11_rope_57 : decode cX11_rope 57 = .ok (.ireturn, 1) := by decide +kernel
theorem dX11_rope_58 : decode cX11_rope 58 = .ok (.aload_n 0, 1) := by decide +kernel
theorem dX11_rope_59 : decode cX11_rope 59 = .ok (.getfield 55, 3) := by decide +kernel
theorem dX11_rope_62 : decode cX11_rope 62 = .ok (.iload_n 1, 1) := by decide +kernel
theorem dX11_rope_63 : decode cX11_rope 63 = .ok (.iload_n 2, 1) := by decide +kernel
theorem dX11_rope_64 : decode cX11_rope 64 = .ok (.invokevirtual 186, 3) := by decide +kernel
theorem dX11_rope_67 : decode cX11_rope 67 = .ok (.ireturn, 1) := by decide +kernel
theorem dX11_rope_68 : decode cX11_rope 68 = .ok (.aload_n 0, 1) := by decide +kernel
theorem dX11_rope_69 : decode cX11_rope 69 = .ok (.getfield 55, 3) := by decide +kernel
theorem dX11_rope_72 : decode cX11_rope 72 = .ok (.getfield 180, 3) := by decide +kernel
theorem dX11_rope_75 : decode cX11_rope 75 = .ok (.iload_n 1, 1) := by decide +kernel
theorem dX11_rope_76 : decode cX11_rope 76 = .ok (.iaload, 1) := by decide +kernel
theorem dX11_rope_77 : decode cX11_rope 77 = .ok (.ireturn, 1) := by decide +kernel
theorem dX11_rope_78 : decode cX11_rope 78 = .ok (.aload_n 0, 1) := by decide +kernel
theorem dX11_rope_79 : decode cX11_rope 79 = .ok (.getfield 55, 3) := by decide +kernel
theorem dX11_rope_82 : decode cX11_rope 82 = .ok (.iload_n 1, 1) := by decide +kernel
theorem dX11_rope_83 : decode cX11_rope 83 = .ok (.iload_n 2, 1) := by decide +kernel
theorem dX11_rope_84 : decode cX11_rope 84 = .ok (.invokevirtual 156, 3) := by decide +kernel
theorem dX11_rope_87 : decode cX11_rope 87 = .ok (.invokestatic 197, 3) := by decide +kernel
theorem dX11_rope_90 : decode cX11_rope 90 = .ok (.ireturn, 1) := by decide +kernel
theorem dX11_rope_91 : decode cX11_rope 91 = .ok (.ldc 70, 2) := by decide +kernel
theorem dX11_rope_93 : decode cX11_rope 93 = .ok (.ireturn, 1) := by decide +kernel
set_option maxRecDepth 20000 in
theorem ggX11_drops_X11_noMarket : GoodIn wsX11_drops wsX11_noMarket := goodIn_r _ [7, 2, 8, 88, 89, 90, 91, 92, 93, 94, 95, 96, 97, 98, 99, 100, 101, 102, 103, 104, 105] (by decide +kernel) (by decide +kernel)
set_option maxRecDepth 20000 in
theorem gX11_drops_X11_noMarket : GoodIn wsX11_drops (wsV RX11 171 RX11 yX11_noMarket wsX11_noMarket) := goodIn_app (goodIn_of _ (by decide +kernel)) ggX11_drops_X11_noMarket
set_option maxRecDepth 20000 in
theorem ggX11_drops_X3_dropping : GoodIn wsX11_drops wsX3_dropping := goodIn_r _ [13, 14, 15, 16, 17, 18, 19, 20, 21, 12, 22, 23, 24, 25, 26, 27, 28, 29, 30, 31, 32, 33, 34, 35, 36, 37, 38, 39, 40, 41, 42, 43, 44, 45, 46, 47, 48, 49, 50, 51, 52, 53, 54, 55, 56, 57, 58, 59, 60, 61, 62, 63, 64, 65, 66, 67, 68, 69, 70, 71, 72, 73, 74, 75, 76, 77, 78, 79, 80, 81, 82, 83, 84, 85, 86, 87, 100, 101, 102, 103, 104, 105, 106, 107, 108, 109, 110, 111, 112, 113, 114, 115, 116, 117, 118, 119, 120, 121, 122, 123, 124, 125, 126, 127, 128, 129, 130, 131, 132, 133, 134, 135, 136, 137, 138, 139, 140] (by decide +kernel) (by decide +kernel)
set_option maxRecDepth 20000 in
theorem gX11_drops_X3_dropping : GoodIn wsX11_drops (wsV RX11 200 RX3 yX3_dropping wsX3_dropping) := goodIn_app (goodIn_of _ (by decide +kernel)) ggX11_drops_X3_dropping
theorem dX11_drops_0 : decode cX11_drops 0 = .ok (.aload_n 0, 1) := by decide +kernel
theorem dX11_drops_1 : decode cX11_drops 1 = .ok (.invokevirtual 171, 3) := by decide +kernel
theorem dX11_drops_4 : decode cX11_drops 4 = .ok (.ifCond .eq 8, 3) := by decide +kernel
theorem dX11_drops_7 : decode cX11_drops 7 = .ok (.ldc 128, 2) := by decide +kernel
theorem dX11_drops_9 : decode cX11_drops 9 = .ok (.goto 10, 3) := by decide +kernel
theorem dX11_drops_12 : decode cX11_drops 12 = .ok (.aload_n 0, 1) := by decide +kernel
theorem dX11_drops_13 : decode cX11_drops 13 = .ok (.getfield 55, 3) := by decide +kernel
theorem dX11_drops_16 : decode cX11_drops 16 = .ok (.invokevirtual 200, 3) := by decide +kernel
theorem dX11_drops_19 : decode cX11_drops 19 = .ok (.ireturn, 1) := by decide +kernel
set_option maxRecDepth 20000 in
theorem ggX11_walkway_X11_stallAt : GoodIn wsX11_walkway wsX11_stallAt := goodIn_r _ [7, 2, 8, 93, 94, 95, 96, 97, 98, 99, 100, 101, 102, 103, 104, 105, 106, 107, 108, 109, 110] (by decide +kernel) (by decide +kernel)
set_option maxRecDepth 20000 in
theorem gX11_walkway_X11_stallAt : GoodIn wsX11_walkway (wsV RX11 133 RX11 yX11_stallAt wsX11_stallAt) := goodIn_app (goodIn_of _ (by decide +kernel)) ggX11_walkway_X11_stallAt
set_option maxRecDepth 20000 in
theorem ggX11_walkway_X3_joins : GoodIn wsX11_walkway wsX3_joins := goodIn_r _ [13, 14, 15, 16, 17, 18, 19, 111, 112, 113, 114, 115, 116, 117, 118, 119, 120, 121, 122, 123, 124, 125, 126, 127, 128, 129, 130, 131, 132, 133, 134, 135, 136, 137, 138, 139, 140, 141, 142, 143, 144, 145] (by decide +kernel) (by decide +kernel)
set_option maxRecDepth 20000 in
theorem gX11_walkway_X3_joins : GoodIn wsX11_walkway (wsV RX11 203 RX3 yX3_joins wsX3_joins) := goodIn_app (goodIn_of _ (by decide +kernel)) ggX11_walkway_X3_joins
set_option maxRecDepth 20000 in
theorem ggX11_walkway_X3_meets : GoodIn wsX11_walkway wsX3_meets := goodIn_r _ [23, 14, 19, 15, 16, 17, 18, 24, 25, 26, 12, 27, 28, 29, 30, 31, 32, 33, 34, 35, 36, 37, 38, 39, 40, 41, 42, 43, 44, 45, 46, 47, 48, 49, 50, 51, 52, 53, 54, 55, 56, 57, 58, 59, 60, 61, 62, 63, 64, 65, 66, 67, 68, 69, 70, 71, 72, 73, 74, 75, 76, 77, 78, 79, 80, 81, 82, 83, 84, 85, 86, 87, 88, 89, 90, 91, 92, 111, 112, 113, 114, 115, 116, 117, 118, 119, 120, 121, 122, 123, 124, 125, 126, 127, 128, 129, 130, 131, 132, 133, 134, 135, 136, 137, 138, 139, 140, 141, 142, 143, 144, 145, 105, 106, 107, 108, 109, 110] (by decide +kernel) (by decide +kernel)
set_option maxRecDepth 20000 in
theorem gX11_walkway_X3_meets : GoodIn wsX11_walkway (wsV RX11 207 RX3 yX3_meets wsX3_meets) := goodIn_app (goodIn_of _ (by decide +kernel)) ggX11_walkway_X3_meets
theorem dX11_walkway_0 : decode cX11_walkway 0 = .ok (.aload_n 0, 1) := by decide +kernel
theorem dX11_walkway_1 : decode cX11_walkway 1 = .ok (.iload_n 1, 1) := by decide +kernel
theorem dX11_walkway_2 : decode cX11_walkway 2 = .ok (.invokevirtual 133, 3) := by decide +kernel
theorem dX11_walkway_5 : decode cX11_walkway 5 = .ok (.astore_n 3, 1) := by decide +kernel
theorem dX11_walkway_6 : decode cX11_walkway 6 = .ok (.aload_n 0, 1) := by decide +kernel
theorem dX11_walkway_7 : decode cX11_walkway 7 = .ok (.iload_n 2, 1) := by decide +kernel
theorem dX11_walkway_8 : decode cX11_walkway 8 = .ok (.invokevirtual 133, 3) := by decide +kernel
theorem dX11_walkway_11 : decode cX11_walkway 11 = .ok (.astore 4, 2) := by decide +kernel
theorem dX11_walkway_13 : decode cX11_walkway 13 = .ok (.aload_n 3, 1) := by decide +kernel
theorem dX11_walkway_14 : decode cX11_walkway 14 = .ok (.ifnull 13, 3) := by decide +kernel
theorem dX11_walkway_17 : decode cX11_walkway 17 = .ok (.aload 4, 2) := by decide +kernel
theorem dX11_walkway_19 : decode cX11_walkway 19 = .ok (.ifnull 8, 3) := by decide +kernel
theorem dX11_walkway_22 : decode cX11_walkway 22 = .ok (.iload_n 1, 1) := by decide +kernel
theorem dX11_walkway_23 : decode cX11_walkway 23 = .ok (.iload_n 2, 1) := by decide +kernel
theorem dX11_walkway_24 : decode cX11_walkway 24 = .ok (.if_icmp .ne 6, 3) := by decide +kernel
theorem dX11_walkway_27 : decode cX11_walkway 27 = .ok (.ldc 70, 2) := by decide +kernel
theorem dX11_walkway_29 : decode cX11_walkway 29 = .ok (.ireturn, 1) := by decide +kernel
theorem dX11_walkway_30 : decode cX11_walkway 30 = .ok (.aload_n 0, 1) := by decide +kernel
theorem dX11_walkway_31 : decode cX11_walkway 31 = .ok (.getfield 55, 3) := by decide +kernel
theorem dX11_walkway_34 : decode cX11_walkway 34 = .ok (.aload_n 3, 1) := by decide +kernel
theorem dX11_walkway_35 : decode cX11_walkway 35 = .ok (.aload 4, 2) := by decide +kernel
theorem dX11_walkway_37 : decode cX11_walkway 37 = .ok (.invokevirtual 203, 3) := by decide +kernel
theorem dX11_walkway_40 : decode cX11_walkway 40 = .ok (.ifCond .ne 5, 3) := by decide +kernel
theorem dX11_walkway_43 : decode cX11_walkway 43 = .ok (.iconst 0, 1) := by decide +kernel
theorem dX11_walkway_44 : decode cX11_walkway 44 = .ok (.ireturn, 1) := by decide +kernel
theorem dX11_walkway_45 : decode cX11_walkway 45 = .ok (.aload_n 0, 1) := by decide +kernel
theorem dX11_walkway_46 : decode cX11_walkway 46 = .ok (.getfield 55, 3) := by decide +kernel
theorem dX11_walkway_49 : decode cX11_walkway 49 = .ok (.aload_n 3, 1) := by decide +kernel
theorem dX11_walkway_50 : decode cX11_walkway 50 = .ok (.aload 4, 2) := by decide +kernel
theorem dX11_walkway_52 : decode cX11_walkway 52 = .ok (.invokevirtual 207, 3) := by decide +kernel
theorem dX11_walkway_55 : decode cX11_walkway 55 = .ok (.ifCond .eq 7, 3) := by decide +kernel
theorem dX11_walkway_58 : decode cX11_walkway 58 = .ok (.iconst 2, 1) := by decide +kernel
theorem dX11_walkway_59 : decode cX11_walkway 59 = .ok (.goto 4, 3) := by decide +kernel
theorem dX11_walkway_62 : decode cX11_walkway 62 = .ok (.iconst 1, 1) := by decide +kernel
theorem dX11_walkway_63 : decode cX11_walkway 63 = .ok (.ireturn, 1) := by decide +kernel
set_option maxRecDepth 20000 in
theorem ggX11_walkways_X11_noMarket : GoodIn wsX11_walkways wsX11_noMarket := goodIn_r _ [8, 3, 9, 102, 103, 104, 105, 106, 107, 108, 109, 110, 111, 112, 113, 114, 115, 116, 117, 118, 119] (by decide +kernel) (by decide +kernel)
set_option maxRecDepth 20000 in
theorem gX11_walkways_X11_noMarket : GoodIn wsX11_walkways (wsV RX11 171 RX11 yX11_noMarket wsX11_noMarket) := goodIn_app (goodIn_of _ (by decide +kernel)) ggX11_walkways_X11_noMarket
set_option maxRecDepth 20000 in
theorem ggX11_walkways_X11_isNoBit : GoodIn wsX11_walkways wsX11_isNoBit := goodIn_r _ [12] (by decide +kernel) (by decide +kernel)
set_option maxRecDepth 20000 in
theorem gX11_walkways_X11_isNoBit : GoodIn wsX11_walkways (va_wsS RX11 210 yX11_isNoBit wsX11_isNoBit) := goodIn_app (goodIn_of _ (by decide +kernel)) ggX11_walkways_X11_isNoBit
set_option maxRecDepth 20000 in
theorem ggX11_walkways_X3_countWalkways : GoodIn wsX11_walkways wsX3_countWalkways := goodIn_r _ [17, 18, 19, 20, 21, 22, 16, 23, 24, 25, 26, 27, 28, 29, 30, 31, 32, 33, 34, 35, 36, 37, 38, 39, 40, 41, 42, 43, 44, 45, 46, 47, 48, 49, 50, 51, 52, 53, 54, 55, 56, 57, 58, 59, 60, 61, 62, 63, 64, 65, 66, 67, 68, 69, 70, 71, 72, 73, 74, 75, 76, 77, 78, 79, 80, 81, 82, 83, 84, 85, 86, 87, 88, 89, 90, 91, 92, 93, 94, 95, 96, 97, 98, 99, 100, 101, 114, 115, 116, 117, 118, 119, 120, 121, 122, 123, 124, 125, 126, 127, 128, 129, 130, 131, 132, 133, 134, 135, 136, 137, 138, 139, 140, 141, 142, 143, 144, 145, 146, 147, 148, 149, 150, 151, 152, 153, 154] (by decide +kernel) (by decide +kernel)
set_option maxRecDepth 20000 in
theorem gX11_walkways_X3_countWalkways : GoodIn wsX11_walkways (wsV RX11 213 RX3 yX3_countWalkways wsX3_countWalkways) := goodIn_app (goodIn_of _ (by decide +kernel)) ggX11_walkways_X3_countWalkways
theorem dX11_walkways_0 : decode cX11_walkways 0 = .ok (.aload_n 0, 1) := by decide +kernel
theorem dX11_walkways_1 : decode cX11_walkways 1 = .ok (.invokevirtual 171, 3) := by decide +kernel
theorem dX11_walkways_4 : decode cX11_walkways 4 = .ok (.ifCond .eq 6, 3) := by decide +kernel
theorem dX11_walkways_7 : decode cX11_walkways 7 = .ok (.ldc 128, 2) := by decide +kernel
theorem dX11_walkways_9 : decode cX11_walkways 9 = .ok (.ireturn, 1) := by decide +kernel
theorem dX11_walkways_10 : decode cX11_walkways 10 = .ok (.iload_n 1, 1) := by decide +kernel
theorem dX11_walkways_11 : decode cX11_walkways 11 = .ok (.invokestatic 210, 3) := by decide +kernel
theorem dX11_walkways_14 : decode cX11_walkways 14 = .ok (.ifCond .eq 6, 3) := by decide +kernel
theorem dX11_walkways_17 : decode cX11_walkways 17 = .ok (.ldc 70, 2) := by decide +kernel
theorem dX11_walkways_19 : decode cX11_walkways 19 = .ok (.ireturn, 1) := by decide +kernel
theorem dX11_walkways_20 : decode cX11_walkways 20 = .ok (.aload_n 0, 1) := by decide +kernel
theorem dX11_walkways_21 : decode cX11_walkways 21 = .ok (.getfield 55, 3) := by decide +kernel
theorem dX11_walkways_24 : decode cX11_walkways 24 = .ok (.iload_n 1, 1) := by decide +kernel
theorem dX11_walkways_25 : decode cX11_walkways 25 = .ok (.iconst 1, 1) := by decide +kernel
theorem dX11_walkways_26 : decode cX11_walkways 26 = .ok (.if_icmp .ne 7, 3) := by decide +kernel
theorem dX11_walkways_29 : decode cX11_walkways 29 = .ok (.iconst 1, 1) := by decide +kernel
theorem dX11_walkways_30 : decode cX11_walkways 30 = .ok (.goto 4, 3) := by decide +kernel
theorem dX11_walkways_33 : decode cX11_walkways 33 = .ok (.iconst 0, 1) := by decide +kernel
theorem dX11_walkways_34 : decode cX11_walkways 34 = .ok (.invokevirtual 213, 3) := by decide +kernel
theorem dX11_walkways_37 : decode cX11_walkways 37 = .ok (.ireturn, 1) := by decide +kernel
set_option maxRecDepth 20000 in
theorem ggX11_even_X11_stallAt : GoodIn wsX11_even wsX11_stallAt := goodIn_r _ [8, 2, 9, 105, 106, 107, 108, 109, 110, 111, 112, 113, 114, 115, 116, 117, 118, 119, 120, 121, 122] (by decide +kernel) (by decide +kernel)
set_option maxRecDepth 20000 in
theorem gX11_even_X11_stallAt : GoodIn wsX11_even (wsV RX11 133 RX11 yX11_stallAt wsX11_stallAt) := goodIn_app (goodIn_of _ (by decide +kernel)) ggX11_even_X11_stallAt
set_option maxRecDepth 20000 in
theorem ggX11_even_X11_isNoBit : GoodIn wsX11_even wsX11_isNoBit := goodIn_r _ [12] (by decide +kernel) (by decide +kernel)
set_option maxRecDepth 20000 in
theorem gX11_even_X11_isNoBit : GoodIn wsX11_even (va_wsS RX11 210 yX11_isNoBit wsX11_isNoBit) := goodIn_app (goodIn_of _ (by decide +kernel)) ggX11_even_X11_isNoBit
set_option maxRecDepth 20000 in
theorem ggX11_even_X3_joins : GoodIn wsX11_even wsX3_joins := goodIn_r _ [17, 18, 19, 20, 21, 22, 23, 123, 124, 125, 126, 127, 128, 129, 130, 131, 132, 133, 134, 135, 136, 137, 138, 139, 140, 141, 142, 143, 144, 145, 146, 147, 148, 149, 150, 151, 152, 153, 154, 155, 156, 157] (by decide +kernel) (by decide +kernel)
set_option maxRecDepth 20000 in
theorem gX11_even_X3_joins : GoodIn wsX11_even (wsV RX11 203 RX3 yX3_joins wsX3_joins) := goodIn_app (goodIn_of _ (by decide +kernel)) ggX11_even_X3_joins
set_option maxRecDepth 20000 in
theorem ggX11_even_X1_fewestGirls : GoodIn wsX11_even wsX1_fewestGirls := goodIn_r _ [27, 28, 29, 30, 31, 21, 32, 33, 34, 35, 36, 37, 38, 16, 39, 18, 23, 19, 20, 22, 40, 41, 42, 43, 44, 45, 46, 47, 48, 49, 50, 51, 52, 53, 54, 55, 56, 57, 58, 59, 60, 61, 62, 63, 64, 65, 66, 67, 68, 69, 70, 71, 72, 73, 74, 75, 76, 77, 78, 79, 80, 81, 82, 83, 84, 85, 86, 87, 88, 89, 90, 91, 92, 93, 94, 95, 96, 97, 98, 99, 100, 101, 102, 103, 104, 123, 124, 125, 126, 127, 128, 129, 130, 131, 132, 133, 134, 135, 136, 137, 138, 139, 140, 141, 142, 143, 144, 145, 146, 147, 148, 149, 150, 151, 152, 153, 154, 155, 156, 157, 117, 118, 119, 120, 121, 122] (by decide +kernel) (by decide +kernel)
set_option maxRecDepth 20000 in
theorem gX11_even_X1_fewestGirls : GoodIn wsX11_even (va_wsS RX11 217 yX1_fewestGirls wsX1_fewestGirls) := goodIn_app (goodIn_of _ (by decide +kernel)) ggX11_even_X1_fewestGirls
theorem dX11_even_0 : decode cX11_even 0 = .ok (.aload_n 0, 1) := by decide +kernel
theorem dX11_even_1 : decode cX11_even 1 = .ok (.iload_n 1, 1) := by decide +kernel
theorem dX11_even_2 : decode cX11_even 2 = .ok (.invokevirtual 133, 3) := by decide +kernel
theorem dX11_even_5 : decode cX11_even 5 = .ok (.astore 4, 2) := by decide +kernel
theorem dX11_even_7 : decode cX11_even 7 = .ok (.aload_n 0, 1) := by decide +kernel
theorem dX11_even_8 : decode cX11_even 8 = .ok (.iload_n 2, 1) := by decide +kernel
theorem dX11_even_9 : decode cX11_even 9 = .ok (.invokevirtual 133, 3) := by decide +kernel
theorem dX11_even_12 : decode cX11_even 12 = .ok (.astore 5, 2) := by decide +kernel
theorem dX11_even_14 : decode cX11_even 14 = .ok (.aload 4, 2) := by decide +kernel
theorem dX11_even_16 : decode cX11_even 16 = .ok (.ifnull 20, 3) := by decide +kernel
theorem dX11_even_19 : decode cX11_even 19 = .ok (.aload 5, 2) := by decide +kernel
theorem dX11_even_21 : decode cX11_even 21 = .ok (.ifnull 15, 3) := by decide +kernel
theorem dX11_even_24 : decode cX11_even 24 = .ok (.iload_n 1, 1) := by decide +kernel
theorem dX11_even_25 : decode cX11_even 25 = .ok (.iload_n 2, 1) := by decide +kernel
theorem dX11_even_26 : decode cX11_even 26 = .ok (.if_icmp .eq 10, 3) := by decide +kernel
theorem dX11_even_29 : decode cX11_even 29 = .ok (.iload_n 3, 1) := by decide +kernel
theorem dX11_even_30 : decode cX11_even 30 = .ok (.invokestatic 210, 3) := by decide +kernel
theorem dX11_even_33 : decode cX11_even 33 = .ok (.ifCond .eq 6, 3) := by decide +kernel
theorem dX11_even_36 : decode cX11_even 36 = .ok (.ldc 70, 2) := by decide +kernel
theorem dX11_even_38 : decode cX11_even 38 = .ok (.ireturn, 1) := by decide +kernel
theorem dX11_even_39 : decode cX11_even 39 = .ok (.aload_n 0, 1) := by decide +kernel
theorem dX11_even_40 : decode cX11_even 40 = .ok (.getfield 55, 3) := by decide +kernel
theorem dX11_even_43 : decode cX11_even 43 = .ok (.aload 4, 2) := by decide +kernel
theorem dX11_even_45 : decode cX11_even 45 = .ok (.aload 5, 2) := by decide +kernel
theorem dX11_even_47 : decode cX11_even 47 = .ok (.invokevirtual 203, 3) := by decide +kernel
theorem dX11_even_50 : decode cX11_even 50 = .ok (.ifCond .ne 6, 3) := by decide +kernel
theorem dX11_even_53 : decode cX11_even 53 = .ok (.ldc 128, 2) := by decide +kernel
theorem dX11_even_55 : decode cX11_even 55 = .ok (.ireturn, 1) := by decide +kernel
theorem dX11_even_56 : decode cX11_even 56 = .ok (.aload_n 0, 1) := by decide +kernel
theorem dX11_even_57 : decode cX11_even 57 = .ok (.getfield 55, 3) := by decide +kernel
theorem dX11_even_60 : decode cX11_even 60 = .ok (.aload 4, 2) := by decide +kernel
theorem dX11_even_62 : decode cX11_even 62 = .ok (.aload 5, 2) := by decide +kernel
theorem dX11_even_64 : decode cX11_even 64 = .ok (.iload_n 3, 1) := by decide +kernel
theorem dX11_even_65 : decode cX11_even 65 = .ok (.invokestatic 217, 3) := by decide +kernel
theorem dX11_even_68 : decode cX11_even 68 = .ok (.ireturn, 1) := by decide +kernel
set_option maxRecDepth 20000 in
theorem ggX11_bestSlide_X11_noMarket : GoodIn wsX11_bestSlide wsX11_noMarket := goodIn_r _ [8, 3, 9, 115, 116, 117, 118, 119, 120, 121, 122, 123, 124, 125, 126, 127, 128, 129, 130, 131, 132] (by decide +kernel) (by decide +kernel)
set_option maxRecDepth 20000 in
theorem gX11_bestSlide_X11_noMarket : GoodIn wsX11_bestSlide (wsV RX11 171 RX11 yX11_noMarket wsX11_noMarket) := goodIn_app (goodIn_of _ (by decide +kernel)) ggX11_bestSlide_X11_noMarket
set_option maxRecDepth 20000 in
theorem ggX11_bestSlide_X11_isNoBit : GoodIn wsX11_bestSlide wsX11_isNoBit := goodIn_r _ [12] (by decide +kernel) (by decide +kernel)
set_option maxRecDepth 20000 in
theorem gX11_bestSlide_X11_isNoBit : GoodIn wsX11_bestSlide (va_wsS RX11 210 yX11_isNoBit wsX11_isNoBit) := goodIn_app (goodIn_of _ (by decide +kernel)) ggX11_bestSlide_X11_isNoBit
set_option maxRecDepth 20000 in
theorem ggX11_bestSlide_X1_slideToMeet : GoodIn wsX11_bestSlide wsX1_slideToMeet := goodIn_r _ [16, 17, 18, 19, 20, 21, 22, 23, 24, 25, 26, 27, 28, 29, 30, 31, 32, 33, 34, 35, 36, 37, 38, 39, 40, 41, 42, 43, 44, 45, 46, 47, 48, 49, 50, 51, 52, 53, 54, 55, 56, 57, 58, 59, 60, 61, 62, 63, 64, 65, 66, 67, 68, 69, 70, 71, 72, 73, 74, 75, 76, 77, 78, 79, 80, 81, 82, 83, 84, 85, 86, 87, 88, 89, 90, 91, 92, 93, 94, 95, 96, 97, 98, 99, 100, 101, 102, 103, 104, 105, 106, 107, 108, 109, 110, 111, 112, 113, 114, 127, 128, 129, 130, 131, 132, 133, 134, 135, 136, 137, 138, 139, 140, 141, 142, 143, 144, 145, 146, 147, 148, 149, 150, 151, 152, 153, 154, 155, 156, 157, 158, 159, 160, 161, 162, 163, 164, 165, 166, 167] (by decide +kernel) (by decide +kernel)
set_option maxRecDepth 20000 in
theorem gX11_bestSlide_X1_slideToMeet : GoodIn wsX11_bestSlide (va_wsS RX11 223 yX1_slideToMeet wsX1_slideToMeet) := goodIn_app (goodIn_of _ (by decide +kernel)) ggX11_bestSlide_X1_slideToMeet
theorem dX11_bestSlide_0 : decode cX11_bestSlide 0 = .ok (.aload_n 0, 1) := by decide +kernel
theorem dX11_bestSlide_1 : decode cX11_bestSlide 1 = .ok (.invokevirtual 171, 3) := by decide +kernel
theorem dX11_bestSlide_4 : decode cX11_bestSlide 4 = .ok (.ifCond .eq 6, 3) := by decide +kernel
theorem dX11_bestSlide_7 : decode cX11_bestSlide 7 = .ok (.ldc 128, 2) := by decide +kernel
theorem dX11_bestSlide_9 : decode cX11_bestSlide 9 = .ok (.ireturn, 1) := by decide +kernel
theorem dX11_bestSlide_10 : decode cX11_bestSlide 10 = .ok (.iload_n 1, 1) := by decide +kernel
theorem dX11_bestSlide_11 : decode cX11_bestSlide 11 = .ok (.invokestatic 210, 3) := by decide +kernel
theorem dX11_bestSlide_14 : decode cX11_bestSlide 14 = .ok (.ifCond .eq 6, 3) := by decide +kernel
theorem dX11_bestSlide_17 : decode cX11_bestSlide 17 = .ok (.ldc 70, 2) := by decide +kernel
theorem dX11_bestSlide_19 : decode cX11_bestSlide 19 = .ok (.ireturn, 1) := by decide +kernel
theorem dX11_bestSlide_20 : decode cX11_bestSlide 20 = .ok (.aload_n 0, 1) := by decide +kernel
theorem dX11_bestSlide_21 : decode cX11_bestSlide 21 = .ok (.getfield 55, 3) := by decide +kernel
theorem dX11_bestSlide_24 : decode cX11_bestSlide 24 = .ok (.iload_n 1, 1) := by decide +kernel
theorem dX11_bestSlide_25 : decode cX11_bestSlide 25 = .ok (.invokestatic 223, 3) := by decide +kernel
theorem dX11_bestSlide_28 : decode cX11_bestSlide 28 = .ok (.ireturn, 1) := by decide +kernel
set_option maxRecDepth 20000 in
theorem ggX11_unloaded_X11_noMarket : GoodIn wsX11_unloaded wsX11_noMarket := goodIn_r _ [9, 3, 10, 114, 115, 116, 117, 118, 119, 120, 121, 122, 123, 124, 125, 126, 127, 128, 129, 130, 131] (by decide +kernel) (by decide +kernel)
set_option maxRecDepth 20000 in
theorem gX11_unloaded_X11_noMarket : GoodIn wsX11_unloaded (wsV RX11 171 RX11 yX11_noMarket wsX11_noMarket) := goodIn_app (goodIn_of _ (by decide +kernel)) ggX11_unloaded_X11_noMarket
set_option maxRecDepth 20000 in
theorem ggX11_unloaded_X1_countOrders : GoodIn wsX11_unloaded wsX1_countOrders := goodIn_r _ [14, 15, 16, 17, 18, 19, 13, 20, 21, 22, 23, 24, 25, 26, 27, 28, 29, 30, 31, 32, 33, 34, 35, 36, 37, 38, 39, 40, 41, 42, 43, 44, 45, 46, 47, 48, 49, 50, 51, 52, 53, 54, 55, 56, 57, 58, 59, 60, 61, 62, 63, 64, 65, 66, 67, 68, 69, 70, 71, 72, 73, 74, 75, 76, 77, 78, 79, 80, 81, 82, 83, 84, 85, 86, 87, 88, 89, 90, 91, 92, 93, 94, 95, 96, 97, 98, 99, 100, 101, 102, 103, 104, 105, 106, 107, 108, 109, 110, 126, 127, 128, 129, 130, 131, 132, 133, 134, 135, 136, 137, 138, 139, 140, 141, 142, 143, 144, 145, 146, 147, 148, 149, 150, 151, 152, 153, 154, 155, 156, 157, 158, 159, 160, 161, 162, 163, 164, 165, 166] (by decide +kernel) (by decide +kernel)
set_option maxRecDepth 20000 in
theorem gX11_unloaded_X1_countOrders : GoodIn wsX11_unloaded (va_wsS RX11 227 yX1_countOrders wsX1_countOrders) := goodIn_app (goodIn_of _ (by decide +kernel)) ggX11_unloaded_X1_countOrders
set_option maxRecDepth 20000 in
theorem ggX11_unloaded_X1_inFirstOrder : GoodIn wsX11_unloaded wsX1_inFirstOrder := goodIn_r _ [113, 21, 108, 109, 13, 110] (by decide +kernel) (by decide +kernel)
set_option maxRecDepth 20000 in
theorem gX11_unloaded_X1_inFirstOrder : GoodIn wsX11_unloaded (va_wsS RX11 231 yX1_inFirstOrder wsX1_inFirstOrder) := goodIn_app (goodIn_of _ (by decide +kernel)) ggX11_unloaded_X1_inFirstOrder
theorem dX11_unloaded_0 : decode cX11_unloaded 0 = .ok (.aload_n 0, 1) := by decide +kernel
theorem dX11_unloaded_1 : decode cX11_unloaded 1 = .ok (.invokevirtual 171, 3) := by decide +kernel
theorem dX11_unloaded_4 : decode cX11_unloaded 4 = .ok (.ifCond .eq 6, 3) := by decide +kernel
theorem dX11_unloaded_7 : decode cX11_unloaded 7 = .ok (.ldc 128, 2) := by decide +kernel
theorem dX11_unloaded_9 : decode cX11_unloaded 9 = .ok (.ireturn, 1) := by decide +kernel
theorem dX11_unloaded_10 : decode cX11_unloaded 10 = .ok (.iload_n 1, 1) := by decide +kernel
theorem dX11_unloaded_11 : decode cX11_unloaded 11 = .ok (.iconst (-1), 1) := by decide +kernel
theorem dX11_unloaded_12 : decode cX11_unloaded 12 = .ok (.if_icmp .lt 9, 3) := by decide +kernel
theorem dX11_unloaded_15 : decode cX11_unloaded 15 = .ok (.iload_n 1, 1) := by decide +kernel
theorem dX11_unloaded_16 : decode cX11_unloaded 16 = .ok (.bipush 6, 2) := by decide +kernel
theorem dX11_unloaded_18 : decode cX11_unloaded 18 = .ok (.if_icmp .lt 6, 3) := by decide +kernel
theorem dX11_unloaded_21 : decode cX11_unloaded 21 = .ok (.ldc 70, 2) := by decide +kernel
theorem dX11_unloaded_23 : decode cX11_unloaded 23 = .ok (.ireturn, 1) := by decide +kernel
theorem dX11_unloaded_24 : decode cX11_unloaded 24 = .ok (.aload_n 0, 1) := by decide +kernel
theorem dX11_unloaded_25 : decode cX11_unloaded 25 = .ok (.getfield 55, 3) := by decide +kernel
theorem dX11_unloaded_28 : decode cX11_unloaded 28 = .ok (.aload_n 0, 1) := by decide +kernel
theorem dX11_unloaded_29 : decode cX11_unloaded 29 = .ok (.getfield 35, 3) := by decide +kernel
theorem dX11_unloaded_32 : decode cX11_unloaded 32 = .ok (.invokestatic 227, 3) := by decide +kernel
theorem dX11_unloaded_35 : decode cX11_unloaded 35 = .ok (.istore_n 2, 1) := by decide +kernel
theorem dX11_unloaded_36 : decode cX11_unloaded 36 = .ok (.iload_n 1, 1) := by decide +kernel
theorem dX11_unloaded_37 : decode cX11_unloaded 37 = .ok (.iconst (-1), 1) := by decide +kernel
theorem dX11_unloaded_38 : decode cX11_unloaded 38 = .ok (.if_icmp .ne 12, 3) := by decide +kernel
theorem dX11_unloaded_41 : decode cX11_unloaded 41 = .ok (.aload_n 0, 1) := by decide +kernel
theorem dX11_unloaded_42 : decode cX11_unloaded 42 = .ok (.getfield 35, 3) := by decide +kernel
theorem dX11_unloaded_45 : decode cX11_unloaded 45 = .ok (.iconst 0, 1) := by decide +kernel
theorem dX11_unloaded_46 : decode cX11_unloaded 46 = .ok (.iaload, 1) := by decide +kernel
theorem dX11_unloaded_47 : decode cX11_unloaded 47 = .ok (.goto 12, 3) := by decide +kernel
theorem dX11_unloaded_50 : decode cX11_unloaded 50 = .ok (.aload_n 0, 1) := by decide +kernel
theorem dX11_unloaded_51 : decode cX11_unloaded 51 = .ok (.getfield 35, 3) := by decide +kernel
theorem dX11_unloaded_54 : decode cX11_unloaded 54 = .ok (.iload_n 2, 1) := by decide +kernel
theorem dX11_unloaded_55 : decode cX11_unloaded 55 = .ok (.iload_n 1, 1) := by decide +kernel
theorem dX11_unloaded_56 : decode cX11_unloaded 56 = .ok (.invokestatic 231, 3) := by decide +kernel
theorem dX11_unloaded_59 : decode cX11_unloaded 59 = .ok (.ireturn, 1) := by decide +kernel
set_option maxRecDepth 20000 in
theorem ggX11_whoCut_X11_noMarket : GoodIn wsX11_whoCut wsX11_noMarket := goodIn_r _ [9, 3, 10, 123, 124, 125, 126, 127, 128, 129, 130, 131, 132, 133, 134, 135, 136, 137, 138, 139, 140] (by decide +kernel) (by decide +kernel)
set_option maxRecDepth 20000 in
theorem gX11_whoCut_X11_noMarket : GoodIn wsX11_whoCut (wsV RX11 171 RX11 yX11_noMarket wsX11_noMarket) := goodIn_app (goodIn_of _ (by decide +kernel)) ggX11_whoCut_X11_noMarket
set_option maxRecDepth 20000 in
theorem ggX11_whoCut_X11_rowAt : GoodIn wsX11_whoCut wsX11_rowAt := goodIn_r _ [14, 15, 123, 124, 125, 126, 127, 128, 129, 130, 131, 132, 133, 134] (by decide +kernel) (by decide +kernel)
set_option maxRecDepth 20000 in
theorem gX11_whoCut_X11_rowAt : GoodIn wsX11_whoCut (wsV RX11 66 RX11 yX11_rowAt wsX11_rowAt) := goodIn_app (goodIn_of _ (by decide +kernel)) ggX11_whoCut_X11_rowAt
set_option maxRecDepth 20000 in
theorem ggX11_whoCut_X5_isMissing : GoodIn wsX11_whoCut wsX5_isMissing := goodIn_r _ [20, 21, 141, 142, 143] (by decide +kernel) (by decide +kernel)
set_option maxRecDepth 20000 in
theorem gX11_whoCut_X5_isMissing : GoodIn wsX11_whoCut (wsV RX11 81 RX5 yX5_isMissing wsX5_isMissing) := goodIn_app (goodIn_of _ (by decide +kernel)) ggX11_whoCut_X5_isMissing
set_option maxRecDepth 20000 in
theorem ggX11_whoCut_X11_found : GoodIn wsX11_whoCut wsX11_found := goodIn_r _ [25, 26, 27, 123, 124, 125, 126, 127, 128, 129, 130, 131, 132, 133, 134] (by decide +kernel) (by decide +kernel)
set_option maxRecDepth 20000 in
theorem gX11_whoCut_X11_found : GoodIn wsX11_whoCut (wsV RX11 71 RX11 yX11_found wsX11_found) := goodIn_app (goodIn_of _ (by decide +kernel)) ggX11_whoCut_X11_found
set_option maxRecDepth 20000 in
theorem ggX11_whoCut_X5_has : GoodIn wsX11_whoCut wsX5_has := goodIn_r _ [31, 32, 141, 142, 143] (by decide +kernel) (by decide +kernel)
set_option maxRecDepth 20000 in
theorem gX11_whoCut_X5_has : GoodIn wsX11_whoCut (wsV RX11 85 RX5 yX5_has wsX5_has) := goodIn_app (goodIn_of _ (by decide +kernel)) ggX11_whoCut_X5_has
set_option maxRecDepth 20000 in
theorem ggX11_whoCut_X1_cutRopes : GoodIn wsX11_whoCut wsX1_cutRopes := goodIn_r _ [36, 37, 38, 39, 40, 41, 42, 43, 44, 45, 46, 47, 48, 49, 29, 30, 19, 31, 32, 50, 51, 52, 53, 54, 55, 56, 57, 58, 59, 60, 61, 62, 63, 64, 65, 66, 67, 68, 69, 70, 71, 72, 73, 74, 75, 76, 77, 78, 79, 80, 81, 82, 83, 84, 85, 86, 87, 88, 89, 90, 91, 92, 93, 94, 95, 96, 97, 98, 99, 100, 101, 102, 103, 104, 105, 106, 107, 108, 109, 110, 111, 112, 113, 114, 115, 116, 117, 118, 135, 136, 137, 138, 139, 140, 141, 142, 143, 144, 145, 146, 147, 148, 149, 150, 151, 152, 153, 154, 155, 156, 157, 158, 159, 160, 161, 162, 163, 164, 165, 166, 167, 168, 169, 170, 171, 172, 173, 174, 175, 176, 177, 178] (by decide +kernel) (by decide +kernel)
set_option maxRecDepth 20000 in
theorem gX11_whoCut_X1_cutRopes : GoodIn wsX11_whoCut (va_wsS RX11 235 yX1_cutRopes wsX1_cutRopes) := goodIn_app (goodIn_of _ (by decide +kernel)) ggX11_whoCut_X1_cutRopes
set_option maxRecDepth 20000 in
theorem ggX11_whoCut_X11_unfound : GoodIn wsX11_whoCut wsX11_unfound := goodIn_r _ [122, 26, 123, 124, 125, 126, 127, 128, 129, 130, 131, 132, 133, 134] (by decide +kernel) (by decide +kernel)
set_option maxRecDepth 20000 in
theorem gX11_whoCut_X11_unfound : GoodIn wsX11_whoCut (wsV RX11 78 RX11 yX11_unfound wsX11_unfound) := goodIn_app (goodIn_of _ (by decide +kernel)) ggX11_whoCut_X11_unfound
theorem dX11_whoCut_0 : decode cX11_whoCut 0 = .ok (.aload_n 0, 1) := by decide +kernel
theorem dX11_whoCut_1 : decode cX11_whoCut 1 = .ok (.invokevirtual 171, 3) := by decide +kernel
theorem dX11_whoCut_4 : decode cX11_whoCut 4 = .ok (.ifCond .eq 6, 3) := by decide +kernel
theorem dX11_whoCut_7 : decode cX11_whoCut 7 = .ok (.ldc 128, 2) := by decide +kernel
theorem dX11_whoCut_9 : decode cX11_whoCut 9 = .ok (.ireturn, 1) := by decide +kernel
theorem dX11_whoCut_10 : decode cX11_whoCut 10 = .ok (.aload_n 0, 1) := by decide +kernel
theorem dX11_whoCut_11 : decode cX11_whoCut 11 = .ok (.iload_n 1, 1) := by decide +kernel
theorem dX11_whoCut_12 : decode cX11_whoCut 12 = .ok (.invokevirtual 66, 3) := by decide +kernel
theorem dX11_whoCut_15 : decode cX11_whoCut 15 = .ok (.astore_n 3, 1) := by decide +kernel
theorem dX11_whoCut_16 : decode cX11_whoCut 16 = .ok (.aload_n 3, 1) := by decide +kernel
theorem dX11_whoCut_17 : decode cX11_whoCut 17 = .ok (.ifnonnull 6, 3) := by decide +kernel
theorem dX11_whoCut_20 : decode cX11_whoCut 20 = .ok (.ldc 70, 2) := by decide +kernel
theorem dX11_whoCut_22 : decode cX11_whoCut 22 = .ok (.ireturn, 1) := by decide +kernel
theorem dX11_whoCut_23 : decode cX11_whoCut 23 = .ok (.aload_n 3, 1) := by decide +kernel
theorem dX11_whoCut_24 : decode cX11_whoCut 24 = .ok (.invokevirtual 81, 3) := by decide +kernel
theorem dX11_whoCut_27 : decode cX11_whoCut 27 = .ok (.ifCond .eq 9, 3) := by decide +kernel
theorem dX11_whoCut_30 : decode cX11_whoCut 30 = .ok (.aload_n 0, 1) := by decide +kernel
theorem dX11_whoCut_31 : decode cX11_whoCut 31 = .ok (.iconst 1, 1) := by decide +kernel
theorem dX11_whoCut_32 : decode cX11_whoCut 32 = .ok (.invokevirtual 71, 3) := by decide +kernel
theorem dX11_whoCut_35 : decode cX11_whoCut 35 = .ok (.ireturn, 1) := by decide +kernel
theorem dX11_whoCut_36 : decode cX11_whoCut 36 = .ok (.aload_n 3, 1) := by decide +kernel
theorem dX11_whoCut_37 : decode cX11_whoCut 37 = .ok (.iload_n 2, 1) := by decide +kernel
theorem dX11_whoCut_38 : decode cX11_whoCut 38 = .ok (.aload_n 0, 1) := by decide +kernel
theorem dX11_whoCut_39 : decode cX11_whoCut 39 = .ok (.getfield 55, 3) := by decide +kernel
theorem dX11_whoCut_42 : decode cX11_whoCut 42 = .ok (.getfield 125, 3) := by decide +kernel
theorem dX11_whoCut_45 : decode cX11_whoCut 45 = .ok (.invokevirtual 85, 3) := by decide +kernel
theorem dX11_whoCut_48 : decode cX11_whoCut 48 = .ok (.ifCond .ne 9, 3) := by decide +kernel
theorem dX11_whoCut_51 : decode cX11_whoCut 51 = .ok (.aload_n 0, 1) := by decide +kernel
theorem dX11_whoCut_52 : decode cX11_whoCut 52 = .ok (.iconst 2, 1) := by decide +kernel
theorem dX11_whoCut_53 : decode cX11_whoCut 53 = .ok (.invokevirtual 71, 3) := by decide +kernel
theorem dX11_whoCut_56 : decode cX11_whoCut 56 = .ok (.ireturn, 1) := by decide +kernel
theorem dX11_whoCut_57 : decode cX11_whoCut 57 = .ok (.aload_n 0, 1) := by decide +kernel
theorem dX11_whoCut_58 : decode cX11_whoCut 58 = .ok (.aload_n 0, 1) := by decide +kernel
theorem dX11_whoCut_59 : decode cX11_whoCut 59 = .ok (.getfield 55, 3) := by decide +kernel
theorem dX11_whoCut_62 : decode cX11_whoCut 62 = .ok (.aload_n 3, 1) := by decide +kernel
theorem dX11_whoCut_63 : decode cX11_whoCut 63 = .ok (.iload_n 2, 1) := by decide +kernel
theorem dX11_whoCut_64 : decode cX11_whoCut 64 = .ok (.invokestatic 235, 3) := by decide +kernel
theorem dX11_whoCut_67 : decode cX11_whoCut 67 = .ok (.invokevirtual 78, 3) := by decide +kernel
theorem dX11_whoCut_70 : decode cX11_whoCut 70 = .ok (.ireturn, 1) := by decide +kernel
set_option maxRecDepth 20000 in
theorem ggX11_box_X11_stallAt : GoodIn wsX11_box wsX11_stallAt := goodIn_r _ [7, 2, 8, 93, 94, 95, 96, 97, 98, 99, 100, 101, 102, 103, 104, 105, 106, 107, 108, 109, 110] (by decide +kernel) (by decide +kernel)
set_option maxRecDepth 20000 in
theorem gX11_box_X11_stallAt : GoodIn wsX11_box (wsV RX11 133 RX11 yX11_stallAt wsX11_stallAt) := goodIn_app (goodIn_of _ (by decide +kernel)) ggX11_box_X11_stallAt
set_option maxRecDepth 20000 in
theorem ggX11_box_X11_isNoBit : GoodIn wsX11_box wsX11_isNoBit := goodIn_r _ [11] (by decide +kernel) (by decide +kernel)
set_option maxRecDepth 20000 in
theorem gX11_box_X11_isNoBit : GoodIn wsX11_box (va_wsS RX11 210 yX11_isNoBit wsX11_isNoBit) := goodIn_app (goodIn_of _ (by decide +kernel)) ggX11_box_X11_isNoBit
set_option maxRecDepth 20000 in
theorem ggX11_box_X1_goodsInBox : GoodIn wsX11_box wsX1_goodsInBox := goodIn_r _ [15, 16, 17, 18, 19, 20, 21, 22, 23, 24, 25, 26, 27, 28, 29, 30, 31, 32, 33, 34, 35, 36, 37, 38, 39, 40, 41, 42, 43, 44, 45, 46, 47, 48, 49, 50, 51, 52, 53, 54, 55, 56, 57, 58, 59, 60, 61, 62, 63, 64, 65, 66, 67, 68, 69, 70, 71, 72, 73, 74, 75, 76, 77, 78, 79, 80, 81, 82, 83, 84, 85, 86, 87, 88, 89, 90, 91, 92, 111, 112, 113, 114, 115, 116, 117, 118, 119, 120, 121, 122, 123, 124, 125, 126, 127, 128, 129, 130, 131, 132, 133, 134, 135, 136, 137, 138, 139, 140, 141, 142, 143, 144, 145, 105, 106, 107, 108, 109, 110] (by decide +kernel) (by decide +kernel)
set_option maxRecDepth 20000 in
theorem gX11_box_X1_goodsInBox : GoodIn wsX11_box (va_wsS RX11 239 yX1_goodsInBox wsX1_goodsInBox) := goodIn_app (goodIn_of _ (by decide +kernel)) ggX11_box_X1_goodsInBox
theorem dX11_box_0 : decode cX11_box 0 = .ok (.aload_n 0, 1) := by decide +kernel
theorem dX11_box_1 : decode cX11_box 1 = .ok (.iload_n 1, 1) := by decide +kernel
theorem dX11_box_2 : decode cX11_box 2 = .ok (.invokevirtual 133, 3) := by decide +kernel
theorem dX11_box_5 : decode cX11_box 5 = .ok (.astore 4, 2) := by decide +kernel
theorem dX11_box_7 : decode cX11_box 7 = .ok (.aload 4, 2) := by decide +kernel
theorem dX11_box_9 : decode cX11_box 9 = .ok (.ifnull 24, 3) := by decide +kernel
theorem dX11_box_12 : decode cX11_box 12 = .ok (.iload_n 2, 1) := by decide +kernel
theorem dX11_box_13 : decode cX11_box 13 = .ok (.sipush (-9999), 3) := by decide +kernel
theorem dX11_box_16 : decode cX11_box 16 = .ok (.if_icmp .lt 17, 3) := by decide +kernel
theorem dX11_box_19 : decode cX11_box 19 = .ok (.iload_n 2, 1) := by decide +kernel
theorem dX11_box_20 : decode cX11_box 20 = .ok (.sipush 9999, 3) := by decide +kernel
theorem dX11_box_23 : decode cX11_box 23 = .ok (.if_icmp .gt 10, 3) := by decide +kernel
theorem dX11_box_26 : decode cX11_box 26 = .ok (.iload_n 3, 1) := by decide +kernel
theorem dX11_box_27 : decode cX11_box 27 = .ok (.invokestatic 210, 3) := by decide +kernel
theorem dX11_box_30 : decode cX11_box 30 = .ok (.ifCond .eq 6, 3) := by decide +kernel
theorem dX11_box_33 : decode cX11_box 33 = .ok (.ldc 70, 2) := by decide +kernel
theorem dX11_box_35 : decode cX11_box 35 = .ok (.ireturn, 1) := by decide +kernel
theorem dX11_box_36 : decode cX11_box 36 = .ok (.aload_n 0, 1) := by decide +kernel
theorem dX11_box_37 : decode cX11_box 37 = .ok (.getfield 55, 3) := by decide +kernel
theorem dX11_box_40 : decode cX11_box 40 = .ok (.aload 4, 2) := by decide +kernel
theorem dX11_box_42 : decode cX11_box 42 = .ok (.iload_n 2, 1) := by decide +kernel
theorem dX11_box_43 : decode cX11_box 43 = .ok (.iload_n 3, 1) := by decide +kernel
theorem dX11_box_44 : decode cX11_box 44 = .ok (.invokestatic 239, 3) := by decide +kernel
theorem dX11_box_47 : decode cX11_box 47 = .ok (.ireturn, 1) := by decide +kernel
set_option maxRecDepth 20000 in
theorem ggX11_reads_X11_stallAt : GoodIn wsX11_reads wsX11_stallAt := goodIn_r _ [8, 2, 9, 126, 127, 128, 129, 130, 131, 132, 133, 134, 135, 136, 137, 138, 139, 140, 141, 142, 143] (by decide +kernel) (by decide +kernel)
set_option maxRecDepth 20000 in
theorem gX11_reads_X11_stallAt : GoodIn wsX11_reads (wsV RX11 133 RX11 yX11_stallAt wsX11_stallAt) := goodIn_app (goodIn_of _ (by decide +kernel)) ggX11_reads_X11_stallAt
set_option maxRecDepth 20000 in
theorem ggX11_reads_X11_rowAt : GoodIn wsX11_reads wsX11_rowAt := goodIn_r _ [13, 14, 126, 127, 128, 129, 130, 131, 132, 133, 134, 135, 136, 137] (by decide +kernel) (by decide +kernel)
set_option maxRecDepth 20000 in
theorem gX11_reads_X11_rowAt : GoodIn wsX11_reads (wsV RX11 66 RX11 yX11_rowAt wsX11_rowAt) := goodIn_app (goodIn_of _ (by decide +kernel)) ggX11_reads_X11_rowAt
set_option maxRecDepth 20000 in
theorem ggX11_reads_X11_isNoBit : GoodIn wsX11_reads wsX11_isNoBit := goodIn_r _ [17] (by decide +kernel) (by decide +kernel)
set_option maxRecDepth 20000 in
theorem gX11_reads_X11_isNoBit : GoodIn wsX11_reads (va_wsS RX11 210 yX11_isNoBit wsX11_isNoBit) := goodIn_app (goodIn_of _ (by decide +kernel)) ggX11_reads_X11_isNoBit
set_option maxRecDepth 20000 in
theorem ggX11_reads_X5_isMissing : GoodIn wsX11_reads wsX5_isMissing := goodIn_r _ [22, 23, 144, 145, 146] (by decide +kernel) (by decide +kernel)
set_option maxRecDepth 20000 in
theorem gX11_reads_X5_isMissing : GoodIn wsX11_reads (wsV RX11 81 RX5 yX5_isMissing wsX5_isMissing) := goodIn_app (goodIn_of _ (by decide +kernel)) ggX11_reads_X5_isMissing
set_option maxRecDepth 20000 in
theorem ggX11_reads_X11_found : GoodIn wsX11_reads wsX11_found := goodIn_r _ [27, 28, 29, 126, 127, 128, 129, 130, 131, 132, 133, 134, 135, 136, 137] (by decide +kernel) (by decide +kernel)
set_option maxRecDepth 20000 in
theorem gX11_reads_X11_found : GoodIn wsX11_reads (wsV RX11 71 RX11 yX11_found wsX11_found) := goodIn_app (goodIn_of _ (by decide +kernel)) ggX11_reads_X11_found
set_option maxRecDepth 20000 in
theorem ggX11_reads_X5_has : GoodIn wsX11_reads wsX5_has := goodIn_r _ [33, 34, 144, 145, 146] (by decide +kernel) (by decide +kernel)
set_option maxRecDepth 20000 in
theorem gX11_reads_X5_has : GoodIn wsX11_reads (wsV RX11 85 RX5 yX5_has wsX5_has) := goodIn_app (goodIn_of _ (by decide +kernel)) ggX11_reads_X5_has
set_option maxRecDepth 20000 in
theorem ggX11_reads_X1_goodsRead : GoodIn wsX11_reads wsX1_goodsRead := goodIn_r _ [38, 39, 40, 41, 42, 43, 44, 45, 46, 47, 48, 49, 50, 51, 52, 31, 32, 21, 33, 34, 53, 54, 55, 56, 57, 58, 59, 60, 61, 62, 63, 64, 65, 66, 67, 68, 69, 70, 71, 72, 73, 74, 75, 76, 77, 78, 79, 80, 81, 82, 83, 84, 85, 86, 87, 88, 89, 90, 91, 92, 93, 94, 95, 96, 97, 98, 99, 100, 101, 102, 103, 104, 105, 106, 107, 108, 109, 110, 111, 112, 113, 114, 115, 116, 117, 118, 119, 120, 121, 147, 148, 149, 150, 151, 152, 153, 154, 155, 156, 157, 158, 159, 160, 161, 162, 163, 164, 165, 166, 167, 168, 169, 170, 171, 172, 173, 174, 175, 176, 177, 178, 179, 180, 181, 138, 139, 140, 141, 142, 143, 144, 145, 146] (by decide +kernel) (by decide +kernel)
set_option maxRecDepth 20000 in
theorem gX11_reads_X1_goodsRead : GoodIn wsX11_reads (va_wsS RX11 243 yX1_goodsRead wsX1_goodsRead) := goodIn_app (goodIn_of _ (by decide +kernel)) ggX11_reads_X1_goodsRead
set_option maxRecDepth 20000 in
theorem ggX11_reads_X11_unfound : GoodIn wsX11_reads wsX11_unfound := goodIn_r _ [125, 28, 126, 127, 128, 129, 130, 131, 132, 133, 134, 135, 136, 137] (by decide +kernel) (by decide +kernel)
set_option maxRecDepth 20000 in
theorem gX11_reads_X11_unfound : GoodIn wsX11_reads (wsV RX11 78 RX11 yX11_unfound wsX11_unfound) := goodIn_app (goodIn_of _ (by decide +kernel)) ggX11_reads_X11_unfound
theorem dX11_reads_0 : decode cX11_reads 0 = .ok (.aload_n 0, 1) := by decide +kernel
theorem dX11_reads_1 : decode cX11_reads 1 = .ok (.iload_n 1, 1) := by decide +kernel
theorem dX11_reads_2 : decode cX11_reads 2 = .ok (.invokevirtual 133, 3) := by decide +kernel
theorem dX11_reads_5 : decode cX11_reads 5 = .ok (.astore 6, 2) := by decide +kernel
theorem dX11_reads_7 : decode cX11_reads 7 = .ok (.aload_n 0, 1) := by decide +kernel
theorem dX11_reads_8 : decode cX11_reads 8 = .ok (.iload_n 2, 1) := by decide +kernel
theorem dX11_reads_9 : decode cX11_reads 9 = .ok (.invokevirtual 133, 3) := by decide +kernel
theorem dX11_reads_12 : decode cX11_reads 12 = .ok (.astore 7, 2) := by decide +kernel
theorem dX11_reads_14 : decode cX11_reads 14 = .ok (.aload_n 0, 1) := by decide +kernel
theorem dX11_reads_15 : decode cX11_reads 15 = .ok (.iload_n 3, 1) := by decide +kernel
theorem dX11_reads_16 : decode cX11_reads 16 = .ok (.invokevirtual 66, 3) := by decide +kernel
theorem dX11_reads_19 : decode cX11_reads 19 = .ok (.astore 8, 2) := by decide +kernel
theorem dX11_reads_21 : decode cX11_reads 21 = .ok (.aload 6, 2) := by decide +kernel
theorem dX11_reads_23 : decode cX11_reads 23 = .ok (.ifnull 26, 3) := by decide +kernel
theorem dX11_reads_26 : decode cX11_reads 26 = .ok (.aload 7, 2) := by decide +kernel
theorem dX11_reads_28 : decode cX11_reads 28 = .ok (.ifnull 21, 3) := by decide +kernel
theorem dX11_reads_31 : decode cX11_reads 31 = .ok (.iload_n 1, 1) := by decide +kernel
theorem dX11_reads_32 : decode cX11_reads 32 = .ok (.iload_n 2, 1) := by decide +kernel
theorem dX11_reads_33 : decode cX11_reads 33 = .ok (.if_icmp .eq 16, 3) := by decide +kernel
theorem dX11_reads_36 : decode cX11_reads 36 = .ok (.aload 8, 2) := by decide +kernel
theorem dX11_reads_38 : decode cX11_reads 38 = .ok (.ifnull 11, 3) := by decide +kernel
theorem dX11_reads_41 : decode cX11_reads 41 = .ok (.iload 5, 2) := by decide +kernel
theorem dX11_reads_43 : decode cX11_reads 43 = .ok (.invokestatic 210, 3) := by decide +kernel
theorem dX11_reads_46 : decode cX11_reads 46 = .ok (.ifCond .eq 6, 3) := by decide +kernel
theorem dX11_reads_49 : decode cX11_reads 49 = .ok (.ldc 70, 2) := by decide +kernel
theorem dX11_reads_51 : decode cX11_reads 51 = .ok (.ireturn, 1) := by decide +kernel
theorem dX11_reads_52 : decode cX11_reads 52 = .ok (.aload 8, 2) := by decide +kernel
theorem dX11_reads_54 : decode cX11_reads 54 = .ok (.invokevirtual 81, 3) := by decide +kernel
theorem dX11_reads_57 : decode cX11_reads 57 = .ok (.ifCond .eq 9, 3) := by decide +kernel
theorem dX11_reads_60 : decode cX11_reads 60 = .ok (.aload_n 0, 1) := by decide +kernel
theorem dX11_reads_61 : decode cX11_reads 61 = .ok (.iconst 1, 1) := by decide +kernel
theorem dX11_reads_62 : decode cX11_reads 62 = .ok (.invokevirtual 71, 3) := by decide +kernel
theorem dX11_reads_65 : decode cX11_reads 65 = .ok (.ireturn, 1) := by decide +kernel
theorem dX11_reads_66 : decode cX11_reads 66 = .ok (.aload 8, 2) := by decide +kernel
theorem dX11_reads_68 : decode cX11_reads 68 = .ok (.iload 4, 2) := by decide +kernel
theorem dX11_reads_70 : decode cX11_reads 70 = .ok (.aload_n 0, 1) := by decide +kernel
theorem dX11_reads_71 : decode cX11_reads 71 = .ok (.getfield 55, 3) := by decide +kernel
theorem dX11_reads_74 : decode cX11_reads 74 = .ok (.getfield 125, 3) := by decide +kernel
theorem dX11_reads_77 : decode cX11_reads 77 = .ok (.invokevirtual 85, 3) := by decide +kernel
theorem dX11_reads_80 : decode cX11_reads 80 = .ok (.ifCond .ne 9, 3) := by decide +kernel
theorem dX11_reads_83 : decode cX11_reads 83 = .ok (.aload_n 0, 1) := by decide +kernel
theorem dX11_reads_84 : decode cX11_reads 84 = .ok (.iconst 2, 1) := by decide +kernel
theorem dX11_reads_85 : decode cX11_reads 85 = .ok (.invokevirtual 71, 3) := by decide +kernel
theorem dX11_reads_88 : decode cX11_reads 88 = .ok (.ireturn, 1) := by decide +kernel
theorem dX11_reads_89 : decode cX11_reads 89 = .ok (.aload_n 0, 1) := by decide +kernel
theorem dX11_reads_90 : decode cX11_reads 90 = .ok (.aload_n 0, 1) := by decide +kernel
theorem dX11_reads_91 : decode cX11_reads 91 = .ok (.getfield 55, 3) := by decide +kernel
theorem dX11_reads_94 : decode cX11_reads 94 = .ok (.aload 6, 2) := by decide +kernel
theorem dX11_reads_96 : decode cX11_reads 96 = .ok (.aload 7, 2) := by decide +kernel
theorem dX11_reads_98 : decode cX11_reads 98 = .ok (.aload 8, 2) := by decide +kernel
theorem dX11_reads_100 : decode cX11_reads 100 = .ok (.iload 4, 2) := by decide +kernel
theorem dX11_reads_102 : decode cX11_reads 102 = .ok (.iload 5, 2) := by decide +kernel
theorem dX11_reads_104 : decode cX11_reads 104 = .ok (.invokestatic 243, 3) := by decide +kernel
theorem dX11_reads_107 : decode cX11_reads 107 = .ok (.invokevirtual 78, 3) := by decide +kernel
theorem dX11_reads_110 : decode cX11_reads 110 = .ok (.ireturn, 1) := by decide +kernel
set_option maxRecDepth 20000 in
theorem ggX11_holds_X11_noRope : GoodIn wsX11_holds wsX11_noRope := goodIn_r _ [7, 2, 8, 95, 96, 97, 98, 99, 100, 101, 102, 103, 104, 105, 106, 107, 108, 109, 110, 111, 112] (by decide +kernel) (by decide +kernel)
set_option maxRecDepth 20000 in
theorem gX11_holds_X11_noRope : GoodIn wsX11_holds (wsV RX11 177 RX11 yX11_noRope wsX11_noRope) := goodIn_app (goodIn_of _ (by decide +kernel)) ggX11_holds_X11_noRope
set_option maxRecDepth 20000 in
theorem ggX11_holds_X1_leastTaut : GoodIn wsX11_holds wsX1_leastTaut := goodIn_r _ [12, 13, 14, 15, 16, 17, 18, 19, 20, 21, 22, 23, 24, 25, 26, 27, 28, 29, 30, 31, 32, 33, 34, 35, 36, 37, 38, 39, 40, 41, 42, 43, 44, 45, 46, 47, 48, 49, 50, 51, 52, 53, 54, 55, 56, 57, 58, 59, 60, 61, 62, 63, 64, 65, 66, 67, 68, 69, 70, 71, 72, 73, 74, 75, 76, 77, 78, 79, 80, 81, 82, 83, 84, 85, 86, 87, 88, 89, 90, 91, 92, 93, 94, 107, 108, 109, 110, 111, 112, 113, 114, 115, 116, 117, 118, 119, 120, 121, 122, 123, 124, 125, 126, 127, 128, 129, 130, 131, 132, 133, 134, 135, 136, 137, 138, 139, 140, 141, 142, 143, 144, 145, 146, 147] (by decide +kernel) (by decide +kernel)
set_option maxRecDepth 20000 in
theorem gX11_holds_X1_leastTaut : GoodIn wsX11_holds (va_wsS RX11 247 yX1_leastTaut wsX1_leastTaut) := goodIn_app (goodIn_of _ (by decide +kernel)) ggX11_holds_X1_leastTaut
theorem dX11_holds_0 : decode cX11_holds 0 = .ok (.aload_n 0, 1) := by decide +kernel
theorem dX11_holds_1 : decode cX11_holds 1 = .ok (.iload_n 1, 1) := by decide +kernel
theorem dX11_holds_2 : decode cX11_holds 2 = .ok (.invokevirtual 177, 3) := by decide +kernel
theorem dX11_holds_5 : decode cX11_holds 5 = .ok (.ifCond .eq 8, 3) := by decide +kernel
theorem dX11_holds_8 : decode cX11_holds 8 = .ok (.ldc 70, 2) := by decide +kernel
theorem dX11_holds_10 : decode cX11_holds 10 = .ok (.goto 11, 3) := by decide +kernel
theorem dX11_holds_13 : decode cX11_holds 13 = .ok (.aload_n 0, 1) := by decide +kernel
theorem dX11_holds_14 : decode cX11_holds 14 = .ok (.getfield 55, 3) := by decide +kernel
theorem dX11_holds_17 : decode cX11_holds 17 = .ok (.iload_n 1, 1) := by decide +kernel
theorem dX11_holds_18 : decode cX11_holds 18 = .ok (.invokestatic 247, 3) := by decide +kernel
theorem dX11_holds_21 : decode cX11_holds 21 = .ok (.ireturn, 1) := by decide +kernel
set_option maxRecDepth 20000 in
theorem ggX11_falls_X11_noMarket : GoodIn wsX11_falls wsX11_noMarket := goodIn_r _ [8, 3, 9, 99, 100, 101, 102, 103, 104, 105, 106, 107, 108, 109, 110, 111, 112, 113, 114, 115, 116] (by decide +kernel) (by decide +kernel)
set_option maxRecDepth 20000 in
theorem gX11_falls_X11_noMarket : GoodIn wsX11_falls (wsV RX11 171 RX11 yX11_noMarket wsX11_noMarket) := goodIn_app (goodIn_of _ (by decide +kernel)) ggX11_falls_X11_noMarket
set_option maxRecDepth 20000 in
theorem ggX11_falls_X11_isNoBit : GoodIn wsX11_falls wsX11_isNoBit := goodIn_r _ [12] (by decide +kernel) (by decide +kernel)
set_option maxRecDepth 20000 in
theorem gX11_falls_X11_isNoBit : GoodIn wsX11_falls (va_wsS RX11 210 yX11_isNoBit wsX11_isNoBit) := goodIn_app (goodIn_of _ (by decide +kernel)) ggX11_falls_X11_isNoBit
set_option maxRecDepth 20000 in
theorem ggX11_falls_X1_rainsToDrop : GoodIn wsX11_falls wsX1_rainsToDrop := goodIn_r _ [16, 17, 18, 19, 20, 21, 22, 23, 24, 25, 26, 27, 28, 29, 30, 31, 32, 33, 34, 35, 36, 37, 38, 39, 40, 41, 42, 43, 44, 45, 46, 47, 48, 49, 50, 51, 52, 53, 54, 55, 56, 57, 58, 59, 60, 61, 62, 63, 64, 65, 66, 67, 68, 69, 70, 71, 72, 73, 74, 75, 76, 77, 78, 79, 80, 81, 82, 83, 84, 85, 86, 87, 88, 89, 90, 91, 92, 93, 94, 95, 96, 97, 98, 111, 112, 113, 114, 115, 116, 117, 118, 119, 120, 121, 122, 123, 124, 125, 126, 127, 128, 129, 130, 131, 132, 133, 134, 135, 136, 137, 138, 139, 140, 141, 142, 143, 144, 145, 146, 147, 148, 149, 150, 151] (by decide +kernel) (by decide +kernel)
set_option maxRecDepth 20000 in
theorem gX11_falls_X1_rainsToDrop : GoodIn wsX11_falls (va_wsS RX11 250 yX1_rainsToDrop wsX1_rainsToDrop) := goodIn_app (goodIn_of _ (by decide +kernel)) ggX11_falls_X1_rainsToDrop
theorem dX11_falls_0 : decode cX11_falls 0 = .ok (.aload_n 0, 1) := by decide +kernel
theorem dX11_falls_1 : decode cX11_falls 1 = .ok (.invokevirtual 171, 3) := by decide +kernel
theorem dX11_falls_4 : decode cX11_falls 4 = .ok (.ifCond .eq 6, 3) := by decide +kernel
theorem dX11_falls_7 : decode cX11_falls 7 = .ok (.ldc 128, 2) := by decide +kernel
theorem dX11_falls_9 : decode cX11_falls 9 = .ok (.ireturn, 1) := by decide +kernel
theorem dX11_falls_10 : decode cX11_falls 10 = .ok (.iload_n 1, 1) := by decide +kernel
theorem dX11_falls_11 : decode cX11_falls 11 = .ok (.invokestatic 210, 3) := by decide +kernel
theorem dX11_falls_14 : decode cX11_falls 14 = .ok (.ifCond .eq 6, 3) := by decide +kernel
theorem dX11_falls_17 : decode cX11_falls 17 = .ok (.ldc 70, 2) := by decide +kernel
theorem dX11_falls_19 : decode cX11_falls 19 = .ok (.ireturn, 1) := by decide +kernel
theorem dX11_falls_20 : decode cX11_falls 20 = .ok (.aload_n 0, 1) := by decide +kernel
theorem dX11_falls_21 : decode cX11_falls 21 = .ok (.getfield 55, 3) := by decide +kernel
theorem dX11_falls_24 : decode cX11_falls 24 = .ok (.iload_n 1, 1) := by decide +kernel
theorem dX11_falls_25 : decode cX11_falls 25 = .ok (.invokestatic 250, 3) := by decide +kernel
theorem dX11_falls_28 : decode cX11_falls 28 = .ok (.ireturn, 1) := by decide +kernel
set_option maxRecDepth 20000 in
theorem ggX11_dearest_X11_stallAt : GoodIn wsX11_dearest wsX11_stallAt := goodIn_r _ [7, 2, 8, 102, 103, 104, 105, 106, 107, 108, 109, 110, 111, 112, 113, 114, 115, 116, 117, 118, 119] (by decide +kernel) (by decide +kernel)
set_option maxRecDepth 20000 in
theorem gX11_dearest_X11_stallAt : GoodIn wsX11_dearest (wsV RX11 133 RX11 yX11_stallAt wsX11_stallAt) := goodIn_app (goodIn_of _ (by decide +kernel)) ggX11_dearest_X11_stallAt
set_option maxRecDepth 20000 in
theorem ggX11_dearest_X1_dearestPlace : GoodIn wsX11_dearest wsX1_dearestPlace := goodIn_r _ [12, 13, 14, 15, 16, 11, 17, 18, 19, 20, 21, 22, 23, 24, 25, 26, 27, 28, 29, 30, 31, 32, 33, 34, 35, 36, 37, 38, 39, 40, 41, 42, 43, 44, 45, 46, 47, 48, 49, 50, 51, 52, 53, 54, 55, 56, 57, 58, 59, 60, 61, 62, 63, 64, 65, 66, 67, 68, 69, 70, 71, 72, 73, 74, 75, 76, 77, 78, 79, 80, 81, 82, 83, 84, 85, 86, 87, 88, 89, 90, 91, 92, 93, 94, 95, 96, 97, 98, 99, 100, 101, 120, 121, 122, 123, 124, 125, 126, 127, 128, 129, 130, 131, 132, 133, 134, 135, 136, 137, 138, 139, 140, 141, 142, 143, 144, 145, 146, 147, 148, 149, 150, 151, 152, 153, 154, 114, 115, 116, 117, 118, 119] (by decide +kernel) (by decide +kernel)
set_option maxRecDepth 20000 in
theorem gX11_dearest_X1_dearestPlace : GoodIn wsX11_dearest (va_wsS RX11 253 yX1_dearestPlace wsX1_dearestPlace) := goodIn_app (goodIn_of _ (by decide +kernel)) ggX11_dearest_X1_dearestPlace
theorem dX11_dearest_0 : decode cX11_dearest 0 = .ok (.aload_n 0, 1) := by decide +kernel
theorem dX11_dearest_1 : decode cX11_dearest 1 = .ok (.iload_n 1, 1) := by decide +kernel
theorem dX11_dearest_2 : decode cX11_dearest 2 = .ok (.invokevirtual 133, 3) := by decide +kernel
theorem dX11_dearest_5 : decode cX11_dearest 5 = .ok (.astore_n 2, 1) := by decide +kernel
theorem dX11_dearest_6 : decode cX11_dearest 6 = .ok (.aload_n 2, 1) := by decide +kernel
theorem dX11_dearest_7 : decode cX11_dearest 7 = .ok (.ifnonnull 8, 3) := by decide +kernel
theorem dX11_dearest_10 : decode cX11_dearest 10 = .ok (.ldc 70, 2) := by decide +kernel
theorem dX11_dearest_12 : decode cX11_dearest 12 = .ok (.goto 11, 3) := by decide +kernel
theorem dX11_dearest_15 : decode cX11_dearest 15 = .ok (.aload_n 0, 1) := by decide +kernel
theorem dX11_dearest_16 : decode cX11_dearest 16 = .ok (.getfield 55, 3) := by decide +kernel
theorem dX11_dearest_19 : decode cX11_dearest 19 = .ok (.aload_n 2, 1) := by decide +kernel
theorem dX11_dearest_20 : decode cX11_dearest 20 = .ok (.invokestatic 253, 3) := by decide +kernel
theorem dX11_dearest_23 : decode cX11_dearest 23 = .ok (.ireturn, 1) := by decide +kernel
set_option maxRecDepth 20000 in
theorem ggX11_rented_X11_stallAt : GoodIn wsX11_rented wsX11_stallAt := goodIn_r _ [8, 2, 9, 116, 117, 118, 119, 120, 121, 122, 123, 124, 125, 126, 127, 128, 129, 130, 131, 132, 133] (by decide +kernel) (by decide +kernel)
set_option maxRecDepth 20000 in
theorem gX11_rented_X11_stallAt : GoodIn wsX11_rented (wsV RX11 133 RX11 yX11_stallAt wsX11_stallAt) := goodIn_app (goodIn_of _ (by decide +kernel)) ggX11_rented_X11_stallAt
set_option maxRecDepth 20000 in
theorem ggX11_rented_X11_isOfKind : GoodIn wsX11_rented wsX11_isOfKind := goodIn_r _ [12, 13, 14, 15, 16, 17] (by decide +kernel) (by decide +kernel)
set_option maxRecDepth 20000 in
theorem gX11_rented_X11_isOfKind : GoodIn wsX11_rented (va_wsS RX11 257 yX11_isOfKind wsX11_isOfKind) := goodIn_app (goodIn_of _ (by decide +kernel)) ggX11_rented_X11_isOfKind
set_option maxRecDepth 20000 in
theorem ggX11_rented_X3_joins : GoodIn wsX11_rented wsX3_joins := goodIn_r _ [22, 23, 24, 25, 26, 27, 28, 134, 135, 136, 137, 138, 139, 140, 141, 142, 143, 144, 145, 146, 147, 148, 149, 150, 151, 152, 153, 154, 155, 156, 157, 158, 159, 160, 161, 162, 163, 164, 165, 166, 167, 168] (by decide +kernel) (by decide +kernel)
set_option maxRecDepth 20000 in
theorem gX11_rented_X3_joins : GoodIn wsX11_rented (wsV RX11 203 RX3 yX3_joins wsX3_joins) := goodIn_app (goodIn_of _ (by decide +kernel)) ggX11_rented_X3_joins
set_option maxRecDepth 20000 in
theorem ggX11_rented_X1_rentedPlaces : GoodIn wsX11_rented wsX1_rentedPlaces := goodIn_r _ [32, 33, 34, 35, 31, 36, 37, 38, 39, 40, 41, 21, 42, 43, 23, 28, 44, 45, 46, 47, 24, 25, 26, 27, 48, 49, 50, 51, 52, 53, 54, 55, 56, 57, 58, 59, 60, 61, 62, 63, 64, 65, 66, 67, 68, 69, 70, 71, 72, 73, 74, 75, 76, 77, 78, 79, 80, 81, 82, 83, 84, 85, 86, 87, 88, 89, 90, 91, 92, 93, 94, 95, 96, 97, 98, 99, 100, 101, 102, 103, 104, 105, 106, 107, 108, 109, 110, 111, 112, 113, 114, 115, 134, 135, 136, 137, 138, 139, 140, 141, 142, 143, 144, 145, 146, 147, 148, 149, 150, 151, 152, 153, 154, 155, 156, 157, 158, 159, 160, 161, 162, 163, 164, 165, 166, 167, 168, 128, 129, 130, 131, 132, 133] (by decide +kernel) (by decide +kernel)
set_option maxRecDepth 20000 in
theorem gX11_rented_X1_rentedPlaces : GoodIn wsX11_rented (va_wsS RX11 261 yX1_rentedPlaces wsX1_rentedPlaces) := goodIn_app (goodIn_of _ (by decide +kernel)) ggX11_rented_X1_rentedPlaces
theorem dX11_rented_0 : decode cX11_rented 0 = .ok (.aload_n 0, 1) := by decide +kernel
theorem dX11_rented_1 : decode cX11_rented 1 = .ok (.iload_n 1, 1) := by decide +kernel
theorem dX11_rented_2 : decode cX11_rented 2 = .ok (.invokevirtual 133, 3) := by decide +kernel
theorem dX11_rented_5 : decode cX11_rented 5 = .ok (.astore 4, 2) := by decide +kernel
theorem dX11_rented_7 : decode cX11_rented 7 = .ok (.aload_n 0, 1) := by decide +kernel
theorem dX11_rented_8 : decode cX11_rented 8 = .ok (.iload_n 2, 1) := by decide +kernel
theorem dX11_rented_9 : decode cX11_rented 9 = .ok (.invokevirtual 133, 3) := by decide +kernel
theorem dX11_rented_12 : decode cX11_rented 12 = .ok (.astore 5, 2) := by decide +kernel
theorem dX11_rented_14 : decode cX11_rented 14 = .ok (.aload_n 0, 1) := by decide +kernel
theorem dX11_rented_15 : decode cX11_rented 15 = .ok (.iload_n 3, 1) := by decide +kernel
theorem dX11_rented_16 : decode cX11_rented 16 = .ok (.invokevirtual 133, 3) := by decide +kernel
theorem dX11_rented_19 : decode cX11_rented 19 = .ok (.astore 6, 2) := by decide +kernel
theorem dX11_rented_21 : decode cX11_rented 21 = .ok (.aload 4, 2) := by decide +kernel
theorem dX11_rented_23 : decode cX11_rented 23 = .ok (.ifnull 18, 3) := by decide +kernel
theorem dX11_rented_26 : decode cX11_rented 26 = .ok (.aload 5, 2) := by decide +kernel
theorem dX11_rented_28 : decode cX11_rented 28 = .ok (.ifnull 13, 3) := by decide +kernel
theorem dX11_rented_31 : decode cX11_rented 31 = .ok (.aload 6, 2) := by decide +kernel
theorem dX11_rented_33 : decode cX11_rented 33 = .ok (.ifnull 8, 3) := by decide +kernel
theorem dX11_rented_36 : decode cX11_rented 36 = .ok (.iload_n 2, 1) := by decide +kernel
theorem dX11_rented_37 : decode cX11_rented 37 = .ok (.iload_n 3, 1) := by decide +kernel
theorem dX11_rented_38 : decode cX11_rented 38 = .ok (.if_icmp .ne 6, 3) := by decide +kernel
theorem dX11_rented_41 : decode cX11_rented 41 = .ok (.ldc 70, 2) := by decide +kernel
theorem dX11_rented_43 : decode cX11_rented 43 = .ok (.ireturn, 1) := by decide +kernel
theorem dX11_rented_44 : decode cX11_rented 44 = .ok (.aload 4, 2) := by decide +kernel
theorem dX11_rented_46 : decode cX11_rented 46 = .ok (.iconst 4, 1) := by decide +kernel
theorem dX11_rented_47 : decode cX11_rented 47 = .ok (.invokestatic 257, 3) := by decide +kernel
theorem dX11_rented_50 : decode cX11_rented 50 = .ok (.ifCond .eq 27, 3) := by decide +kernel
theorem dX11_rented_53 : decode cX11_rented 53 = .ok (.aload_n 0, 1) := by decide +kernel
theorem dX11_rented_54 : decode cX11_rented 54 = .ok (.getfield 55, 3) := by decide +kernel
theorem dX11_rented_57 : decode cX11_rented 57 = .ok (.aload 5, 2) := by decide +kernel
theorem dX11_rented_59 : decode cX11_rented 59 = .ok (.aload 6, 2) := by decide +kernel
theorem dX11_rented_61 : decode cX11_rented 61 = .ok (.invokevirtual 203, 3) := by decide +kernel
theorem dX11_rented_64 : decode cX11_rented 64 = .ok (.ifCond .eq 13, 3) := by decide +kernel
theorem dX11_rented_67 : decode cX11_rented 67 = .ok (.iload_n 1, 1) := by decide +kernel
theorem dX11_rented_68 : decode cX11_rented 68 = .ok (.iload_n 2, 1) := by decide +kernel
theorem dX11_rented_69 : decode cX11_rented 69 = .ok (.if_icmp .eq 8, 3) := by decide +kernel
theorem dX11_rented_72 : decode cX11_rented 72 = .ok (.iload_n 1, 1) := by decide +kernel
theorem dX11_rented_73 : decode cX11_rented 73 = .ok (.iload_n 3, 1) := by decide +kernel
theorem dX11_rented_74 : decode cX11_rented 74 = .ok (.if_icmp .ne 6, 3) := by decide +kernel
theorem dX11_rented_77 : decode cX11_rented 77 = .ok (.ldc 128, 2) := by decide +kernel
theorem dX11_rented_79 : decode cX11_rented 79 = .ok (.ireturn, 1) := by decide +kernel
theorem dX11_rented_80 : decode cX11_rented 80 = .ok (.aload_n 0, 1) := by decide +kernel
theorem dX11_rented_81 : decode cX11_rented 81 = .ok (.getfield 55, 3) := by decide +kernel
theorem dX11_rented_84 : decode cX11_rented 84 = .ok (.aload 4, 2) := by decide +kernel
theorem dX11_rented_86 : decode cX11_rented 86 = .ok (.aload 5, 2) := by decide +kernel
theorem dX11_rented_88 : decode cX11_rented 88 = .ok (.aload 6, 2) := by decide +kernel
theorem dX11_rented_90 : decode cX11_rented 90 = .ok (.invokestatic 261, 3) := by decide +kernel
theorem dX11_rented_93 : decode cX11_rented 93 = .ok (.ireturn, 1) := by decide +kernel
set_option maxRecDepth 20000 in
theorem ggX11_wind_X11_noMarket : GoodIn wsX11_wind wsX11_noMarket := goodIn_r _ [9, 4, 10, 115, 116, 117, 118, 119, 120, 121, 122, 123, 124, 125, 126, 127, 128, 129, 130, 131, 132] (by decide +kernel) (by decide +kernel)
set_option maxRecDepth 20000 in
theorem gX11_wind_X11_noMarket : GoodIn wsX11_wind (wsV RX11 171 RX11 yX11_noMarket wsX11_noMarket) := goodIn_app (goodIn_of _ (by decide +kernel)) ggX11_wind_X11_noMarket
set_option maxRecDepth 20000 in
theorem ggX11_wind_X11_noRope : GoodIn wsX11_wind wsX11_noRope := goodIn_r _ [14, 4, 10, 115, 116, 117, 118, 119, 120, 121, 122, 123, 124, 125, 126, 127, 128, 129, 130, 131, 132] (by decide +kernel) (by decide +kernel)
set_option maxRecDepth 20000 in
theorem gX11_wind_X11_noRope : GoodIn wsX11_wind (wsV RX11 177 RX11 yX11_noRope wsX11_noRope) := goodIn_app (goodIn_of _ (by decide +kernel)) ggX11_wind_X11_noRope
set_option maxRecDepth 20000 in
theorem ggX11_wind_X1_afterWind : GoodIn wsX11_wind wsX1_afterWind := goodIn_r _ [18, 19, 20, 21, 22, 23, 24, 25, 26, 27, 28, 29, 30, 31, 32, 33, 34, 35, 36, 37, 38, 39, 40, 41, 42, 43, 44, 45, 46, 47, 48, 49, 50, 51, 52, 53, 54, 55, 56, 57, 58, 59, 60, 61, 62, 63, 64, 65, 66, 67, 68, 69, 70, 71, 72, 73, 74, 75, 76, 77, 78, 79, 80, 81, 82, 83, 84, 85, 86, 87, 88, 89, 90, 91, 92, 93, 94, 95, 96, 97, 98, 99, 100, 101, 102, 103, 104, 105, 106, 107, 108, 109, 110, 111, 112, 113, 114, 127, 128, 129, 130, 131, 132, 133, 134, 135, 136, 137, 138, 139, 140, 141, 142, 143, 144, 145, 146, 147, 148, 149, 150, 151, 152, 153, 154, 155, 156, 157, 158, 159, 160, 161, 162, 163, 164, 165, 166, 167] (by decide +kernel) (by decide +kernel)
set_option maxRecDepth 20000 in
theorem gX11_wind_X1_afterWind : GoodIn wsX11_wind (va_wsS RX11 266 yX1_afterWind wsX1_afterWind) := goodIn_app (goodIn_of _ (by decide +kernel)) ggX11_wind_X1_afterWind
theorem dX11_wind_0 : decode cX11_wind 0 = .ok (.aload_n 0, 1) := by decide +kernel
theorem dX11_wind_1 : decode cX11_wind 1 = .ok (.invokevirtual 171, 3) := by decide +kernel
theorem dX11_wind_4 : decode cX11_wind 4 = .ok (.ifCond .eq 6, 3) := by decide +kernel
theorem dX11_wind_7 : decode cX11_wind 7 = .ok (.ldc 128, 2) := by decide +kernel
theorem dX11_wind_9 : decode cX11_wind 9 = .ok (.ireturn, 1) := by decide +kernel
theorem dX11_wind_10 : decode cX11_wind 10 = .ok (.iload_n 1, 1) := by decide +kernel
theorem dX11_wind_11 : decode cX11_wind 11 = .ok (.ifCond .lt 34, 3) := by decide +kernel
theorem dX11_wind_14 : decode cX11_wind 14 = .ok (.iload_n 1, 1) := by decide +kernel
theorem dX11_wind_15 : decode cX11_wind 15 = .ok (.bipush 40, 2) := by decide +kernel
theorem dX11_wind_17 : decode cX11_wind 17 = .ok (.if_icmp .gt 28, 3) := by decide +kernel
theorem dX11_wind_20 : decode cX11_wind 20 = .ok (.iload_n 2, 1) := by decide +kernel
theorem dX11_wind_21 : decode cX11_wind 21 = .ok (.iconst 1, 1) := by decide +kernel
theorem dX11_wind_22 : decode cX11_wind 22 = .ok (.if_icmp .lt 23, 3) := by decide +kernel
theorem dX11_wind_25 : decode cX11_wind 25 = .ok (.iload_n 2, 1) := by decide +kernel
theorem dX11_wind_26 : decode cX11_wind 26 = .ok (.ldc_w 265, 3) := by decide +kernel
theorem dX11_wind_29 : decode cX11_wind 29 = .ok (.if_icmp .gt 16, 3) := by decide +kernel
theorem dX11_wind_32 : decode cX11_wind 32 = .ok (.iload_n 3, 1) := by decide +kernel
theorem dX11_wind_33 : decode cX11_wind 33 = .ok (.iconst (-1), 1) := by decide +kernel
theorem dX11_wind_34 : decode cX11_wind 34 = .ok (.if_icmp .eq 14, 3) := by decide +kernel
theorem dX11_wind_37 : decode cX11_wind 37 = .ok (.aload_n 0, 1) := by decide +kernel
theorem dX11_wind_38 : decode cX11_wind 38 = .ok (.iload_n 3, 1) := by decide +kernel
theorem dX11_wind_39 : decode cX11_wind 39 = .ok (.invokevirtual 177, 3) := by decide +kernel
theorem dX11_wind_42 : decode cX11_wind 42 = .ok (.ifCond .eq 6, 3) := by decide +kernel
theorem dX11_wind_45 : decode cX11_wind 45 = .ok (.ldc 70, 2) := by decide +kernel
theorem dX11_wind_47 : decode cX11_wind 47 = .ok (.ireturn, 1) := by decide +kernel
theorem dX11_wind_48 : decode cX11_wind 48 = .ok (.aload_n 0, 1) := by decide +kernel
theorem dX11_wind_49 : decode cX11_wind 49 = .ok (.getfield 55, 3) := by decide +kernel
theorem dX11_wind_52 : decode cX11_wind 52 = .ok (.iload_n 1, 1) := by decide +kernel
theorem dX11_wind_53 : decode cX11_wind 53 = .ok (.iload_n 2, 1) := by decide +kernel
theorem dX11_wind_54 : decode cX11_wind 54 = .ok (.iload_n 3, 1) := by decide +kernel
theorem dX11_wind_55 : decode cX11_wind 55 = .ok (.invokestatic 266, 3) := by decide +kernel
theorem dX11_wind_58 : decode cX11_wind 58 = .ok (.ireturn, 1) := by decide +kernel
set_option maxRecDepth 20000 in
theorem ggX11_image_X11_noImage : GoodIn wsX11_image wsX11_noImage := goodIn_r _ [8] (by decide +kernel) (by decide +kernel)
set_option maxRecDepth 20000 in
theorem gX11_image_X11_noImage : GoodIn wsX11_image (va_wsS RX11 270 yX11_noImage wsX11_noImage) := goodIn_app (goodIn_of _ (by decide +kernel)) ggX11_image_X11_noImage
set_option maxRecDepth 20000 in
theorem ggX11_image_X11_noMarket : GoodIn wsX11_image wsX11_noMarket := goodIn_r _ [12, 4, 13, 104, 105, 106, 107, 108, 109, 110, 111, 112, 113, 114, 115, 116, 117, 118, 119, 120, 121] (by decide +kernel) (by decide +kernel)
set_option maxRecDepth 20000 in
theorem gX11_image_X11_noMarket : GoodIn wsX11_image (wsV RX11 171 RX11 yX11_noMarket wsX11_noMarket) := goodIn_app (goodIn_of _ (by decide +kernel)) ggX11_image_X11_noMarket
set_option maxRecDepth 20000 in
theorem ggX11_image_X3_twin : GoodIn wsX11_image wsX3_twin := goodIn_r _ [18, 19, 20, 17, 21, 22, 23, 24, 25, 26, 27, 28, 29, 30, 31, 32, 33, 34, 35, 36, 37, 38, 39, 40, 41, 42, 43, 44, 45, 46, 47, 48, 49, 50, 51, 52, 53, 54, 55, 56, 57, 58, 59, 60, 61, 62, 63, 64, 65, 66, 67, 68, 69, 70, 71, 72, 73, 74, 75, 76, 77, 78, 79, 80, 81, 82, 83, 84, 85, 86, 87, 88, 89, 90, 91, 92, 93, 94, 95, 96, 97, 98, 99, 100, 101, 102, 103, 116, 117, 118, 119, 120, 121, 122, 123, 124, 125, 126, 127, 128, 129, 130, 131, 132, 133, 134, 135, 136, 137, 138, 139, 140, 141, 142, 143, 144, 145, 146, 147, 148, 149, 150, 151, 152, 153, 154, 155, 156] (by decide +kernel) (by decide +kernel)
set_option maxRecDepth 20000 in
theorem gX11_image_X3_twin : GoodIn wsX11_image (wsV RX11 273 RX3 yX3_twin wsX3_twin) := goodIn_app (goodIn_of _ (by decide +kernel)) ggX11_image_X3_twin
theorem dX11_image_0 : decode cX11_image 0 = .ok (.iload_n 1, 1) := by decide +kernel
theorem dX11_image_1 : decode cX11_image 1 = .ok (.invokestatic 270, 3) := by decide +kernel
theorem dX11_image_4 : decode cX11_image 4 = .ok (.ifCond .eq 6, 3) := by decide +kernel
theorem dX11_image_7 : decode cX11_image 7 = .ok (.ldc 70, 2) := by decide +kernel
theorem dX11_image_9 : decode cX11_image 9 = .ok (.ireturn, 1) := by decide +kernel
theorem dX11_image_10 : decode cX11_image 10 = .ok (.aload_n 0, 1) := by decide +kernel
theorem dX11_image_11 : decode cX11_image 11 = .ok (.invokevirtual 171, 3) := by decide +kernel
theorem dX11_image_14 : decode cX11_image 14 = .ok (.ifCond .eq 6, 3) := by decide +kernel
theorem dX11_image_17 : decode cX11_image 17 = .ok (.ldc 128, 2) := by decide +kernel
theorem dX11_image_19 : decode cX11_image 19 = .ok (.ireturn, 1) := by decide +kernel
theorem dX11_image_20 : decode cX11_image 20 = .ok (.aload_n 0, 1) := by decide +kernel
theorem dX11_image_21 : decode cX11_image 21 = .ok (.getfield 31, 3) := by decide +kernel
theorem dX11_image_24 : decode cX11_image 24 = .ok (.iload_n 1, 1) := by decide +kernel
theorem dX11_image_25 : decode cX11_image 25 = .ok (.aload_n 0, 1) := by decide +kernel
theorem dX11_image_26 : decode cX11_image 26 = .ok (.getfield 55, 3) := by decide +kernel
theorem dX11_image_29 : decode cX11_image 29 = .ok (.invokevirtual 273, 3) := by decide +kernel
theorem dX11_image_32 : decode cX11_image 32 = .ok (.aastore, 1) := by decide +kernel
theorem dX11_image_33 : decode cX11_image 33 = .ok (.iconst 1, 1) := by decide +kernel
theorem dX11_image_34 : decode cX11_image 34 = .ok (.ireturn, 1) := by decide +kernel
set_option maxRecDepth 20000 in
theorem ggX11_restore_X11_noImage : GoodIn wsX11_restore wsX11_noImage := goodIn_r _ [9] (by decide +kernel) (by decide +kernel)
set_option maxRecDepth 20000 in
theorem gX11_restore_X11_noImage : GoodIn wsX11_restore (va_wsS RX11 270 yX11_noImage wsX11_noImage) := goodIn_app (goodIn_of _ (by decide +kernel)) ggX11_restore_X11_noImage
set_option maxRecDepth 20000 in
theorem ggX11_restore_X3_twin : GoodIn wsX11_restore wsX3_twin := goodIn_r _ [14, 15, 16, 13, 17, 18, 19, 20, 21, 22, 23, 24, 25, 26, 27, 28, 29, 30, 31, 32, 33, 34, 35, 36, 37, 38, 39, 40, 41, 42, 43, 44, 45, 46, 47, 48, 49, 50, 51, 52, 53, 54, 55, 56, 57, 58, 59, 60, 61, 62, 63, 64, 65, 66, 67, 68, 69, 70, 71, 72, 73, 74, 75, 76, 77, 78, 79, 80, 81, 82, 83, 84, 85, 86, 87, 88, 89, 90, 91, 92, 93, 94, 95, 96, 97, 98, 99, 112, 113, 114, 115, 116, 117, 118, 119, 120, 121, 122, 123, 124, 125, 126, 127, 128, 129, 130, 131, 132, 133, 134, 135, 136, 137, 138, 139, 140, 141, 142, 143, 144, 145, 146, 147, 148, 149, 150, 151, 152] (by decide +kernel) (by decide +kernel)
set_option maxRecDepth 20000 in
theorem gX11_restore_X3_twin : GoodIn wsX11_restore (wsV RX11 273 RX3 yX3_twin wsX3_twin) := goodIn_app (goodIn_of _ (by decide +kernel)) ggX11_restore_X3_twin
theorem dX11_restore_0 : decode cX11_restore 0 = .ok (.iload_n 1, 1) := by decide +kernel
theorem dX11_restore_1 : decode cX11_restore 1 = .ok (.invokestatic 270, 3) := by decide +kernel
theorem dX11_restore_4 : decode cX11_restore 4 = .ok (.ifCond .eq 6, 3) := by decide +kernel
theorem dX11_restore_7 : decode cX11_restore 7 = .ok (.ldc 70, 2) := by decide +kernel
theorem dX11_restore_9 : decode cX11_restore 9 = .ok (.ireturn, 1) := by decide +kernel
theorem dX11_restore_10 : decode cX11_restore 10 = .ok (.aload_n 0, 1) := by decide +kernel
theorem dX11_restore_11 : decode cX11_restore 11 = .ok (.getfield 31, 3) := by decide +kernel
theorem dX11_restore_14 : decode cX11_restore 14 = .ok (.iload_n 1, 1) := by decide +kernel
theorem dX11_restore_15 : decode cX11_restore 15 = .ok (.aaload, 1) := by decide +kernel
theorem dX11_restore_16 : decode cX11_restore 16 = .ok (.astore_n 2, 1) := by decide +kernel
theorem dX11_restore_17 : decode cX11_restore 17 = .ok (.aload_n 2, 1) := by decide +kernel
theorem dX11_restore_18 : decode cX11_restore 18 = .ok (.ifnonnull 6, 3) := by decide +kernel
theorem dX11_restore_21 : decode cX11_restore 21 = .ok (.ldc 128, 2) := by decide +kernel
theorem dX11_restore_23 : decode cX11_restore 23 = .ok (.ireturn, 1) := by decide +kernel
theorem dX11_restore_24 : decode cX11_restore 24 = .ok (.aload_n 0, 1) := by decide +kernel
theorem dX11_restore_25 : decode cX11_restore 25 = .ok (.aload_n 2, 1) := by decide +kernel
theorem dX11_restore_26 : decode cX11_restore 26 = .ok (.invokevirtual 273, 3) := by decide +kernel
theorem dX11_restore_29 : decode cX11_restore 29 = .ok (.putfield 55, 3) := by decide +kernel
theorem dX11_restore_32 : decode cX11_restore 32 = .ok (.aload_n 0, 1) := by decide +kernel
theorem dX11_restore_33 : decode cX11_restore 33 = .ok (.iconst 0, 1) := by decide +kernel
theorem dX11_restore_34 : decode cX11_restore 34 = .ok (.putfield 48, 3) := by decide +kernel
theorem dX11_restore_37 : decode cX11_restore 37 = .ok (.iconst 1, 1) := by decide +kernel
theorem dX11_restore_38 : decode cX11_restore 38 = .ok (.ireturn, 1) := by decide +kernel
set_option maxRecDepth 20000 in
theorem ggX11_kind_X11_stallAt : GoodIn wsX11_kind wsX11_stallAt := goodIn_r _ [6, 7, 8, 31, 32, 33, 34, 35, 36, 37, 38, 39, 40, 41, 42, 43, 44, 45, 46, 47, 48] (by decide +kernel) (by decide +kernel)
set_option maxRecDepth 20000 in
theorem gX11_kind_X11_stallAt : GoodIn wsX11_kind (wsV RX11 133 RX11 yX11_stallAt wsX11_stallAt) := goodIn_app (goodIn_of _ (by decide +kernel)) ggX11_kind_X11_stallAt
set_option maxRecDepth 20000 in
theorem ggX11_kind_X0_kindTold : GoodIn wsX11_kind wsX0_kindTold := goodIn_r _ [14] (by decide +kernel) (by decide +kernel)
set_option maxRecDepth 20000 in
theorem gX11_kind_X0_kindTold_u276X0 : GoodIn wsX11_kind (va_wsU RX11 276 RX0 "HungStalls$Stall" ⟨"HungStalls$Stall", "kindTold", "()I"⟩ yX0_kindTold wsX0_kindTold) := goodIn_app (goodIn_of _ (by decide +kernel)) ggX11_kind_X0_kindTold
set_option maxRecDepth 20000 in
theorem ggX11_kind_X2_kindTold : GoodIn wsX11_kind wsX2_kindTold := goodIn_r _ [18] (by decide +kernel) (by decide +kernel)
set_option maxRecDepth 20000 in
theorem gX11_kind_X2_kindTold_u276X2 : GoodIn wsX11_kind (va_wsU RX11 276 RX2 "HungStalls$Stall" ⟨"HungStalls$Stall", "kindTold", "()I"⟩ yX2_kindTold wsX2_kindTold) := goodIn_app (goodIn_of _ (by decide +kernel)) ggX11_kind_X2_kindTold
set_option maxRecDepth 20000 in
theorem ggX11_kind_X4_kindTold : GoodIn wsX11_kind wsX4_kindTold := goodIn_r _ [22] (by decide +kernel) (by decide +kernel)
set_option maxRecDepth 20000 in
theorem gX11_kind_X4_kindTold_u276X4 : GoodIn wsX11_kind (va_wsU RX11 276 RX4 "HungStalls$Stall" ⟨"HungStalls$Stall", "kindTold", "()I"⟩ yX4_kindTold wsX4_kindTold) := goodIn_app (goodIn_of _ (by decide +kernel)) ggX11_kind_X4_kindTold
set_option maxRecDepth 20000 in
theorem ggX11_kind_X7_kindTold : GoodIn wsX11_kind wsX7_kindTold := goodIn_r _ [26] (by decide +kernel) (by decide +kernel)
set_option maxRecDepth 20000 in
theorem gX11_kind_X7_kindTold_u276X7 : GoodIn wsX11_kind (va_wsU RX11 276 RX7 "HungStalls$Stall" ⟨"HungStalls$Stall", "kindTold", "()I"⟩ yX7_kindTold wsX7_kindTold) := goodIn_app (goodIn_of _ (by decide +kernel)) ggX11_kind_X7_kindTold
set_option maxRecDepth 20000 in
theorem ggX11_kind_X10_kindTold : GoodIn wsX11_kind wsX10_kindTold := goodIn_r _ [30] (by decide +kernel) (by decide +kernel)
set_option maxRecDepth 20000 in
theorem gX11_kind_X10_kindTold_u276X10 : GoodIn wsX11_kind (va_wsU RX11 276 RX10 "HungStalls$Stall" ⟨"HungStalls$Stall", "kindTold", "()I"⟩ yX10_kindTold wsX10_kindTold) := goodIn_app (goodIn_of _ (by decide +kernel)) ggX11_kind_X10_kindTold
theorem dX11_kind_0 : decode cX11_kind 0 = .ok (.aload_n 0, 1) := by decide +kernel
theorem dX11_kind_1 : decode cX11_kind 1 = .ok (.iload_n 1, 1) := by decide +kernel
theorem dX11_kind_2 : decode cX11_kind 2 = .ok (.invokevirtual 133, 3) := by decide +kernel
theorem dX11_kind_5 : decode cX11_kind 5 = .ok (.astore_n 2, 1) := by decide +kernel
theorem dX11_kind_6 : decode cX11_kind 6 = .ok (.aload_n 2, 1) := by decide +kernel
theorem dX11_kind_7 : decode cX11_kind 7 = .ok (.ifnonnull 8, 3) := by decide +kernel
theorem dX11_kind_10 : decode cX11_kind 10 = .ok (.ldc 70, 2) := by decide +kernel
theorem dX11_kind_12 : decode cX11_kind 12 = .ok (.goto 7, 3) := by decide +kernel
theorem dX11_kind_15 : decode cX11_kind 15 = .ok (.aload_n 2, 1) := by decide +kernel
theorem dX11_kind_16 : decode cX11_kind 16 = .ok (.invokevirtual 276, 3) := by decide +kernel
theorem dX11_kind_19 : decode cX11_kind 19 = .ok (.ireturn, 1) := by decide +kernel
set_option maxRecDepth 20000 in
theorem ggX11_as_X11_stallAt : GoodIn wsX11_as wsX11_stallAt := goodIn_r _ [6, 7, 8, 27, 28, 29, 30, 31, 32, 33, 34, 35, 36, 37, 38, 39, 40, 41, 42, 43, 44] (by decide +kernel) (by decide +kernel)
set_option maxRecDepth 20000 in
theorem gX11_as_X11_stallAt : GoodIn wsX11_as (wsV RX11 133 RX11 yX11_stallAt wsX11_stallAt) := goodIn_app (goodIn_of _ (by decide +kernel)) ggX11_as_X11_stallAt
set_option maxRecDepth 20000 in
theorem ggX11_as_X11_isOfKind : GoodIn wsX11_as wsX11_isOfKind := goodIn_r _ [11, 12, 13, 14, 15, 16] (by decide +kernel) (by decide +kernel)
set_option maxRecDepth 20000 in
theorem gX11_as_X11_isOfKind : GoodIn wsX11_as (va_wsS RX11 257 yX11_isOfKind wsX11_isOfKind) := goodIn_app (goodIn_of _ (by decide +kernel)) ggX11_as_X11_isOfKind
set_option maxRecDepth 20000 in
theorem ggX11_as_X11_unfound : GoodIn wsX11_as wsX11_unfound := goodIn_r _ [20, 21, 27, 28, 29, 30, 31, 32, 33, 34, 35, 36, 37, 38] (by decide +kernel) (by decide +kernel)
set_option maxRecDepth 20000 in
theorem gX11_as_X11_unfound : GoodIn wsX11_as (wsV RX11 78 RX11 yX11_unfound wsX11_unfound) := goodIn_app (goodIn_of _ (by decide +kernel)) ggX11_as_X11_unfound
set_option maxRecDepth 20000 in
theorem ggX11_as_X11_found : GoodIn wsX11_as wsX11_found := goodIn_r _ [25, 21, 26, 27, 28, 29, 30, 31, 32, 33, 34, 35, 36, 37, 38] (by decide +kernel) (by decide +kernel)
set_option maxRecDepth 20000 in
theorem gX11_as_X11_found : GoodIn wsX11_as (wsV RX11 71 RX11 yX11_found wsX11_found) := goodIn_app (goodIn_of _ (by decide +kernel)) ggX11_as_X11_found
theorem dX11_as_0 : decode cX11_as 0 = .ok (.aload_n 0, 1) := by decide +kernel
theorem dX11_as_1 : decode cX11_as 1 = .ok (.iload_n 1, 1) := by decide +kernel
theorem dX11_as_2 : decode cX11_as 2 = .ok (.invokevirtual 133, 3) := by decide +kernel
theorem dX11_as_5 : decode cX11_as 5 = .ok (.astore_n 3, 1) := by decide +kernel
theorem dX11_as_6 : decode cX11_as 6 = .ok (.aload_n 3, 1) := by decide +kernel
theorem dX11_as_7 : decode cX11_as 7 = .ok (.ifnull 12, 3) := by decide +kernel
theorem dX11_as_10 : decode cX11_as 10 = .ok (.iload_n 2, 1) := by decide +kernel
theorem dX11_as_11 : decode cX11_as 11 = .ok (.ifCond .lt 8, 3) := by decide +kernel
theorem dX11_as_14 : decode cX11_as 14 = .ok (.iload_n 2, 1) := by decide +kernel
theorem dX11_as_15 : decode cX11_as 15 = .ok (.iconst 5, 1) := by decide +kernel
theorem dX11_as_16 : decode cX11_as 16 = .ok (.if_icmp .le 6, 3) := by decide +kernel
theorem dX11_as_19 : decode cX11_as 19 = .ok (.ldc 70, 2) := by decide +kernel
theorem dX11_as_21 : decode cX11_as 21 = .ok (.ireturn, 1) := by decide +kernel
theorem dX11_as_22 : decode cX11_as 22 = .ok (.aload_n 3, 1) := by decide +kernel
theorem dX11_as_23 : decode cX11_as 23 = .ok (.iload_n 2, 1) := by decide +kernel
theorem dX11_as_24 : decode cX11_as 24 = .ok (.invokestatic 257, 3) := by decide +kernel
theorem dX11_as_27 : decode cX11_as 27 = .ok (.ifCond .eq 11, 3) := by decide +kernel
theorem dX11_as_30 : decode cX11_as 30 = .ok (.aload_n 0, 1) := by decide +kernel
theorem dX11_as_31 : decode cX11_as 31 = .ok (.iload_n 1, 1) := by decide +kernel
theorem dX11_as_32 : decode cX11_as 32 = .ok (.invokevirtual 78, 3) := by decide +kernel
theorem dX11_as_35 : decode cX11_as 35 = .ok (.goto 8, 3) := by decide +kernel
theorem dX11_as_38 : decode cX11_as 38 = .ok (.aload_n 0, 1) := by decide +kernel
theorem dX11_as_39 : decode cX11_as 39 = .ok (.iconst 3, 1) := by decide +kernel
theorem dX11_as_40 : decode cX11_as 40 = .ok (.invokevirtual 71, 3) := by decide +kernel
theorem dX11_as_43 : decode cX11_as 43 = .ok (.ireturn, 1) := by decide +kernel
set_option maxRecDepth 20000 in
theorem ggX11_ask_X11_stallAt : GoodIn wsX11_ask wsX11_stallAt := goodIn_r _ [8, 9, 10, 141, 142, 143, 144, 145, 146, 147, 148, 149, 150, 151, 152, 155, 156, 157, 158, 159, 160] (by decide +kernel) (by decide +kernel)
set_option maxRecDepth 20000 in
theorem gX11_ask_X11_stallAt : GoodIn wsX11_ask (wsV RX11 133 RX11 yX11_stallAt wsX11_stallAt) := goodIn_app (goodIn_of _ (by decide +kernel)) ggX11_ask_X11_stallAt
set_option maxRecDepth 20000 in
theorem ggX11_ask_X11_isNoBit : GoodIn wsX11_ask wsX11_isNoBit := goodIn_r _ [13] (by decide +kernel) (by decide +kernel)
set_option maxRecDepth 20000 in
theorem gX11_ask_X11_isNoBit : GoodIn wsX11_ask (va_wsS RX11 210 yX11_isNoBit wsX11_isNoBit) := goodIn_app (goodIn_of _ (by decide +kernel)) ggX11_ask_X11_isNoBit
set_option maxRecDepth 20000 in
theorem ggX11_ask_X7_size : GoodIn wsX11_ask wsX7_size := goodIn_r _ [20, 21, 22, 23, 24, 25, 26, 27, 28, 15, 29, 30, 31, 32, 33, 34, 35, 36, 37, 38, 39, 40, 41, 42, 43, 44, 45, 19, 46, 47, 48, 49, 50, 51, 52, 53, 54, 55, 56, 57, 58, 59, 60, 61, 62, 63, 64, 65, 66, 67, 68, 69, 70, 71, 72, 73, 74, 75, 76, 77, 78, 79, 80, 81, 82, 83, 84, 85, 86, 87, 88, 89, 90, 91, 92, 93, 94, 95, 96, 97, 98, 99, 100, 101, 102, 103, 104, 105, 106, 153, 154, 161, 162, 163, 164, 165, 166, 167, 168, 169, 170, 171, 172, 173, 174, 175, 176, 177, 178, 179, 180, 181, 182, 183, 184, 185, 186, 187, 188, 189, 190, 191, 192, 193, 194, 195] (by decide +kernel) (by decide +kernel)
set_option maxRecDepth 20000 in
theorem gX11_ask_X7_size_u280X0 : GoodIn wsX11_ask (va_wsO RX11 280 RX0 "HungStalls$Stall" ⟨"HungStalls$Stall", "size", "(LHungStalls$Trace;)I"⟩ yX7_size wsX7_size) := goodIn_app (goodIn_of _ (by decide +kernel)) ggX11_ask_X7_size
set_option maxRecDepth 20000 in
theorem ggX11_ask_X2_size : GoodIn wsX11_ask wsX2_size := goodIn_r _ [109, 102, 22, 23, 24, 25, 26, 27, 110, 111, 104, 18, 19, 20, 21, 28, 15, 29, 30, 31, 32, 33, 34, 35, 36, 37, 38, 39, 40, 41, 42, 43, 44, 45, 46, 47, 48, 49, 50, 51, 52, 53, 54, 55, 56, 57, 58, 59, 60, 61, 62, 63, 64, 65, 66, 67, 68, 69, 70, 71, 72, 73, 74, 75, 76, 77, 78, 79, 80, 81, 82, 83, 84, 85, 86, 87, 88, 89, 90, 91, 92, 93, 94, 95, 96, 97, 98, 99, 100, 101, 103, 105, 106, 153, 154, 161, 162, 163, 164, 165, 166, 167, 168, 169, 170, 171, 172, 173, 174, 175, 176, 177, 178, 179, 180, 181, 182, 183, 184, 185, 186, 187, 188, 189, 190, 191, 192, 193, 194, 195] (by decide +kernel) (by decide +kernel)
set_option maxRecDepth 20000 in
theorem gX11_ask_X2_size_u280X2 : GoodIn wsX11_ask (va_wsO RX11 280 RX2 "HungStalls$Stall" ⟨"HungStalls$Stall", "size", "(LHungStalls$Trace;)I"⟩ yX2_size wsX2_size) := goodIn_app (goodIn_of _ (by decide +kernel)) ggX11_ask_X2_size
set_option maxRecDepth 20000 in
theorem ggX11_ask_X4_size : GoodIn wsX11_ask wsX4_size := goodIn_r _ [114, 115, 22, 23, 24, 25, 26, 27, 116, 15, 117, 30, 31, 32, 33, 34, 153, 154, 161, 162, 163, 164, 165, 166, 167, 168, 169, 170, 171, 172, 173, 174, 175, 176, 177, 178, 179, 180, 181, 182, 183, 184, 185, 186, 187, 188, 189, 190, 191, 192, 193, 194, 195] (by decide +kernel) (by decide +kernel)
set_option maxRecDepth 20000 in
theorem gX11_ask_X4_size_u280X4 : GoodIn wsX11_ask (va_wsO RX11 280 RX4 "HungStalls$Stall" ⟨"HungStalls$Stall", "size", "(LHungStalls$Trace;)I"⟩ yX4_size wsX4_size) := goodIn_app (goodIn_of _ (by decide +kernel)) ggX11_ask_X4_size
set_option maxRecDepth 20000 in
theorem gX11_ask_X7_size_u280X7 : GoodIn wsX11_ask (va_wsO RX11 280 RX7 "HungStalls$Stall" ⟨"HungStalls$Stall", "size", "(LHungStalls$Trace;)I"⟩ yX7_size wsX7_size) := goodIn_app (goodIn_of _ (by decide +kernel)) ggX11_ask_X7_size
set_option maxRecDepth 20000 in
theorem ggX11_ask_X10_size : GoodIn wsX11_ask wsX10_size := goodIn_r _ [121, 122, 22, 23, 24, 25, 26, 27, 123, 124, 125, 113, 93, 114, 115, 116, 15, 117, 30, 31, 32, 33, 34, 153, 154, 161, 162, 163, 164, 165, 166, 167, 168, 169, 170, 171, 172, 173, 174, 175, 176, 177, 178, 179, 180, 181, 182, 183, 184, 185, 186, 187, 188, 189, 190, 191, 192, 193, 194, 195] (by decide +kernel) (by decide +kernel)
set_option maxRecDepth 20000 in
theorem gX11_ask_X10_size_u280X10 : GoodIn wsX11_ask (va_wsO RX11 280 RX10 "HungStalls$Stall" ⟨"HungStalls$Stall", "size", "(LHungStalls$Trace;)I"⟩ yX10_size wsX10_size) := goodIn_app (goodIn_of _ (by decide +kernel)) ggX11_ask_X10_size
set_option maxRecDepth 20000 in
theorem ggX11_ask_X0_mark : GoodIn wsX11_ask wsX0_mark := goodIn_r _ [41, 42, 22, 23, 24, 25, 26, 27, 43, 36, 44, 45, 19, 46, 21, 47, 48, 29, 49, 31, 50, 51, 34, 52, 53, 54, 55, 56, 57, 58, 59, 60, 61, 62, 63, 40, 64, 65, 66, 67, 68, 69, 70, 71, 72, 73, 74, 75, 33, 76, 77, 78, 79, 80, 81, 82, 83, 84, 85, 86, 87, 88, 89, 90, 91, 92, 93, 94, 95, 96, 97, 98, 153, 154, 161, 162, 163, 164, 165, 166, 167, 168, 169, 170, 171, 172, 173, 174, 175, 176, 177, 178, 179, 180, 181, 182, 183, 184, 185, 186, 187, 188, 189, 190, 191, 192, 193, 194, 195] (by decide +kernel) (by decide +kernel)
set_option maxRecDepth 20000 in
theorem gX11_ask_X0_mark_u283X0 : GoodIn wsX11_ask (va_wsO RX11 283 RX0 "HungStalls$Stall" ⟨"HungStalls$Stall", "mark", "(LHungStalls$Trace;)I"⟩ yX0_mark wsX0_mark) := goodIn_app (goodIn_of _ (by decide +kernel)) ggX11_ask_X0_mark
set_option maxRecDepth 20000 in
theorem ggX11_ask_X2_mark : GoodIn wsX11_ask wsX2_mark := goodIn_r _ [101, 102, 22, 23, 24, 25, 26, 27, 103, 36, 104, 45, 19, 46, 21, 47, 48, 29, 49, 31, 50, 51, 34, 52, 53, 54, 55, 56, 57, 58, 59, 60, 61, 62, 63, 40, 64, 65, 66, 67, 68, 69, 70, 71, 72, 73, 74, 75, 33, 76, 77, 78, 79, 80, 81, 82, 83, 84, 85, 86, 87, 88, 89, 90, 91, 92, 93, 94, 95, 96, 97, 98, 153, 154, 161, 162, 163, 164, 165, 166, 167, 168, 169, 170, 171, 172, 173, 174, 175, 176, 177, 178, 179, 180, 181, 182, 183, 184, 185, 186, 187, 188, 189, 190, 191, 192, 193, 194, 195] (by decide +kernel) (by decide +kernel)
set_option maxRecDepth 20000 in
theorem gX11_ask_X2_mark_u283X2 : GoodIn wsX11_ask (va_wsO RX11 283 RX2 "HungStalls$Stall" ⟨"HungStalls$Stall", "mark", "(LHungStalls$Trace;)I"⟩ yX2_mark wsX2_mark) := goodIn_app (goodIn_of _ (by decide +kernel)) ggX11_ask_X2_mark
set_option maxRecDepth 20000 in
theorem ggX11_ask_X4_mark : GoodIn wsX11_ask wsX4_mark := goodIn_r _ [132, 115, 22, 23, 24, 25, 26, 27, 133, 48, 117, 49, 31, 50, 51, 34, 134, 113, 135, 93, 114, 116, 15, 30, 32, 33, 136, 124, 137, 138, 120, 79, 121, 122, 123, 125, 153, 154, 161, 162, 163, 164, 165, 166, 167, 168, 169, 170, 171, 172, 173, 174, 175, 176, 177, 178, 179, 180, 181, 182, 183, 184, 185, 186, 187, 188, 189, 190, 191, 192, 193, 194, 195] (by decide +kernel) (by decide +kernel)
set_option maxRecDepth 20000 in
theorem gX11_ask_X4_mark_u283X4 : GoodIn wsX11_ask (va_wsO RX11 283 RX4 "HungStalls$Stall" ⟨"HungStalls$Stall", "mark", "(LHungStalls$Trace;)I"⟩ yX4_mark wsX4_mark) := goodIn_app (goodIn_of _ (by decide +kernel)) ggX11_ask_X4_mark
set_option maxRecDepth 20000 in
theorem ggX11_ask_X7_mark : GoodIn wsX11_ask wsX7_mark := goodIn_r _ [46, 21, 22, 23, 24, 25, 26, 27, 47, 48, 29, 49, 31, 50, 51, 34, 52, 53, 54, 55, 56, 57, 58, 59, 60, 61, 62, 63, 40, 64, 65, 66, 67, 68, 69, 70, 71, 72, 73, 74, 75, 33, 76, 77, 78, 79, 80, 81, 82, 83, 84, 85, 86, 87, 88, 89, 90, 91, 92, 93, 94, 95, 96, 97, 98, 153, 154, 161, 162, 163, 164, 165, 166, 167, 168, 169, 170, 171, 172, 173, 174, 175, 176, 177, 178, 179, 180, 181, 182, 183, 184, 185, 186, 187, 188, 189, 190, 191, 192, 193, 194, 195] (by decide +kernel) (by decide +kernel)
set_option maxRecDepth 20000 in
theorem gX11_ask_X7_mark_u283X7 : GoodIn wsX11_ask (va_wsO RX11 283 RX7 "HungStalls$Stall" ⟨"HungStalls$Stall", "mark", "(LHungStalls$Trace;)I"⟩ yX7_mark wsX7_mark) := goodIn_app (goodIn_of _ (by decide +kernel)) ggX11_ask_X7_mark
set_option maxRecDepth 20000 in
theorem gX11_ask_X4_mark_u283X10 : GoodIn wsX11_ask (va_wsO RX11 283 RX10 "HungStalls$Stall" ⟨"HungStalls$Stall", "mark", "(LHungStalls$Trace;)I"⟩ yX4_mark wsX4_mark) := goodIn_app (goodIn_of _ (by decide +kernel)) ggX11_ask_X4_mark
theorem dX11_ask_0 : decode cX11_ask 0 = .ok (.aload_n 0, 1) := by decide +kernel
theorem dX11_ask_1 : decode cX11_ask 1 = .ok (.iload_n 1, 1) := by decide +kernel
theorem dX11_ask_2 : decode cX11_ask 2 = .ok (.invokevirtual 133, 3) := by decide +kernel
theorem dX11_ask_5 : decode cX11_ask 5 = .ok (.astore_n 3, 1) := by decide +kernel
theorem dX11_ask_6 : decode cX11_ask 6 = .ok (.aload_n 3, 1) := by decide +kernel
theorem dX11_ask_7 : decode cX11_ask 7 = .ok (.ifnull 10, 3) := by decide +kernel
theorem dX11_ask_10 : decode cX11_ask 10 = .ok (.iload_n 2, 1) := by decide +kernel
theorem dX11_ask_11 : decode cX11_ask 11 = .ok (.invokestatic 210, 3) := by decide +kernel
theorem dX11_ask_14 : decode cX11_ask 14 = .ok (.ifCond .eq 6, 3) := by decide +kernel
theorem dX11_ask_17 : decode cX11_ask 17 = .ok (.ldc 70, 2) := by decide +kernel
theorem dX11_ask_19 : decode cX11_ask 19 = .ok (.ireturn, 1) := by decide +kernel
theorem dX11_ask_20 : decode cX11_ask 20 = .ok (.aload_n 0, 1) := by decide +kernel
theorem dX11_ask_21 : decode cX11_ask 21 = .ok (.getfield 25, 3) := by decide +kernel
theorem dX11_ask_24 : decode cX11_ask 24 = .ok (.iconst 0, 1) := by decide +kernel
theorem dX11_ask_25 : decode cX11_ask 25 = .ok (.putfield 279, 3) := by decide +kernel
theorem dX11_ask_28 : decode cX11_ask 28 = .ok (.iload_n 2, 1) := by decide +kernel
theorem dX11_ask_29 : decode cX11_ask 29 = .ok (.ifCond .ne 14, 3) := by decide +kernel
theorem dX11_ask_32 : decode cX11_ask 32 = .ok (.aload_n 3, 1) := by decide +kernel
theorem dX11_ask_33 : decode cX11_ask 33 = .ok (.aload_n 0, 1) := by decide +kernel
theorem dX11_ask_34 : decode cX11_ask 34 = .ok (.getfield 25, 3) := by decide +kernel
theorem dX11_ask_37 : decode cX11_ask 37 = .ok (.invokevirtual 280, 3) := by decide +kernel
theorem dX11_ask_40 : decode cX11_ask 40 = .ok (.goto 11, 3) := by decide +kernel
theorem dX11_ask_43 : decode cX11_ask 43 = .ok (.aload_n 3, 1) := by decide +kernel
theorem dX11_ask_44 : decode cX11_ask 44 = .ok (.aload_n 0, 1) := by decide +kernel
theorem dX11_ask_45 : decode cX11_ask 45 = .ok (.getfield 25, 3) := by decide +kernel
theorem dX11_ask_48 : decode cX11_ask 48 = .ok (.invokevirtual 283, 3) := by decide +kernel
theorem dX11_ask_51 : decode cX11_ask 51 = .ok (.ireturn, 1) := by decide +kernel
theorem dX11_trace_0 : decode cX11_trace 0 = .ok (.iload_n 1, 1) := by decide +kernel
theorem dX11_trace_1 : decode cX11_trace 1 = .ok (.ifCond .lt 20, 3) := by decide +kernel
theorem dX11_trace_4 : decode cX11_trace 4 = .ok (.iload_n 1, 1) := by decide +kernel
theorem dX11_trace_5 : decode cX11_trace 5 = .ok (.aload_n 0, 1) := by decide +kernel
theorem dX11_trace_6 : decode cX11_trace 6 = .ok (.getfield 25, 3) := by decide +kernel
theorem dX11_trace_9 : decode cX11_trace 9 = .ok (.getfield 279, 3) := by decide +kernel
theorem dX11_trace_12 : decode cX11_trace 12 = .ok (.if_icmp .ge 9, 3) := by decide +kernel
theorem dX11_trace_15 : decode cX11_trace 15 = .ok (.iload_n 1, 1) := by decide +kernel
theorem dX11_trace_16 : decode cX11_trace 16 = .ok (.bipush 16, 2) := by decide +kernel
theorem dX11_trace_18 : decode cX11_trace 18 = .ok (.if_icmp .lt 9, 3) := by decide +kernel
theorem dX11_trace_21 : decode cX11_trace 21 = .ok (.ldc_w 286, 3) := by decide +kernel
theorem dX11_trace_24 : decode cX11_trace 24 = .ok (.goto 12, 3) := by decide +kernel
theorem dX11_trace_27 : decode cX11_trace 27 = .ok (.aload_n 0, 1) := by decide +kernel
theorem dX11_trace_28 : decode cX11_trace 28 = .ok (.getfield 25, 3) := by decide +kernel
theorem dX11_trace_31 : decode cX11_trace 31 = .ok (.getfield 287, 3) := by decide +kernel
theorem dX11_trace_34 : decode cX11_trace 34 = .ok (.iload_n 1, 1) := by decide +kernel
theorem dX11_trace_35 : decode cX11_trace 35 = .ok (.iaload, 1) := by decide +kernel
theorem dX11_trace_36 : decode cX11_trace 36 = .ok (.ireturn, 1) := by decide +kernel
set_option maxRecDepth 20000 in
theorem ggX11_count_X11_rowsThere : GoodIn wsX11_count wsX11_rowsThere := goodIn_r _ [14, 15, 16, 17, 18, 19, 20, 21, 22, 23, 24, 25, 26, 27, 28, 29, 30, 31, 32, 33, 45, 46, 47] (by decide +kernel) (by decide +kernel)
set_option maxRecDepth 20000 in
theorem gX11_count_X11_rowsThere : GoodIn wsX11_count (wsV RX11 290 RX11 yX11_rowsThere wsX11_rowsThere) := goodIn_app (goodIn_of _ (by decide +kernel)) ggX11_count_X11_rowsThere
theorem dX11_count_0 : decode cX11_count 0 = .ok (.iload_n 1, 1) := by decide +kernel
theorem dX11_count_1 : decode cX11_count 1 = .ok (.tableswitch 93 0 6 #[43, 48, 56, 64, 72, 80, 85], 43) := by decide +kernel
theorem dX11_count_44 : decode cX11_count 44 = .ok (.aload_n 0, 1) := by decide +kernel
theorem dX11_count_45 : decode cX11_count 45 = .ok (.invokevirtual 290, 3) := by decide +kernel
theorem dX11_count_48 : decode cX11_count 48 = .ok (.ireturn, 1) := by decide +kernel
theorem dX11_count_49 : decode cX11_count 49 = .ok (.aload_n 0, 1) := by decide +kernel
theorem dX11_count_50 : decode cX11_count 50 = .ok (.getfield 55, 3) := by decide +kernel
theorem dX11_count_53 : decode cX11_count 53 = .ok (.getfield 293, 3) := by decide +kernel
theorem dX11_count_56 : decode cX11_count 56 = .ok (.ireturn, 1) := by decide +kernel
theorem dX11_count_57 : decode cX11_count 57 = .ok (.aload_n 0, 1) := by decide +kernel
theorem dX11_count_58 : decode cX11_count 58 = .ok (.getfield 55, 3) := by decide +kernel
theorem dX11_count_61 : decode cX11_count 61 = .ok (.getfield 125, 3) := by decide +kernel
theorem dX11_count_64 : decode cX11_count 64 = .ok (.ireturn, 1) := by decide +kernel
theorem dX11_count_65 : decode cX11_count 65 = .ok (.aload_n 0, 1) := by decide +kernel
theorem dX11_count_66 : decode cX11_count 66 = .ok (.getfield 55, 3) := by decide +kernel
theorem dX11_count_69 : decode cX11_count 69 = .ok (.getfield 296, 3) := by decide +kernel
theorem dX11_count_72 : decode cX11_count 72 = .ok (.ireturn, 1) := by decide +kernel
theorem dX11_count_73 : decode cX11_count 73 = .ok (.aload_n 0, 1) := by decide +kernel
theorem dX11_count_74 : decode cX11_count 74 = .ok (.getfield 55, 3) := by decide +kernel
theorem dX11_count_77 : decode cX11_count 77 = .ok (.getfield 174, 3) := by decide +kernel
theorem dX11_count_80 : decode cX11_count 80 = .ok (.ireturn, 1) := by decide +kernel
theorem dX11_count_81 : decode cX11_count 81 = .ok (.aload_n 0, 1) := by decide +kernel
theorem dX11_count_82 : decode cX11_count 82 = .ok (.getfield 48, 3) := by decide +kernel
theorem dX11_count_85 : decode cX11_count 85 = .ok (.ireturn, 1) := by decide +kernel
theorem dX11_count_86 : decode cX11_count 86 = .ok (.aload_n 0, 1) := by decide +kernel
theorem dX11_count_87 : decode cX11_count 87 = .ok (.getfield 18, 3) := by decide +kernel
theorem dX11_count_90 : decode cX11_count 90 = .ok (.getfield 107, 3) := by decide +kernel
theorem dX11_count_93 : decode cX11_count 93 = .ok (.ireturn, 1) := by decide +kernel
theorem dX11_count_94 : decode cX11_count 94 = .ok (.ldc 70, 2) := by decide +kernel
theorem dX11_count_96 : decode cX11_count 96 = .ok (.ireturn, 1) := by decide +kernel
theorem dX11_status_0 : decode cX11_status 0 = .ok (.aload_n 0, 1) := by decide +kernel
theorem dX11_status_1 : decode cX11_status 1 = .ok (.getfield 62, 3) := by decide +kernel
theorem dX11_status_4 : decode cX11_status 4 = .ok (.ireturn, 1) := by decide +kernel
theorem dX11_found_0 : decode cX11_found 0 = .ok (.aload_n 0, 1) := by decide +kernel
theorem dX11_found_1 : decode cX11_found 1 = .ok (.iload_n 1, 1) := by decide +kernel
theorem dX11_found_2 : decode cX11_found 2 = .ok (.putfield 62, 3) := by decide +kernel
theorem dX11_found_5 : decode cX11_found 5 = .ok (.ldc_w 299, 3) := by decide +kernel
theorem dX11_found_8 : decode cX11_found 8 = .ok (.iload_n 1, 1) := by decide +kernel
theorem dX11_found_9 : decode cX11_found 9 = .ok (.isub, 1) := by decide +kernel
theorem dX11_found_10 : decode cX11_found 10 = .ok (.ireturn, 1) := by decide +kernel
theorem dX11_unfound_0 : decode cX11_unfound 0 = .ok (.aload_n 0, 1) := by decide +kernel
theorem dX11_unfound_1 : decode cX11_unfound 1 = .ok (.iconst 0, 1) := by decide +kernel
theorem dX11_unfound_2 : decode cX11_unfound 2 = .ok (.putfield 62, 3) := by decide +kernel
theorem dX11_unfound_5 : decode cX11_unfound 5 = .ok (.iload_n 1, 1) := by decide +kernel
theorem dX11_unfound_6 : decode cX11_unfound 6 = .ok (.ireturn, 1) := by decide +kernel
theorem dX11_rowAt_0 : decode cX11_rowAt 0 = .ok (.iload_n 1, 1) := by decide +kernel
theorem dX11_rowAt_1 : decode cX11_rowAt 1 = .ok (.ifCond .lt 12, 3) := by decide +kernel
theorem dX11_rowAt_4 : decode cX11_rowAt 4 = .ok (.iload_n 1, 1) := by decide +kernel
theorem dX11_rowAt_5 : decode cX11_rowAt 5 = .ok (.aload_n 0, 1) := by decide +kernel
theorem dX11_rowAt_6 : decode cX11_rowAt 6 = .ok (.getfield 11, 3) := by decide +kernel
theorem dX11_rowAt_9 : decode cX11_rowAt 9 = .ok (.arraylength, 1) := by decide +kernel
theorem dX11_rowAt_10 : decode cX11_rowAt 10 = .ok (.if_icmp .lt 7, 3) := by decide +kernel
theorem dX11_rowAt_13 : decode cX11_rowAt 13 = .ok (.aconst_null, 1) := by decide +kernel
theorem dX11_rowAt_14 : decode cX11_rowAt 14 = .ok (.goto 9, 3) := by decide +kernel
theorem dX11_rowAt_17 : decode cX11_rowAt 17 = .ok (.aload_n 0, 1) := by decide +kernel
theorem dX11_rowAt_18 : decode cX11_rowAt 18 = .ok (.getfield 11, 3) := by decide +kernel
theorem dX11_rowAt_21 : decode cX11_rowAt 21 = .ok (.iload_n 1, 1) := by decide +kernel
theorem dX11_rowAt_22 : decode cX11_rowAt 22 = .ok (.aaload, 1) := by decide +kernel
theorem dX11_rowAt_23 : decode cX11_rowAt 23 = .ok (.areturn, 1) := by decide +kernel
theorem dX11_stallAt_0 : decode cX11_stallAt 0 = .ok (.iload_n 1, 1) := by decide +kernel
theorem dX11_stallAt_1 : decode cX11_stallAt 1 = .ok (.ifCond .lt 9, 3) := by decide +kernel
theorem dX11_stallAt_4 : decode cX11_stallAt 4 = .ok (.iload_n 1, 1) := by decide +kernel
theorem dX11_stallAt_5 : decode cX11_stallAt 5 = .ok (.bipush 6, 2) := by decide +kernel
theorem dX11_stallAt_7 : decode cX11_stallAt 7 = .ok (.if_icmp .lt 7, 3) := by decide +kernel
theorem dX11_stallAt_10 : decode cX11_stallAt 10 = .ok (.aconst_null, 1) := by decide +kernel
theorem dX11_stallAt_11 : decode cX11_stallAt 11 = .ok (.goto 12, 3) := by decide +kernel
theorem dX11_stallAt_14 : decode cX11_stallAt 14 = .ok (.aload_n 0, 1) := by decide +kernel
theorem dX11_stallAt_15 : decode cX11_stallAt 15 = .ok (.getfield 55, 3) := by decide +kernel
theorem dX11_stallAt_18 : decode cX11_stallAt 18 = .ok (.getfield 300, 3) := by decide +kernel
theorem dX11_stallAt_21 : decode cX11_stallAt 21 = .ok (.iload_n 1, 1) := by decide +kernel
theorem dX11_stallAt_22 : decode cX11_stallAt 22 = .ok (.aaload, 1) := by decide +kernel
theorem dX11_stallAt_23 : decode cX11_stallAt 23 = .ok (.areturn, 1) := by decide +kernel
set_option maxRecDepth 20000 in
theorem ggX11_rowsThere_X5_isMissing : GoodIn wsX11_rowsThere wsX5_isMissing := goodIn_r _ [6, 7, 20, 21, 22] (by decide +kernel) (by decide +kernel)
set_option maxRecDepth 20000 in
theorem gX11_rowsThere_X5_isMissing : GoodIn wsX11_rowsThere (wsV RX11 81 RX5 yX5_isMissing wsX5_isMissing) := goodIn_app (goodIn_of _ (by decide +kernel)) ggX11_rowsThere_X5_isMissing
theorem dX11_rowsThere_0 : decode cX11_rowsThere 0 = .ok (.iconst 0, 1) := by decide +kernel
theorem dX11_rowsThere_1 : decode cX11_rowsThere 1 = .ok (.istore_n 1, 1) := by decide +kernel
theorem dX11_rowsThere_2 : decode cX11_rowsThere 2 = .ok (.aload_n 0, 1) := by decide +kernel
theorem dX11_rowsThere_3 : decode cX11_rowsThere 3 = .ok (.getfield 11, 3) := by decide +kernel
theorem dX11_rowsThere_6 : decode cX11_rowsThere 6 = .ok (.astore_n 2, 1) := by decide +kernel
theorem dX11_rowsThere_7 : decode cX11_rowsThere 7 = .ok (.aload_n 2, 1) := by decide +kernel
theorem dX11_rowsThere_8 : decode cX11_rowsThere 8 = .ok (.arraylength, 1) := by decide +kernel
theorem dX11_rowsThere_9 : decode cX11_rowsThere 9 = .ok (.istore_n 3, 1) := by decide +kernel
theorem dX11_rowsThere_10 : decode cX11_rowsThere 10 = .ok (.iconst 0, 1) := by decide +kernel
theorem dX11_rowsThere_11 : decode cX11_rowsThere 11 = .ok (.istore 4, 2) := by decide +kernel
theorem dX11_rowsThere_13 : decode cX11_rowsThere 13 = .ok (.iload 4, 2) := by decide +kernel
theorem dX11_rowsThere_15 : decode cX11_rowsThere 15 = .ok (.iload_n 3, 1) := by decide +kernel
theorem dX11_rowsThere_16 : decode cX11_rowsThere 16 = .ok (.if_icmp .ge 31, 3) := by decide +kernel
theorem dX11_rowsThere_19 : decode cX11_rowsThere 19 = .ok (.aload_n 2, 1) := by decide +kernel
theorem dX11_rowsThere_20 : decode cX11_rowsThere 20 = .ok (.iload 4, 2) := by decide +kernel
theorem dX11_rowsThere_22 : decode cX11_rowsThere 22 = .ok (.aaload, 1) := by decide +kernel
theorem dX11_rowsThere_23 : decode cX11_rowsThere 23 = .ok (.astore 5, 2) := by decide +kernel
theorem dX11_rowsThere_25 : decode cX11_rowsThere 25 = .ok (.aload 5, 2) := by decide +kernel
theorem dX11_rowsThere_27 : decode cX11_rowsThere 27 = .ok (.ifnull 14, 3) := by decide +kernel
theorem dX11_rowsThere_30 : decode cX11_rowsThere 30 = .ok (.aload 5, 2) := by decide +kernel
theorem dX11_rowsThere_32 : decode cX11_rowsThere 32 = .ok (.invokevirtual 81, 3) := by decide +kernel
theorem dX11_rowsThere_35 : decode cX11_rowsThere 35 = .ok (.ifCond .ne 6, 3) := by decide +kernel
theorem dX11_rowsThere_38 : decode cX11_rowsThere 38 = .ok (.iinc 1 1, 3) := by decide +kernel
theorem dX11_rowsThere_41 : decode cX11_rowsThere 41 = .ok (.iinc 4 1, 3) := by decide +kernel
theorem dX11_rowsThere_44 : decode cX11_rowsThere 44 = .ok (.goto (-31), 3) := by decide +kernel
theorem dX11_rowsThere_47 : decode cX11_rowsThere 47 = .ok (.iload_n 1, 1) := by decide +kernel
theorem dX11_rowsThere_48 : decode cX11_rowsThere 48 = .ok (.ireturn, 1) := by decide +kernel
theorem dX11_noMarket_0 : decode cX11_noMarket 0 = .ok (.aload_n 0, 1) := by decide +kernel
theorem dX11_noMarket_1 : decode cX11_noMarket 1 = .ok (.getfield 55, 3) := by decide +kernel
theorem dX11_noMarket_4 : decode cX11_noMarket 4 = .ok (.getfield 293, 3) := by decide +kernel
theorem dX11_noMarket_7 : decode cX11_noMarket 7 = .ok (.ifCond .ne 7, 3) := by decide +kernel
theorem dX11_noMarket_10 : decode cX11_noMarket 10 = .ok (.iconst 1, 1) := by decide +kernel
theorem dX11_noMarket_11 : decode cX11_noMarket 11 = .ok (.goto 4, 3) := by decide +kernel
theorem dX11_noMarket_14 : decode cX11_noMarket 14 = .ok (.iconst 0, 1) := by decide +kernel
theorem dX11_noMarket_15 : decode cX11_noMarket 15 = .ok (.ireturn, 1) := by decide +kernel
theorem dX11_noRope_0 : decode cX11_noRope 0 = .ok (.iload_n 1, 1) := by decide +kernel
theorem dX11_noRope_1 : decode cX11_noRope 1 = .ok (.ifCond .lt 19, 3) := by decide +kernel
theorem dX11_noRope_4 : decode cX11_noRope 4 = .ok (.iload_n 1, 1) := by decide +kernel
theorem dX11_noRope_5 : decode cX11_noRope 5 = .ok (.aload_n 0, 1) := by decide +kernel
theorem dX11_noRope_6 : decode cX11_noRope 6 = .ok (.getfield 55, 3) := by decide +kernel
theorem dX11_noRope_9 : decode cX11_noRope 9 = .ok (.getfield 293, 3) := by decide +kernel
theorem dX11_noRope_12 : decode cX11_noRope 12 = .ok (.if_icmp .ge 8, 3) := by decide +kernel
theorem dX11_noRope_15 : decode cX11_noRope 15 = .ok (.iload_n 1, 1) := by decide +kernel
theorem dX11_noRope_16 : decode cX11_noRope 16 = .ok (.iconst 3, 1) := by decide +kernel
theorem dX11_noRope_17 : decode cX11_noRope 17 = .ok (.if_icmp .lt 7, 3) := by decide +kernel
theorem dX11_noRope_20 : decode cX11_noRope 20 = .ok (.iconst 1, 1) := by decide +kernel
theorem dX11_noRope_21 : decode cX11_noRope 21 = .ok (.goto 4, 3) := by decide +kernel
theorem dX11_noRope_24 : decode cX11_noRope 24 = .ok (.iconst 0, 1) := by decide +kernel
theorem dX11_noRope_25 : decode cX11_noRope 25 = .ok (.ireturn, 1) := by decide +kernel
theorem dX11_noPlace_0 : decode cX11_noPlace 0 = .ok (.iload_n 0, 1) := by decide +kernel
theorem dX11_noPlace_1 : decode cX11_noPlace 1 = .ok (.iconst 1, 1) := by decide +kernel
theorem dX11_noPlace_2 : decode cX11_noPlace 2 = .ok (.if_icmp .lt 9, 3) := by decide +kernel
theorem dX11_noPlace_5 : decode cX11_noPlace 5 = .ok (.iload_n 0, 1) := by decide +kernel
theorem dX11_noPlace_6 : decode cX11_noPlace 6 = .ok (.bipush 8, 2) := by decide +kernel
theorem dX11_noPlace_8 : decode cX11_noPlace 8 = .ok (.if_icmp .le 7, 3) := by decide +kernel
theorem dX11_noPlace_11 : decode cX11_noPlace 11 = .ok (.iconst 1, 1) := by decide +kernel
theorem dX11_noPlace_12 : decode cX11_noPlace 12 = .ok (.goto 4, 3) := by decide +kernel
theorem dX11_noPlace_15 : decode cX11_noPlace 15 = .ok (.iconst 0, 1) := by decide +kernel
theorem dX11_noPlace_16 : decode cX11_noPlace 16 = .ok (.ireturn, 1) := by decide +kernel
theorem dX11_noImage_0 : decode cX11_noImage 0 = .ok (.iload_n 0, 1) := by decide +kernel
theorem dX11_noImage_1 : decode cX11_noImage 1 = .ok (.ifCond .lt 8, 3) := by decide +kernel
theorem dX11_noImage_4 : decode cX11_noImage 4 = .ok (.iload_n 0, 1) := by decide +kernel
theorem dX11_noImage_5 : decode cX11_noImage 5 = .ok (.iconst 2, 1) := by decide +kernel
theorem dX11_noImage_6 : decode cX11_noImage 6 = .ok (.if_icmp .lt 7, 3) := by decide +kernel
theorem dX11_noImage_9 : decode cX11_noImage 9 = .ok (.iconst 1, 1) := by decide +kernel
theorem dX11_noImage_10 : decode cX11_noImage 10 = .ok (.goto 4, 3) := by decide +kernel
theorem dX11_noImage_13 : decode cX11_noImage 13 = .ok (.iconst 0, 1) := by decide +kernel
theorem dX11_noImage_14 : decode cX11_noImage 14 = .ok (.ireturn, 1) := by decide +kernel
theorem dX11_isNoBit_0 : decode cX11_isNoBit 0 = .ok (.iload_n 0, 1) := by decide +kernel
theorem dX11_isNoBit_1 : decode cX11_isNoBit 1 = .ok (.ifCond .eq 12, 3) := by decide +kernel
theorem dX11_isNoBit_4 : decode cX11_isNoBit 4 = .ok (.iload_n 0, 1) := by decide +kernel
theorem dX11_isNoBit_5 : decode cX11_isNoBit 5 = .ok (.iconst 1, 1) := by decide +kernel
theorem dX11_isNoBit_6 : decode cX11_isNoBit 6 = .ok (.if_icmp .eq 7, 3) := by decide +kernel
theorem dX11_isNoBit_9 : decode cX11_isNoBit 9 = .ok (.iconst 1, 1) := by decide +kernel
theorem dX11_isNoBit_10 : decode cX11_isNoBit 10 = .ok (.goto 4, 3) := by decide +kernel
theorem dX11_isNoBit_13 : decode cX11_isNoBit 13 = .ok (.iconst 0, 1) := by decide +kernel
theorem dX11_isNoBit_14 : decode cX11_isNoBit 14 = .ok (.ireturn, 1) := by decide +kernel
theorem dX11_numberOf_0 : decode cX11_numberOf 0 = .ok (.aload_n 0, 1) := by decide +kernel
theorem dX11_numberOf_1 : decode cX11_numberOf 1 = .ok (.ifnonnull 9, 3) := by decide +kernel
theorem dX11_numberOf_4 : decode cX11_numberOf 4 = .ok (.ldc_w 286, 3) := by decide +kernel
theorem dX11_numberOf_7 : decode cX11_numberOf 7 = .ok (.goto 7, 3) := by decide +kernel
theorem dX11_numberOf_10 : decode cX11_numberOf 10 = .ok (.aload_n 0, 1) := by decide +kernel
theorem dX11_numberOf_11 : decode cX11_numberOf 11 = .ok (.getfield 304, 3) := by decide +kernel
theorem dX11_numberOf_14 : decode cX11_numberOf 14 = .ok (.ireturn, 1) := by decide +kernel
theorem dX11_isOfKind_0 : decode cX11_isOfKind 0 = .ok (.iload_n 1, 1) := by decide +kernel
theorem dX11_isOfKind_1 : decode cX11_isOfKind 1 = .ok (.tableswitch 66 0 5 #[39, 41, 46, 51, 56, 61], 39) := by decide +kernel
theorem dX11_isOfKind_40 : decode cX11_isOfKind 40 = .ok (.iconst 1, 1) := by decide +kernel
theorem dX11_isOfKind_41 : decode cX11_isOfKind 41 = .ok (.ireturn, 1) := by decide +kernel
theorem dX11_isOfKind_42 : decode cX11_isOfKind 42 = .ok (.aload_n 0, 1) := by decide +kernel
theorem dX11_isOfKind_43 : decode cX11_isOfKind 43 = .ok (.instanceof 307, 3) := by decide +kernel
theorem dX11_isOfKind_46 : decode cX11_isOfKind 46 = .ok (.ireturn, 1) := by decide +kernel
theorem dX11_isOfKind_47 : decode cX11_isOfKind 47 = .ok (.aload_n 0, 1) := by decide +kernel
theorem dX11_isOfKind_48 : decode cX11_isOfKind 48 = .ok (.instanceof 309, 3) := by decide +kernel
theorem dX11_isOfKind_51 : decode cX11_isOfKind 51 = .ok (.ireturn, 1) := by decide +kernel
theorem dX11_isOfKind_52 : decode cX11_isOfKind 52 = .ok (.aload_n 0, 1) := by decide +kernel
theorem dX11_isOfKind_53 : decode cX11_isOfKind 53 = .ok (.instanceof 311, 3) := by decide +kernel
theorem dX11_isOfKind_56 : decode cX11_isOfKind 56 = .ok (.ireturn, 1) := by decide +kernel
theorem dX11_isOfKind_57 : decode cX11_isOfKind 57 = .ok (.aload_n 0, 1) := by decide +kernel
theorem dX11_isOfKind_58 : decode cX11_isOfKind 58 = .ok (.instanceof 313, 3) := by decide +kernel
theorem dX11_isOfKind_61 : decode cX11_isOfKind 61 = .ok (.ireturn, 1) := by decide +kernel
theorem dX11_isOfKind_62 : decode cX11_isOfKind 62 = .ok (.aload_n 0, 1) := by decide +kernel
theorem dX11_isOfKind_63 : decode cX11_isOfKind 63 = .ok (.instanceof 315, 3) := by decide +kernel
theorem dX11_isOfKind_66 : decode cX11_isOfKind 66 = .ok (.ireturn, 1) := by decide +kernel
theorem dX11_isOfKind_67 : decode cX11_isOfKind 67 = .ok (.iconst 0, 1) := by decide +kernel
theorem dX11_isOfKind_68 : decode cX11_isOfKind 68 = .ok (.ireturn, 1) := by decide +kernel
set_option maxRecDepth 20000 in
theorem ggX11_act_X11_forgetOldestAct : GoodIn wsX11_act wsX11_forgetOldestAct := goodIn_r _ [10, 1, 2, 11, 12, 13, 14, 3, 4, 37, 38, 39, 40, 41, 42, 43, 44, 45, 46, 47, 48] (by decide +kernel) (by decide +kernel)
set_option maxRecDepth 20000 in
theorem gX11_act_X11_forgetOldestAct : GoodIn wsX11_act (wsV RX11 317 RX11 yX11_forgetOldestAct wsX11_forgetOldestAct) := goodIn_app (goodIn_of _ (by decide +kernel)) ggX11_act_X11_forgetOldestAct
set_option maxRecDepth 20000 in
theorem ggX11_act_X3_put : GoodIn wsX11_act wsX3_put := goodIn_r _ [19, 20, 21, 22, 23, 24, 25, 26, 27, 28, 29, 30, 31, 32, 33, 34, 35, 36, 49, 50, 51, 52, 53, 54, 55, 56, 57, 58, 59, 60, 61, 62, 63, 64, 65, 66, 67, 68, 69, 70, 71, 72, 73, 74, 75, 76, 77, 78, 79, 80, 81, 82, 83, 84, 85, 86, 87, 88, 89] (by decide +kernel) (by decide +kernel)
set_option maxRecDepth 20000 in
theorem gX11_act_X3_put : GoodIn wsX11_act (wsV RX11 129 RX3 yX3_put wsX3_put) := goodIn_app (goodIn_of _ (by decide +kernel)) ggX11_act_X3_put
theorem dX11_act_0 : decode cX11_act 0 = .ok (.aload_n 0, 1) := by decide +kernel
theorem dX11_act_1 : decode cX11_act 1 = .ok (.getfield 48, 3) := by decide +kernel
theorem dX11_act_4 : decode cX11_act 4 = .ok (.bipush 24, 2) := by decide +kernel
theorem dX11_act_6 : decode cX11_act 6 = .ok (.if_icmp .lt 7, 3) := by decide +kernel
theorem dX11_act_9 : decode cX11_act 9 = .ok (.aload_n 0, 1) := by decide +kernel
theorem dX11_act_10 : decode cX11_act 10 = .ok (.invokevirtual 317, 3) := by decide +kernel
theorem dX11_act_13 : decode cX11_act 13 = .ok (.aload_n 0, 1) := by decide +kernel
theorem dX11_act_14 : decode cX11_act 14 = .ok (.getfield 39, 3) := by decide +kernel
theorem dX11_act_17 : decode cX11_act 17 = .ok (.aload_n 0, 1) := by decide +kernel
theorem dX11_act_18 : decode cX11_act 18 = .ok (.getfield 48, 3) := by decide +kernel
theorem dX11_act_21 : decode cX11_act 21 = .ok (.iload_n 1, 1) := by decide +kernel
theorem dX11_act_22 : decode cX11_act 22 = .ok (.iastore, 1) := by decide +kernel
theorem dX11_act_23 : decode cX11_act 23 = .ok (.aload_n 0, 1) := by decide +kernel
theorem dX11_act_24 : decode cX11_act 24 = .ok (.getfield 42, 3) := by decide +kernel
theorem dX11_act_27 : decode cX11_act 27 = .ok (.aload_n 0, 1) := by decide +kernel
theorem dX11_act_28 : decode cX11_act 28 = .ok (.getfield 48, 3) := by decide +kernel
theorem dX11_act_31 : decode cX11_act 31 = .ok (.iload_n 2, 1) := by decide +kernel
theorem dX11_act_32 : decode cX11_act 32 = .ok (.iastore, 1) := by decide +kernel
theorem dX11_act_33 : decode cX11_act 33 = .ok (.aload_n 0, 1) := by decide +kernel
theorem dX11_act_34 : decode cX11_act 34 = .ok (.getfield 45, 3) := by decide +kernel
theorem dX11_act_37 : decode cX11_act 37 = .ok (.aload_n 0, 1) := by decide +kernel
theorem dX11_act_38 : decode cX11_act 38 = .ok (.getfield 48, 3) := by decide +kernel
theorem dX11_act_41 : decode cX11_act 41 = .ok (.iload_n 3, 1) := by decide +kernel
theorem dX11_act_42 : decode cX11_act 42 = .ok (.iastore, 1) := by decide +kernel
theorem dX11_act_43 : decode cX11_act 43 = .ok (.aload_n 0, 1) := by decide +kernel
theorem dX11_act_44 : decode cX11_act 44 = .ok (.dup, 1) := by decide +kernel
theorem dX11_act_45 : decode cX11_act 45 = .ok (.getfield 48, 3) := by decide +kernel
theorem dX11_act_48 : decode cX11_act 48 = .ok (.iconst 1, 1) := by decide +kernel
theorem dX11_act_49 : decode cX11_act 49 = .ok (.iadd, 1) := by decide +kernel
theorem dX11_act_50 : decode cX11_act 50 = .ok (.putfield 48, 3) := by decide +kernel
theorem dX11_act_53 : decode cX11_act 53 = .ok (.aload_n 0, 1) := by decide +kernel
theorem dX11_act_54 : decode cX11_act 54 = .ok (.getfield 55, 3) := by decide +kernel
theorem dX11_act_57 : decode cX11_act 57 = .ok (.iload_n 1, 1) := by decide +kernel
theorem dX11_act_58 : decode cX11_act 58 = .ok (.iload_n 2, 1) := by decide +kernel
theorem dX11_act_59 : decode cX11_act 59 = .ok (.iload 4, 2) := by decide +kernel
theorem dX11_act_61 : decode cX11_act 61 = .ok (.invokevirtual 129, 3) := by decide +kernel
theorem dX11_act_64 : decode cX11_act 64 = .ok (.return_, 1) := by decide +kernel
theorem dX11_forgetOldestAct_0 : decode cX11_forgetOldestAct 0 = .ok (.aload_n 0, 1) := by decide +kernel
theorem dX11_forgetOldestAct_1 : decode cX11_forgetOldestAct 1 = .ok (.bipush 23, 2) := by decide +kernel
theorem dX11_forgetOldestAct_3 : decode cX11_forgetOldestAct 3 = .ok (.putfield 48, 3) := by decide +kernel
theorem dX11_forgetOldestAct_6 : decode cX11_forgetOldestAct 6 = .ok (.aload_n 0, 1) := by decide +kernel
theorem dX11_forgetOldestAct_7 : decode cX11_forgetOldestAct 7 = .ok (.getfield 39, 3) := by decide +kernel
theorem dX11_forgetOldestAct_10 : decode cX11_forgetOldestAct 10 = .ok (.iconst 1, 1) := by decide +kernel
theorem dX11_forgetOldestAct_11 : decode cX11_forgetOldestAct 11 = .ok (.aload_n 0, 1) := by decide +kernel
theorem dX11_forgetOldestAct_12 : decode cX11_forgetOldestAct 12 = .ok (.getfield 39, 3) := by decide +kernel
theorem dX11_forgetOldestAct_15 : decode cX11_forgetOldestAct 15 = .ok (.iconst 0, 1) := by decide +kernel
theorem dX11_forgetOldestAct_16 : decode cX11_forgetOldestAct 16 = .ok (.aload_n 0, 1) := by decide +kernel
theorem dX11_forgetOldestAct_17 : decode cX11_forgetOldestAct 17 = .ok (.getfield 48, 3) := by decide +kernel
theorem dX11_forgetOldestAct_20 : decode cX11_forgetOldestAct 20 = .ok (.invokestatic 98, 3) := by decide +kernel
theorem dX11_forgetOldestAct_23 : decode cX11_forgetOldestAct 23 = .ok (.aload_n 0, 1) := by decide +kernel
theorem dX11_forgetOldestAct_24 : decode cX11_forgetOldestAct 24 = .ok (.getfield 42, 3) := by decide +kernel
theorem dX11_forgetOldestAct_27 : decode cX11_forgetOldestAct 27 = .ok (.iconst 1, 1) := by decide +kernel
theorem dX11_forgetOldestAct_28 : decode cX11_forgetOldestAct 28 = .ok (.aload_n 0, 1) := by decide +kernel
theorem dX11_forgetOldestAct_29 : decode cX11_forgetOldestAct 29 = .ok (.getfield 42, 3) := by decide +kernel
theorem dX11_forgetOldestAct_32 : decode cX11_forgetOldestAct 32 = .ok (.iconst 0, 1) := by decide +kernel
theorem dX11_forgetOldestAct_33 : decode cX11_forgetOldestAct 33 = .ok (.aload_n 0, 1) := by decide +kernel
theorem dX11_forgetOldestAct_34 : decode cX11_forgetOldestAct 34 = .ok (.getfield 48, 3) := by decide +kernel
theorem dX11_forgetOldestAct_37 : decode cX11_forgetOldestAct 37 = .ok (.invokestatic 98, 3) := by decide +kernel
theorem dX11_forgetOldestAct_40 : decode cX11_forgetOldestAct 40 = .ok (.aload_n 0, 1) := by decide +kernel
theorem dX11_forgetOldestAct_41 : decode cX11_forgetOldestAct 41 = .ok (.getfield 45, 3) := by decide +kernel
theorem dX11_forgetOldestAct_44 : decode cX11_forgetOldestAct 44 = .ok (.iconst 1, 1) := by decide +kernel
theorem dX11_forgetOldestAct_45 : decode cX11_forgetOldestAct 45 = .ok (.aload_n 0, 1) := by decide +kernel
theorem dX11_forgetOldestAct_46 : decode cX11_forgetOldestAct 46 = .ok (.getfield 45, 3) := by decide +kernel
theorem dX11_forgetOldestAct_49 : decode cX11_forgetOldestAct 49 = .ok (.iconst 0, 1) := by decide +kernel
theorem dX11_forgetOldestAct_50 : decode cX11_forgetOldestAct 50 = .ok (.aload_n 0, 1) := by decide +kernel
theorem dX11_forgetOldestAct_51 : decode cX11_forgetOldestAct 51 = .ok (.getfield 48, 3) := by decide +kernel
theorem dX11_forgetOldestAct_54 : decode cX11_forgetOldestAct 54 = .ok (.invokestatic 98, 3) := by decide +kernel
theorem dX11_forgetOldestAct_57 : decode cX11_forgetOldestAct 57 = .ok (.return_, 1) := by decide +kernel
