set_option maxRecDepth 20000 in
theorem gX12_walkways_X12_walks : GoodIn wsX12_walkways (wsV RX12 174 RX12 yX12_walks wsX12_walks) := goodIn_app (goodIn_of _ (by decide +kernel)) ggX12_walkways_X12_walks
theorem dX12_walkways_0 : decode cX12_walkways 0 = .ok (.aload_n 0, 1) := by decide +kernel
theorem dX12_walkways_1 : decode cX12_walkways 1 = .ok (.getfield 7, 3) := by decide +kernel
theorem dX12_walkways_4 : decode cX12_walkways 4 = .ok (.iconst 4, 1) := by decide +kernel
theorem dX12_walkways_5 : decode cX12_walkways 5 = .ok (.iaload, 1) := by decide +kernel
theorem dX12_walkways_6 : decode cX12_walkways 6 = .ok (.ifCond .ne 6, 3) := by decide +kernel
theorem dX12_walkways_9 : decode cX12_walkways 9 = .ok (.ldc 132, 2) := by decide +kernel
theorem dX12_walkways_11 : decode cX12_walkways 11 = .ok (.ireturn, 1) := by decide +kernel
theorem dX12_walkways_12 : decode cX12_walkways 12 = .ok (.iload_n 1, 1) := by decide +kernel
theorem dX12_walkways_13 : decode cX12_walkways 13 = .ok (.i2l, 1) := by decide +kernel
theorem dX12_walkways_14 : decode cX12_walkways 14 = .ok (.lconst 0, 1) := by decide +kernel
theorem dX12_walkways_15 : decode cX12_walkways 15 = .ok (.lconst 1, 1) := by decide +kernel
theorem dX12_walkways_16 : decode cX12_walkways 16 = .ok (.invokestatic 45, 3) := by decide +kernel
theorem dX12_walkways_19 : decode cX12_walkways 19 = .ok (.ifCond .eq 13, 3) := by decide +kernel
theorem dX12_walkways_22 : decode cX12_walkways 22 = .ok (.aload_n 0, 1) := by decide +kernel
theorem dX12_walkways_23 : decode cX12_walkways 23 = .ok (.iload_n 1, 1) := by decide +kernel
theorem dX12_walkways_24 : decode cX12_walkways 24 = .ok (.iconst 1, 1) := by decide +kernel
theorem dX12_walkways_25 : decode cX12_walkways 25 = .ok (.iadd, 1) := by decide +kernel
theorem dX12_walkways_26 : decode cX12_walkways 26 = .ok (.invokevirtual 174, 3) := by decide +kernel
theorem dX12_walkways_29 : decode cX12_walkways 29 = .ok (.goto 5, 3) := by decide +kernel
theorem dX12_walkways_32 : decode cX12_walkways 32 = .ok (.ldc 55, 2) := by decide +kernel
theorem dX12_walkways_34 : decode cX12_walkways 34 = .ok (.ireturn, 1) := by decide +kernel
set_option maxRecDepth 20000 in
theorem ggX12_even_X12_isStall : GoodIn wsX12_even wsX12_isStall := goodIn_r _ [9, 3, 10, 11, 8, 12, 40, 41, 42, 43, 44, 45, 46, 47, 48, 49, 50, 51, 52, 53, 54, 55, 56, 57, 58] (by decide +kernel) (by decide +kernel)
set_option maxRecDepth 20000 in
theorem gX12_even_X12_isStall : GoodIn wsX12_even (wsV RX12 133 RX12 yX12_isStall wsX12_isStall) := goodIn_app (goodIn_of _ (by decide +kernel)) ggX12_even_X12_isStall
set_option maxRecDepth 20000 in
theorem ggX12_even_X12_in : GoodIn wsX12_even wsX12_in := goodIn_r _ [12] (by decide +kernel) (by decide +kernel)
set_option maxRecDepth 20000 in
theorem gX12_even_X12_in : GoodIn wsX12_even (va_wsS RX12 45 yX12_in wsX12_in) := goodIn_app (goodIn_of _ (by decide +kernel)) ggX12_even_X12_in
set_option maxRecDepth 20000 in
theorem ggX12_even_X12_walk : GoodIn wsX12_even wsX12_walk := goodIn_r _ [16, 3, 17, 18, 19, 8, 20, 21, 22, 23, 24, 25, 26, 27, 28, 29, 30, 31, 32, 10, 11, 12, 33, 34, 35, 36, 37, 38, 39, 40, 41, 42, 43, 44, 45, 46, 47, 48, 49, 50, 51, 52, 53, 54, 55, 56, 57, 58] (by decide +kernel) (by decide +kernel)
set_option maxRecDepth 20000 in
theorem gX12_even_X12_walk : GoodIn wsX12_even (wsV RX12 171 RX12 yX12_walk wsX12_walk) := goodIn_app (goodIn_of _ (by decide +kernel)) ggX12_even_X12_walk
set_option maxRecDepth 20000 in
theorem ggX12_even_X12_lesser : GoodIn wsX12_even wsX12_lesser := goodIn_r _ [35] (by decide +kernel) (by decide +kernel)
set_option maxRecDepth 20000 in
theorem gX12_even_X12_lesser : GoodIn wsX12_even (va_wsS RX12 149 yX12_lesser wsX12_lesser) := goodIn_app (goodIn_of _ (by decide +kernel)) ggX12_even_X12_lesser
theorem dX12_even_0 : decode cX12_even 0 = .ok (.aload_n 0, 1) := by decide +kernel
theorem dX12_even_1 : decode cX12_even 1 = .ok (.iload_n 1, 1) := by decide +kernel
theorem dX12_even_2 : decode cX12_even 2 = .ok (.invokevirtual 133, 3) := by decide +kernel
theorem dX12_even_5 : decode cX12_even 5 = .ok (.ifCond .eq 26, 3) := by decide +kernel
theorem dX12_even_8 : decode cX12_even 8 = .ok (.aload_n 0, 1) := by decide +kernel
theorem dX12_even_9 : decode cX12_even 9 = .ok (.iload_n 2, 1) := by decide +kernel
theorem dX12_even_10 : decode cX12_even 10 = .ok (.invokevirtual 133, 3) := by decide +kernel
theorem dX12_even_13 : decode cX12_even 13 = .ok (.ifCond .eq 18, 3) := by decide +kernel
theorem dX12_even_16 : decode cX12_even 16 = .ok (.iload_n 1, 1) := by decide +kernel
theorem dX12_even_17 : decode cX12_even 17 = .ok (.iload_n 2, 1) := by decide +kernel
theorem dX12_even_18 : decode cX12_even 18 = .ok (.if_icmp .eq 13, 3) := by decide +kernel
theorem dX12_even_21 : decode cX12_even 21 = .ok (.iload_n 3, 1) := by decide +kernel
theorem dX12_even_22 : decode cX12_even 22 = .ok (.i2l, 1) := by decide +kernel
theorem dX12_even_23 : decode cX12_even 23 = .ok (.lconst 0, 1) := by decide +kernel
theorem dX12_even_24 : decode cX12_even 24 = .ok (.lconst 1, 1) := by decide +kernel
theorem dX12_even_25 : decode cX12_even 25 = .ok (.invokestatic 45, 3) := by decide +kernel
theorem dX12_even_28 : decode cX12_even 28 = .ok (.ifCond .ne 6, 3) := by decide +kernel
theorem dX12_even_31 : decode cX12_even 31 = .ok (.ldc 55, 2) := by decide +kernel
theorem dX12_even_33 : decode cX12_even 33 = .ok (.ireturn, 1) := by decide +kernel
theorem dX12_even_34 : decode cX12_even 34 = .ok (.aload_n 0, 1) := by decide +kernel
theorem dX12_even_35 : decode cX12_even 35 = .ok (.iload_n 1, 1) := by decide +kernel
theorem dX12_even_36 : decode cX12_even 36 = .ok (.iload_n 2, 1) := by decide +kernel
theorem dX12_even_37 : decode cX12_even 37 = .ok (.invokevirtual 171, 3) := by decide +kernel
theorem dX12_even_40 : decode cX12_even 40 = .ok (.ifCond .ne 6, 3) := by decide +kernel
theorem dX12_even_43 : decode cX12_even 43 = .ok (.ldc 132, 2) := by decide +kernel
theorem dX12_even_45 : decode cX12_even 45 = .ok (.ireturn, 1) := by decide +kernel
theorem dX12_even_46 : decode cX12_even 46 = .ok (.aload_n 0, 1) := by decide +kernel
theorem dX12_even_47 : decode cX12_even 47 = .ok (.getfield 7, 3) := by decide +kernel
theorem dX12_even_50 : decode cX12_even 50 = .ok (.bipush 38, 2) := by decide +kernel
theorem dX12_even_52 : decode cX12_even 52 = .ok (.iload_n 1, 1) := by decide +kernel
theorem dX12_even_53 : decode cX12_even 53 = .ok (.iadd, 1) := by decide +kernel
theorem dX12_even_54 : decode cX12_even 54 = .ok (.iaload, 1) := by decide +kernel
theorem dX12_even_55 : decode cX12_even 55 = .ok (.istore 4, 2) := by decide +kernel
theorem dX12_even_57 : decode cX12_even 57 = .ok (.aload_n 0, 1) := by decide +kernel
theorem dX12_even_58 : decode cX12_even 58 = .ok (.getfield 7, 3) := by decide +kernel
theorem dX12_even_61 : decode cX12_even 61 = .ok (.bipush 38, 2) := by decide +kernel
theorem dX12_even_63 : decode cX12_even 63 = .ok (.iload_n 2, 1) := by decide +kernel
theorem dX12_even_64 : decode cX12_even 64 = .ok (.iadd, 1) := by decide +kernel
theorem dX12_even_65 : decode cX12_even 65 = .ok (.iaload, 1) := by decide +kernel
theorem dX12_even_66 : decode cX12_even 66 = .ok (.istore 5, 2) := by decide +kernel
theorem dX12_even_68 : decode cX12_even 68 = .ok (.ldc 166, 2) := by decide +kernel
theorem dX12_even_70 : decode cX12_even 70 = .ok (.istore 6, 2) := by decide +kernel
theorem dX12_even_72 : decode cX12_even 72 = .ok (.bipush 18, 2) := by decide +kernel
theorem dX12_even_74 : decode cX12_even 74 = .ok (.istore 7, 2) := by decide +kernel
theorem dX12_even_76 : decode cX12_even 76 = .ok (.iload 7, 2) := by decide +kernel
theorem dX12_even_78 : decode cX12_even 78 = .ok (.ifCond .lt 95, 3) := by decide +kernel
theorem dX12_even_81 : decode cX12_even 81 = .ok (.iload 7, 2) := by decide +kernel
theorem dX12_even_83 : decode cX12_even 83 = .ok (.bipush 9, 2) := by decide +kernel
theorem dX12_even_85 : decode cX12_even 85 = .ok (.invokestatic 149, 3) := by decide +kernel
theorem dX12_even_88 : decode cX12_even 88 = .ok (.istore 8, 2) := by decide +kernel
theorem dX12_even_90 : decode cX12_even 90 = .ok (.iload 8, 2) := by decide +kernel
theorem dX12_even_92 : decode cX12_even 92 = .ok (.ifCond .lt 75, 3) := by decide +kernel
theorem dX12_even_95 : decode cX12_even 95 = .ok (.iload 7, 2) := by decide +kernel
theorem dX12_even_97 : decode cX12_even 97 = .ok (.iload 8, 2) := by decide +kernel
theorem dX12_even_99 : decode cX12_even 99 = .ok (.isub, 1) := by decide +kernel
theorem dX12_even_100 : decode cX12_even 100 = .ok (.bipush 10, 2) := by decide +kernel
theorem dX12_even_102 : decode cX12_even 102 = .ok (.if_icmp .ge 65, 3) := by decide +kernel
theorem dX12_even_105 : decode cX12_even 105 = .ok (.aload_n 0, 1) := by decide +kernel
theorem dX12_even_106 : decode cX12_even 106 = .ok (.getfield 7, 3) := by decide +kernel
theorem dX12_even_109 : decode cX12_even 109 = .ok (.bipush 38, 2) := by decide +kernel
theorem dX12_even_111 : decode cX12_even 111 = .ok (.iload_n 1, 1) := by decide +kernel
theorem dX12_even_112 : decode cX12_even 112 = .ok (.iadd, 1) := by decide +kernel
theorem dX12_even_113 : decode cX12_even 113 = .ok (.iload 4, 2) := by decide +kernel
theorem dX12_even_115 : decode cX12_even 115 = .ok (.iload 8, 2) := by decide +kernel
theorem dX12_even_117 : decode cX12_even 117 = .ok (.iadd, 1) := by decide +kernel
theorem dX12_even_118 : decode cX12_even 118 = .ok (.iastore, 1) := by decide +kernel
theorem dX12_even_119 : decode cX12_even 119 = .ok (.aload_n 0, 1) := by decide +kernel
theorem dX12_even_120 : decode cX12_even 120 = .ok (.getfield 7, 3) := by decide +kernel
theorem dX12_even_123 : decode cX12_even 123 = .ok (.bipush 38, 2) := by decide +kernel
theorem dX12_even_125 : decode cX12_even 125 = .ok (.iload_n 2, 1) := by decide +kernel
theorem dX12_even_126 : decode cX12_even 126 = .ok (.iadd, 1) := by decide +kernel
theorem dX12_even_127 : decode cX12_even 127 = .ok (.iload 5, 2) := by decide +kernel
theorem dX12_even_129 : decode cX12_even 129 = .ok (.iload 7, 2) := by decide +kernel
theorem dX12_even_131 : decode cX12_even 131 = .ok (.iadd, 1) := by decide +kernel
theorem dX12_even_132 : decode cX12_even 132 = .ok (.iload 8, 2) := by decide +kernel
theorem dX12_even_134 : decode cX12_even 134 = .ok (.isub, 1) := by decide +kernel
theorem dX12_even_135 : decode cX12_even 135 = .ok (.iastore, 1) := by decide +kernel
theorem dX12_even_136 : decode cX12_even 136 = .ok (.aload_n 0, 1) := by decide +kernel
theorem dX12_even_137 : decode cX12_even 137 = .ok (.iload_n 1, 1) := by decide +kernel
theorem dX12_even_138 : decode cX12_even 138 = .ok (.iload_n 2, 1) := by decide +kernel
theorem dX12_even_139 : decode cX12_even 139 = .ok (.invokevirtual 171, 3) := by decide +kernel
theorem dX12_even_142 : decode cX12_even 142 = .ok (.iconst 2, 1) := by decide +kernel
theorem dX12_even_143 : decode cX12_even 143 = .ok (.if_icmp .ne 14, 3) := by decide +kernel
theorem dX12_even_146 : decode cX12_even 146 = .ok (.bipush 19, 2) := by decide +kernel
theorem dX12_even_148 : decode cX12_even 148 = .ok (.iload 7, 2) := by decide +kernel
theorem dX12_even_150 : decode cX12_even 150 = .ok (.imul, 1) := by decide +kernel
theorem dX12_even_151 : decode cX12_even 151 = .ok (.iload 8, 2) := by decide +kernel
theorem dX12_even_153 : decode cX12_even 153 = .ok (.iadd, 1) := by decide +kernel
theorem dX12_even_154 : decode cX12_even 154 = .ok (.goto 5, 3) := by decide +kernel
theorem dX12_even_157 : decode cX12_even 157 = .ok (.iload 6, 2) := by decide +kernel
theorem dX12_even_159 : decode cX12_even 159 = .ok (.istore 6, 2) := by decide +kernel
theorem dX12_even_161 : decode cX12_even 161 = .ok (.iinc 8 (-1), 3) := by decide +kernel
theorem dX12_even_164 : decode cX12_even 164 = .ok (.goto (-74), 3) := by decide +kernel
theorem dX12_even_167 : decode cX12_even 167 = .ok (.iinc 7 (-1), 3) := by decide +kernel
theorem dX12_even_170 : decode cX12_even 170 = .ok (.goto (-94), 3) := by decide +kernel
theorem dX12_even_173 : decode cX12_even 173 = .ok (.aload_n 0, 1) := by decide +kernel
theorem dX12_even_174 : decode cX12_even 174 = .ok (.getfield 7, 3) := by decide +kernel
theorem dX12_even_177 : decode cX12_even 177 = .ok (.bipush 38, 2) := by decide +kernel
theorem dX12_even_179 : decode cX12_even 179 = .ok (.iload_n 1, 1) := by decide +kernel
theorem dX12_even_180 : decode cX12_even 180 = .ok (.iadd, 1) := by decide +kernel
theorem dX12_even_181 : decode cX12_even 181 = .ok (.iload 4, 2) := by decide +kernel
theorem dX12_even_183 : decode cX12_even 183 = .ok (.iastore, 1) := by decide +kernel
theorem dX12_even_184 : decode cX12_even 184 = .ok (.aload_n 0, 1) := by decide +kernel
theorem dX12_even_185 : decode cX12_even 185 = .ok (.getfield 7, 3) := by decide +kernel
theorem dX12_even_188 : decode cX12_even 188 = .ok (.bipush 38, 2) := by decide +kernel
theorem dX12_even_190 : decode cX12_even 190 = .ok (.iload_n 2, 1) := by decide +kernel
theorem dX12_even_191 : decode cX12_even 191 = .ok (.iadd, 1) := by decide +kernel
theorem dX12_even_192 : decode cX12_even 192 = .ok (.iload 5, 2) := by decide +kernel
theorem dX12_even_194 : decode cX12_even 194 = .ok (.iastore, 1) := by decide +kernel
theorem dX12_even_195 : decode cX12_even 195 = .ok (.iload 6, 2) := by decide +kernel
theorem dX12_even_197 : decode cX12_even 197 = .ok (.ldc 166, 2) := by decide +kernel
theorem dX12_even_199 : decode cX12_even 199 = .ok (.if_icmp .ne 8, 3) := by decide +kernel
theorem dX12_even_202 : decode cX12_even 202 = .ok (.ldc 166, 2) := by decide +kernel
theorem dX12_even_204 : decode cX12_even 204 = .ok (.goto 20, 3) := by decide +kernel
theorem dX12_even_207 : decode cX12_even 207 = .ok (.iload_n 3, 1) := by decide +kernel
theorem dX12_even_208 : decode cX12_even 208 = .ok (.ifCond .ne 11, 3) := by decide +kernel
theorem dX12_even_211 : decode cX12_even 211 = .ok (.iload 6, 2) := by decide +kernel
theorem dX12_even_213 : decode cX12_even 213 = .ok (.bipush 19, 2) := by decide +kernel
theorem dX12_even_215 : decode cX12_even 215 = .ok (.idiv, 1) := by decide +kernel
theorem dX12_even_216 : decode cX12_even 216 = .ok (.goto 8, 3) := by decide +kernel
theorem dX12_even_219 : decode cX12_even 219 = .ok (.iload 6, 2) := by decide +kernel
theorem dX12_even_221 : decode cX12_even 221 = .ok (.bipush 19, 2) := by decide +kernel
theorem dX12_even_223 : decode cX12_even 223 = .ok (.irem, 1) := by decide +kernel
theorem dX12_even_224 : decode cX12_even 224 = .ok (.ireturn, 1) := by decide +kernel
set_option maxRecDepth 20000 in
theorem ggX12_bestSlide_X12_in : GoodIn wsX12_bestSlide wsX12_in := goodIn_r _ [8] (by decide +kernel) (by decide +kernel)
set_option maxRecDepth 20000 in
theorem gX12_bestSlide_X12_in : GoodIn wsX12_bestSlide (va_wsS RX12 45 yX12_in wsX12_in) := goodIn_app (goodIn_of _ (by decide +kernel)) ggX12_bestSlide_X12_in
set_option maxRecDepth 20000 in
theorem ggX12_bestSlide_X12_whoIs : GoodIn wsX12_bestSlide wsX12_whoIs := goodIn_r _ [12, 1, 44, 45, 46, 47, 48, 49, 50, 51, 52, 53, 54, 55, 56, 57, 58, 59, 60, 61, 62] (by decide +kernel) (by decide +kernel)
set_option maxRecDepth 20000 in
theorem gX12_bestSlide_X12_whoIs : GoodIn wsX12_bestSlide (wsV RX12 109 RX12 yX12_whoIs wsX12_whoIs) := goodIn_app (goodIn_of _ (by decide +kernel)) ggX12_bestSlide_X12_whoIs
set_option maxRecDepth 20000 in
theorem ggX12_bestSlide_X12_walks : GoodIn wsX12_bestSlide wsX12_walks := goodIn_r _ [16, 1, 17, 18, 19, 7, 20, 21, 22, 23, 24, 25, 26, 27, 28, 29, 30, 31, 32, 33, 34, 35, 36, 5, 6, 8, 37, 38, 39, 40, 41, 42, 43, 44, 45, 46, 47, 48, 49, 50, 51, 52, 53, 54, 55, 56, 57, 58, 59, 60, 61, 62] (by decide +kernel) (by decide +kernel)
set_option maxRecDepth 20000 in
theorem gX12_bestSlide_X12_walks : GoodIn wsX12_bestSlide (wsV RX12 174 RX12 yX12_walks wsX12_walks) := goodIn_app (goodIn_of _ (by decide +kernel)) ggX12_bestSlide_X12_walks
theorem dX12_bestSlide_0 : decode cX12_bestSlide 0 = .ok (.aload_n 0, 1) := by decide +kernel
theorem dX12_bestSlide_1 : decode cX12_bestSlide 1 = .ok (.getfield 7, 3) := by decide +kernel
theorem dX12_bestSlide_4 : decode cX12_bestSlide 4 = .ok (.iconst 4, 1) := by decide +kernel
theorem dX12_bestSlide_5 : decode cX12_bestSlide 5 = .ok (.iaload, 1) := by decide +kernel
theorem dX12_bestSlide_6 : decode cX12_bestSlide 6 = .ok (.ifCond .ne 6, 3) := by decide +kernel
theorem dX12_bestSlide_9 : decode cX12_bestSlide 9 = .ok (.ldc 132, 2) := by decide +kernel
theorem dX12_bestSlide_11 : decode cX12_bestSlide 11 = .ok (.ireturn, 1) := by decide +kernel
theorem dX12_bestSlide_12 : decode cX12_bestSlide 12 = .ok (.iload_n 1, 1) := by decide +kernel
theorem dX12_bestSlide_13 : decode cX12_bestSlide 13 = .ok (.i2l, 1) := by decide +kernel
theorem dX12_bestSlide_14 : decode cX12_bestSlide 14 = .ok (.lconst 0, 1) := by decide +kernel
theorem dX12_bestSlide_15 : decode cX12_bestSlide 15 = .ok (.lconst 1, 1) := by decide +kernel
theorem dX12_bestSlide_16 : decode cX12_bestSlide 16 = .ok (.invokestatic 45, 3) := by decide +kernel
theorem dX12_bestSlide_19 : decode cX12_bestSlide 19 = .ok (.ifCond .ne 6, 3) := by decide +kernel
theorem dX12_bestSlide_22 : decode cX12_bestSlide 22 = .ok (.ldc 55, 2) := by decide +kernel
theorem dX12_bestSlide_24 : decode cX12_bestSlide 24 = .ok (.ireturn, 1) := by decide +kernel
theorem dX12_bestSlide_25 : decode cX12_bestSlide 25 = .ok (.ldc 166, 2) := by decide +kernel
theorem dX12_bestSlide_27 : decode cX12_bestSlide 27 = .ok (.istore_n 2, 1) := by decide +kernel
theorem dX12_bestSlide_28 : decode cX12_bestSlide 28 = .ok (.iconst (-1), 1) := by decide +kernel
theorem dX12_bestSlide_29 : decode cX12_bestSlide 29 = .ok (.istore_n 3, 1) := by decide +kernel
theorem dX12_bestSlide_30 : decode cX12_bestSlide 30 = .ok (.iconst 0, 1) := by decide +kernel
theorem dX12_bestSlide_31 : decode cX12_bestSlide 31 = .ok (.istore 4, 2) := by decide +kernel
theorem dX12_bestSlide_33 : decode cX12_bestSlide 33 = .ok (.iload 4, 2) := by decide +kernel
theorem dX12_bestSlide_35 : decode cX12_bestSlide 35 = .ok (.aload_n 0, 1) := by decide +kernel
theorem dX12_bestSlide_36 : decode cX12_bestSlide 36 = .ok (.getfield 7, 3) := by decide +kernel
theorem dX12_bestSlide_39 : decode cX12_bestSlide 39 = .ok (.iconst 3, 1) := by decide +kernel
theorem dX12_bestSlide_40 : decode cX12_bestSlide 40 = .ok (.iaload, 1) := by decide +kernel
theorem dX12_bestSlide_41 : decode cX12_bestSlide 41 = .ok (.if_icmp .ge 120, 3) := by decide +kernel
theorem dX12_bestSlide_44 : decode cX12_bestSlide 44 = .ok (.aload_n 0, 1) := by decide +kernel
theorem dX12_bestSlide_45 : decode cX12_bestSlide 45 = .ok (.getfield 7, 3) := by decide +kernel
theorem dX12_bestSlide_48 : decode cX12_bestSlide 48 = .ok (.bipush 20, 2) := by decide +kernel
theorem dX12_bestSlide_50 : decode cX12_bestSlide 50 = .ok (.iload 4, 2) := by decide +kernel
theorem dX12_bestSlide_52 : decode cX12_bestSlide 52 = .ok (.iadd, 1) := by decide +kernel
theorem dX12_bestSlide_53 : decode cX12_bestSlide 53 = .ok (.iaload, 1) := by decide +kernel
theorem dX12_bestSlide_54 : decode cX12_bestSlide 54 = .ok (.istore 5, 2) := by decide +kernel
theorem dX12_bestSlide_56 : decode cX12_bestSlide 56 = .ok (.iconst 1, 1) := by decide +kernel
theorem dX12_bestSlide_57 : decode cX12_bestSlide 57 = .ok (.istore 6, 2) := by decide +kernel
theorem dX12_bestSlide_59 : decode cX12_bestSlide 59 = .ok (.iload 6, 2) := by decide +kernel
theorem dX12_bestSlide_61 : decode cX12_bestSlide 61 = .ok (.bipush 8, 2) := by decide +kernel
theorem dX12_bestSlide_63 : decode cX12_bestSlide 63 = .ok (.if_icmp .gt 92, 3) := by decide +kernel
theorem dX12_bestSlide_66 : decode cX12_bestSlide 66 = .ok (.aload_n 0, 1) := by decide +kernel
theorem dX12_bestSlide_67 : decode cX12_bestSlide 67 = .ok (.iconst 0, 1) := by decide +kernel
theorem dX12_bestSlide_68 : decode cX12_bestSlide 68 = .ok (.aload_n 0, 1) := by decide +kernel
theorem dX12_bestSlide_69 : decode cX12_bestSlide 69 = .ok (.getfield 7, 3) := by decide +kernel
theorem dX12_bestSlide_72 : decode cX12_bestSlide 72 = .ok (.bipush 14, 2) := by decide +kernel
theorem dX12_bestSlide_74 : decode cX12_bestSlide 74 = .ok (.iload 4, 2) := by decide +kernel
theorem dX12_bestSlide_76 : decode cX12_bestSlide 76 = .ok (.iadd, 1) := by decide +kernel
theorem dX12_bestSlide_77 : decode cX12_bestSlide 77 = .ok (.iaload, 1) := by decide +kernel
theorem dX12_bestSlide_78 : decode cX12_bestSlide 78 = .ok (.iload 6, 2) := by decide +kernel
theorem dX12_bestSlide_80 : decode cX12_bestSlide 80 = .ok (.invokevirtual 109, 3) := by decide +kernel
theorem dX12_bestSlide_83 : decode cX12_bestSlide 83 = .ok (.ifCond .ge 66, 3) := by decide +kernel
theorem dX12_bestSlide_86 : decode cX12_bestSlide 86 = .ok (.aload_n 0, 1) := by decide +kernel
theorem dX12_bestSlide_87 : decode cX12_bestSlide 87 = .ok (.getfield 7, 3) := by decide +kernel
theorem dX12_bestSlide_90 : decode cX12_bestSlide 90 = .ok (.bipush 20, 2) := by decide +kernel
theorem dX12_bestSlide_92 : decode cX12_bestSlide 92 = .ok (.iload 4, 2) := by decide +kernel
theorem dX12_bestSlide_94 : decode cX12_bestSlide 94 = .ok (.iadd, 1) := by decide +kernel
theorem dX12_bestSlide_95 : decode cX12_bestSlide 95 = .ok (.iload 6, 2) := by decide +kernel
theorem dX12_bestSlide_97 : decode cX12_bestSlide 97 = .ok (.iastore, 1) := by decide +kernel
theorem dX12_bestSlide_98 : decode cX12_bestSlide 98 = .ok (.aload_n 0, 1) := by decide +kernel
theorem dX12_bestSlide_99 : decode cX12_bestSlide 99 = .ok (.iconst 2, 1) := by decide +kernel
theorem dX12_bestSlide_100 : decode cX12_bestSlide 100 = .ok (.invokevirtual 174, 3) := by decide +kernel
theorem dX12_bestSlide_103 : decode cX12_bestSlide 103 = .ok (.istore 7, 2) := by decide +kernel
theorem dX12_bestSlide_105 : decode cX12_bestSlide 105 = .ok (.iload 7, 2) := by decide +kernel
theorem dX12_bestSlide_107 : decode cX12_bestSlide 107 = .ok (.iload_n 3, 1) := by decide +kernel
theorem dX12_bestSlide_108 : decode cX12_bestSlide 108 = .ok (.if_icmp .le 14, 3) := by decide +kernel
theorem dX12_bestSlide_111 : decode cX12_bestSlide 111 = .ok (.bipush 9, 2) := by decide +kernel
theorem dX12_bestSlide_113 : decode cX12_bestSlide 113 = .ok (.iload 4, 2) := by decide +kernel
theorem dX12_bestSlide_115 : decode cX12_bestSlide 115 = .ok (.imul, 1) := by decide +kernel
theorem dX12_bestSlide_116 : decode cX12_bestSlide 116 = .ok (.iload 6, 2) := by decide +kernel
theorem dX12_bestSlide_118 : decode cX12_bestSlide 118 = .ok (.iadd, 1) := by decide +kernel
theorem dX12_bestSlide_119 : decode cX12_bestSlide 119 = .ok (.goto 4, 3) := by decide +kernel
theorem dX12_bestSlide_122 : decode cX12_bestSlide 122 = .ok (.iload_n 2, 1) := by decide +kernel
theorem dX12_bestSlide_123 : decode cX12_bestSlide 123 = .ok (.istore_n 2, 1) := by decide +kernel
theorem dX12_bestSlide_124 : decode cX12_bestSlide 124 = .ok (.iload 7, 2) := by decide +kernel
theorem dX12_bestSlide_126 : decode cX12_bestSlide 126 = .ok (.iload_n 3, 1) := by decide +kernel
theorem dX12_bestSlide_127 : decode cX12_bestSlide 127 = .ok (.if_icmp .le 8, 3) := by decide +kernel
theorem dX12_bestSlide_130 : decode cX12_bestSlide 130 = .ok (.iload 7, 2) := by decide +kernel
theorem dX12_bestSlide_132 : decode cX12_bestSlide 132 = .ok (.goto 4, 3) := by decide +kernel
theorem dX12_bestSlide_135 : decode cX12_bestSlide 135 = .ok (.iload_n 3, 1) := by decide +kernel
theorem dX12_bestSlide_136 : decode cX12_bestSlide 136 = .ok (.istore_n 3, 1) := by decide +kernel
theorem dX12_bestSlide_137 : decode cX12_bestSlide 137 = .ok (.aload_n 0, 1) := by decide +kernel
theorem dX12_bestSlide_138 : decode cX12_bestSlide 138 = .ok (.getfield 7, 3) := by decide +kernel
theorem dX12_bestSlide_141 : decode cX12_bestSlide 141 = .ok (.bipush 20, 2) := by decide +kernel
theorem dX12_bestSlide_143 : decode cX12_bestSlide 143 = .ok (.iload 4, 2) := by decide +kernel
theorem dX12_bestSlide_145 : decode cX12_bestSlide 145 = .ok (.iadd, 1) := by decide +kernel
theorem dX12_bestSlide_146 : decode cX12_bestSlide 146 = .ok (.iload 5, 2) := by decide +kernel
theorem dX12_bestSlide_148 : decode cX12_bestSlide 148 = .ok (.iastore, 1) := by decide +kernel
theorem dX12_bestSlide_149 : decode cX12_bestSlide 149 = .ok (.iinc 6 1, 3) := by decide +kernel
theorem dX12_bestSlide_152 : decode cX12_bestSlide 152 = .ok (.goto (-93), 3) := by decide +kernel
theorem dX12_bestSlide_155 : decode cX12_bestSlide 155 = .ok (.iinc 4 1, 3) := by decide +kernel
theorem dX12_bestSlide_158 : decode cX12_bestSlide 158 = .ok (.goto (-125), 3) := by decide +kernel
theorem dX12_bestSlide_161 : decode cX12_bestSlide 161 = .ok (.iload_n 1, 1) := by decide +kernel
theorem dX12_bestSlide_162 : decode cX12_bestSlide 162 = .ok (.ifCond .eq 9, 3) := by decide +kernel
theorem dX12_bestSlide_165 : decode cX12_bestSlide 165 = .ok (.iload_n 2, 1) := by decide +kernel
theorem dX12_bestSlide_166 : decode cX12_bestSlide 166 = .ok (.ldc 166, 2) := by decide +kernel
theorem dX12_bestSlide_168 : decode cX12_bestSlide 168 = .ok (.if_icmp .ne 7, 3) := by decide +kernel
theorem dX12_bestSlide_171 : decode cX12_bestSlide 171 = .ok (.iload_n 2, 1) := by decide +kernel
theorem dX12_bestSlide_172 : decode cX12_bestSlide 172 = .ok (.goto 4, 3) := by decide +kernel
theorem dX12_bestSlide_175 : decode cX12_bestSlide 175 = .ok (.iload_n 3, 1) := by decide +kernel
theorem dX12_bestSlide_176 : decode cX12_bestSlide 176 = .ok (.ireturn, 1) := by decide +kernel
set_option maxRecDepth 20000 in
theorem ggX12_layWays_X12_dropping : GoodIn wsX12_layWays wsX12_dropping := goodIn_r _ [8, 1, 9, 10, 11, 7, 12, 13, 14, 15, 16, 17, 18, 19, 20, 21, 22, 23, 24, 25, 26, 27, 28, 29, 30, 31, 32, 33, 34, 38, 39, 40, 41, 42, 43, 44, 45, 46, 47, 48, 49, 50, 51, 52, 53, 54, 55, 56] (by decide +kernel) (by decide +kernel)
set_option maxRecDepth 20000 in
theorem gX12_layWays_X12_dropping : GoodIn wsX12_layWays (wsV RX12 167 RX12 yX12_dropping wsX12_dropping) := goodIn_app (goodIn_of _ (by decide +kernel)) ggX12_layWays_X12_dropping
set_option maxRecDepth 20000 in
theorem ggX12_layWays_X12_has : GoodIn wsX12_layWays wsX12_has := goodIn_r _ [37] (by decide +kernel) (by decide +kernel)
set_option maxRecDepth 20000 in
theorem gX12_layWays_X12_has : GoodIn wsX12_layWays (va_wsS RX12 177 yX12_has wsX12_has) := goodIn_app (goodIn_of _ (by decide +kernel)) ggX12_layWays_X12_has
theorem dX12_layWays_0 : decode cX12_layWays 0 = .ok (.iconst 0, 1) := by decide +kernel
theorem dX12_layWays_1 : decode cX12_layWays 1 = .ok (.istore_n 1, 1) := by decide +kernel
theorem dX12_layWays_2 : decode cX12_layWays 2 = .ok (.iconst 0, 1) := by decide +kernel
theorem dX12_layWays_3 : decode cX12_layWays 3 = .ok (.istore_n 2, 1) := by decide +kernel
theorem dX12_layWays_4 : decode cX12_layWays 4 = .ok (.iload_n 2, 1) := by decide +kernel
theorem dX12_layWays_5 : decode cX12_layWays 5 = .ok (.aload_n 0, 1) := by decide +kernel
theorem dX12_layWays_6 : decode cX12_layWays 6 = .ok (.getfield 7, 3) := by decide +kernel
theorem dX12_layWays_9 : decode cX12_layWays 9 = .ok (.iconst 3, 1) := by decide +kernel
theorem dX12_layWays_10 : decode cX12_layWays 10 = .ok (.iaload, 1) := by decide +kernel
theorem dX12_layWays_11 : decode cX12_layWays 11 = .ok (.if_icmp .ge 23, 3) := by decide +kernel
theorem dX12_layWays_14 : decode cX12_layWays 14 = .ok (.iload_n 1, 1) := by decide +kernel
theorem dX12_layWays_15 : decode cX12_layWays 15 = .ok (.aload_n 0, 1) := by decide +kernel
theorem dX12_layWays_16 : decode cX12_layWays 16 = .ok (.getfield 7, 3) := by decide +kernel
theorem dX12_layWays_19 : decode cX12_layWays 19 = .ok (.bipush 44, 2) := by decide +kernel
theorem dX12_layWays_21 : decode cX12_layWays 21 = .ok (.iload_n 2, 1) := by decide +kernel
theorem dX12_layWays_22 : decode cX12_layWays 22 = .ok (.iadd, 1) := by decide +kernel
theorem dX12_layWays_23 : decode cX12_layWays 23 = .ok (.iaload, 1) := by decide +kernel
theorem dX12_layWays_24 : decode cX12_layWays 24 = .ok (.iload_n 2, 1) := by decide +kernel
theorem dX12_layWays_25 : decode cX12_layWays 25 = .ok (.ishl, 1) := by decide +kernel
theorem dX12_layWays_26 : decode cX12_layWays 26 = .ok (.ior, 1) := by decide +kernel
theorem dX12_layWays_27 : decode cX12_layWays 27 = .ok (.istore_n 1, 1) := by decide +kernel
theorem dX12_layWays_28 : decode cX12_layWays 28 = .ok (.iinc 2 1, 3) := by decide +kernel
theorem dX12_layWays_31 : decode cX12_layWays 31 = .ok (.goto (-27), 3) := by decide +kernel
theorem dX12_layWays_34 : decode cX12_layWays 34 = .ok (.iconst 1, 1) := by decide +kernel
theorem dX12_layWays_35 : decode cX12_layWays 35 = .ok (.aload_n 0, 1) := by decide +kernel
theorem dX12_layWays_36 : decode cX12_layWays 36 = .ok (.getfield 7, 3) := by decide +kernel
theorem dX12_layWays_39 : decode cX12_layWays 39 = .ok (.iconst 3, 1) := by decide +kernel
theorem dX12_layWays_40 : decode cX12_layWays 40 = .ok (.iaload, 1) := by decide +kernel
theorem dX12_layWays_41 : decode cX12_layWays 41 = .ok (.ishl, 1) := by decide +kernel
theorem dX12_layWays_42 : decode cX12_layWays 42 = .ok (.iconst 1, 1) := by decide +kernel
theorem dX12_layWays_43 : decode cX12_layWays 43 = .ok (.isub, 1) := by decide +kernel
theorem dX12_layWays_44 : decode cX12_layWays 44 = .ok (.istore_n 2, 1) := by decide +kernel
theorem dX12_layWays_45 : decode cX12_layWays 45 = .ok (.iload_n 2, 1) := by decide +kernel
theorem dX12_layWays_46 : decode cX12_layWays 46 = .ok (.istore_n 3, 1) := by decide +kernel
theorem dX12_layWays_47 : decode cX12_layWays 47 = .ok (.iload_n 3, 1) := by decide +kernel
theorem dX12_layWays_48 : decode cX12_layWays 48 = .ok (.ifCond .lt 157, 3) := by decide +kernel
theorem dX12_layWays_51 : decode cX12_layWays 51 = .ok (.aload_n 0, 1) := by decide +kernel
theorem dX12_layWays_52 : decode cX12_layWays 52 = .ok (.getfield 32, 3) := by decide +kernel
theorem dX12_layWays_55 : decode cX12_layWays 55 = .ok (.iload_n 3, 1) := by decide +kernel
theorem dX12_layWays_56 : decode cX12_layWays 56 = .ok (.iconst 0, 1) := by decide +kernel
theorem dX12_layWays_57 : decode cX12_layWays 57 = .ok (.iastore, 1) := by decide +kernel
theorem dX12_layWays_58 : decode cX12_layWays 58 = .ok (.iload_n 3, 1) := by decide +kernel
theorem dX12_layWays_59 : decode cX12_layWays 59 = .ok (.iload_n 1, 1) := by decide +kernel
theorem dX12_layWays_60 : decode cX12_layWays 60 = .ok (.iand, 1) := by decide +kernel
theorem dX12_layWays_61 : decode cX12_layWays 61 = .ok (.iload_n 1, 1) := by decide +kernel
theorem dX12_layWays_62 : decode cX12_layWays 62 = .ok (.if_icmp .ne 137, 3) := by decide +kernel
theorem dX12_layWays_65 : decode cX12_layWays 65 = .ok (.iconst 0, 1) := by decide +kernel
theorem dX12_layWays_66 : decode cX12_layWays 66 = .ok (.istore 4, 2) := by decide +kernel
theorem dX12_layWays_68 : decode cX12_layWays 68 = .ok (.iload 4, 2) := by decide +kernel
theorem dX12_layWays_70 : decode cX12_layWays 70 = .ok (.aload_n 0, 1) := by decide +kernel
theorem dX12_layWays_71 : decode cX12_layWays 71 = .ok (.getfield 7, 3) := by decide +kernel
theorem dX12_layWays_74 : decode cX12_layWays 74 = .ok (.iconst 3, 1) := by decide +kernel
theorem dX12_layWays_75 : decode cX12_layWays 75 = .ok (.iaload, 1) := by decide +kernel
theorem dX12_layWays_76 : decode cX12_layWays 76 = .ok (.if_icmp .ge 25, 3) := by decide +kernel
theorem dX12_layWays_79 : decode cX12_layWays 79 = .ok (.aload_n 0, 1) := by decide +kernel
theorem dX12_layWays_80 : decode cX12_layWays 80 = .ok (.getfield 7, 3) := by decide +kernel
theorem dX12_layWays_83 : decode cX12_layWays 83 = .ok (.bipush 44, 2) := by decide +kernel
theorem dX12_layWays_85 : decode cX12_layWays 85 = .ok (.iload 4, 2) := by decide +kernel
theorem dX12_layWays_87 : decode cX12_layWays 87 = .ok (.iadd, 1) := by decide +kernel
theorem dX12_layWays_88 : decode cX12_layWays 88 = .ok (.iload_n 3, 1) := by decide +kernel
theorem dX12_layWays_89 : decode cX12_layWays 89 = .ok (.iload 4, 2) := by decide +kernel
theorem dX12_layWays_91 : decode cX12_layWays 91 = .ok (.ishr, 1) := by decide +kernel
theorem dX12_layWays_92 : decode cX12_layWays 92 = .ok (.iconst 1, 1) := by decide +kernel
theorem dX12_layWays_93 : decode cX12_layWays 93 = .ok (.iand, 1) := by decide +kernel
theorem dX12_layWays_94 : decode cX12_layWays 94 = .ok (.iastore, 1) := by decide +kernel
theorem dX12_layWays_95 : decode cX12_layWays 95 = .ok (.iinc 4 1, 3) := by decide +kernel
theorem dX12_layWays_98 : decode cX12_layWays 98 = .ok (.goto (-30), 3) := by decide +kernel
theorem dX12_layWays_101 : decode cX12_layWays 101 = .ok (.aload_n 0, 1) := by decide +kernel
theorem dX12_layWays_102 : decode cX12_layWays 102 = .ok (.invokevirtual 167, 3) := by decide +kernel
theorem dX12_layWays_105 : decode cX12_layWays 105 = .ok (.ifCond .ne 7, 3) := by decide +kernel
theorem dX12_layWays_108 : decode cX12_layWays 108 = .ok (.iconst 1, 1) := by decide +kernel
theorem dX12_layWays_109 : decode cX12_layWays 109 = .ok (.goto 4, 3) := by decide +kernel
theorem dX12_layWays_112 : decode cX12_layWays 112 = .ok (.iconst 0, 1) := by decide +kernel
theorem dX12_layWays_113 : decode cX12_layWays 113 = .ok (.istore 4, 2) := by decide +kernel
theorem dX12_layWays_115 : decode cX12_layWays 115 = .ok (.iconst 0, 1) := by decide +kernel
theorem dX12_layWays_116 : decode cX12_layWays 116 = .ok (.istore 5, 2) := by decide +kernel
theorem dX12_layWays_118 : decode cX12_layWays 118 = .ok (.iload 5, 2) := by decide +kernel
theorem dX12_layWays_120 : decode cX12_layWays 120 = .ok (.aload_n 0, 1) := by decide +kernel
theorem dX12_layWays_121 : decode cX12_layWays 121 = .ok (.getfield 7, 3) := by decide +kernel
theorem dX12_layWays_124 : decode cX12_layWays 124 = .ok (.iconst 3, 1) := by decide +kernel
theorem dX12_layWays_125 : decode cX12_layWays 125 = .ok (.iaload, 1) := by decide +kernel
theorem dX12_layWays_126 : decode cX12_layWays 126 = .ok (.if_icmp .ge 47, 3) := by decide +kernel
theorem dX12_layWays_129 : decode cX12_layWays 129 = .ok (.iload 4, 2) := by decide +kernel
theorem dX12_layWays_131 : decode cX12_layWays 131 = .ok (.ifCond .eq 42, 3) := by decide +kernel
theorem dX12_layWays_134 : decode cX12_layWays 134 = .ok (.aload_n 0, 1) := by decide +kernel
theorem dX12_layWays_135 : decode cX12_layWays 135 = .ok (.getfield 32, 3) := by decide +kernel
theorem dX12_layWays_138 : decode cX12_layWays 138 = .ok (.iload_n 3, 1) := by decide +kernel
theorem dX12_layWays_139 : decode cX12_layWays 139 = .ok (.dup2, 1) := by decide +kernel
theorem dX12_layWays_140 : decode cX12_layWays 140 = .ok (.iaload, 1) := by decide +kernel
theorem dX12_layWays_141 : decode cX12_layWays 141 = .ok (.iload_n 3, 1) := by decide +kernel
theorem dX12_layWays_142 : decode cX12_layWays 142 = .ok (.iload 5, 2) := by decide +kernel
theorem dX12_layWays_144 : decode cX12_layWays 144 = .ok (.invokestatic 177, 3) := by decide +kernel
theorem dX12_layWays_147 : decode cX12_layWays 147 = .ok (.ifCond .eq 7, 3) := by decide +kernel
theorem dX12_layWays_150 : decode cX12_layWays 150 = .ok (.iconst 0, 1) := by decide +kernel
theorem dX12_layWays_151 : decode cX12_layWays 151 = .ok (.goto 14, 3) := by decide +kernel
theorem dX12_layWays_154 : decode cX12_layWays 154 = .ok (.aload_n 0, 1) := by decide +kernel
theorem dX12_layWays_155 : decode cX12_layWays 155 = .ok (.getfield 32, 3) := by decide +kernel
theorem dX12_layWays_158 : decode cX12_layWays 158 = .ok (.iload_n 3, 1) := by decide +kernel
theorem dX12_layWays_159 : decode cX12_layWays 159 = .ok (.iconst 1, 1) := by decide +kernel
theorem dX12_layWays_160 : decode cX12_layWays 160 = .ok (.iload 5, 2) := by decide +kernel
theorem dX12_layWays_162 : decode cX12_layWays 162 = .ok (.ishl, 1) := by decide +kernel
theorem dX12_layWays_163 : decode cX12_layWays 163 = .ok (.ior, 1) := by decide +kernel
theorem dX12_layWays_164 : decode cX12_layWays 164 = .ok (.iaload, 1) := by decide +kernel
theorem dX12_layWays_165 : decode cX12_layWays 165 = .ok (.iadd, 1) := by decide +kernel
theorem dX12_layWays_166 : decode cX12_layWays 166 = .ok (.iastore, 1) := by decide +kernel
theorem dX12_layWays_167 : decode cX12_layWays 167 = .ok (.iinc 5 1, 3) := by decide +kernel
theorem dX12_layWays_170 : decode cX12_layWays 170 = .ok (.goto (-52), 3) := by decide +kernel
theorem dX12_layWays_173 : decode cX12_layWays 173 = .ok (.aload_n 0, 1) := by decide +kernel
theorem dX12_layWays_174 : decode cX12_layWays 174 = .ok (.getfield 32, 3) := by decide +kernel
theorem dX12_layWays_177 : decode cX12_layWays 177 = .ok (.iload_n 3, 1) := by decide +kernel
theorem dX12_layWays_178 : decode cX12_layWays 178 = .ok (.iload 4, 2) := by decide +kernel
theorem dX12_layWays_180 : decode cX12_layWays 180 = .ok (.ifCond .eq 12, 3) := by decide +kernel
theorem dX12_layWays_183 : decode cX12_layWays 183 = .ok (.iload_n 3, 1) := by decide +kernel
theorem dX12_layWays_184 : decode cX12_layWays 184 = .ok (.iload_n 2, 1) := by decide +kernel
theorem dX12_layWays_185 : decode cX12_layWays 185 = .ok (.if_icmp .ne 7, 3) := by decide +kernel
theorem dX12_layWays_188 : decode cX12_layWays 188 = .ok (.iconst 1, 1) := by decide +kernel
theorem dX12_layWays_189 : decode cX12_layWays 189 = .ok (.goto 9, 3) := by decide +kernel
theorem dX12_layWays_192 : decode cX12_layWays 192 = .ok (.aload_n 0, 1) := by decide +kernel
theorem dX12_layWays_193 : decode cX12_layWays 193 = .ok (.getfield 32, 3) := by decide +kernel
theorem dX12_layWays_196 : decode cX12_layWays 196 = .ok (.iload_n 3, 1) := by decide +kernel
theorem dX12_layWays_197 : decode cX12_layWays 197 = .ok (.iaload, 1) := by decide +kernel
theorem dX12_layWays_198 : decode cX12_layWays 198 = .ok (.iastore, 1) := by decide +kernel
theorem dX12_layWays_199 : decode cX12_layWays 199 = .ok (.iinc 3 (-1), 3) := by decide +kernel
theorem dX12_layWays_202 : decode cX12_layWays 202 = .ok (.goto (-155), 3) := by decide +kernel
theorem dX12_layWays_205 : decode cX12_layWays 205 = .ok (.iconst 0, 1) := by decide +kernel
theorem dX12_layWays_206 : decode cX12_layWays 206 = .ok (.istore_n 3, 1) := by decide +kernel
theorem dX12_layWays_207 : decode cX12_layWays 207 = .ok (.iload_n 3, 1) := by decide +kernel
theorem dX12_layWays_208 : decode cX12_layWays 208 = .ok (.aload_n 0, 1) := by decide +kernel
theorem dX12_layWays_209 : decode cX12_layWays 209 = .ok (.getfield 7, 3) := by decide +kernel
theorem dX12_layWays_212 : decode cX12_layWays 212 = .ok (.iconst 3, 1) := by decide +kernel
theorem dX12_layWays_213 : decode cX12_layWays 213 = .ok (.iaload, 1) := by decide +kernel
theorem dX12_layWays_214 : decode cX12_layWays 214 = .ok (.if_icmp .ge 23, 3) := by decide +kernel
theorem dX12_layWays_217 : decode cX12_layWays 217 = .ok (.aload_n 0, 1) := by decide +kernel
theorem dX12_layWays_218 : decode cX12_layWays 218 = .ok (.getfield 7, 3) := by decide +kernel
theorem dX12_layWays_221 : decode cX12_layWays 221 = .ok (.bipush 44, 2) := by decide +kernel
theorem dX12_layWays_223 : decode cX12_layWays 223 = .ok (.iload_n 3, 1) := by decide +kernel
theorem dX12_layWays_224 : decode cX12_layWays 224 = .ok (.iadd, 1) := by decide +kernel
theorem dX12_layWays_225 : decode cX12_layWays 225 = .ok (.iload_n 1, 1) := by decide +kernel
theorem dX12_layWays_226 : decode cX12_layWays 226 = .ok (.iload_n 3, 1) := by decide +kernel
theorem dX12_layWays_227 : decode cX12_layWays 227 = .ok (.ishr, 1) := by decide +kernel
theorem dX12_layWays_228 : decode cX12_layWays 228 = .ok (.iconst 1, 1) := by decide +kernel
theorem dX12_layWays_229 : decode cX12_layWays 229 = .ok (.iand, 1) := by decide +kernel
theorem dX12_layWays_230 : decode cX12_layWays 230 = .ok (.iastore, 1) := by decide +kernel
theorem dX12_layWays_231 : decode cX12_layWays 231 = .ok (.iinc 3 1, 3) := by decide +kernel
theorem dX12_layWays_234 : decode cX12_layWays 234 = .ok (.goto (-27), 3) := by decide +kernel
theorem dX12_layWays_237 : decode cX12_layWays 237 = .ok (.aload_n 0, 1) := by decide +kernel
theorem dX12_layWays_238 : decode cX12_layWays 238 = .ok (.iload_n 1, 1) := by decide +kernel
theorem dX12_layWays_239 : decode cX12_layWays 239 = .ok (.putfield 180, 3) := by decide +kernel
theorem dX12_layWays_242 : decode cX12_layWays 242 = .ok (.return_, 1) := by decide +kernel
set_option maxRecDepth 20000 in
theorem ggX12_unloaded_X12_in : GoodIn wsX12_unloaded wsX12_in := goodIn_r _ [12] (by decide +kernel) (by decide +kernel)
set_option maxRecDepth 20000 in
theorem gX12_unloaded_X12_in : GoodIn wsX12_unloaded (va_wsS RX12 45 yX12_in wsX12_in) := goodIn_app (goodIn_of _ (by decide +kernel)) ggX12_unloaded_X12_in
set_option maxRecDepth 20000 in
theorem ggX12_unloaded_X12_layWays : GoodIn wsX12_unloaded wsX12_layWays := goodIn_r _ [16, 1, 6, 7, 17, 18, 19, 11, 20, 21, 22, 23, 24, 25, 26, 27, 28, 29, 30, 31, 32, 33, 34, 35, 36, 9, 10, 12, 37, 38, 39, 40, 41, 42, 43, 44, 45, 46, 47, 48, 49, 50, 51, 52, 53, 54, 55, 56, 57, 58, 59, 60, 61, 62, 63, 64, 65] (by decide +kernel) (by decide +kernel)
set_option maxRecDepth 20000 in
theorem gX12_unloaded_X12_layWays : GoodIn wsX12_unloaded (wsV RX12 187 RX12 yX12_layWays wsX12_layWays) := goodIn_app (goodIn_of _ (by decide +kernel)) ggX12_unloaded_X12_layWays
set_option maxRecDepth 20000 in
theorem ggX12_unloaded_X12_has : GoodIn wsX12_unloaded wsX12_has := goodIn_r _ [46] (by decide +kernel) (by decide +kernel)
set_option maxRecDepth 20000 in
theorem gX12_unloaded_X12_has : GoodIn wsX12_unloaded (va_wsS RX12 177 yX12_has wsX12_has) := goodIn_app (goodIn_of _ (by decide +kernel)) ggX12_unloaded_X12_has
theorem dX12_unloaded_0 : decode cX12_unloaded 0 = .ok (.aload_n 0, 1) := by decide +kernel
theorem dX12_unloaded_1 : decode cX12_unloaded 1 = .ok (.getfield 7, 3) := by decide +kernel
theorem dX12_unloaded_4 : decode cX12_unloaded 4 = .ok (.iconst 4, 1) := by decide +kernel
theorem dX12_unloaded_5 : decode cX12_unloaded 5 = .ok (.iaload, 1) := by decide +kernel
theorem dX12_unloaded_6 : decode cX12_unloaded 6 = .ok (.ifCond .ne 6, 3) := by decide +kernel
theorem dX12_unloaded_9 : decode cX12_unloaded 9 = .ok (.ldc 132, 2) := by decide +kernel
theorem dX12_unloaded_11 : decode cX12_unloaded 11 = .ok (.ireturn, 1) := by decide +kernel
theorem dX12_unloaded_12 : decode cX12_unloaded 12 = .ok (.iload_n 1, 1) := by decide +kernel
theorem dX12_unloaded_13 : decode cX12_unloaded 13 = .ok (.i2l, 1) := by decide +kernel
theorem dX12_unloaded_14 : decode cX12_unloaded 14 = .ok (.ldc2_w 183, 3) := by decide +kernel
theorem dX12_unloaded_17 : decode cX12_unloaded 17 = .ok (.ldc2_w 185, 3) := by decide +kernel
theorem dX12_unloaded_20 : decode cX12_unloaded 20 = .ok (.invokestatic 45, 3) := by decide +kernel
theorem dX12_unloaded_23 : decode cX12_unloaded 23 = .ok (.ifCond .ne 6, 3) := by decide +kernel
theorem dX12_unloaded_26 : decode cX12_unloaded 26 = .ok (.ldc 55, 2) := by decide +kernel
theorem dX12_unloaded_28 : decode cX12_unloaded 28 = .ok (.ireturn, 1) := by decide +kernel
theorem dX12_unloaded_29 : decode cX12_unloaded 29 = .ok (.aload_n 0, 1) := by decide +kernel
theorem dX12_unloaded_30 : decode cX12_unloaded 30 = .ok (.invokevirtual 187, 3) := by decide +kernel
theorem dX12_unloaded_33 : decode cX12_unloaded 33 = .ok (.iload_n 1, 1) := by decide +kernel
theorem dX12_unloaded_34 : decode cX12_unloaded 34 = .ok (.ifCond .ge 13, 3) := by decide +kernel
theorem dX12_unloaded_37 : decode cX12_unloaded 37 = .ok (.aload_n 0, 1) := by decide +kernel
theorem dX12_unloaded_38 : decode cX12_unloaded 38 = .ok (.getfield 32, 3) := by decide +kernel
theorem dX12_unloaded_41 : decode cX12_unloaded 41 = .ok (.aload_n 0, 1) := by decide +kernel
theorem dX12_unloaded_42 : decode cX12_unloaded 42 = .ok (.getfield 180, 3) := by decide +kernel
theorem dX12_unloaded_45 : decode cX12_unloaded 45 = .ok (.iaload, 1) := by decide +kernel
theorem dX12_unloaded_46 : decode cX12_unloaded 46 = .ok (.ireturn, 1) := by decide +kernel
theorem dX12_unloaded_47 : decode cX12_unloaded 47 = .ok (.aload_n 0, 1) := by decide +kernel
theorem dX12_unloaded_48 : decode cX12_unloaded 48 = .ok (.getfield 32, 3) := by decide +kernel
theorem dX12_unloaded_51 : decode cX12_unloaded 51 = .ok (.aload_n 0, 1) := by decide +kernel
theorem dX12_unloaded_52 : decode cX12_unloaded 52 = .ok (.getfield 180, 3) := by decide +kernel
theorem dX12_unloaded_55 : decode cX12_unloaded 55 = .ok (.iaload, 1) := by decide +kernel
theorem dX12_unloaded_56 : decode cX12_unloaded 56 = .ok (.ifCond .ne 6, 3) := by decide +kernel
theorem dX12_unloaded_59 : decode cX12_unloaded 59 = .ok (.ldc 166, 2) := by decide +kernel
theorem dX12_unloaded_61 : decode cX12_unloaded 61 = .ok (.ireturn, 1) := by decide +kernel
theorem dX12_unloaded_62 : decode cX12_unloaded 62 = .ok (.aload_n 0, 1) := by decide +kernel
theorem dX12_unloaded_63 : decode cX12_unloaded 63 = .ok (.getfield 180, 3) := by decide +kernel
theorem dX12_unloaded_66 : decode cX12_unloaded 66 = .ok (.istore_n 2, 1) := by decide +kernel
theorem dX12_unloaded_67 : decode cX12_unloaded 67 = .ok (.iconst 0, 1) := by decide +kernel
theorem dX12_unloaded_68 : decode cX12_unloaded 68 = .ok (.istore_n 3, 1) := by decide +kernel
theorem dX12_unloaded_69 : decode cX12_unloaded 69 = .ok (.iload_n 3, 1) := by decide +kernel
theorem dX12_unloaded_70 : decode cX12_unloaded 70 = .ok (.iload_n 1, 1) := by decide +kernel
theorem dX12_unloaded_71 : decode cX12_unloaded 71 = .ok (.if_icmp .gt 88, 3) := by decide +kernel
theorem dX12_unloaded_74 : decode cX12_unloaded 74 = .ok (.iconst (-1), 1) := by decide +kernel
theorem dX12_unloaded_75 : decode cX12_unloaded 75 = .ok (.istore 4, 2) := by decide +kernel
theorem dX12_unloaded_77 : decode cX12_unloaded 77 = .ok (.aload_n 0, 1) := by decide +kernel
theorem dX12_unloaded_78 : decode cX12_unloaded 78 = .ok (.getfield 7, 3) := by decide +kernel
theorem dX12_unloaded_81 : decode cX12_unloaded 81 = .ok (.iconst 3, 1) := by decide +kernel
theorem dX12_unloaded_82 : decode cX12_unloaded 82 = .ok (.iaload, 1) := by decide +kernel
theorem dX12_unloaded_83 : decode cX12_unloaded 83 = .ok (.iconst 1, 1) := by decide +kernel
theorem dX12_unloaded_84 : decode cX12_unloaded 84 = .ok (.isub, 1) := by decide +kernel
theorem dX12_unloaded_85 : decode cX12_unloaded 85 = .ok (.istore 5, 2) := by decide +kernel
theorem dX12_unloaded_87 : decode cX12_unloaded 87 = .ok (.iload 5, 2) := by decide +kernel
theorem dX12_unloaded_89 : decode cX12_unloaded 89 = .ok (.ifCond .lt 41, 3) := by decide +kernel
theorem dX12_unloaded_92 : decode cX12_unloaded 92 = .ok (.iload_n 2, 1) := by decide +kernel
theorem dX12_unloaded_93 : decode cX12_unloaded 93 = .ok (.iload 5, 2) := by decide +kernel
theorem dX12_unloaded_95 : decode cX12_unloaded 95 = .ok (.invokestatic 177, 3) := by decide +kernel
theorem dX12_unloaded_98 : decode cX12_unloaded 98 = .ok (.ifCond .ne 22, 3) := by decide +kernel
theorem dX12_unloaded_101 : decode cX12_unloaded 101 = .ok (.aload_n 0, 1) := by decide +kernel
theorem dX12_unloaded_102 : decode cX12_unloaded 102 = .ok (.getfield 32, 3) := by decide +kernel
theorem dX12_unloaded_105 : decode cX12_unloaded 105 = .ok (.iload_n 2, 1) := by decide +kernel
theorem dX12_unloaded_106 : decode cX12_unloaded 106 = .ok (.iconst 1, 1) := by decide +kernel
theorem dX12_unloaded_107 : decode cX12_unloaded 107 = .ok (.iload 5, 2) := by decide +kernel
theorem dX12_unloaded_109 : decode cX12_unloaded 109 = .ok (.ishl, 1) := by decide +kernel
theorem dX12_unloaded_110 : decode cX12_unloaded 110 = .ok (.ior, 1) := by decide +kernel
theorem dX12_unloaded_111 : decode cX12_unloaded 111 = .ok (.iaload, 1) := by decide +kernel
theorem dX12_unloaded_112 : decode cX12_unloaded 112 = .ok (.ifCond .le 8, 3) := by decide +kernel
theorem dX12_unloaded_115 : decode cX12_unloaded 115 = .ok (.iload 5, 2) := by decide +kernel
theorem dX12_unloaded_117 : decode cX12_unloaded 117 = .ok (.goto 5, 3) := by decide +kernel
theorem dX12_unloaded_120 : decode cX12_unloaded 120 = .ok (.iload 4, 2) := by decide +kernel
theorem dX12_unloaded_122 : decode cX12_unloaded 122 = .ok (.istore 4, 2) := by decide +kernel
theorem dX12_unloaded_124 : decode cX12_unloaded 124 = .ok (.iinc 5 (-1), 3) := by decide +kernel
theorem dX12_unloaded_127 : decode cX12_unloaded 127 = .ok (.goto (-40), 3) := by decide +kernel
theorem dX12_unloaded_130 : decode cX12_unloaded 130 = .ok (.iload 4, 2) := by decide +kernel
theorem dX12_unloaded_132 : decode cX12_unloaded 132 = .ok (.ifCond .ge 6, 3) := by decide +kernel
theorem dX12_unloaded_135 : decode cX12_unloaded 135 = .ok (.ldc 166, 2) := by decide +kernel
theorem dX12_unloaded_137 : decode cX12_unloaded 137 = .ok (.ireturn, 1) := by decide +kernel
theorem dX12_unloaded_138 : decode cX12_unloaded 138 = .ok (.iload_n 3, 1) := by decide +kernel
theorem dX12_unloaded_139 : decode cX12_unloaded 139 = .ok (.iload_n 1, 1) := by decide +kernel
theorem dX12_unloaded_140 : decode cX12_unloaded 140 = .ok (.if_icmp .ne 6, 3) := by decide +kernel
theorem dX12_unloaded_143 : decode cX12_unloaded 143 = .ok (.iload 4, 2) := by decide +kernel
theorem dX12_unloaded_145 : decode cX12_unloaded 145 = .ok (.ireturn, 1) := by decide +kernel
theorem dX12_unloaded_146 : decode cX12_unloaded 146 = .ok (.iload_n 2, 1) := by decide +kernel
theorem dX12_unloaded_147 : decode cX12_unloaded 147 = .ok (.iconst 1, 1) := by decide +kernel
theorem dX12_unloaded_148 : decode cX12_unloaded 148 = .ok (.iload 4, 2) := by decide +kernel
theorem dX12_unloaded_150 : decode cX12_unloaded 150 = .ok (.ishl, 1) := by decide +kernel
theorem dX12_unloaded_151 : decode cX12_unloaded 151 = .ok (.ior, 1) := by decide +kernel
theorem dX12_unloaded_152 : decode cX12_unloaded 152 = .ok (.istore_n 2, 1) := by decide +kernel
theorem dX12_unloaded_153 : decode cX12_unloaded 153 = .ok (.iinc 3 1, 3) := by decide +kernel
theorem dX12_unloaded_156 : decode cX12_unloaded 156 = .ok (.goto (-87), 3) := by decide +kernel
theorem dX12_unloaded_159 : decode cX12_unloaded 159 = .ok (.ldc 166, 2) := by decide +kernel
theorem dX12_unloaded_161 : decode cX12_unloaded 161 = .ok (.ireturn, 1) := by decide +kernel
set_option maxRecDepth 20000 in
theorem ggX12_areSo_X12_depthOf : GoodIn wsX12_areSo wsX12_depthOf := goodIn_r _ [7, 1, 8, 9, 10, 6, 11, 12, 13, 14, 15, 16, 17, 18, 19, 20, 21, 22, 23, 24, 25, 26, 27, 28, 29, 30, 31, 32, 33, 34, 35, 36, 37, 38, 39, 40, 41, 42, 43, 44, 45, 46, 47, 48] (by decide +kernel) (by decide +kernel)
set_option maxRecDepth 20000 in
theorem gX12_areSo_X12_depthOf : GoodIn wsX12_areSo (wsV RX12 158 RX12 yX12_depthOf wsX12_depthOf) := goodIn_app (goodIn_of _ (by decide +kernel)) ggX12_areSo_X12_depthOf
theorem dX12_areSo_0 : decode cX12_areSo 0 = .ok (.iconst 1, 1) := by decide +kernel
theorem dX12_areSo_1 : decode cX12_areSo 1 = .ok (.istore_n 3, 1) := by decide +kernel
theorem dX12_areSo_2 : decode cX12_areSo 2 = .ok (.iconst 0, 1) := by decide +kernel
theorem dX12_areSo_3 : decode cX12_areSo 3 = .ok (.istore 4, 2) := by decide +kernel
theorem dX12_areSo_5 : decode cX12_areSo 5 = .ok (.iload 4, 2) := by decide +kernel
theorem dX12_areSo_7 : decode cX12_areSo 7 = .ok (.aload_n 0, 1) := by decide +kernel
theorem dX12_areSo_8 : decode cX12_areSo 8 = .ok (.getfield 7, 3) := by decide +kernel
theorem dX12_areSo_11 : decode cX12_areSo 11 = .ok (.iconst 3, 1) := by decide +kernel
theorem dX12_areSo_12 : decode cX12_areSo 12 = .ok (.iaload, 1) := by decide +kernel
theorem dX12_areSo_13 : decode cX12_areSo 13 = .ok (.if_icmp .ge 42, 3) := by decide +kernel
theorem dX12_areSo_16 : decode cX12_areSo 16 = .ok (.iload_n 3, 1) := by decide +kernel
theorem dX12_areSo_17 : decode cX12_areSo 17 = .ok (.ifCond .eq 30, 3) := by decide +kernel
theorem dX12_areSo_20 : decode cX12_areSo 20 = .ok (.aload_n 0, 1) := by decide +kernel
theorem dX12_areSo_21 : decode cX12_areSo 21 = .ok (.iload 4, 2) := by decide +kernel
theorem dX12_areSo_23 : decode cX12_areSo 23 = .ok (.invokevirtual 158, 3) := by decide +kernel
theorem dX12_areSo_26 : decode cX12_areSo 26 = .ok (.aload_n 0, 1) := by decide +kernel
theorem dX12_areSo_27 : decode cX12_areSo 27 = .ok (.getfield 23, 3) := by decide +kernel
theorem dX12_areSo_30 : decode cX12_areSo 30 = .ok (.bipush 40, 2) := by decide +kernel
theorem dX12_areSo_32 : decode cX12_areSo 32 = .ok (.iload_n 1, 1) := by decide +kernel
theorem dX12_areSo_33 : decode cX12_areSo 33 = .ok (.imul, 1) := by decide +kernel
theorem dX12_areSo_34 : decode cX12_areSo 34 = .ok (.iload_n 2, 1) := by decide +kernel
theorem dX12_areSo_35 : decode cX12_areSo 35 = .ok (.iadd, 1) := by decide +kernel
theorem dX12_areSo_36 : decode cX12_areSo 36 = .ok (.iload 4, 2) := by decide +kernel
theorem dX12_areSo_38 : decode cX12_areSo 38 = .ok (.iadd, 1) := by decide +kernel
theorem dX12_areSo_39 : decode cX12_areSo 39 = .ok (.iaload, 1) := by decide +kernel
theorem dX12_areSo_40 : decode cX12_areSo 40 = .ok (.if_icmp .ne 7, 3) := by decide +kernel
theorem dX12_areSo_43 : decode cX12_areSo 43 = .ok (.iconst 1, 1) := by decide +kernel
theorem dX12_areSo_44 : decode cX12_areSo 44 = .ok (.goto 4, 3) := by decide +kernel
theorem dX12_areSo_47 : decode cX12_areSo 47 = .ok (.iconst 0, 1) := by decide +kernel
theorem dX12_areSo_48 : decode cX12_areSo 48 = .ok (.istore_n 3, 1) := by decide +kernel
theorem dX12_areSo_49 : decode cX12_areSo 49 = .ok (.iinc 4 1, 3) := by decide +kernel
theorem dX12_areSo_52 : decode cX12_areSo 52 = .ok (.goto (-47), 3) := by decide +kernel
theorem dX12_areSo_55 : decode cX12_areSo 55 = .ok (.iload_n 3, 1) := by decide +kernel
theorem dX12_areSo_56 : decode cX12_areSo 56 = .ok (.ireturn, 1) := by decide +kernel
set_option maxRecDepth 20000 in
theorem ggX12_whoCut_X12_isRow : GoodIn wsX12_whoCut wsX12_isRow := goodIn_r _ [7, 8, 9, 10, 6, 11] (by decide +kernel) (by decide +kernel)
set_option maxRecDepth 20000 in
theorem gX12_whoCut_X12_isRow : GoodIn wsX12_whoCut (va_wsS RX12 49 yX12_isRow wsX12_isRow) := goodIn_app (goodIn_of _ (by decide +kernel)) ggX12_whoCut_X12_isRow
set_option maxRecDepth 20000 in
theorem ggX12_whoCut_X12_bars : GoodIn wsX12_whoCut wsX12_bars := goodIn_r _ [15, 16, 17, 56, 57, 58, 59, 60, 61, 62, 63, 64, 65, 66, 67, 68, 69, 70, 71, 72, 73, 74] (by decide +kernel) (by decide +kernel)
set_option maxRecDepth 20000 in
theorem gX12_whoCut_X12_bars : GoodIn wsX12_whoCut (wsV RX12 63 RX12 yX12_bars wsX12_bars) := goodIn_app (goodIn_of _ (by decide +kernel)) ggX12_whoCut_X12_bars
set_option maxRecDepth 20000 in
theorem ggX12_whoCut_X12_found : GoodIn wsX12_whoCut wsX12_found := goodIn_r _ [21, 22, 23, 56, 57, 58, 59, 60, 61, 62, 63, 64, 65, 66, 67, 68, 69, 70, 71, 72, 73, 74] (by decide +kernel) (by decide +kernel)
set_option maxRecDepth 20000 in
theorem gX12_whoCut_X12_found : GoodIn wsX12_whoCut (wsV RX12 56 RX12 yX12_found wsX12_found) := goodIn_app (goodIn_of _ (by decide +kernel)) ggX12_whoCut_X12_found
set_option maxRecDepth 20000 in
theorem ggX12_whoCut_X12_areSo : GoodIn wsX12_whoCut wsX12_areSo := goodIn_r _ [27, 1, 28, 29, 30, 31, 6, 32, 33, 34, 35, 36, 37, 38, 39, 40, 41, 42, 43, 44, 9, 10, 11, 45, 46, 47, 48, 49, 50, 51, 56, 57, 58, 59, 60, 61, 62, 63, 64, 65, 66, 67, 68, 69, 70, 71, 72, 73, 74] (by decide +kernel) (by decide +kernel)
set_option maxRecDepth 20000 in
theorem gX12_whoCut_X12_areSo : GoodIn wsX12_whoCut (wsV RX12 190 RX12 yX12_areSo wsX12_areSo) := goodIn_app (goodIn_of _ (by decide +kernel)) ggX12_whoCut_X12_areSo
set_option maxRecDepth 20000 in
theorem ggX12_whoCut_X12_well : GoodIn wsX12_whoCut wsX12_well := goodIn_r _ [55, 22, 56, 57, 58, 59, 60, 61, 62, 63, 64, 65, 66, 67, 68, 69, 70, 71, 72, 73, 74] (by decide +kernel) (by decide +kernel)
set_option maxRecDepth 20000 in
theorem gX12_whoCut_X12_well : GoodIn wsX12_whoCut (wsV RX12 60 RX12 yX12_well wsX12_well) := goodIn_app (goodIn_of _ (by decide +kernel)) ggX12_whoCut_X12_well
theorem dX12_whoCut_0 : decode cX12_whoCut 0 = .ok (.aload_n 0, 1) := by decide +kernel
theorem dX12_whoCut_1 : decode cX12_whoCut 1 = .ok (.getfield 7, 3) := by decide +kernel
theorem dX12_whoCut_4 : decode cX12_whoCut 4 = .ok (.iconst 4, 1) := by decide +kernel
theorem dX12_whoCut_5 : decode cX12_whoCut 5 = .ok (.iaload, 1) := by decide +kernel
theorem dX12_whoCut_6 : decode cX12_whoCut 6 = .ok (.ifCond .ne 6, 3) := by decide +kernel
theorem dX12_whoCut_9 : decode cX12_whoCut 9 = .ok (.ldc 132, 2) := by decide +kernel
theorem dX12_whoCut_11 : decode cX12_whoCut 11 = .ok (.ireturn, 1) := by decide +kernel
theorem dX12_whoCut_12 : decode cX12_whoCut 12 = .ok (.iload_n 1, 1) := by decide +kernel
theorem dX12_whoCut_13 : decode cX12_whoCut 13 = .ok (.invokestatic 49, 3) := by decide +kernel
theorem dX12_whoCut_16 : decode cX12_whoCut 16 = .ok (.ifCond .ne 6, 3) := by decide +kernel
theorem dX12_whoCut_19 : decode cX12_whoCut 19 = .ok (.ldc 55, 2) := by decide +kernel
theorem dX12_whoCut_21 : decode cX12_whoCut 21 = .ok (.ireturn, 1) := by decide +kernel
theorem dX12_whoCut_22 : decode cX12_whoCut 22 = .ok (.aload_n 0, 1) := by decide +kernel
theorem dX12_whoCut_23 : decode cX12_whoCut 23 = .ok (.iload_n 1, 1) := by decide +kernel
theorem dX12_whoCut_24 : decode cX12_whoCut 24 = .ok (.iload_n 2, 1) := by decide +kernel
theorem dX12_whoCut_25 : decode cX12_whoCut 25 = .ok (.aload_n 0, 1) := by decide +kernel
theorem dX12_whoCut_26 : decode cX12_whoCut 26 = .ok (.getfield 7, 3) := by decide +kernel
theorem dX12_whoCut_29 : decode cX12_whoCut 29 = .ok (.iconst 3, 1) := by decide +kernel
theorem dX12_whoCut_30 : decode cX12_whoCut 30 = .ok (.iaload, 1) := by decide +kernel
theorem dX12_whoCut_31 : decode cX12_whoCut 31 = .ok (.invokevirtual 63, 3) := by decide +kernel
theorem dX12_whoCut_34 : decode cX12_whoCut 34 = .ok (.istore_n 3, 1) := by decide +kernel
theorem dX12_whoCut_35 : decode cX12_whoCut 35 = .ok (.iload_n 3, 1) := by decide +kernel
theorem dX12_whoCut_36 : decode cX12_whoCut 36 = .ok (.ifCond .le 9, 3) := by decide +kernel
theorem dX12_whoCut_39 : decode cX12_whoCut 39 = .ok (.aload_n 0, 1) := by decide +kernel
theorem dX12_whoCut_40 : decode cX12_whoCut 40 = .ok (.iload_n 3, 1) := by decide +kernel
theorem dX12_whoCut_41 : decode cX12_whoCut 41 = .ok (.invokevirtual 56, 3) := by decide +kernel
theorem dX12_whoCut_44 : decode cX12_whoCut 44 = .ok (.ireturn, 1) := by decide +kernel
theorem dX12_whoCut_45 : decode cX12_whoCut 45 = .ok (.iconst 0, 1) := by decide +kernel
theorem dX12_whoCut_46 : decode cX12_whoCut 46 = .ok (.istore 4, 2) := by decide +kernel
theorem dX12_whoCut_48 : decode cX12_whoCut 48 = .ok (.iconst 0, 1) := by decide +kernel
theorem dX12_whoCut_49 : decode cX12_whoCut 49 = .ok (.istore 5, 2) := by decide +kernel
theorem dX12_whoCut_51 : decode cX12_whoCut 51 = .ok (.iload 5, 2) := by decide +kernel
theorem dX12_whoCut_53 : decode cX12_whoCut 53 = .ok (.aload_n 0, 1) := by decide +kernel
theorem dX12_whoCut_54 : decode cX12_whoCut 54 = .ok (.getfield 7, 3) := by decide +kernel
theorem dX12_whoCut_57 : decode cX12_whoCut 57 = .ok (.iconst 2, 1) := by decide +kernel
theorem dX12_whoCut_58 : decode cX12_whoCut 58 = .ok (.iaload, 1) := by decide +kernel
theorem dX12_whoCut_59 : decode cX12_whoCut 59 = .ok (.if_icmp .ge 70, 3) := by decide +kernel
theorem dX12_whoCut_62 : decode cX12_whoCut 62 = .ok (.aload_n 0, 1) := by decide +kernel
theorem dX12_whoCut_63 : decode cX12_whoCut 63 = .ok (.getfield 7, 3) := by decide +kernel
theorem dX12_whoCut_66 : decode cX12_whoCut 66 = .ok (.iconst 5, 1) := by decide +kernel
theorem dX12_whoCut_67 : decode cX12_whoCut 67 = .ok (.iload 5, 2) := by decide +kernel
theorem dX12_whoCut_69 : decode cX12_whoCut 69 = .ok (.iadd, 1) := by decide +kernel
theorem dX12_whoCut_70 : decode cX12_whoCut 70 = .ok (.iaload, 1) := by decide +kernel
theorem dX12_whoCut_71 : decode cX12_whoCut 71 = .ok (.iconst 1, 1) := by decide +kernel
theorem dX12_whoCut_72 : decode cX12_whoCut 72 = .ok (.if_icmp .le 51, 3) := by decide +kernel
theorem dX12_whoCut_75 : decode cX12_whoCut 75 = .ok (.aload_n 0, 1) := by decide +kernel
theorem dX12_whoCut_76 : decode cX12_whoCut 76 = .ok (.getfield 7, 3) := by decide +kernel
theorem dX12_whoCut_79 : decode cX12_whoCut 79 = .ok (.iconst 5, 1) := by decide +kernel
theorem dX12_whoCut_80 : decode cX12_whoCut 80 = .ok (.iload 5, 2) := by decide +kernel
theorem dX12_whoCut_82 : decode cX12_whoCut 82 = .ok (.iadd, 1) := by decide +kernel
theorem dX12_whoCut_83 : decode cX12_whoCut 83 = .ok (.dup2, 1) := by decide +kernel
theorem dX12_whoCut_84 : decode cX12_whoCut 84 = .ok (.iaload, 1) := by decide +kernel
theorem dX12_whoCut_85 : decode cX12_whoCut 85 = .ok (.iconst 1, 1) := by decide +kernel
theorem dX12_whoCut_86 : decode cX12_whoCut 86 = .ok (.isub, 1) := by decide +kernel
theorem dX12_whoCut_87 : decode cX12_whoCut 87 = .ok (.iastore, 1) := by decide +kernel
theorem dX12_whoCut_88 : decode cX12_whoCut 88 = .ok (.iload 4, 2) := by decide +kernel
theorem dX12_whoCut_90 : decode cX12_whoCut 90 = .ok (.aload_n 0, 1) := by decide +kernel
theorem dX12_whoCut_91 : decode cX12_whoCut 91 = .ok (.iload_n 1, 1) := by decide +kernel
theorem dX12_whoCut_92 : decode cX12_whoCut 92 = .ok (.iload_n 2, 1) := by decide +kernel
theorem dX12_whoCut_93 : decode cX12_whoCut 93 = .ok (.invokevirtual 190, 3) := by decide +kernel
theorem dX12_whoCut_96 : decode cX12_whoCut 96 = .ok (.ifCond .eq 10, 3) := by decide +kernel
theorem dX12_whoCut_99 : decode cX12_whoCut 99 = .ok (.iconst 1, 1) := by decide +kernel
theorem dX12_whoCut_100 : decode cX12_whoCut 100 = .ok (.iload 5, 2) := by decide +kernel
theorem dX12_whoCut_102 : decode cX12_whoCut 102 = .ok (.ishl, 1) := by decide +kernel
theorem dX12_whoCut_103 : decode cX12_whoCut 103 = .ok (.goto 4, 3) := by decide +kernel
theorem dX12_whoCut_106 : decode cX12_whoCut 106 = .ok (.iconst 0, 1) := by decide +kernel
theorem dX12_whoCut_107 : decode cX12_whoCut 107 = .ok (.ior, 1) := by decide +kernel
theorem dX12_whoCut_108 : decode cX12_whoCut 108 = .ok (.istore 4, 2) := by decide +kernel
theorem dX12_whoCut_110 : decode cX12_whoCut 110 = .ok (.aload_n 0, 1) := by decide +kernel
theorem dX12_whoCut_111 : decode cX12_whoCut 111 = .ok (.getfield 7, 3) := by decide +kernel
theorem dX12_whoCut_114 : decode cX12_whoCut 114 = .ok (.iconst 5, 1) := by decide +kernel
theorem dX12_whoCut_115 : decode cX12_whoCut 115 = .ok (.iload 5, 2) := by decide +kernel
theorem dX12_whoCut_117 : decode cX12_whoCut 117 = .ok (.iadd, 1) := by decide +kernel
theorem dX12_whoCut_118 : decode cX12_whoCut 118 = .ok (.dup2, 1) := by decide +kernel
theorem dX12_whoCut_119 : decode cX12_whoCut 119 = .ok (.iaload, 1) := by decide +kernel
theorem dX12_whoCut_120 : decode cX12_whoCut 120 = .ok (.iconst 1, 1) := by decide +kernel
theorem dX12_whoCut_121 : decode cX12_whoCut 121 = .ok (.iadd, 1) := by decide +kernel
theorem dX12_whoCut_122 : decode cX12_whoCut 122 = .ok (.iastore, 1) := by decide +kernel
theorem dX12_whoCut_123 : decode cX12_whoCut 123 = .ok (.iinc 5 1, 3) := by decide +kernel
theorem dX12_whoCut_126 : decode cX12_whoCut 126 = .ok (.goto (-75), 3) := by decide +kernel
theorem dX12_whoCut_129 : decode cX12_whoCut 129 = .ok (.aload_n 0, 1) := by decide +kernel
theorem dX12_whoCut_130 : decode cX12_whoCut 130 = .ok (.iload 4, 2) := by decide +kernel
theorem dX12_whoCut_132 : decode cX12_whoCut 132 = .ok (.invokevirtual 60, 3) := by decide +kernel
theorem dX12_whoCut_135 : decode cX12_whoCut 135 = .ok (.ireturn, 1) := by decide +kernel
set_option maxRecDepth 20000 in
theorem ggX12_box_X12_isStall : GoodIn wsX12_box wsX12_isStall := goodIn_r _ [10, 4, 11, 12, 9, 13, 37, 38, 39, 40, 41, 42, 43, 44, 45, 46, 47, 48, 49, 50, 51, 52, 53, 54, 55] (by decide +kernel) (by decide +kernel)
set_option maxRecDepth 20000 in
theorem gX12_box_X12_isStall : GoodIn wsX12_box (wsV RX12 133 RX12 yX12_isStall wsX12_isStall) := goodIn_app (goodIn_of _ (by decide +kernel)) ggX12_box_X12_isStall
set_option maxRecDepth 20000 in
theorem ggX12_box_X12_in : GoodIn wsX12_box wsX12_in := goodIn_r _ [13] (by decide +kernel) (by decide +kernel)
set_option maxRecDepth 20000 in
theorem gX12_box_X12_in : GoodIn wsX12_box (va_wsS RX12 45 yX12_in wsX12_in) := goodIn_app (goodIn_of _ (by decide +kernel)) ggX12_box_X12_in
set_option maxRecDepth 20000 in
theorem ggX12_box_X12_depthOf : GoodIn wsX12_box wsX12_depthOf := goodIn_r _ [17, 4, 18, 19, 20, 9, 21, 22, 23, 24, 25, 26, 27, 28, 29, 11, 12, 13, 30, 31, 32, 33, 34, 35, 36, 37, 38, 39, 40, 41, 42, 43, 44, 45, 46, 47, 48, 49, 50, 51, 52, 53, 54, 55] (by decide +kernel) (by decide +kernel)
set_option maxRecDepth 20000 in
theorem gX12_box_X12_depthOf : GoodIn wsX12_box (wsV RX12 158 RX12 yX12_depthOf wsX12_depthOf) := goodIn_app (goodIn_of _ (by decide +kernel)) ggX12_box_X12_depthOf
theorem dX12_box_0 : decode cX12_box 0 = .ok (.aload_n 0, 1) := by decide +kernel
theorem dX12_box_1 : decode cX12_box 1 = .ok (.iload_n 1, 1) := by decide +kernel
theorem dX12_box_2 : decode cX12_box 2 = .ok (.invokevirtual 133, 3) := by decide +kernel
theorem dX12_box_5 : decode cX12_box 5 = .ok (.ifCond .eq 27, 3) := by decide +kernel
theorem dX12_box_8 : decode cX12_box 8 = .ok (.iload_n 2, 1) := by decide +kernel
theorem dX12_box_9 : decode cX12_box 9 = .ok (.i2l, 1) := by decide +kernel
theorem dX12_box_10 : decode cX12_box 10 = .ok (.ldc2_w 193, 3) := by decide +kernel
theorem dX12_box_13 : decode cX12_box 13 = .ok (.ldc2_w 195, 3) := by decide +kernel
theorem dX12_box_16 : decode cX12_box 16 = .ok (.invokestatic 45, 3) := by decide +kernel
theorem dX12_box_19 : decode cX12_box 19 = .ok (.ifCond .eq 13, 3) := by decide +kernel
theorem dX12_box_22 : decode cX12_box 22 = .ok (.iload_n 3, 1) := by decide +kernel
theorem dX12_box_23 : decode cX12_box 23 = .ok (.i2l, 1) := by decide +kernel
theorem dX12_box_24 : decode cX12_box 24 = .ok (.lconst 0, 1) := by decide +kernel
theorem dX12_box_25 : decode cX12_box 25 = .ok (.lconst 1, 1) := by decide +kernel
theorem dX12_box_26 : decode cX12_box 26 = .ok (.invokestatic 45, 3) := by decide +kernel
theorem dX12_box_29 : decode cX12_box 29 = .ok (.ifCond .ne 6, 3) := by decide +kernel
theorem dX12_box_32 : decode cX12_box 32 = .ok (.ldc 55, 2) := by decide +kernel
theorem dX12_box_34 : decode cX12_box 34 = .ok (.ireturn, 1) := by decide +kernel
theorem dX12_box_35 : decode cX12_box 35 = .ok (.aload_n 0, 1) := by decide +kernel
theorem dX12_box_36 : decode cX12_box 36 = .ok (.getfield 7, 3) := by decide +kernel
theorem dX12_box_39 : decode cX12_box 39 = .ok (.bipush 26, 2) := by decide +kernel
theorem dX12_box_41 : decode cX12_box 41 = .ok (.iload_n 1, 1) := by decide +kernel
theorem dX12_box_42 : decode cX12_box 42 = .ok (.iadd, 1) := by decide +kernel
theorem dX12_box_43 : decode cX12_box 43 = .ok (.iaload, 1) := by decide +kernel
theorem dX12_box_44 : decode cX12_box 44 = .ok (.istore 4, 2) := by decide +kernel
theorem dX12_box_46 : decode cX12_box 46 = .ok (.ldc 166, 2) := by decide +kernel
theorem dX12_box_48 : decode cX12_box 48 = .ok (.istore 5, 2) := by decide +kernel
theorem dX12_box_50 : decode cX12_box 50 = .ok (.ldc 166, 2) := by decide +kernel
theorem dX12_box_52 : decode cX12_box 52 = .ok (.istore 6, 2) := by decide +kernel
theorem dX12_box_54 : decode cX12_box 54 = .ok (.iconst 0, 1) := by decide +kernel
theorem dX12_box_55 : decode cX12_box 55 = .ok (.istore 7, 2) := by decide +kernel
theorem dX12_box_57 : decode cX12_box 57 = .ok (.iload 7, 2) := by decide +kernel
theorem dX12_box_59 : decode cX12_box 59 = .ok (.bipush 20, 2) := by decide +kernel
theorem dX12_box_61 : decode cX12_box 61 = .ok (.if_icmp .gt 49, 3) := by decide +kernel
theorem dX12_box_64 : decode cX12_box 64 = .ok (.aload_n 0, 1) := by decide +kernel
theorem dX12_box_65 : decode cX12_box 65 = .ok (.getfield 7, 3) := by decide +kernel
theorem dX12_box_68 : decode cX12_box 68 = .ok (.bipush 26, 2) := by decide +kernel
theorem dX12_box_70 : decode cX12_box 70 = .ok (.iload_n 1, 1) := by decide +kernel
theorem dX12_box_71 : decode cX12_box 71 = .ok (.iadd, 1) := by decide +kernel
theorem dX12_box_72 : decode cX12_box 72 = .ok (.iload 7, 2) := by decide +kernel
theorem dX12_box_74 : decode cX12_box 74 = .ok (.iastore, 1) := by decide +kernel
theorem dX12_box_75 : decode cX12_box 75 = .ok (.aload_n 0, 1) := by decide +kernel
theorem dX12_box_76 : decode cX12_box 76 = .ok (.iload_n 1, 1) := by decide +kernel
theorem dX12_box_77 : decode cX12_box 77 = .ok (.invokevirtual 158, 3) := by decide +kernel
theorem dX12_box_80 : decode cX12_box 80 = .ok (.iload_n 2, 1) := by decide +kernel
theorem dX12_box_81 : decode cX12_box 81 = .ok (.if_icmp .ne 23, 3) := by decide +kernel
theorem dX12_box_84 : decode cX12_box 84 = .ok (.iload 5, 2) := by decide +kernel
theorem dX12_box_86 : decode cX12_box 86 = .ok (.ldc 166, 2) := by decide +kernel
theorem dX12_box_88 : decode cX12_box 88 = .ok (.if_icmp .ne 8, 3) := by decide +kernel
theorem dX12_box_91 : decode cX12_box 91 = .ok (.iload 7, 2) := by decide +kernel
theorem dX12_box_93 : decode cX12_box 93 = .ok (.goto 5, 3) := by decide +kernel
theorem dX12_box_96 : decode cX12_box 96 = .ok (.iload 5, 2) := by decide +kernel
theorem dX12_box_98 : decode cX12_box 98 = .ok (.istore 5, 2) := by decide +kernel
theorem dX12_box_100 : decode cX12_box 100 = .ok (.iload 7, 2) := by decide +kernel
theorem dX12_box_102 : decode cX12_box 102 = .ok (.istore 6, 2) := by decide +kernel
theorem dX12_box_104 : decode cX12_box 104 = .ok (.iinc 7 1, 3) := by decide +kernel
theorem dX12_box_107 : decode cX12_box 107 = .ok (.goto (-50), 3) := by decide +kernel
theorem dX12_box_110 : decode cX12_box 110 = .ok (.aload_n 0, 1) := by decide +kernel
theorem dX12_box_111 : decode cX12_box 111 = .ok (.getfield 7, 3) := by decide +kernel
theorem dX12_box_114 : decode cX12_box 114 = .ok (.bipush 26, 2) := by decide +kernel
theorem dX12_box_116 : decode cX12_box 116 = .ok (.iload_n 1, 1) := by decide +kernel
theorem dX12_box_117 : decode cX12_box 117 = .ok (.iadd, 1) := by decide +kernel
theorem dX12_box_118 : decode cX12_box 118 = .ok (.iload 4, 2) := by decide +kernel
theorem dX12_box_120 : decode cX12_box 120 = .ok (.iastore, 1) := by decide +kernel
theorem dX12_box_121 : decode cX12_box 121 = .ok (.iload_n 3, 1) := by decide +kernel
theorem dX12_box_122 : decode cX12_box 122 = .ok (.ifCond .ne 8, 3) := by decide +kernel
theorem dX12_box_125 : decode cX12_box 125 = .ok (.iload 5, 2) := by decide +kernel
theorem dX12_box_127 : decode cX12_box 127 = .ok (.goto 5, 3) := by decide +kernel
theorem dX12_box_130 : decode cX12_box 130 = .ok (.iload 6, 2) := by decide +kernel
theorem dX12_box_132 : decode cX12_box 132 = .ok (.ireturn, 1) := by decide +kernel
set_option maxRecDepth 20000 in
theorem ggX12_reads_X12_isStall : GoodIn wsX12_reads wsX12_isStall := goodIn_r _ [8, 2, 9, 10, 7, 11, 60, 61, 62, 63, 64, 65, 66, 67, 68, 69, 70, 71, 72, 73, 74, 75, 76, 77, 78] (by decide +kernel) (by decide +kernel)
set_option maxRecDepth 20000 in
theorem gX12_reads_X12_isStall : GoodIn wsX12_reads (wsV RX12 133 RX12 yX12_isStall wsX12_isStall) := goodIn_app (goodIn_of _ (by decide +kernel)) ggX12_reads_X12_isStall
set_option maxRecDepth 20000 in
theorem ggX12_reads_X12_isRow : GoodIn wsX12_reads wsX12_isRow := goodIn_r _ [14, 15, 9, 10, 7, 11] (by decide +kernel) (by decide +kernel)
set_option maxRecDepth 20000 in
theorem gX12_reads_X12_isRow : GoodIn wsX12_reads (va_wsS RX12 49 yX12_isRow wsX12_isRow) := goodIn_app (goodIn_of _ (by decide +kernel)) ggX12_reads_X12_isRow
set_option maxRecDepth 20000 in
theorem ggX12_reads_X12_in : GoodIn wsX12_reads wsX12_in := goodIn_r _ [11] (by decide +kernel) (by decide +kernel)
set_option maxRecDepth 20000 in
theorem gX12_reads_X12_in : GoodIn wsX12_reads (va_wsS RX12 45 yX12_in wsX12_in) := goodIn_app (goodIn_of _ (by decide +kernel)) ggX12_reads_X12_in
set_option maxRecDepth 20000 in
theorem ggX12_reads_X12_bars : GoodIn wsX12_reads wsX12_bars := goodIn_r _ [19, 20, 21, 60, 61, 62, 63, 64, 65, 66, 67, 68, 69, 70, 71, 72, 73, 74, 75, 76, 77, 78] (by decide +kernel) (by decide +kernel)
set_option maxRecDepth 20000 in
theorem gX12_reads_X12_bars : GoodIn wsX12_reads (wsV RX12 63 RX12 yX12_bars wsX12_bars) := goodIn_app (goodIn_of _ (by decide +kernel)) ggX12_reads_X12_bars
set_option maxRecDepth 20000 in
theorem ggX12_reads_X12_found : GoodIn wsX12_reads wsX12_found := goodIn_r _ [25, 26, 27, 60, 61, 62, 63, 64, 65, 66, 67, 68, 69, 70, 71, 72, 73, 74, 75, 76, 77, 78] (by decide +kernel) (by decide +kernel)
set_option maxRecDepth 20000 in
theorem gX12_reads_X12_found : GoodIn wsX12_reads (wsV RX12 56 RX12 yX12_found wsX12_found) := goodIn_app (goodIn_of _ (by decide +kernel)) ggX12_reads_X12_found
set_option maxRecDepth 20000 in
theorem ggX12_reads_X12_areSo : GoodIn wsX12_reads wsX12_areSo := goodIn_r _ [31, 2, 32, 33, 34, 35, 7, 36, 37, 38, 39, 40, 41, 42, 43, 44, 45, 46, 47, 48, 9, 10, 11, 49, 50, 51, 52, 53, 54, 55, 60, 61, 62, 63, 64, 65, 66, 67, 68, 69, 70, 71, 72, 73, 74, 75, 76, 77, 78] (by decide +kernel) (by decide +kernel)
set_option maxRecDepth 20000 in
theorem gX12_reads_X12_areSo : GoodIn wsX12_reads (wsV RX12 190 RX12 yX12_areSo wsX12_areSo) := goodIn_app (goodIn_of _ (by decide +kernel)) ggX12_reads_X12_areSo
set_option maxRecDepth 20000 in
theorem ggX12_reads_X12_well : GoodIn wsX12_reads wsX12_well := goodIn_r _ [59, 26, 60, 61, 62, 63, 64, 65, 66, 67, 68, 69, 70, 71, 72, 73, 74, 75, 76, 77, 78] (by decide +kernel) (by decide +kernel)
set_option maxRecDepth 20000 in
theorem gX12_reads_X12_well : GoodIn wsX12_reads (wsV RX12 60 RX12 yX12_well wsX12_well) := goodIn_app (goodIn_of _ (by decide +kernel)) ggX12_reads_X12_well
theorem dX12_reads_0 : decode cX12_reads 0 = .ok (.aload_n 0, 1) := by decide +kernel
theorem dX12_reads_1 : decode cX12_reads 1 = .ok (.iload_n 1, 1) := by decide +kernel
theorem dX12_reads_2 : decode cX12_reads 2 = .ok (.invokevirtual 133, 3) := by decide +kernel
theorem dX12_reads_5 : decode cX12_reads 5 = .ok (.ifCond .eq 34, 3) := by decide +kernel
theorem dX12_reads_8 : decode cX12_reads 8 = .ok (.aload_n 0, 1) := by decide +kernel
theorem dX12_reads_9 : decode cX12_reads 9 = .ok (.iload_n 2, 1) := by decide +kernel
theorem dX12_reads_10 : decode cX12_reads 10 = .ok (.invokevirtual 133, 3) := by decide +kernel
theorem dX12_reads_13 : decode cX12_reads 13 = .ok (.ifCond .eq 26, 3) := by decide +kernel
theorem dX12_reads_16 : decode cX12_reads 16 = .ok (.iload_n 1, 1) := by decide +kernel
theorem dX12_reads_17 : decode cX12_reads 17 = .ok (.iload_n 2, 1) := by decide +kernel
theorem dX12_reads_18 : decode cX12_reads 18 = .ok (.if_icmp .eq 21, 3) := by decide +kernel
theorem dX12_reads_21 : decode cX12_reads 21 = .ok (.iload_n 3, 1) := by decide +kernel
theorem dX12_reads_22 : decode cX12_reads 22 = .ok (.invokestatic 49, 3) := by decide +kernel
theorem dX12_reads_25 : decode cX12_reads 25 = .ok (.ifCond .eq 14, 3) := by decide +kernel
theorem dX12_reads_28 : decode cX12_reads 28 = .ok (.iload 5, 2) := by decide +kernel
theorem dX12_reads_30 : decode cX12_reads 30 = .ok (.i2l, 1) := by decide +kernel
theorem dX12_reads_31 : decode cX12_reads 31 = .ok (.lconst 0, 1) := by decide +kernel
theorem dX12_reads_32 : decode cX12_reads 32 = .ok (.lconst 1, 1) := by decide +kernel
theorem dX12_reads_33 : decode cX12_reads 33 = .ok (.invokestatic 45, 3) := by decide +kernel
theorem dX12_reads_36 : decode cX12_reads 36 = .ok (.ifCond .ne 6, 3) := by decide +kernel
theorem dX12_reads_39 : decode cX12_reads 39 = .ok (.ldc 55, 2) := by decide +kernel
theorem dX12_reads_41 : decode cX12_reads 41 = .ok (.ireturn, 1) := by decide +kernel
theorem dX12_reads_42 : decode cX12_reads 42 = .ok (.aload_n 0, 1) := by decide +kernel
theorem dX12_reads_43 : decode cX12_reads 43 = .ok (.iload_n 3, 1) := by decide +kernel
theorem dX12_reads_44 : decode cX12_reads 44 = .ok (.iload 4, 2) := by decide +kernel
theorem dX12_reads_46 : decode cX12_reads 46 = .ok (.aload_n 0, 1) := by decide +kernel
theorem dX12_reads_47 : decode cX12_reads 47 = .ok (.getfield 7, 3) := by decide +kernel
theorem dX12_reads_50 : decode cX12_reads 50 = .ok (.iconst 3, 1) := by decide +kernel
theorem dX12_reads_51 : decode cX12_reads 51 = .ok (.iaload, 1) := by decide +kernel
theorem dX12_reads_52 : decode cX12_reads 52 = .ok (.invokevirtual 63, 3) := by decide +kernel
theorem dX12_reads_55 : decode cX12_reads 55 = .ok (.istore 6, 2) := by decide +kernel
theorem dX12_reads_57 : decode cX12_reads 57 = .ok (.iload 6, 2) := by decide +kernel
theorem dX12_reads_59 : decode cX12_reads 59 = .ok (.ifCond .le 10, 3) := by decide +kernel
theorem dX12_reads_62 : decode cX12_reads 62 = .ok (.aload_n 0, 1) := by decide +kernel
theorem dX12_reads_63 : decode cX12_reads 63 = .ok (.iload 6, 2) := by decide +kernel
theorem dX12_reads_65 : decode cX12_reads 65 = .ok (.invokevirtual 56, 3) := by decide +kernel
theorem dX12_reads_68 : decode cX12_reads 68 = .ok (.ireturn, 1) := by decide +kernel
theorem dX12_reads_69 : decode cX12_reads 69 = .ok (.aload_n 0, 1) := by decide +kernel
theorem dX12_reads_70 : decode cX12_reads 70 = .ok (.getfield 7, 3) := by decide +kernel
theorem dX12_reads_73 : decode cX12_reads 73 = .ok (.bipush 26, 2) := by decide +kernel
theorem dX12_reads_75 : decode cX12_reads 75 = .ok (.iload_n 1, 1) := by decide +kernel
theorem dX12_reads_76 : decode cX12_reads 76 = .ok (.iadd, 1) := by decide +kernel
theorem dX12_reads_77 : decode cX12_reads 77 = .ok (.iaload, 1) := by decide +kernel
theorem dX12_reads_78 : decode cX12_reads 78 = .ok (.istore 7, 2) := by decide +kernel
theorem dX12_reads_80 : decode cX12_reads 80 = .ok (.aload_n 0, 1) := by decide +kernel
theorem dX12_reads_81 : decode cX12_reads 81 = .ok (.getfield 7, 3) := by decide +kernel
theorem dX12_reads_84 : decode cX12_reads 84 = .ok (.bipush 26, 2) := by decide +kernel
theorem dX12_reads_86 : decode cX12_reads 86 = .ok (.iload_n 2, 1) := by decide +kernel
theorem dX12_reads_87 : decode cX12_reads 87 = .ok (.iadd, 1) := by decide +kernel
theorem dX12_reads_88 : decode cX12_reads 88 = .ok (.iaload, 1) := by decide +kernel
theorem dX12_reads_89 : decode cX12_reads 89 = .ok (.istore 8, 2) := by decide +kernel
theorem dX12_reads_91 : decode cX12_reads 91 = .ok (.iconst 0, 1) := by decide +kernel
theorem dX12_reads_92 : decode cX12_reads 92 = .ok (.istore 9, 2) := by decide +kernel
theorem dX12_reads_94 : decode cX12_reads 94 = .ok (.ldc 166, 2) := by decide +kernel
theorem dX12_reads_96 : decode cX12_reads 96 = .ok (.istore 10, 2) := by decide +kernel
theorem dX12_reads_98 : decode cX12_reads 98 = .ok (.iconst 0, 1) := by decide +kernel
theorem dX12_reads_99 : decode cX12_reads 99 = .ok (.istore 11, 2) := by decide +kernel
theorem dX12_reads_101 : decode cX12_reads 101 = .ok (.iload 11, 2) := by decide +kernel
theorem dX12_reads_103 : decode cX12_reads 103 = .ok (.sipush 441, 3) := by decide +kernel
theorem dX12_reads_106 : decode cX12_reads 106 = .ok (.if_icmp .ge 80, 3) := by decide +kernel
theorem dX12_reads_109 : decode cX12_reads 109 = .ok (.aload_n 0, 1) := by decide +kernel
theorem dX12_reads_110 : decode cX12_reads 110 = .ok (.getfield 7, 3) := by decide +kernel
theorem dX12_reads_113 : decode cX12_reads 113 = .ok (.bipush 26, 2) := by decide +kernel
theorem dX12_reads_115 : decode cX12_reads 115 = .ok (.iload_n 1, 1) := by decide +kernel
theorem dX12_reads_116 : decode cX12_reads 116 = .ok (.iadd, 1) := by decide +kernel
theorem dX12_reads_117 : decode cX12_reads 117 = .ok (.iload 11, 2) := by decide +kernel
theorem dX12_reads_119 : decode cX12_reads 119 = .ok (.bipush 21, 2) := by decide +kernel
theorem dX12_reads_121 : decode cX12_reads 121 = .ok (.idiv, 1) := by decide +kernel
theorem dX12_reads_122 : decode cX12_reads 122 = .ok (.iastore, 1) := by decide +kernel
theorem dX12_reads_123 : decode cX12_reads 123 = .ok (.aload_n 0, 1) := by decide +kernel
theorem dX12_reads_124 : decode cX12_reads 124 = .ok (.getfield 7, 3) := by decide +kernel
theorem dX12_reads_127 : decode cX12_reads 127 = .ok (.bipush 26, 2) := by decide +kernel
theorem dX12_reads_129 : decode cX12_reads 129 = .ok (.iload_n 2, 1) := by decide +kernel
theorem dX12_reads_130 : decode cX12_reads 130 = .ok (.iadd, 1) := by decide +kernel
theorem dX12_reads_131 : decode cX12_reads 131 = .ok (.iload 11, 2) := by decide +kernel
theorem dX12_reads_133 : decode cX12_reads 133 = .ok (.bipush 21, 2) := by decide +kernel
theorem dX12_reads_135 : decode cX12_reads 135 = .ok (.irem, 1) := by decide +kernel
theorem dX12_reads_136 : decode cX12_reads 136 = .ok (.iastore, 1) := by decide +kernel
theorem dX12_reads_137 : decode cX12_reads 137 = .ok (.aload_n 0, 1) := by decide +kernel
theorem dX12_reads_138 : decode cX12_reads 138 = .ok (.iload_n 3, 1) := by decide +kernel
theorem dX12_reads_139 : decode cX12_reads 139 = .ok (.iload 4, 2) := by decide +kernel
theorem dX12_reads_141 : decode cX12_reads 141 = .ok (.invokevirtual 190, 3) := by decide +kernel
theorem dX12_reads_144 : decode cX12_reads 144 = .ok (.istore 12, 2) := by decide +kernel
theorem dX12_reads_146 : decode cX12_reads 146 = .ok (.iload 12, 2) := by decide +kernel
theorem dX12_reads_148 : decode cX12_reads 148 = .ok (.ifCond .eq 13, 3) := by decide +kernel
theorem dX12_reads_151 : decode cX12_reads 151 = .ok (.iload 9, 2) := by decide +kernel
theorem dX12_reads_153 : decode cX12_reads 153 = .ok (.ifCond .ne 8, 3) := by decide +kernel
theorem dX12_reads_156 : decode cX12_reads 156 = .ok (.iload 11, 2) := by decide +kernel
theorem dX12_reads_158 : decode cX12_reads 158 = .ok (.goto 5, 3) := by decide +kernel
theorem dX12_reads_161 : decode cX12_reads 161 = .ok (.iload 10, 2) := by decide +kernel
theorem dX12_reads_163 : decode cX12_reads 163 = .ok (.istore 10, 2) := by decide +kernel
theorem dX12_reads_165 : decode cX12_reads 165 = .ok (.iload 9, 2) := by decide +kernel
theorem dX12_reads_167 : decode cX12_reads 167 = .ok (.iload 12, 2) := by decide +kernel
theorem dX12_reads_169 : decode cX12_reads 169 = .ok (.ifCond .eq 7, 3) := by decide +kernel
theorem dX12_reads_172 : decode cX12_reads 172 = .ok (.iconst 1, 1) := by decide +kernel
theorem dX12_reads_173 : decode cX12_reads 173 = .ok (.goto 4, 3) := by decide +kernel
theorem dX12_reads_176 : decode cX12_reads 176 = .ok (.iconst 0, 1) := by decide +kernel
theorem dX12_reads_177 : decode cX12_reads 177 = .ok (.iadd, 1) := by decide +kernel
theorem dX12_reads_178 : decode cX12_reads 178 = .ok (.istore 9, 2) := by decide +kernel
theorem dX12_reads_180 : decode cX12_reads 180 = .ok (.iinc 11 1, 3) := by decide +kernel
theorem dX12_reads_183 : decode cX12_reads 183 = .ok (.goto (-82), 3) := by decide +kernel
theorem dX12_reads_186 : decode cX12_reads 186 = .ok (.aload_n 0, 1) := by decide +kernel
theorem dX12_reads_187 : decode cX12_reads 187 = .ok (.getfield 7, 3) := by decide +kernel
theorem dX12_reads_190 : decode cX12_reads 190 = .ok (.bipush 26, 2) := by decide +kernel
theorem dX12_reads_192 : decode cX12_reads 192 = .ok (.iload_n 1, 1) := by decide +kernel
theorem dX12_reads_193 : decode cX12_reads 193 = .ok (.iadd, 1) := by decide +kernel
theorem dX12_reads_194 : decode cX12_reads 194 = .ok (.iload 7, 2) := by decide +kernel
theorem dX12_reads_196 : decode cX12_reads 196 = .ok (.iastore, 1) := by decide +kernel
theorem dX12_reads_197 : decode cX12_reads 197 = .ok (.aload_n 0, 1) := by decide +kernel
theorem dX12_reads_198 : decode cX12_reads 198 = .ok (.getfield 7, 3) := by decide +kernel
theorem dX12_reads_201 : decode cX12_reads 201 = .ok (.bipush 26, 2) := by decide +kernel
theorem dX12_reads_203 : decode cX12_reads 203 = .ok (.iload_n 2, 1) := by decide +kernel
theorem dX12_reads_204 : decode cX12_reads 204 = .ok (.iadd, 1) := by decide +kernel
theorem dX12_reads_205 : decode cX12_reads 205 = .ok (.iload 8, 2) := by decide +kernel
theorem dX12_reads_207 : decode cX12_reads 207 = .ok (.iastore, 1) := by decide +kernel
theorem dX12_reads_208 : decode cX12_reads 208 = .ok (.aload_n 0, 1) := by decide +kernel
theorem dX12_reads_209 : decode cX12_reads 209 = .ok (.iload 5, 2) := by decide +kernel
theorem dX12_reads_211 : decode cX12_reads 211 = .ok (.ifCond .ne 8, 3) := by decide +kernel
theorem dX12_reads_214 : decode cX12_reads 214 = .ok (.iload 9, 2) := by decide +kernel
theorem dX12_reads_216 : decode cX12_reads 216 = .ok (.goto 5, 3) := by decide +kernel
theorem dX12_reads_219 : decode cX12_reads 219 = .ok (.iload 10, 2) := by decide +kernel
theorem dX12_reads_221 : decode cX12_reads 221 = .ok (.invokevirtual 60, 3) := by decide +kernel
theorem dX12_reads_224 : decode cX12_reads 224 = .ok (.ireturn, 1) := by decide +kernel
set_option maxRecDepth 20000 in
theorem ggX12_holds_X12_isRope : GoodIn wsX12_holds wsX12_isRope := goodIn_r _ [8, 2, 9, 10, 7, 11, 35, 36, 37, 38, 39, 40, 41, 42, 43, 44, 45, 46, 47, 48, 49, 50, 51, 52, 53] (by decide +kernel) (by decide +kernel)
set_option maxRecDepth 20000 in
theorem gX12_holds_X12_isRope : GoodIn wsX12_holds (wsV RX12 146 RX12 yX12_isRope wsX12_isRope) := goodIn_app (goodIn_of _ (by decide +kernel)) ggX12_holds_X12_isRope
set_option maxRecDepth 20000 in
theorem ggX12_holds_X12_dropping : GoodIn wsX12_holds wsX12_dropping := goodIn_r _ [15, 2, 16, 17, 18, 7, 19, 20, 21, 22, 23, 24, 25, 26, 27, 4, 5, 6, 8, 9, 10, 11, 28, 29, 30, 31, 32, 33, 34, 35, 36, 37, 38, 39, 40, 41, 42, 43, 44, 45, 46, 47, 48, 49, 50, 51, 52, 53] (by decide +kernel) (by decide +kernel)
set_option maxRecDepth 20000 in
theorem gX12_holds_X12_dropping : GoodIn wsX12_holds (wsV RX12 167 RX12 yX12_dropping wsX12_dropping) := goodIn_app (goodIn_of _ (by decide +kernel)) ggX12_holds_X12_dropping
theorem dX12_holds_0 : decode cX12_holds 0 = .ok (.aload_n 0, 1) := by decide +kernel
theorem dX12_holds_1 : decode cX12_holds 1 = .ok (.iload_n 1, 1) := by decide +kernel
theorem dX12_holds_2 : decode cX12_holds 2 = .ok (.invokevirtual 146, 3) := by decide +kernel
theorem dX12_holds_5 : decode cX12_holds 5 = .ok (.ifCond .ne 6, 3) := by decide +kernel
theorem dX12_holds_8 : decode cX12_holds 8 = .ok (.ldc 55, 2) := by decide +kernel
theorem dX12_holds_10 : decode cX12_holds 10 = .ok (.ireturn, 1) := by decide +kernel
theorem dX12_holds_11 : decode cX12_holds 11 = .ok (.aload_n 0, 1) := by decide +kernel
theorem dX12_holds_12 : decode cX12_holds 12 = .ok (.getfield 7, 3) := by decide +kernel
theorem dX12_holds_15 : decode cX12_holds 15 = .ok (.iconst 5, 1) := by decide +kernel
theorem dX12_holds_16 : decode cX12_holds 16 = .ok (.iload_n 1, 1) := by decide +kernel
theorem dX12_holds_17 : decode cX12_holds 17 = .ok (.iadd, 1) := by decide +kernel
theorem dX12_holds_18 : decode cX12_holds 18 = .ok (.iaload, 1) := by decide +kernel
theorem dX12_holds_19 : decode cX12_holds 19 = .ok (.istore_n 2, 1) := by decide +kernel
theorem dX12_holds_20 : decode cX12_holds 20 = .ok (.ldc 166, 2) := by decide +kernel
theorem dX12_holds_22 : decode cX12_holds 22 = .ok (.istore_n 3, 1) := by decide +kernel
theorem dX12_holds_23 : decode cX12_holds 23 = .ok (.bipush 40, 2) := by decide +kernel
theorem dX12_holds_25 : decode cX12_holds 25 = .ok (.istore 4, 2) := by decide +kernel
theorem dX12_holds_27 : decode cX12_holds 27 = .ok (.iload 4, 2) := by decide +kernel
theorem dX12_holds_29 : decode cX12_holds 29 = .ok (.ifCond .le 33, 3) := by decide +kernel
theorem dX12_holds_32 : decode cX12_holds 32 = .ok (.aload_n 0, 1) := by decide +kernel
theorem dX12_holds_33 : decode cX12_holds 33 = .ok (.getfield 7, 3) := by decide +kernel
theorem dX12_holds_36 : decode cX12_holds 36 = .ok (.iconst 5, 1) := by decide +kernel
theorem dX12_holds_37 : decode cX12_holds 37 = .ok (.iload_n 1, 1) := by decide +kernel
theorem dX12_holds_38 : decode cX12_holds 38 = .ok (.iadd, 1) := by decide +kernel
theorem dX12_holds_39 : decode cX12_holds 39 = .ok (.iload 4, 2) := by decide +kernel
theorem dX12_holds_41 : decode cX12_holds 41 = .ok (.iastore, 1) := by decide +kernel
theorem dX12_holds_42 : decode cX12_holds 42 = .ok (.aload_n 0, 1) := by decide +kernel
theorem dX12_holds_43 : decode cX12_holds 43 = .ok (.invokevirtual 167, 3) := by decide +kernel
theorem dX12_holds_46 : decode cX12_holds 46 = .ok (.ifCond .ne 8, 3) := by decide +kernel
theorem dX12_holds_49 : decode cX12_holds 49 = .ok (.iload 4, 2) := by decide +kernel
theorem dX12_holds_51 : decode cX12_holds 51 = .ok (.goto 4, 3) := by decide +kernel
theorem dX12_holds_54 : decode cX12_holds 54 = .ok (.iload_n 3, 1) := by decide +kernel
theorem dX12_holds_55 : decode cX12_holds 55 = .ok (.istore_n 3, 1) := by decide +kernel
theorem dX12_holds_56 : decode cX12_holds 56 = .ok (.iinc 4 (-1), 3) := by decide +kernel
theorem dX12_holds_59 : decode cX12_holds 59 = .ok (.goto (-32), 3) := by decide +kernel
theorem dX12_holds_62 : decode cX12_holds 62 = .ok (.aload_n 0, 1) := by decide +kernel
theorem dX12_holds_63 : decode cX12_holds 63 = .ok (.getfield 7, 3) := by decide +kernel
theorem dX12_holds_66 : decode cX12_holds 66 = .ok (.iconst 5, 1) := by decide +kernel
theorem dX12_holds_67 : decode cX12_holds 67 = .ok (.iload_n 1, 1) := by decide +kernel
theorem dX12_holds_68 : decode cX12_holds 68 = .ok (.iadd, 1) := by decide +kernel
theorem dX12_holds_69 : decode cX12_holds 69 = .ok (.iload_n 2, 1) := by decide +kernel
theorem dX12_holds_70 : decode cX12_holds 70 = .ok (.iastore, 1) := by decide +kernel
theorem dX12_holds_71 : decode cX12_holds 71 = .ok (.iload_n 3, 1) := by decide +kernel
theorem dX12_holds_72 : decode cX12_holds 72 = .ok (.ireturn, 1) := by decide +kernel
set_option maxRecDepth 20000 in
theorem ggX12_falls_X12_in : GoodIn wsX12_falls wsX12_in := goodIn_r _ [8] (by decide +kernel) (by decide +kernel)
set_option maxRecDepth 20000 in
theorem gX12_falls_X12_in : GoodIn wsX12_falls (va_wsS RX12 45 yX12_in wsX12_in) := goodIn_app (goodIn_of _ (by decide +kernel)) ggX12_falls_X12_in
set_option maxRecDepth 20000 in
theorem ggX12_falls_X12_dropping : GoodIn wsX12_falls wsX12_dropping := goodIn_r _ [12, 1, 13, 14, 15, 7, 16, 17, 18, 19, 20, 21, 22, 23, 24, 25, 26, 27, 28, 5, 6, 8, 29, 30, 31, 32, 33, 34, 35, 39, 40, 41, 42, 43, 44, 45, 46, 47, 48, 49, 50, 51, 52, 53, 54, 55, 56, 57] (by decide +kernel) (by decide +kernel)
set_option maxRecDepth 20000 in
theorem gX12_falls_X12_dropping : GoodIn wsX12_falls (wsV RX12 167 RX12 yX12_dropping wsX12_dropping) := goodIn_app (goodIn_of _ (by decide +kernel)) ggX12_falls_X12_dropping
set_option maxRecDepth 20000 in
theorem ggX12_falls_X12_has : GoodIn wsX12_falls wsX12_has := goodIn_r _ [38] (by decide +kernel) (by decide +kernel)
set_option maxRecDepth 20000 in
theorem gX12_falls_X12_has : GoodIn wsX12_falls (va_wsS RX12 177 yX12_has wsX12_has) := goodIn_app (goodIn_of _ (by decide +kernel)) ggX12_falls_X12_has
theorem dX12_falls_0 : decode cX12_falls 0 = .ok (.aload_n 0, 1) := by decide +kernel
theorem dX12_falls_1 : decode cX12_falls 1 = .ok (.getfield 7, 3) := by decide +kernel
theorem dX12_falls_4 : decode cX12_falls 4 = .ok (.iconst 4, 1) := by decide +kernel
theorem dX12_falls_5 : decode cX12_falls 5 = .ok (.iaload, 1) := by decide +kernel
theorem dX12_falls_6 : decode cX12_falls 6 = .ok (.ifCond .ne 6, 3) := by decide +kernel
theorem dX12_falls_9 : decode cX12_falls 9 = .ok (.ldc 132, 2) := by decide +kernel
theorem dX12_falls_11 : decode cX12_falls 11 = .ok (.ireturn, 1) := by decide +kernel
theorem dX12_falls_12 : decode cX12_falls 12 = .ok (.iload_n 1, 1) := by decide +kernel
theorem dX12_falls_13 : decode cX12_falls 13 = .ok (.i2l, 1) := by decide +kernel
theorem dX12_falls_14 : decode cX12_falls 14 = .ok (.lconst 0, 1) := by decide +kernel
theorem dX12_falls_15 : decode cX12_falls 15 = .ok (.lconst 1, 1) := by decide +kernel
theorem dX12_falls_16 : decode cX12_falls 16 = .ok (.invokestatic 45, 3) := by decide +kernel
theorem dX12_falls_19 : decode cX12_falls 19 = .ok (.ifCond .ne 6, 3) := by decide +kernel
theorem dX12_falls_22 : decode cX12_falls 22 = .ok (.ldc 55, 2) := by decide +kernel
theorem dX12_falls_24 : decode cX12_falls 24 = .ok (.ireturn, 1) := by decide +kernel
theorem dX12_falls_25 : decode cX12_falls 25 = .ok (.aload_n 0, 1) := by decide +kernel
theorem dX12_falls_26 : decode cX12_falls 26 = .ok (.getfield 7, 3) := by decide +kernel
theorem dX12_falls_29 : decode cX12_falls 29 = .ok (.iconst 1, 1) := by decide +kernel
theorem dX12_falls_30 : decode cX12_falls 30 = .ok (.iaload, 1) := by decide +kernel
theorem dX12_falls_31 : decode cX12_falls 31 = .ok (.istore_n 2, 1) := by decide +kernel
theorem dX12_falls_32 : decode cX12_falls 32 = .ok (.ldc 166, 2) := by decide +kernel
theorem dX12_falls_34 : decode cX12_falls 34 = .ok (.istore_n 3, 1) := by decide +kernel
theorem dX12_falls_35 : decode cX12_falls 35 = .ok (.bipush 99, 2) := by decide +kernel
theorem dX12_falls_37 : decode cX12_falls 37 = .ok (.istore 4, 2) := by decide +kernel
theorem dX12_falls_39 : decode cX12_falls 39 = .ok (.iload 4, 2) := by decide +kernel
theorem dX12_falls_41 : decode cX12_falls 41 = .ok (.ifCond .lt 70, 3) := by decide +kernel
theorem dX12_falls_44 : decode cX12_falls 44 = .ok (.aload_n 0, 1) := by decide +kernel
theorem dX12_falls_45 : decode cX12_falls 45 = .ok (.getfield 7, 3) := by decide +kernel
theorem dX12_falls_48 : decode cX12_falls 48 = .ok (.iconst 1, 1) := by decide +kernel
theorem dX12_falls_49 : decode cX12_falls 49 = .ok (.iload_n 2, 1) := by decide +kernel
theorem dX12_falls_50 : decode cX12_falls 50 = .ok (.iload 4, 2) := by decide +kernel
theorem dX12_falls_52 : decode cX12_falls 52 = .ok (.iadd, 1) := by decide +kernel
theorem dX12_falls_53 : decode cX12_falls 53 = .ok (.iastore, 1) := by decide +kernel
theorem dX12_falls_54 : decode cX12_falls 54 = .ok (.aload_n 0, 1) := by decide +kernel
theorem dX12_falls_55 : decode cX12_falls 55 = .ok (.invokevirtual 167, 3) := by decide +kernel
theorem dX12_falls_58 : decode cX12_falls 58 = .ok (.istore 5, 2) := by decide +kernel
theorem dX12_falls_60 : decode cX12_falls 60 = .ok (.iconst 0, 1) := by decide +kernel
theorem dX12_falls_61 : decode cX12_falls 61 = .ok (.istore 6, 2) := by decide +kernel
theorem dX12_falls_63 : decode cX12_falls 63 = .ok (.iload 5, 2) := by decide +kernel
theorem dX12_falls_65 : decode cX12_falls 65 = .ok (.ifCond .le 19, 3) := by decide +kernel
theorem dX12_falls_68 : decode cX12_falls 68 = .ok (.iload 5, 2) := by decide +kernel
theorem dX12_falls_70 : decode cX12_falls 70 = .ok (.iload 6, 2) := by decide +kernel
theorem dX12_falls_72 : decode cX12_falls 72 = .ok (.invokestatic 177, 3) := by decide +kernel
theorem dX12_falls_75 : decode cX12_falls 75 = .ok (.ifCond .ne 9, 3) := by decide +kernel
theorem dX12_falls_78 : decode cX12_falls 78 = .ok (.iinc 6 1, 3) := by decide +kernel
theorem dX12_falls_81 : decode cX12_falls 81 = .ok (.goto (-18), 3) := by decide +kernel
theorem dX12_falls_84 : decode cX12_falls 84 = .ok (.iload 5, 2) := by decide +kernel
theorem dX12_falls_86 : decode cX12_falls 86 = .ok (.ifCond .ne 7, 3) := by decide +kernel
theorem dX12_falls_89 : decode cX12_falls 89 = .ok (.iload_n 3, 1) := by decide +kernel
theorem dX12_falls_90 : decode cX12_falls 90 = .ok (.goto 14, 3) := by decide +kernel
theorem dX12_falls_93 : decode cX12_falls 93 = .ok (.iload_n 1, 1) := by decide +kernel
theorem dX12_falls_94 : decode cX12_falls 94 = .ok (.ifCond .ne 8, 3) := by decide +kernel
theorem dX12_falls_97 : decode cX12_falls 97 = .ok (.iload 4, 2) := by decide +kernel
theorem dX12_falls_99 : decode cX12_falls 99 = .ok (.goto 5, 3) := by decide +kernel
theorem dX12_falls_102 : decode cX12_falls 102 = .ok (.iload 6, 2) := by decide +kernel
theorem dX12_falls_104 : decode cX12_falls 104 = .ok (.istore_n 3, 1) := by decide +kernel
theorem dX12_falls_105 : decode cX12_falls 105 = .ok (.iinc 4 (-1), 3) := by decide +kernel
theorem dX12_falls_108 : decode cX12_falls 108 = .ok (.goto (-69), 3) := by decide +kernel
theorem dX12_falls_111 : decode cX12_falls 111 = .ok (.aload_n 0, 1) := by decide +kernel
theorem dX12_falls_112 : decode cX12_falls 112 = .ok (.getfield 7, 3) := by decide +kernel
theorem dX12_falls_115 : decode cX12_falls 115 = .ok (.iconst 1, 1) := by decide +kernel
theorem dX12_falls_116 : decode cX12_falls 116 = .ok (.iload_n 2, 1) := by decide +kernel
theorem dX12_falls_117 : decode cX12_falls 117 = .ok (.iastore, 1) := by decide +kernel
theorem dX12_falls_118 : decode cX12_falls 118 = .ok (.iload_n 3, 1) := by decide +kernel
theorem dX12_falls_119 : decode cX12_falls 119 = .ok (.ireturn, 1) := by decide +kernel
set_option maxRecDepth 20000 in
theorem ggX12_dearest_X12_isStall : GoodIn wsX12_dearest wsX12_isStall := goodIn_r _ [8, 2, 9, 10, 7, 11, 43, 44, 45, 46, 47, 48, 49, 50, 51, 52, 53, 54, 55, 56, 57, 58, 59, 60, 61] (by decide +kernel) (by decide +kernel)
set_option maxRecDepth 20000 in
theorem gX12_dearest_X12_isStall : GoodIn wsX12_dearest (wsV RX12 133 RX12 yX12_isStall wsX12_isStall) := goodIn_app (goodIn_of _ (by decide +kernel)) ggX12_dearest_X12_isStall
set_option maxRecDepth 20000 in
theorem ggX12_dearest_X12_whoIs : GoodIn wsX12_dearest wsX12_whoIs := goodIn_r _ [15, 2, 43, 44, 45, 46, 47, 48, 49, 50, 51, 52, 53, 54, 55, 56, 57, 58, 59, 60, 61] (by decide +kernel) (by decide +kernel)
set_option maxRecDepth 20000 in
theorem gX12_dearest_X12_whoIs : GoodIn wsX12_dearest (wsV RX12 109 RX12 yX12_whoIs wsX12_whoIs) := goodIn_app (goodIn_of _ (by decide +kernel)) ggX12_dearest_X12_whoIs
set_option maxRecDepth 20000 in
theorem ggX12_dearest_X12_priceOf : GoodIn wsX12_dearest wsX12_priceOf := goodIn_r _ [19, 2, 20, 21, 22, 7, 23, 24, 25, 26, 27, 28, 29, 30, 31, 32, 33, 34, 35, 9, 10, 11, 36, 37, 38, 39, 40, 41, 42, 43, 44, 45, 46, 47, 48, 49, 50, 51, 52, 53, 54, 55, 56, 57, 58, 59, 60, 61] (by decide +kernel) (by decide +kernel)
set_option maxRecDepth 20000 in
theorem gX12_dearest_X12_priceOf : GoodIn wsX12_dearest (wsV RX12 161 RX12 yX12_priceOf wsX12_priceOf) := goodIn_app (goodIn_of _ (by decide +kernel)) ggX12_dearest_X12_priceOf
theorem dX12_dearest_0 : decode cX12_dearest 0 = .ok (.aload_n 0, 1) := by decide +kernel
theorem dX12_dearest_1 : decode cX12_dearest 1 = .ok (.iload_n 1, 1) := by decide +kernel
theorem dX12_dearest_2 : decode cX12_dearest 2 = .ok (.invokevirtual 133, 3) := by decide +kernel
theorem dX12_dearest_5 : decode cX12_dearest 5 = .ok (.ifCond .ne 6, 3) := by decide +kernel
theorem dX12_dearest_8 : decode cX12_dearest 8 = .ok (.ldc 55, 2) := by decide +kernel
theorem dX12_dearest_10 : decode cX12_dearest 10 = .ok (.ireturn, 1) := by decide +kernel
theorem dX12_dearest_11 : decode cX12_dearest 11 = .ok (.aload_n 0, 1) := by decide +kernel
theorem dX12_dearest_12 : decode cX12_dearest 12 = .ok (.getfield 7, 3) := by decide +kernel
theorem dX12_dearest_15 : decode cX12_dearest 15 = .ok (.bipush 20, 2) := by decide +kernel
theorem dX12_dearest_17 : decode cX12_dearest 17 = .ok (.iload_n 1, 1) := by decide +kernel
theorem dX12_dearest_18 : decode cX12_dearest 18 = .ok (.iadd, 1) := by decide +kernel
theorem dX12_dearest_19 : decode cX12_dearest 19 = .ok (.iaload, 1) := by decide +kernel
theorem dX12_dearest_20 : decode cX12_dearest 20 = .ok (.istore_n 2, 1) := by decide +kernel
theorem dX12_dearest_21 : decode cX12_dearest 21 = .ok (.ldc 166, 2) := by decide +kernel
theorem dX12_dearest_23 : decode cX12_dearest 23 = .ok (.istore_n 3, 1) := by decide +kernel
theorem dX12_dearest_24 : decode cX12_dearest 24 = .ok (.iconst (-1), 1) := by decide +kernel
theorem dX12_dearest_25 : decode cX12_dearest 25 = .ok (.istore 4, 2) := by decide +kernel
theorem dX12_dearest_27 : decode cX12_dearest 27 = .ok (.iconst 1, 1) := by decide +kernel
theorem dX12_dearest_28 : decode cX12_dearest 28 = .ok (.istore 5, 2) := by decide +kernel
theorem dX12_dearest_30 : decode cX12_dearest 30 = .ok (.iload 5, 2) := by decide +kernel
theorem dX12_dearest_32 : decode cX12_dearest 32 = .ok (.bipush 8, 2) := by decide +kernel
theorem dX12_dearest_34 : decode cX12_dearest 34 = .ok (.if_icmp .gt 100, 3) := by decide +kernel
theorem dX12_dearest_37 : decode cX12_dearest 37 = .ok (.aload_n 0, 1) := by decide +kernel
theorem dX12_dearest_38 : decode cX12_dearest 38 = .ok (.getfield 7, 3) := by decide +kernel
theorem dX12_dearest_41 : decode cX12_dearest 41 = .ok (.bipush 20, 2) := by decide +kernel
theorem dX12_dearest_43 : decode cX12_dearest 43 = .ok (.iload_n 1, 1) := by decide +kernel
theorem dX12_dearest_44 : decode cX12_dearest 44 = .ok (.iadd, 1) := by decide +kernel
theorem dX12_dearest_45 : decode cX12_dearest 45 = .ok (.iload_n 2, 1) := by decide +kernel
theorem dX12_dearest_46 : decode cX12_dearest 46 = .ok (.iastore, 1) := by decide +kernel
theorem dX12_dearest_47 : decode cX12_dearest 47 = .ok (.aload_n 0, 1) := by decide +kernel
theorem dX12_dearest_48 : decode cX12_dearest 48 = .ok (.iconst 0, 1) := by decide +kernel
theorem dX12_dearest_49 : decode cX12_dearest 49 = .ok (.aload_n 0, 1) := by decide +kernel
theorem dX12_dearest_50 : decode cX12_dearest 50 = .ok (.getfield 7, 3) := by decide +kernel
theorem dX12_dearest_53 : decode cX12_dearest 53 = .ok (.bipush 14, 2) := by decide +kernel
theorem dX12_dearest_55 : decode cX12_dearest 55 = .ok (.iload_n 1, 1) := by decide +kernel
theorem dX12_dearest_56 : decode cX12_dearest 56 = .ok (.iadd, 1) := by decide +kernel
theorem dX12_dearest_57 : decode cX12_dearest 57 = .ok (.iaload, 1) := by decide +kernel
theorem dX12_dearest_58 : decode cX12_dearest 58 = .ok (.iload 5, 2) := by decide +kernel
theorem dX12_dearest_60 : decode cX12_dearest 60 = .ok (.invokevirtual 109, 3) := by decide +kernel
theorem dX12_dearest_63 : decode cX12_dearest 63 = .ok (.istore 6, 2) := by decide +kernel
theorem dX12_dearest_65 : decode cX12_dearest 65 = .ok (.aload_n 0, 1) := by decide +kernel
theorem dX12_dearest_66 : decode cX12_dearest 66 = .ok (.getfield 7, 3) := by decide +kernel
theorem dX12_dearest_69 : decode cX12_dearest 69 = .ok (.bipush 20, 2) := by decide +kernel
theorem dX12_dearest_71 : decode cX12_dearest 71 = .ok (.iload_n 1, 1) := by decide +kernel
theorem dX12_dearest_72 : decode cX12_dearest 72 = .ok (.iadd, 1) := by decide +kernel
theorem dX12_dearest_73 : decode cX12_dearest 73 = .ok (.iload 5, 2) := by decide +kernel
theorem dX12_dearest_75 : decode cX12_dearest 75 = .ok (.iastore, 1) := by decide +kernel
theorem dX12_dearest_76 : decode cX12_dearest 76 = .ok (.iload 6, 2) := by decide +kernel
theorem dX12_dearest_78 : decode cX12_dearest 78 = .ok (.ifCond .lt 9, 3) := by decide +kernel
theorem dX12_dearest_81 : decode cX12_dearest 81 = .ok (.iload 6, 2) := by decide +kernel
theorem dX12_dearest_83 : decode cX12_dearest 83 = .ok (.iload_n 1, 1) := by decide +kernel
theorem dX12_dearest_84 : decode cX12_dearest 84 = .ok (.if_icmp .ne 11, 3) := by decide +kernel
theorem dX12_dearest_87 : decode cX12_dearest 87 = .ok (.aload_n 0, 1) := by decide +kernel
theorem dX12_dearest_88 : decode cX12_dearest 88 = .ok (.iload_n 1, 1) := by decide +kernel
theorem dX12_dearest_89 : decode cX12_dearest 89 = .ok (.invokevirtual 161, 3) := by decide +kernel
theorem dX12_dearest_92 : decode cX12_dearest 92 = .ok (.goto 4, 3) := by decide +kernel
theorem dX12_dearest_95 : decode cX12_dearest 95 = .ok (.iconst (-1), 1) := by decide +kernel
theorem dX12_dearest_96 : decode cX12_dearest 96 = .ok (.istore 7, 2) := by decide +kernel
theorem dX12_dearest_98 : decode cX12_dearest 98 = .ok (.iload 7, 2) := by decide +kernel
theorem dX12_dearest_100 : decode cX12_dearest 100 = .ok (.iload 4, 2) := by decide +kernel
theorem dX12_dearest_102 : decode cX12_dearest 102 = .ok (.if_icmp .le 8, 3) := by decide +kernel
theorem dX12_dearest_105 : decode cX12_dearest 105 = .ok (.iload 5, 2) := by decide +kernel
theorem dX12_dearest_107 : decode cX12_dearest 107 = .ok (.goto 4, 3) := by decide +kernel
theorem dX12_dearest_110 : decode cX12_dearest 110 = .ok (.iload_n 3, 1) := by decide +kernel
theorem dX12_dearest_111 : decode cX12_dearest 111 = .ok (.istore_n 3, 1) := by decide +kernel
theorem dX12_dearest_112 : decode cX12_dearest 112 = .ok (.iload 7, 2) := by decide +kernel
theorem dX12_dearest_114 : decode cX12_dearest 114 = .ok (.iload 4, 2) := by decide +kernel
theorem dX12_dearest_116 : decode cX12_dearest 116 = .ok (.if_icmp .le 8, 3) := by decide +kernel
theorem dX12_dearest_119 : decode cX12_dearest 119 = .ok (.iload 7, 2) := by decide +kernel
theorem dX12_dearest_121 : decode cX12_dearest 121 = .ok (.goto 5, 3) := by decide +kernel
theorem dX12_dearest_124 : decode cX12_dearest 124 = .ok (.iload 4, 2) := by decide +kernel
theorem dX12_dearest_126 : decode cX12_dearest 126 = .ok (.istore 4, 2) := by decide +kernel
theorem dX12_dearest_128 : decode cX12_dearest 128 = .ok (.iinc 5 1, 3) := by decide +kernel
theorem dX12_dearest_131 : decode cX12_dearest 131 = .ok (.goto (-101), 3) := by decide +kernel
theorem dX12_dearest_134 : decode cX12_dearest 134 = .ok (.aload_n 0, 1) := by decide +kernel
theorem dX12_dearest_135 : decode cX12_dearest 135 = .ok (.getfield 7, 3) := by decide +kernel
theorem dX12_dearest_138 : decode cX12_dearest 138 = .ok (.bipush 20, 2) := by decide +kernel
theorem dX12_dearest_140 : decode cX12_dearest 140 = .ok (.iload_n 1, 1) := by decide +kernel
theorem dX12_dearest_141 : decode cX12_dearest 141 = .ok (.iadd, 1) := by decide +kernel
theorem dX12_dearest_142 : decode cX12_dearest 142 = .ok (.iload_n 2, 1) := by decide +kernel
theorem dX12_dearest_143 : decode cX12_dearest 143 = .ok (.iastore, 1) := by decide +kernel
theorem dX12_dearest_144 : decode cX12_dearest 144 = .ok (.iload_n 3, 1) := by decide +kernel
theorem dX12_dearest_145 : decode cX12_dearest 145 = .ok (.ireturn, 1) := by decide +kernel
set_option maxRecDepth 20000 in
theorem ggX12_rented_X12_isStall : GoodIn wsX12_rented wsX12_isStall := goodIn_r _ [8, 2, 9, 10, 7, 11, 43, 44, 45, 46, 47, 48, 49, 50, 51, 52, 53, 54, 55, 56, 57, 58, 59, 60, 61] (by decide +kernel) (by decide +kernel)
set_option maxRecDepth 20000 in
theorem gX12_rented_X12_isStall : GoodIn wsX12_rented (wsV RX12 133 RX12 yX12_isStall wsX12_isStall) := goodIn_app (goodIn_of _ (by decide +kernel)) ggX12_rented_X12_isStall
set_option maxRecDepth 20000 in
theorem ggX12_rented_X12_walk : GoodIn wsX12_rented wsX12_walk := goodIn_r _ [15, 2, 16, 17, 18, 7, 19, 20, 21, 22, 23, 24, 25, 26, 27, 28, 29, 30, 31, 9, 10, 11, 32, 33, 34, 35, 36, 37, 38, 43, 44, 45, 46, 47, 48, 49, 50, 51, 52, 53, 54, 55, 56, 57, 58, 59, 60, 61] (by decide +kernel) (by decide +kernel)
set_option maxRecDepth 20000 in
theorem gX12_rented_X12_walk : GoodIn wsX12_rented (wsV RX12 171 RX12 yX12_walk wsX12_walk) := goodIn_app (goodIn_of _ (by decide +kernel)) ggX12_rented_X12_walk
set_option maxRecDepth 20000 in
theorem ggX12_rented_X12_whoIs : GoodIn wsX12_rented wsX12_whoIs := goodIn_r _ [42, 2, 43, 44, 45, 46, 47, 48, 49, 50, 51, 52, 53, 54, 55, 56, 57, 58, 59, 60, 61] (by decide +kernel) (by decide +kernel)
set_option maxRecDepth 20000 in
theorem gX12_rented_X12_whoIs : GoodIn wsX12_rented (wsV RX12 109 RX12 yX12_whoIs wsX12_whoIs) := goodIn_app (goodIn_of _ (by decide +kernel)) ggX12_rented_X12_whoIs
theorem dX12_rented_0 : decode cX12_rented 0 = .ok (.aload_n 0, 1) := by decide +kernel
theorem dX12_rented_1 : decode cX12_rented 1 = .ok (.iload_n 1, 1) := by decide +kernel
theorem dX12_rented_2 : decode cX12_rented 2 = .ok (.invokevirtual 133, 3) := by decide +kernel
theorem dX12_rented_5 : decode cX12_rented 5 = .ok (.ifCond .eq 24, 3) := by decide +kernel
theorem dX12_rented_8 : decode cX12_rented 8 = .ok (.aload_n 0, 1) := by decide +kernel
theorem dX12_rented_9 : decode cX12_rented 9 = .ok (.iload_n 2, 1) := by decide +kernel
theorem dX12_rented_10 : decode cX12_rented 10 = .ok (.invokevirtual 133, 3) := by decide +kernel
theorem dX12_rented_13 : decode cX12_rented 13 = .ok (.ifCond .eq 16, 3) := by decide +kernel
theorem dX12_rented_16 : decode cX12_rented 16 = .ok (.aload_n 0, 1) := by decide +kernel
theorem dX12_rented_17 : decode cX12_rented 17 = .ok (.iload_n 3, 1) := by decide +kernel
theorem dX12_rented_18 : decode cX12_rented 18 = .ok (.invokevirtual 133, 3) := by decide +kernel
theorem dX12_rented_21 : decode cX12_rented 21 = .ok (.ifCond .eq 8, 3) := by decide +kernel
theorem dX12_rented_24 : decode cX12_rented 24 = .ok (.iload_n 2, 1) := by decide +kernel
theorem dX12_rented_25 : decode cX12_rented 25 = .ok (.iload_n 3, 1) := by decide +kernel
theorem dX12_rented_26 : decode cX12_rented 26 = .ok (.if_icmp .ne 6, 3) := by decide +kernel
theorem dX12_rented_29 : decode cX12_rented 29 = .ok (.ldc 55, 2) := by decide +kernel
theorem dX12_rented_31 : decode cX12_rented 31 = .ok (.ireturn, 1) := by decide +kernel
theorem dX12_rented_32 : decode cX12_rented 32 = .ok (.aload_n 0, 1) := by decide +kernel
theorem dX12_rented_33 : decode cX12_rented 33 = .ok (.getfield 7, 3) := by decide +kernel
theorem dX12_rented_36 : decode cX12_rented 36 = .ok (.bipush 8, 2) := by decide +kernel
theorem dX12_rented_38 : decode cX12_rented 38 = .ok (.iload_n 1, 1) := by decide +kernel
theorem dX12_rented_39 : decode cX12_rented 39 = .ok (.iadd, 1) := by decide +kernel
theorem dX12_rented_40 : decode cX12_rented 40 = .ok (.iaload, 1) := by decide +kernel
theorem dX12_rented_41 : decode cX12_rented 41 = .ok (.iconst 4, 1) := by decide +kernel
theorem dX12_rented_42 : decode cX12_rented 42 = .ok (.if_icmp .lt 22, 3) := by decide +kernel
theorem dX12_rented_45 : decode cX12_rented 45 = .ok (.aload_n 0, 1) := by decide +kernel
theorem dX12_rented_46 : decode cX12_rented 46 = .ok (.iload_n 2, 1) := by decide +kernel
theorem dX12_rented_47 : decode cX12_rented 47 = .ok (.iload_n 3, 1) := by decide +kernel
theorem dX12_rented_48 : decode cX12_rented 48 = .ok (.invokevirtual 171, 3) := by decide +kernel
theorem dX12_rented_51 : decode cX12_rented 51 = .ok (.ifCond .eq 13, 3) := by decide +kernel
theorem dX12_rented_54 : decode cX12_rented 54 = .ok (.iload_n 1, 1) := by decide +kernel
theorem dX12_rented_55 : decode cX12_rented 55 = .ok (.iload_n 2, 1) := by decide +kernel
theorem dX12_rented_56 : decode cX12_rented 56 = .ok (.if_icmp .eq 8, 3) := by decide +kernel
theorem dX12_rented_59 : decode cX12_rented 59 = .ok (.iload_n 1, 1) := by decide +kernel
theorem dX12_rented_60 : decode cX12_rented 60 = .ok (.iload_n 3, 1) := by decide +kernel
theorem dX12_rented_61 : decode cX12_rented 61 = .ok (.if_icmp .ne 6, 3) := by decide +kernel
theorem dX12_rented_64 : decode cX12_rented 64 = .ok (.ldc 132, 2) := by decide +kernel
theorem dX12_rented_66 : decode cX12_rented 66 = .ok (.ireturn, 1) := by decide +kernel
theorem dX12_rented_67 : decode cX12_rented 67 = .ok (.aload_n 0, 1) := by decide +kernel
theorem dX12_rented_68 : decode cX12_rented 68 = .ok (.getfield 7, 3) := by decide +kernel
theorem dX12_rented_71 : decode cX12_rented 71 = .ok (.bipush 20, 2) := by decide +kernel
theorem dX12_rented_73 : decode cX12_rented 73 = .ok (.iload_n 1, 1) := by decide +kernel
theorem dX12_rented_74 : decode cX12_rented 74 = .ok (.iadd, 1) := by decide +kernel
theorem dX12_rented_75 : decode cX12_rented 75 = .ok (.iaload, 1) := by decide +kernel
theorem dX12_rented_76 : decode cX12_rented 76 = .ok (.istore 4, 2) := by decide +kernel
theorem dX12_rented_78 : decode cX12_rented 78 = .ok (.iconst 0, 1) := by decide +kernel
theorem dX12_rented_79 : decode cX12_rented 79 = .ok (.istore 5, 2) := by decide +kernel
theorem dX12_rented_81 : decode cX12_rented 81 = .ok (.iconst 1, 1) := by decide +kernel
theorem dX12_rented_82 : decode cX12_rented 82 = .ok (.istore 6, 2) := by decide +kernel
theorem dX12_rented_84 : decode cX12_rented 84 = .ok (.iload 6, 2) := by decide +kernel
theorem dX12_rented_86 : decode cX12_rented 86 = .ok (.bipush 8, 2) := by decide +kernel
theorem dX12_rented_88 : decode cX12_rented 88 = .ok (.if_icmp .gt 85, 3) := by decide +kernel
theorem dX12_rented_91 : decode cX12_rented 91 = .ok (.aload_n 0, 1) := by decide +kernel
theorem dX12_rented_92 : decode cX12_rented 92 = .ok (.getfield 7, 3) := by decide +kernel
theorem dX12_rented_95 : decode cX12_rented 95 = .ok (.bipush 20, 2) := by decide +kernel
theorem dX12_rented_97 : decode cX12_rented 97 = .ok (.iload_n 1, 1) := by decide +kernel
theorem dX12_rented_98 : decode cX12_rented 98 = .ok (.iadd, 1) := by decide +kernel
theorem dX12_rented_99 : decode cX12_rented 99 = .ok (.iload 4, 2) := by decide +kernel
theorem dX12_rented_101 : decode cX12_rented 101 = .ok (.iastore, 1) := by decide +kernel
theorem dX12_rented_102 : decode cX12_rented 102 = .ok (.aload_n 0, 1) := by decide +kernel
theorem dX12_rented_103 : decode cX12_rented 103 = .ok (.iconst 0, 1) := by decide +kernel
theorem dX12_rented_104 : decode cX12_rented 104 = .ok (.aload_n 0, 1) := by decide +kernel
theorem dX12_rented_105 : decode cX12_rented 105 = .ok (.getfield 7, 3) := by decide +kernel
theorem dX12_rented_108 : decode cX12_rented 108 = .ok (.bipush 14, 2) := by decide +kernel
theorem dX12_rented_110 : decode cX12_rented 110 = .ok (.iload_n 1, 1) := by decide +kernel
theorem dX12_rented_111 : decode cX12_rented 111 = .ok (.iadd, 1) := by decide +kernel
theorem dX12_rented_112 : decode cX12_rented 112 = .ok (.iaload, 1) := by decide +kernel
theorem dX12_rented_113 : decode cX12_rented 113 = .ok (.iload 6, 2) := by decide +kernel
theorem dX12_rented_115 : decode cX12_rented 115 = .ok (.invokevirtual 109, 3) := by decide +kernel
theorem dX12_rented_118 : decode cX12_rented 118 = .ok (.istore 7, 2) := by decide +kernel
theorem dX12_rented_120 : decode cX12_rented 120 = .ok (.iload 7, 2) := by decide +kernel
theorem dX12_rented_122 : decode cX12_rented 122 = .ok (.ifCond .lt 9, 3) := by decide +kernel
theorem dX12_rented_125 : decode cX12_rented 125 = .ok (.iload 7, 2) := by decide +kernel
theorem dX12_rented_127 : decode cX12_rented 127 = .ok (.iload_n 1, 1) := by decide +kernel
theorem dX12_rented_128 : decode cX12_rented 128 = .ok (.if_icmp .ne 39, 3) := by decide +kernel
theorem dX12_rented_131 : decode cX12_rented 131 = .ok (.aload_n 0, 1) := by decide +kernel
theorem dX12_rented_132 : decode cX12_rented 132 = .ok (.getfield 7, 3) := by decide +kernel
theorem dX12_rented_135 : decode cX12_rented 135 = .ok (.bipush 20, 2) := by decide +kernel
theorem dX12_rented_137 : decode cX12_rented 137 = .ok (.iload_n 1, 1) := by decide +kernel
theorem dX12_rented_138 : decode cX12_rented 138 = .ok (.iadd, 1) := by decide +kernel
theorem dX12_rented_139 : decode cX12_rented 139 = .ok (.iload 6, 2) := by decide +kernel
theorem dX12_rented_141 : decode cX12_rented 141 = .ok (.iastore, 1) := by decide +kernel
theorem dX12_rented_142 : decode cX12_rented 142 = .ok (.iload 5, 2) := by decide +kernel
theorem dX12_rented_144 : decode cX12_rented 144 = .ok (.aload_n 0, 1) := by decide +kernel
theorem dX12_rented_145 : decode cX12_rented 145 = .ok (.iload_n 2, 1) := by decide +kernel
theorem dX12_rented_146 : decode cX12_rented 146 = .ok (.iload_n 3, 1) := by decide +kernel
theorem dX12_rented_147 : decode cX12_rented 147 = .ok (.invokevirtual 171, 3) := by decide +kernel
theorem dX12_rented_150 : decode cX12_rented 150 = .ok (.iconst 2, 1) := by decide +kernel
theorem dX12_rented_151 : decode cX12_rented 151 = .ok (.if_icmp .ne 12, 3) := by decide +kernel
theorem dX12_rented_154 : decode cX12_rented 154 = .ok (.iconst 1, 1) := by decide +kernel
theorem dX12_rented_155 : decode cX12_rented 155 = .ok (.iload 6, 2) := by decide +kernel
theorem dX12_rented_157 : decode cX12_rented 157 = .ok (.iconst 1, 1) := by decide +kernel
theorem dX12_rented_158 : decode cX12_rented 158 = .ok (.isub, 1) := by decide +kernel
theorem dX12_rented_159 : decode cX12_rented 159 = .ok (.ishl, 1) := by decide +kernel
theorem dX12_rented_160 : decode cX12_rented 160 = .ok (.goto 4, 3) := by decide +kernel
theorem dX12_rented_163 : decode cX12_rented 163 = .ok (.iconst 0, 1) := by decide +kernel
theorem dX12_rented_164 : decode cX12_rented 164 = .ok (.ior, 1) := by decide +kernel
theorem dX12_rented_165 : decode cX12_rented 165 = .ok (.istore 5, 2) := by decide +kernel
theorem dX12_rented_167 : decode cX12_rented 167 = .ok (.iinc 6 1, 3) := by decide +kernel
theorem dX12_rented_170 : decode cX12_rented 170 = .ok (.goto (-86), 3) := by decide +kernel
theorem dX12_rented_173 : decode cX12_rented 173 = .ok (.aload_n 0, 1) := by decide +kernel
theorem dX12_rented_174 : decode cX12_rented 174 = .ok (.getfield 7, 3) := by decide +kernel
theorem dX12_rented_177 : decode cX12_rented 177 = .ok (.bipush 20, 2) := by decide +kernel
theorem dX12_rented_179 : decode cX12_rented 179 = .ok (.iload_n 1, 1) := by decide +kernel
theorem dX12_rented_180 : decode cX12_rented 180 = .ok (.iadd, 1) := by decide +kernel
theorem dX12_rented_181 : decode cX12_rented 181 = .ok (.iload 4, 2) := by decide +kernel
theorem dX12_rented_183 : decode cX12_rented 183 = .ok (.iastore, 1) := by decide +kernel
theorem dX12_rented_184 : decode cX12_rented 184 = .ok (.iload 5, 2) := by decide +kernel
theorem dX12_rented_186 : decode cX12_rented 186 = .ok (.ireturn, 1) := by decide +kernel
set_option maxRecDepth 20000 in
theorem ggX12_wind_X12_in : GoodIn wsX12_wind wsX12_in := goodIn_r _ [13] (by decide +kernel) (by decide +kernel)
set_option maxRecDepth 20000 in
theorem gX12_wind_X12_in : GoodIn wsX12_wind (va_wsS RX12 45 yX12_in wsX12_in) := goodIn_app (goodIn_of _ (by decide +kernel)) ggX12_wind_X12_in
set_option maxRecDepth 20000 in
theorem ggX12_wind_X12_isRope : GoodIn wsX12_wind wsX12_isRope := goodIn_r _ [17, 1, 10, 11, 12, 13, 41, 42, 43, 44, 45, 46, 47, 48, 49, 50, 51, 52, 53, 54, 55, 56, 57, 58, 59] (by decide +kernel) (by decide +kernel)
set_option maxRecDepth 20000 in
theorem gX12_wind_X12_isRope : GoodIn wsX12_wind (wsV RX12 146 RX12 yX12_isRope wsX12_isRope) := goodIn_app (goodIn_of _ (by decide +kernel)) ggX12_wind_X12_isRope
set_option maxRecDepth 20000 in
theorem ggX12_wind_X12_dropping : GoodIn wsX12_wind wsX12_dropping := goodIn_r _ [21, 1, 22, 23, 24, 12, 25, 26, 27, 28, 29, 30, 31, 32, 33, 14, 15, 16, 17, 10, 11, 13, 34, 35, 36, 37, 38, 39, 40, 41, 42, 43, 44, 45, 46, 47, 48, 49, 50, 51, 52, 53, 54, 55, 56, 57, 58, 59] (by decide +kernel) (by decide +kernel)
set_option maxRecDepth 20000 in
theorem gX12_wind_X12_dropping : GoodIn wsX12_wind (wsV RX12 167 RX12 yX12_dropping wsX12_dropping) := goodIn_app (goodIn_of _ (by decide +kernel)) ggX12_wind_X12_dropping
theorem dX12_wind_0 : decode cX12_wind 0 = .ok (.aload_n 0, 1) := by decide +kernel
theorem dX12_wind_1 : decode cX12_wind 1 = .ok (.getfield 7, 3) := by decide +kernel
theorem dX12_wind_4 : decode cX12_wind 4 = .ok (.iconst 4, 1) := by decide +kernel
theorem dX12_wind_5 : decode cX12_wind 5 = .ok (.iaload, 1) := by decide +kernel
theorem dX12_wind_6 : decode cX12_wind 6 = .ok (.ifCond .ne 6, 3) := by decide +kernel
theorem dX12_wind_9 : decode cX12_wind 9 = .ok (.ldc 132, 2) := by decide +kernel
theorem dX12_wind_11 : decode cX12_wind 11 = .ok (.ireturn, 1) := by decide +kernel
theorem dX12_wind_12 : decode cX12_wind 12 = .ok (.iload_n 1, 1) := by decide +kernel
theorem dX12_wind_13 : decode cX12_wind 13 = .ok (.i2l, 1) := by decide +kernel
theorem dX12_wind_14 : decode cX12_wind 14 = .ok (.lconst 0, 1) := by decide +kernel
theorem dX12_wind_15 : decode cX12_wind 15 = .ok (.ldc2_w 197, 3) := by decide +kernel
theorem dX12_wind_18 : decode cX12_wind 18 = .ok (.invokestatic 45, 3) := by decide +kernel
theorem dX12_wind_21 : decode cX12_wind 21 = .ok (.ifCond .eq 28, 3) := by decide +kernel
theorem dX12_wind_24 : decode cX12_wind 24 = .ok (.iload_n 2, 1) := by decide +kernel
theorem dX12_wind_25 : decode cX12_wind 25 = .ok (.i2l, 1) := by decide +kernel
theorem dX12_wind_26 : decode cX12_wind 26 = .ok (.lconst 1, 1) := by decide +kernel
theorem dX12_wind_27 : decode cX12_wind 27 = .ok (.ldc2_w 199, 3) := by decide +kernel
theorem dX12_wind_30 : decode cX12_wind 30 = .ok (.invokestatic 45, 3) := by decide +kernel
theorem dX12_wind_33 : decode cX12_wind 33 = .ok (.ifCond .eq 16, 3) := by decide +kernel
theorem dX12_wind_36 : decode cX12_wind 36 = .ok (.iload_n 3, 1) := by decide +kernel
theorem dX12_wind_37 : decode cX12_wind 37 = .ok (.iconst (-1), 1) := by decide +kernel
theorem dX12_wind_38 : decode cX12_wind 38 = .ok (.if_icmp .eq 14, 3) := by decide +kernel
theorem dX12_wind_41 : decode cX12_wind 41 = .ok (.aload_n 0, 1) := by decide +kernel
theorem dX12_wind_42 : decode cX12_wind 42 = .ok (.iload_n 3, 1) := by decide +kernel
theorem dX12_wind_43 : decode cX12_wind 43 = .ok (.invokevirtual 146, 3) := by decide +kernel
theorem dX12_wind_46 : decode cX12_wind 46 = .ok (.ifCond .ne 6, 3) := by decide +kernel
theorem dX12_wind_49 : decode cX12_wind 49 = .ok (.ldc 55, 2) := by decide +kernel
theorem dX12_wind_51 : decode cX12_wind 51 = .ok (.ireturn, 1) := by decide +kernel
theorem dX12_wind_52 : decode cX12_wind 52 = .ok (.iconst 0, 1) := by decide +kernel
theorem dX12_wind_53 : decode cX12_wind 53 = .ok (.istore 4, 2) := by decide +kernel
theorem dX12_wind_55 : decode cX12_wind 55 = .ok (.iload 4, 2) := by decide +kernel
theorem dX12_wind_57 : decode cX12_wind 57 = .ok (.iconst 3, 1) := by decide +kernel
theorem dX12_wind_58 : decode cX12_wind 58 = .ok (.if_icmp .ge 25, 3) := by decide +kernel
theorem dX12_wind_61 : decode cX12_wind 61 = .ok (.aload_n 0, 1) := by decide +kernel
theorem dX12_wind_62 : decode cX12_wind 62 = .ok (.getfield 26, 3) := by decide +kernel
theorem dX12_wind_65 : decode cX12_wind 65 = .ok (.iload 4, 2) := by decide +kernel
theorem dX12_wind_67 : decode cX12_wind 67 = .ok (.aload_n 0, 1) := by decide +kernel
theorem dX12_wind_68 : decode cX12_wind 68 = .ok (.getfield 7, 3) := by decide +kernel
theorem dX12_wind_71 : decode cX12_wind 71 = .ok (.iconst 5, 1) := by decide +kernel
theorem dX12_wind_72 : decode cX12_wind 72 = .ok (.iload 4, 2) := by decide +kernel
theorem dX12_wind_74 : decode cX12_wind 74 = .ok (.iadd, 1) := by decide +kernel
theorem dX12_wind_75 : decode cX12_wind 75 = .ok (.iaload, 1) := by decide +kernel
theorem dX12_wind_76 : decode cX12_wind 76 = .ok (.iastore, 1) := by decide +kernel
theorem dX12_wind_77 : decode cX12_wind 77 = .ok (.iinc 4 1, 3) := by decide +kernel
theorem dX12_wind_80 : decode cX12_wind 80 = .ok (.goto (-25), 3) := by decide +kernel
theorem dX12_wind_83 : decode cX12_wind 83 = .ok (.iload_n 2, 1) := by decide +kernel
theorem dX12_wind_84 : decode cX12_wind 84 = .ok (.i2l, 1) := by decide +kernel
theorem dX12_wind_85 : decode cX12_wind 85 = .ok (.lstore 4, 2) := by decide +kernel
theorem dX12_wind_87 : decode cX12_wind 87 = .ok (.iconst 0, 1) := by decide +kernel
theorem dX12_wind_88 : decode cX12_wind 88 = .ok (.istore 6, 2) := by decide +kernel
theorem dX12_wind_90 : decode cX12_wind 90 = .ok (.iconst 0, 1) := by decide +kernel
theorem dX12_wind_91 : decode cX12_wind 91 = .ok (.istore 7, 2) := by decide +kernel
theorem dX12_wind_93 : decode cX12_wind 93 = .ok (.iload 7, 2) := by decide +kernel
theorem dX12_wind_95 : decode cX12_wind 95 = .ok (.iload_n 1, 1) := by decide +kernel
theorem dX12_wind_96 : decode cX12_wind 96 = .ok (.if_icmp .ge 99, 3) := by decide +kernel
theorem dX12_wind_99 : decode cX12_wind 99 = .ok (.iconst 0, 1) := by decide +kernel
theorem dX12_wind_100 : decode cX12_wind 100 = .ok (.istore 8, 2) := by decide +kernel
theorem dX12_wind_102 : decode cX12_wind 102 = .ok (.iload 8, 2) := by decide +kernel
theorem dX12_wind_104 : decode cX12_wind 104 = .ok (.aload_n 0, 1) := by decide +kernel
theorem dX12_wind_105 : decode cX12_wind 105 = .ok (.getfield 7, 3) := by decide +kernel
theorem dX12_wind_108 : decode cX12_wind 108 = .ok (.iconst 2, 1) := by decide +kernel
theorem dX12_wind_109 : decode cX12_wind 109 = .ok (.iaload, 1) := by decide +kernel
theorem dX12_wind_110 : decode cX12_wind 110 = .ok (.if_icmp .ge 62, 3) := by decide +kernel
theorem dX12_wind_113 : decode cX12_wind 113 = .ok (.lload 4, 2) := by decide +kernel
theorem dX12_wind_115 : decode cX12_wind 115 = .ok (.ldc2_w 201, 3) := by decide +kernel
theorem dX12_wind_118 : decode cX12_wind 118 = .ok (.lmul, 1) := by decide +kernel
theorem dX12_wind_119 : decode cX12_wind 119 = .ok (.ldc2_w 203, 3) := by decide +kernel
theorem dX12_wind_122 : decode cX12_wind 122 = .ok (.lrem, 1) := by decide +kernel
theorem dX12_wind_123 : decode cX12_wind 123 = .ok (.lstore 4, 2) := by decide +kernel
theorem dX12_wind_125 : decode cX12_wind 125 = .ok (.aload_n 0, 1) := by decide +kernel
theorem dX12_wind_126 : decode cX12_wind 126 = .ok (.getfield 7, 3) := by decide +kernel
theorem dX12_wind_129 : decode cX12_wind 129 = .ok (.iconst 5, 1) := by decide +kernel
theorem dX12_wind_130 : decode cX12_wind 130 = .ok (.iload 8, 2) := by decide +kernel
theorem dX12_wind_132 : decode cX12_wind 132 = .ok (.iadd, 1) := by decide +kernel
theorem dX12_wind_133 : decode cX12_wind 133 = .ok (.dup2, 1) := by decide +kernel
theorem dX12_wind_134 : decode cX12_wind 134 = .ok (.iaload, 1) := by decide +kernel
theorem dX12_wind_135 : decode cX12_wind 135 = .ok (.lload 4, 2) := by decide +kernel
theorem dX12_wind_137 : decode cX12_wind 137 = .ok (.ldc2_w 136, 3) := by decide +kernel
theorem dX12_wind_140 : decode cX12_wind 140 = .ok (.lrem, 1) := by decide +kernel
theorem dX12_wind_141 : decode cX12_wind 141 = .ok (.lconst 0, 1) := by decide +kernel
theorem dX12_wind_142 : decode cX12_wind 142 = .ok (.lcmp, 1) := by decide +kernel
theorem dX12_wind_143 : decode cX12_wind 143 = .ok (.ifCond .ne 20, 3) := by decide +kernel
theorem dX12_wind_146 : decode cX12_wind 146 = .ok (.aload_n 0, 1) := by decide +kernel
theorem dX12_wind_147 : decode cX12_wind 147 = .ok (.getfield 7, 3) := by decide +kernel
theorem dX12_wind_150 : decode cX12_wind 150 = .ok (.iconst 5, 1) := by decide +kernel
theorem dX12_wind_151 : decode cX12_wind 151 = .ok (.iload 8, 2) := by decide +kernel
theorem dX12_wind_153 : decode cX12_wind 153 = .ok (.iadd, 1) := by decide +kernel
theorem dX12_wind_154 : decode cX12_wind 154 = .ok (.iaload, 1) := by decide +kernel
theorem dX12_wind_155 : decode cX12_wind 155 = .ok (.iconst 1, 1) := by decide +kernel
theorem dX12_wind_156 : decode cX12_wind 156 = .ok (.if_icmp .le 7, 3) := by decide +kernel
theorem dX12_wind_159 : decode cX12_wind 159 = .ok (.iconst 1, 1) := by decide +kernel
theorem dX12_wind_160 : decode cX12_wind 160 = .ok (.goto 4, 3) := by decide +kernel
theorem dX12_wind_163 : decode cX12_wind 163 = .ok (.iconst 0, 1) := by decide +kernel
theorem dX12_wind_164 : decode cX12_wind 164 = .ok (.isub, 1) := by decide +kernel
theorem dX12_wind_165 : decode cX12_wind 165 = .ok (.iastore, 1) := by decide +kernel
theorem dX12_wind_166 : decode cX12_wind 166 = .ok (.iinc 8 1, 3) := by decide +kernel
theorem dX12_wind_169 : decode cX12_wind 169 = .ok (.goto (-67), 3) := by decide +kernel
theorem dX12_wind_172 : decode cX12_wind 172 = .ok (.iload 6, 2) := by decide +kernel
theorem dX12_wind_174 : decode cX12_wind 174 = .ok (.aload_n 0, 1) := by decide +kernel
theorem dX12_wind_175 : decode cX12_wind 175 = .ok (.invokevirtual 167, 3) := by decide +kernel
theorem dX12_wind_178 : decode cX12_wind 178 = .ok (.ifCond .ne 7, 3) := by decide +kernel
theorem dX12_wind_181 : decode cX12_wind 181 = .ok (.iconst 1, 1) := by decide +kernel
theorem dX12_wind_182 : decode cX12_wind 182 = .ok (.goto 4, 3) := by decide +kernel
theorem dX12_wind_185 : decode cX12_wind 185 = .ok (.iconst 0, 1) := by decide +kernel
theorem dX12_wind_186 : decode cX12_wind 186 = .ok (.iadd, 1) := by decide +kernel
theorem dX12_wind_187 : decode cX12_wind 187 = .ok (.istore 6, 2) := by decide +kernel
theorem dX12_wind_189 : decode cX12_wind 189 = .ok (.iinc 7 1, 3) := by decide +kernel
theorem dX12_wind_192 : decode cX12_wind 192 = .ok (.goto (-99), 3) := by decide +kernel
theorem dX12_wind_195 : decode cX12_wind 195 = .ok (.iload_n 3, 1) := by decide +kernel
theorem dX12_wind_196 : decode cX12_wind 196 = .ok (.ifCond .ge 8, 3) := by decide +kernel
theorem dX12_wind_199 : decode cX12_wind 199 = .ok (.iload 6, 2) := by decide +kernel
theorem dX12_wind_201 : decode cX12_wind 201 = .ok (.goto 11, 3) := by decide +kernel
theorem dX12_wind_204 : decode cX12_wind 204 = .ok (.aload_n 0, 1) := by decide +kernel
theorem dX12_wind_205 : decode cX12_wind 205 = .ok (.getfield 7, 3) := by decide +kernel
theorem dX12_wind_208 : decode cX12_wind 208 = .ok (.iconst 5, 1) := by decide +kernel
theorem dX12_wind_209 : decode cX12_wind 209 = .ok (.iload_n 3, 1) := by decide +kernel
theorem dX12_wind_210 : decode cX12_wind 210 = .ok (.iadd, 1) := by decide +kernel
theorem dX12_wind_211 : decode cX12_wind 211 = .ok (.iaload, 1) := by decide +kernel
theorem dX12_wind_212 : decode cX12_wind 212 = .ok (.istore 7, 2) := by decide +kernel
theorem dX12_wind_214 : decode cX12_wind 214 = .ok (.iconst 0, 1) := by decide +kernel
theorem dX12_wind_215 : decode cX12_wind 215 = .ok (.istore 8, 2) := by decide +kernel
theorem dX12_wind_217 : decode cX12_wind 217 = .ok (.iload 8, 2) := by decide +kernel
theorem dX12_wind_219 : decode cX12_wind 219 = .ok (.iconst 3, 1) := by decide +kernel
theorem dX12_wind_220 : decode cX12_wind 220 = .ok (.if_icmp .ge 25, 3) := by decide +kernel
theorem dX12_wind_223 : decode cX12_wind 223 = .ok (.aload_n 0, 1) := by decide +kernel
theorem dX12_wind_224 : decode cX12_wind 224 = .ok (.getfield 7, 3) := by decide +kernel
theorem dX12_wind_227 : decode cX12_wind 227 = .ok (.iconst 5, 1) := by decide +kernel
theorem dX12_wind_228 : decode cX12_wind 228 = .ok (.iload 8, 2) := by decide +kernel
theorem dX12_wind_230 : decode cX12_wind 230 = .ok (.iadd, 1) := by decide +kernel
theorem dX12_wind_231 : decode cX12_wind 231 = .ok (.aload_n 0, 1) := by decide +kernel
theorem dX12_wind_232 : decode cX12_wind 232 = .ok (.getfield 26, 3) := by decide +kernel
theorem dX12_wind_235 : decode cX12_wind 235 = .ok (.iload 8, 2) := by decide +kernel
theorem dX12_wind_237 : decode cX12_wind 237 = .ok (.iaload, 1) := by decide +kernel
theorem dX12_wind_238 : decode cX12_wind 238 = .ok (.iastore, 1) := by decide +kernel
theorem dX12_wind_239 : decode cX12_wind 239 = .ok (.iinc 8 1, 3) := by decide +kernel
theorem dX12_wind_242 : decode cX12_wind 242 = .ok (.goto (-25), 3) := by decide +kernel
theorem dX12_wind_245 : decode cX12_wind 245 = .ok (.iload 7, 2) := by decide +kernel
theorem dX12_wind_247 : decode cX12_wind 247 = .ok (.ireturn, 1) := by decide +kernel
set_option maxRecDepth 20000 in
theorem ggX12_image_X12_in : GoodIn wsX12_image wsX12_in := goodIn_r _ [8] (by decide +kernel) (by decide +kernel)
set_option maxRecDepth 20000 in
theorem gX12_image_X12_in : GoodIn wsX12_image (va_wsS RX12 45 yX12_in wsX12_in) := goodIn_app (goodIn_of _ (by decide +kernel)) ggX12_image_X12_in
theorem dX12_image_0 : decode cX12_image 0 = .ok (.iload_n 1, 1) := by decide +kernel
theorem dX12_image_1 : decode cX12_image 1 = .ok (.i2l, 1) := by decide +kernel
theorem dX12_image_2 : decode cX12_image 2 = .ok (.lconst 0, 1) := by decide +kernel
theorem dX12_image_3 : decode cX12_image 3 = .ok (.lconst 1, 1) := by decide +kernel
theorem dX12_image_4 : decode cX12_image 4 = .ok (.invokestatic 45, 3) := by decide +kernel
theorem dX12_image_7 : decode cX12_image 7 = .ok (.ifCond .ne 6, 3) := by decide +kernel
theorem dX12_image_10 : decode cX12_image 10 = .ok (.ldc 55, 2) := by decide +kernel
theorem dX12_image_12 : decode cX12_image 12 = .ok (.ireturn, 1) := by decide +kernel
theorem dX12_image_13 : decode cX12_image 13 = .ok (.aload_n 0, 1) := by decide +kernel
theorem dX12_image_14 : decode cX12_image 14 = .ok (.getfield 7, 3) := by decide +kernel
theorem dX12_image_17 : decode cX12_image 17 = .ok (.iconst 4, 1) := by decide +kernel
theorem dX12_image_18 : decode cX12_image 18 = .ok (.iaload, 1) := by decide +kernel
theorem dX12_image_19 : decode cX12_image 19 = .ok (.ifCond .ne 6, 3) := by decide +kernel
theorem dX12_image_22 : decode cX12_image 22 = .ok (.ldc 132, 2) := by decide +kernel
theorem dX12_image_24 : decode cX12_image 24 = .ok (.ireturn, 1) := by decide +kernel
theorem dX12_image_25 : decode cX12_image 25 = .ok (.iconst 0, 1) := by decide +kernel
theorem dX12_image_26 : decode cX12_image 26 = .ok (.istore_n 2, 1) := by decide +kernel
theorem dX12_image_27 : decode cX12_image 27 = .ok (.iload_n 2, 1) := by decide +kernel
theorem dX12_image_28 : decode cX12_image 28 = .ok (.bipush 50, 2) := by decide +kernel
theorem dX12_image_30 : decode cX12_image 30 = .ok (.if_icmp .ge 28, 3) := by decide +kernel
theorem dX12_image_33 : decode cX12_image 33 = .ok (.aload_n 0, 1) := by decide +kernel
theorem dX12_image_34 : decode cX12_image 34 = .ok (.getfield 7, 3) := by decide +kernel
theorem dX12_image_37 : decode cX12_image 37 = .ok (.bipush 50, 2) := by decide +kernel
theorem dX12_image_39 : decode cX12_image 39 = .ok (.iload_n 1, 1) := by decide +kernel
theorem dX12_image_40 : decode cX12_image 40 = .ok (.iconst 1, 1) := by decide +kernel
theorem dX12_image_41 : decode cX12_image 41 = .ok (.iadd, 1) := by decide +kernel
theorem dX12_image_42 : decode cX12_image 42 = .ok (.imul, 1) := by decide +kernel
theorem dX12_image_43 : decode cX12_image 43 = .ok (.iload_n 2, 1) := by decide +kernel
theorem dX12_image_44 : decode cX12_image 44 = .ok (.iadd, 1) := by decide +kernel
theorem dX12_image_45 : decode cX12_image 45 = .ok (.aload_n 0, 1) := by decide +kernel
theorem dX12_image_46 : decode cX12_image 46 = .ok (.getfield 7, 3) := by decide +kernel
theorem dX12_image_49 : decode cX12_image 49 = .ok (.iload_n 2, 1) := by decide +kernel
theorem dX12_image_50 : decode cX12_image 50 = .ok (.iaload, 1) := by decide +kernel
theorem dX12_image_51 : decode cX12_image 51 = .ok (.iastore, 1) := by decide +kernel
theorem dX12_image_52 : decode cX12_image 52 = .ok (.iinc 2 1, 3) := by decide +kernel
theorem dX12_image_55 : decode cX12_image 55 = .ok (.goto (-28), 3) := by decide +kernel
theorem dX12_image_58 : decode cX12_image 58 = .ok (.aload_n 0, 1) := by decide +kernel
theorem dX12_image_59 : decode cX12_image 59 = .ok (.getfield 13, 3) := by decide +kernel
theorem dX12_image_62 : decode cX12_image 62 = .ok (.iload_n 1, 1) := by decide +kernel
theorem dX12_image_63 : decode cX12_image 63 = .ok (.iconst 1, 1) := by decide +kernel
theorem dX12_image_64 : decode cX12_image 64 = .ok (.bastore, 1) := by decide +kernel
theorem dX12_image_65 : decode cX12_image 65 = .ok (.iconst 1, 1) := by decide +kernel
theorem dX12_image_66 : decode cX12_image 66 = .ok (.ireturn, 1) := by decide +kernel
set_option maxRecDepth 20000 in
theorem ggX12_restore_X12_in : GoodIn wsX12_restore wsX12_in := goodIn_r _ [9] (by decide +kernel) (by decide +kernel)
set_option maxRecDepth 20000 in
theorem gX12_restore_X12_in : GoodIn wsX12_restore (va_wsS RX12 45 yX12_in wsX12_in) := goodIn_app (goodIn_of _ (by decide +kernel)) ggX12_restore_X12_in
theorem dX12_restore_0 : decode cX12_restore 0 = .ok (.iload_n 1, 1) := by decide +kernel
theorem dX12_restore_1 : decode cX12_restore 1 = .ok (.i2l, 1) := by decide +kernel
theorem dX12_restore_2 : decode cX12_restore 2 = .ok (.lconst 0, 1) := by decide +kernel
theorem dX12_restore_3 : decode cX12_restore 3 = .ok (.lconst 1, 1) := by decide +kernel
theorem dX12_restore_4 : decode cX12_restore 4 = .ok (.invokestatic 45, 3) := by decide +kernel
theorem dX12_restore_7 : decode cX12_restore 7 = .ok (.ifCond .ne 6, 3) := by decide +kernel
theorem dX12_restore_10 : decode cX12_restore 10 = .ok (.ldc 55, 2) := by decide +kernel
theorem dX12_restore_12 : decode cX12_restore 12 = .ok (.ireturn, 1) := by decide +kernel
theorem dX12_restore_13 : decode cX12_restore 13 = .ok (.aload_n 0, 1) := by decide +kernel
theorem dX12_restore_14 : decode cX12_restore 14 = .ok (.getfield 13, 3) := by decide +kernel
theorem dX12_restore_17 : decode cX12_restore 17 = .ok (.iload_n 1, 1) := by decide +kernel
theorem dX12_restore_18 : decode cX12_restore 18 = .ok (.baload, 1) := by decide +kernel
theorem dX12_restore_19 : decode cX12_restore 19 = .ok (.ifCond .ne 6, 3) := by decide +kernel
theorem dX12_restore_22 : decode cX12_restore 22 = .ok (.ldc 132, 2) := by decide +kernel
theorem dX12_restore_24 : decode cX12_restore 24 = .ok (.ireturn, 1) := by decide +kernel
theorem dX12_restore_25 : decode cX12_restore 25 = .ok (.iconst 0, 1) := by decide +kernel
theorem dX12_restore_26 : decode cX12_restore 26 = .ok (.istore_n 2, 1) := by decide +kernel
theorem dX12_restore_27 : decode cX12_restore 27 = .ok (.iload_n 2, 1) := by decide +kernel
theorem dX12_restore_28 : decode cX12_restore 28 = .ok (.bipush 50, 2) := by decide +kernel
theorem dX12_restore_30 : decode cX12_restore 30 = .ok (.if_icmp .ge 28, 3) := by decide +kernel
theorem dX12_restore_33 : decode cX12_restore 33 = .ok (.aload_n 0, 1) := by decide +kernel
theorem dX12_restore_34 : decode cX12_restore 34 = .ok (.getfield 7, 3) := by decide +kernel
theorem dX12_restore_37 : decode cX12_restore 37 = .ok (.iload_n 2, 1) := by decide +kernel
theorem dX12_restore_38 : decode cX12_restore 38 = .ok (.aload_n 0, 1) := by decide +kernel
theorem dX12_restore_39 : decode cX12_restore 39 = .ok (.getfield 7, 3) := by decide +kernel
theorem dX12_restore_42 : decode cX12_restore 42 = .ok (.bipush 50, 2) := by decide +kernel
theorem dX12_restore_44 : decode cX12_restore 44 = .ok (.iload_n 1, 1) := by decide +kernel
theorem dX12_restore_45 : decode cX12_restore 45 = .ok (.iconst 1, 1) := by decide +kernel
theorem dX12_restore_46 : decode cX12_restore 46 = .ok (.iadd, 1) := by decide +kernel
theorem dX12_restore_47 : decode cX12_restore 47 = .ok (.imul, 1) := by decide +kernel
theorem dX12_restore_48 : decode cX12_restore 48 = .ok (.iload_n 2, 1) := by decide +kernel
theorem dX12_restore_49 : decode cX12_restore 49 = .ok (.iadd, 1) := by decide +kernel
theorem dX12_restore_50 : decode cX12_restore 50 = .ok (.iaload, 1) := by decide +kernel
theorem dX12_restore_51 : decode cX12_restore 51 = .ok (.iastore, 1) := by decide +kernel
theorem dX12_restore_52 : decode cX12_restore 52 = .ok (.iinc 2 1, 3) := by decide +kernel
theorem dX12_restore_55 : decode cX12_restore 55 = .ok (.goto (-28), 3) := by decide +kernel
theorem dX12_restore_58 : decode cX12_restore 58 = .ok (.aload_n 0, 1) := by decide +kernel
theorem dX12_restore_59 : decode cX12_restore 59 = .ok (.iconst 0, 1) := by decide +kernel
theorem dX12_restore_60 : decode cX12_restore 60 = .ok (.putfield 129, 3) := by decide +kernel
theorem dX12_restore_63 : decode cX12_restore 63 = .ok (.iconst 1, 1) := by decide +kernel
theorem dX12_restore_64 : decode cX12_restore 64 = .ok (.ireturn, 1) := by decide +kernel
theorem dX12_leaves_0 : decode cX12_leaves 0 = .ok (.aload_n 0, 1) := by decide +kernel
theorem dX12_leaves_1 : decode cX12_leaves 1 = .ok (.getfield 205, 3) := by decide +kernel
theorem dX12_leaves_4 : decode cX12_leaves 4 = .ok (.bipush 16, 2) := by decide +kernel
theorem dX12_leaves_6 : decode cX12_leaves 6 = .ok (.if_icmp .ge 23, 3) := by decide +kernel
theorem dX12_leaves_9 : decode cX12_leaves 9 = .ok (.aload_n 0, 1) := by decide +kernel
theorem dX12_leaves_10 : decode cX12_leaves 10 = .ok (.getfield 35, 3) := by decide +kernel
theorem dX12_leaves_13 : decode cX12_leaves 13 = .ok (.aload_n 0, 1) := by decide +kernel
theorem dX12_leaves_14 : decode cX12_leaves 14 = .ok (.getfield 205, 3) := by decide +kernel
theorem dX12_leaves_17 : decode cX12_leaves 17 = .ok (.iload_n 1, 1) := by decide +kernel
theorem dX12_leaves_18 : decode cX12_leaves 18 = .ok (.iastore, 1) := by decide +kernel
theorem dX12_leaves_19 : decode cX12_leaves 19 = .ok (.aload_n 0, 1) := by decide +kernel
theorem dX12_leaves_20 : decode cX12_leaves 20 = .ok (.dup, 1) := by decide +kernel
theorem dX12_leaves_21 : decode cX12_leaves 21 = .ok (.getfield 205, 3) := by decide +kernel
theorem dX12_leaves_24 : decode cX12_leaves 24 = .ok (.iconst 1, 1) := by decide +kernel
theorem dX12_leaves_25 : decode cX12_leaves 25 = .ok (.iadd, 1) := by decide +kernel
theorem dX12_leaves_26 : decode cX12_leaves 26 = .ok (.putfield 205, 3) := by decide +kernel
theorem dX12_leaves_29 : decode cX12_leaves 29 = .ok (.return_, 1) := by decide +kernel
set_option maxRecDepth 20000 in
theorem ggX12_kind_X12_isStall : GoodIn wsX12_kind wsX12_isStall := goodIn_r _ [7, 1, 8, 9, 6, 10, 11, 12, 13, 14, 15, 16, 17, 18, 19, 20, 21, 22, 23, 24, 25, 26, 27, 28, 29] (by decide +kernel) (by decide +kernel)
set_option maxRecDepth 20000 in
theorem gX12_kind_X12_isStall : GoodIn wsX12_kind (wsV RX12 133 RX12 yX12_isStall wsX12_isStall) := goodIn_app (goodIn_of _ (by decide +kernel)) ggX12_kind_X12_isStall
theorem dX12_kind_0 : decode cX12_kind 0 = .ok (.aload_n 0, 1) := by decide +kernel
theorem dX12_kind_1 : decode cX12_kind 1 = .ok (.iload_n 1, 1) := by decide +kernel
theorem dX12_kind_2 : decode cX12_kind 2 = .ok (.invokevirtual 133, 3) := by decide +kernel
theorem dX12_kind_5 : decode cX12_kind 5 = .ok (.ifCond .eq 15, 3) := by decide +kernel
theorem dX12_kind_8 : decode cX12_kind 8 = .ok (.aload_n 0, 1) := by decide +kernel
theorem dX12_kind_9 : decode cX12_kind 9 = .ok (.getfield 7, 3) := by decide +kernel
theorem dX12_kind_12 : decode cX12_kind 12 = .ok (.bipush 8, 2) := by decide +kernel
theorem dX12_kind_14 : decode cX12_kind 14 = .ok (.iload_n 1, 1) := by decide +kernel
theorem dX12_kind_15 : decode cX12_kind 15 = .ok (.iadd, 1) := by decide +kernel
theorem dX12_kind_16 : decode cX12_kind 16 = .ok (.iaload, 1) := by decide +kernel
theorem dX12_kind_17 : decode cX12_kind 17 = .ok (.goto 5, 3) := by decide +kernel
theorem dX12_kind_20 : decode cX12_kind 20 = .ok (.ldc 55, 2) := by decide +kernel
theorem dX12_kind_22 : decode cX12_kind 22 = .ok (.ireturn, 1) := by decide +kernel
theorem dX12_isOf_0 : decode cX12_isOf 0 = .ok (.iload_n 1, 1) := by decide +kernel
theorem dX12_isOf_1 : decode cX12_isOf 1 = .ok (.ifCond .eq 28, 3) := by decide +kernel
theorem dX12_isOf_4 : decode cX12_isOf 4 = .ok (.iload_n 1, 1) := by decide +kernel
theorem dX12_isOf_5 : decode cX12_isOf 5 = .ok (.iload_n 0, 1) := by decide +kernel
theorem dX12_isOf_6 : decode cX12_isOf 6 = .ok (.if_icmp .eq 23, 3) := by decide +kernel
theorem dX12_isOf_9 : decode cX12_isOf 9 = .ok (.iload_n 1, 1) := by decide +kernel
theorem dX12_isOf_10 : decode cX12_isOf 10 = .ok (.iconst 1, 1) := by decide +kernel
theorem dX12_isOf_11 : decode cX12_isOf 11 = .ok (.if_icmp .ne 8, 3) := by decide +kernel
theorem dX12_isOf_14 : decode cX12_isOf 14 = .ok (.iload_n 0, 1) := by decide +kernel
theorem dX12_isOf_15 : decode cX12_isOf 15 = .ok (.iconst 3, 1) := by decide +kernel
theorem dX12_isOf_16 : decode cX12_isOf 16 = .ok (.if_icmp .le 13, 3) := by decide +kernel
theorem dX12_isOf_19 : decode cX12_isOf 19 = .ok (.iload_n 1, 1) := by decide +kernel
theorem dX12_isOf_20 : decode cX12_isOf 20 = .ok (.iconst 4, 1) := by decide +kernel
theorem dX12_isOf_21 : decode cX12_isOf 21 = .ok (.if_icmp .ne 12, 3) := by decide +kernel
theorem dX12_isOf_24 : decode cX12_isOf 24 = .ok (.iload_n 0, 1) := by decide +kernel
theorem dX12_isOf_25 : decode cX12_isOf 25 = .ok (.iconst 5, 1) := by decide +kernel
theorem dX12_isOf_26 : decode cX12_isOf 26 = .ok (.if_icmp .ne 7, 3) := by decide +kernel
theorem dX12_isOf_29 : decode cX12_isOf 29 = .ok (.iconst 1, 1) := by decide +kernel
theorem dX12_isOf_30 : decode cX12_isOf 30 = .ok (.goto 4, 3) := by decide +kernel
theorem dX12_isOf_33 : decode cX12_isOf 33 = .ok (.iconst 0, 1) := by decide +kernel
theorem dX12_isOf_34 : decode cX12_isOf 34 = .ok (.ireturn, 1) := by decide +kernel
set_option maxRecDepth 20000 in
theorem ggX12_as_X12_isStall : GoodIn wsX12_as wsX12_isStall := goodIn_r _ [8, 3, 9, 10, 7, 11, 25, 26, 27, 28, 29, 30, 31, 32, 33, 34, 35, 36, 37, 38, 39, 40, 41, 42, 43] (by decide +kernel) (by decide +kernel)
set_option maxRecDepth 20000 in
theorem gX12_as_X12_isStall : GoodIn wsX12_as (wsV RX12 133 RX12 yX12_isStall wsX12_isStall) := goodIn_app (goodIn_of _ (by decide +kernel)) ggX12_as_X12_isStall
set_option maxRecDepth 20000 in
theorem ggX12_as_X12_in : GoodIn wsX12_as wsX12_in := goodIn_r _ [11] (by decide +kernel) (by decide +kernel)
set_option maxRecDepth 20000 in
theorem gX12_as_X12_in : GoodIn wsX12_as (va_wsS RX12 45 yX12_in wsX12_in) := goodIn_app (goodIn_of _ (by decide +kernel)) ggX12_as_X12_in
set_option maxRecDepth 20000 in
theorem ggX12_as_X12_isOf : GoodIn wsX12_as wsX12_isOf := goodIn_r _ [14] (by decide +kernel) (by decide +kernel)
set_option maxRecDepth 20000 in
theorem gX12_as_X12_isOf : GoodIn wsX12_as (va_wsS RX12 208 yX12_isOf wsX12_isOf) := goodIn_app (goodIn_of _ (by decide +kernel)) ggX12_as_X12_isOf
set_option maxRecDepth 20000 in
theorem ggX12_as_X12_well : GoodIn wsX12_as wsX12_well := goodIn_r _ [18, 19, 25, 26, 27, 28, 29, 30, 31, 32, 33, 34, 35, 36, 37, 38, 39, 40, 41, 42, 43] (by decide +kernel) (by decide +kernel)
set_option maxRecDepth 20000 in
theorem gX12_as_X12_well : GoodIn wsX12_as (wsV RX12 60 RX12 yX12_well wsX12_well) := goodIn_app (goodIn_of _ (by decide +kernel)) ggX12_as_X12_well
set_option maxRecDepth 20000 in
theorem ggX12_as_X12_found : GoodIn wsX12_as wsX12_found := goodIn_r _ [23, 19, 24, 25, 26, 27, 28, 29, 30, 31, 32, 33, 34, 35, 36, 37, 38, 39, 40, 41, 42, 43] (by decide +kernel) (by decide +kernel)
set_option maxRecDepth 20000 in
theorem gX12_as_X12_found : GoodIn wsX12_as (wsV RX12 56 RX12 yX12_found wsX12_found) := goodIn_app (goodIn_of _ (by decide +kernel)) ggX12_as_X12_found
theorem dX12_as_0 : decode cX12_as 0 = .ok (.aload_n 0, 1) := by decide +kernel
theorem dX12_as_1 : decode cX12_as 1 = .ok (.iload_n 1, 1) := by decide +kernel
theorem dX12_as_2 : decode cX12_as 2 = .ok (.invokevirtual 133, 3) := by decide +kernel
theorem dX12_as_5 : decode cX12_as 5 = .ok (.ifCond .eq 15, 3) := by decide +kernel
theorem dX12_as_8 : decode cX12_as 8 = .ok (.iload_n 2, 1) := by decide +kernel
theorem dX12_as_9 : decode cX12_as 9 = .ok (.i2l, 1) := by decide +kernel
theorem dX12_as_10 : decode cX12_as 10 = .ok (.lconst 0, 1) := by decide +kernel
theorem dX12_as_11 : decode cX12_as 11 = .ok (.ldc2_w 185, 3) := by decide +kernel
theorem dX12_as_14 : decode cX12_as 14 = .ok (.invokestatic 45, 3) := by decide +kernel
theorem dX12_as_17 : decode cX12_as 17 = .ok (.ifCond .ne 6, 3) := by decide +kernel
theorem dX12_as_20 : decode cX12_as 20 = .ok (.ldc 55, 2) := by decide +kernel
theorem dX12_as_22 : decode cX12_as 22 = .ok (.ireturn, 1) := by decide +kernel
theorem dX12_as_23 : decode cX12_as 23 = .ok (.aload_n 0, 1) := by decide +kernel
theorem dX12_as_24 : decode cX12_as 24 = .ok (.getfield 7, 3) := by decide +kernel
theorem dX12_as_27 : decode cX12_as 27 = .ok (.bipush 8, 2) := by decide +kernel
theorem dX12_as_29 : decode cX12_as 29 = .ok (.iload_n 1, 1) := by decide +kernel
theorem dX12_as_30 : decode cX12_as 30 = .ok (.iadd, 1) := by decide +kernel
theorem dX12_as_31 : decode cX12_as 31 = .ok (.iaload, 1) := by decide +kernel
theorem dX12_as_32 : decode cX12_as 32 = .ok (.iload_n 2, 1) := by decide +kernel
theorem dX12_as_33 : decode cX12_as 33 = .ok (.invokestatic 208, 3) := by decide +kernel
theorem dX12_as_36 : decode cX12_as 36 = .ok (.ifCond .eq 11, 3) := by decide +kernel
theorem dX12_as_39 : decode cX12_as 39 = .ok (.aload_n 0, 1) := by decide +kernel
theorem dX12_as_40 : decode cX12_as 40 = .ok (.iload_n 1, 1) := by decide +kernel
theorem dX12_as_41 : decode cX12_as 41 = .ok (.invokevirtual 60, 3) := by decide +kernel
theorem dX12_as_44 : decode cX12_as 44 = .ok (.goto 8, 3) := by decide +kernel
theorem dX12_as_47 : decode cX12_as 47 = .ok (.aload_n 0, 1) := by decide +kernel
theorem dX12_as_48 : decode cX12_as 48 = .ok (.iconst 3, 1) := by decide +kernel
theorem dX12_as_49 : decode cX12_as 49 = .ok (.invokevirtual 56, 3) := by decide +kernel
theorem dX12_as_52 : decode cX12_as 52 = .ok (.ireturn, 1) := by decide +kernel
set_option maxRecDepth 20000 in
theorem ggX12_bareSize_X12_leaves : GoodIn wsX12_bareSize wsX12_leaves := goodIn_r _ [6, 7, 8, 9, 10, 11, 12, 13, 14, 15, 16, 17, 18, 19, 20, 21, 22, 23, 24, 25, 26, 27] (by decide +kernel) (by decide +kernel)
set_option maxRecDepth 20000 in
theorem gX12_bareSize_X12_leaves : GoodIn wsX12_bareSize (wsV RX12 211 RX12 yX12_leaves wsX12_leaves) := goodIn_app (goodIn_of _ (by decide +kernel)) ggX12_bareSize_X12_leaves
theorem dX12_bareSize_0 : decode cX12_bareSize 0 = .ok (.aload_n 0, 1) := by decide +kernel
theorem dX12_bareSize_1 : decode cX12_bareSize 1 = .ok (.bipush 10, 2) := by decide +kernel
theorem dX12_bareSize_3 : decode cX12_bareSize 3 = .ok (.invokevirtual 211, 3) := by decide +kernel
theorem dX12_bareSize_6 : decode cX12_bareSize 6 = .ok (.aload_n 0, 1) := by decide +kernel
theorem dX12_bareSize_7 : decode cX12_bareSize 7 = .ok (.getfield 7, 3) := by decide +kernel
theorem dX12_bareSize_10 : decode cX12_bareSize 10 = .ok (.bipush 26, 2) := by decide +kernel
theorem dX12_bareSize_12 : decode cX12_bareSize 12 = .ok (.iload_n 1, 1) := by decide +kernel
theorem dX12_bareSize_13 : decode cX12_bareSize 13 = .ok (.iadd, 1) := by decide +kernel
theorem dX12_bareSize_14 : decode cX12_bareSize 14 = .ok (.iaload, 1) := by decide +kernel
theorem dX12_bareSize_15 : decode cX12_bareSize 15 = .ok (.ireturn, 1) := by decide +kernel
set_option maxRecDepth 20000 in
theorem ggX12_bareMark_X12_leaves : GoodIn wsX12_bareMark wsX12_leaves := goodIn_r _ [5, 6, 7, 8, 9, 10, 11, 12, 13, 14, 15, 16, 17, 18, 19, 20, 21, 22, 23, 24, 25, 26] (by decide +kernel) (by decide +kernel)
set_option maxRecDepth 20000 in
theorem gX12_bareMark_X12_leaves : GoodIn wsX12_bareMark (wsV RX12 211 RX12 yX12_leaves wsX12_leaves) := goodIn_app (goodIn_of _ (by decide +kernel)) ggX12_bareMark_X12_leaves
theorem dX12_bareMark_0 : decode cX12_bareMark 0 = .ok (.aload_n 0, 1) := by decide +kernel
theorem dX12_bareMark_1 : decode cX12_bareMark 1 = .ok (.bipush 20, 2) := by decide +kernel
theorem dX12_bareMark_3 : decode cX12_bareMark 3 = .ok (.invokevirtual 211, 3) := by decide +kernel
theorem dX12_bareMark_6 : decode cX12_bareMark 6 = .ok (.iload_n 1, 1) := by decide +kernel
theorem dX12_bareMark_7 : decode cX12_bareMark 7 = .ok (.ireturn, 1) := by decide +kernel
set_option maxRecDepth 20000 in
theorem ggX12_tableMark_X12_leaves : GoodIn wsX12_tableMark wsX12_leaves := goodIn_r _ [5, 6, 7, 17, 18, 19, 20, 21, 22, 23, 24, 25, 26, 27, 28, 29, 30, 31, 32, 33, 34, 35] (by decide +kernel) (by decide +kernel)
set_option maxRecDepth 20000 in
theorem gX12_tableMark_X12_leaves : GoodIn wsX12_tableMark (wsV RX12 211 RX12 yX12_leaves wsX12_leaves) := goodIn_app (goodIn_of _ (by decide +kernel)) ggX12_tableMark_X12_leaves
set_option maxRecDepth 20000 in
theorem ggX12_tableMark_X12_bareMark : GoodIn wsX12_tableMark wsX12_bareMark := goodIn_r _ [11, 1, 2, 3, 4, 5, 6, 7, 17, 18, 19, 20, 21, 22, 23, 24, 25, 26, 27, 28, 29, 30, 31, 32, 33, 34, 35] (by decide +kernel) (by decide +kernel)
set_option maxRecDepth 20000 in
theorem gX12_tableMark_X12_bareMark : GoodIn wsX12_tableMark (wsV RX12 215 RX12 yX12_bareMark wsX12_bareMark) := goodIn_app (goodIn_of _ (by decide +kernel)) ggX12_tableMark_X12_bareMark
set_option maxRecDepth 20000 in
theorem ggX12_tableMark_X12_weightOf : GoodIn wsX12_tableMark wsX12_weightOf := goodIn_r _ [15, 16, 17, 18, 19, 20, 21, 22, 23, 24, 25, 26, 27, 28, 29, 30, 31, 32, 33, 34, 35] (by decide +kernel) (by decide +kernel)
set_option maxRecDepth 20000 in
theorem gX12_tableMark_X12_weightOf : GoodIn wsX12_tableMark (wsV RX12 143 RX12 yX12_weightOf wsX12_weightOf) := goodIn_app (goodIn_of _ (by decide +kernel)) ggX12_tableMark_X12_weightOf
theorem dX12_tableMark_0 : decode cX12_tableMark 0 = .ok (.aload_n 0, 1) := by decide +kernel
theorem dX12_tableMark_1 : decode cX12_tableMark 1 = .ok (.bipush 21, 2) := by decide +kernel
theorem dX12_tableMark_3 : decode cX12_tableMark 3 = .ok (.invokevirtual 211, 3) := by decide +kernel
theorem dX12_tableMark_6 : decode cX12_tableMark 6 = .ok (.aload_n 0, 1) := by decide +kernel
theorem dX12_tableMark_7 : decode cX12_tableMark 7 = .ok (.iload_n 1, 1) := by decide +kernel
theorem dX12_tableMark_8 : decode cX12_tableMark 8 = .ok (.invokevirtual 215, 3) := by decide +kernel
theorem dX12_tableMark_11 : decode cX12_tableMark 11 = .ok (.aload_n 0, 1) := by decide +kernel
theorem dX12_tableMark_12 : decode cX12_tableMark 12 = .ok (.iload_n 1, 1) := by decide +kernel
theorem dX12_tableMark_13 : decode cX12_tableMark 13 = .ok (.invokevirtual 143, 3) := by decide +kernel
theorem dX12_tableMark_16 : decode cX12_tableMark 16 = .ok (.iadd, 1) := by decide +kernel
theorem dX12_tableMark_17 : decode cX12_tableMark 17 = .ok (.ireturn, 1) := by decide +kernel
set_option maxRecDepth 20000 in
theorem ggX12_markOfTable_X12_leaves : GoodIn wsX12_markOfTable wsX12_leaves := goodIn_r _ [6, 7, 8, 21, 22, 23, 24, 25, 26, 27, 28, 29, 30, 31, 32, 33, 34, 35, 36, 37, 38, 39] (by decide +kernel) (by decide +kernel)
set_option maxRecDepth 20000 in
theorem gX12_markOfTable_X12_leaves : GoodIn wsX12_markOfTable (wsV RX12 211 RX12 yX12_leaves wsX12_leaves) := goodIn_app (goodIn_of _ (by decide +kernel)) ggX12_markOfTable_X12_leaves
set_option maxRecDepth 20000 in
theorem ggX12_markOfTable_X12_tableMark : GoodIn wsX12_markOfTable wsX12_tableMark := goodIn_r _ [12, 2, 3, 4, 5, 6, 7, 8, 13, 14, 15, 16, 17, 18, 19, 20, 1, 21, 22, 23, 24, 25, 26, 27, 28, 29, 30, 31, 32, 33, 34, 35, 36, 37, 38, 39] (by decide +kernel) (by decide +kernel)
set_option maxRecDepth 20000 in
theorem gX12_markOfTable_X12_tableMark : GoodIn wsX12_markOfTable (wsV RX12 218 RX12 yX12_tableMark wsX12_tableMark) := goodIn_app (goodIn_of _ (by decide +kernel)) ggX12_markOfTable_X12_tableMark
theorem dX12_markOfTable_0 : decode cX12_markOfTable 0 = .ok (.aload_n 0, 1) := by decide +kernel
theorem dX12_markOfTable_1 : decode cX12_markOfTable 1 = .ok (.getfield 7, 3) := by decide +kernel
theorem dX12_markOfTable_4 : decode cX12_markOfTable 4 = .ok (.bipush 8, 2) := by decide +kernel
theorem dX12_markOfTable_6 : decode cX12_markOfTable 6 = .ok (.iload_n 1, 1) := by decide +kernel
theorem dX12_markOfTable_7 : decode cX12_markOfTable 7 = .ok (.iadd, 1) := by decide +kernel
theorem dX12_markOfTable_8 : decode cX12_markOfTable 8 = .ok (.iaload, 1) := by decide +kernel
theorem dX12_markOfTable_9 : decode cX12_markOfTable 9 = .ok (.iconst 2, 1) := by decide +kernel
theorem dX12_markOfTable_10 : decode cX12_markOfTable 10 = .ok (.if_icmp .ne 17, 3) := by decide +kernel
theorem dX12_markOfTable_13 : decode cX12_markOfTable 13 = .ok (.aload_n 0, 1) := by decide +kernel
theorem dX12_markOfTable_14 : decode cX12_markOfTable 14 = .ok (.bipush 24, 2) := by decide +kernel
theorem dX12_markOfTable_16 : decode cX12_markOfTable 16 = .ok (.invokevirtual 211, 3) := by decide +kernel
theorem dX12_markOfTable_19 : decode cX12_markOfTable 19 = .ok (.iconst 2, 1) := by decide +kernel
theorem dX12_markOfTable_20 : decode cX12_markOfTable 20 = .ok (.aload_n 0, 1) := by decide +kernel
theorem dX12_markOfTable_21 : decode cX12_markOfTable 21 = .ok (.iload_n 1, 1) := by decide +kernel
theorem dX12_markOfTable_22 : decode cX12_markOfTable 22 = .ok (.invokevirtual 218, 3) := by decide +kernel
theorem dX12_markOfTable_25 : decode cX12_markOfTable 25 = .ok (.imul, 1) := by decide +kernel
theorem dX12_markOfTable_26 : decode cX12_markOfTable 26 = .ok (.ireturn, 1) := by decide +kernel
theorem dX12_markOfTable_27 : decode cX12_markOfTable 27 = .ok (.aload_n 0, 1) := by decide +kernel
theorem dX12_markOfTable_28 : decode cX12_markOfTable 28 = .ok (.getfield 7, 3) := by decide +kernel
theorem dX12_markOfTable_31 : decode cX12_markOfTable 31 = .ok (.bipush 8, 2) := by decide +kernel
theorem dX12_markOfTable_33 : decode cX12_markOfTable 33 = .ok (.iload_n 1, 1) := by decide +kernel
theorem dX12_markOfTable_34 : decode cX12_markOfTable 34 = .ok (.iadd, 1) := by decide +kernel
theorem dX12_markOfTable_35 : decode cX12_markOfTable 35 = .ok (.iaload, 1) := by decide +kernel
theorem dX12_markOfTable_36 : decode cX12_markOfTable 36 = .ok (.iconst 3, 1) := by decide +kernel
theorem dX12_markOfTable_37 : decode cX12_markOfTable 37 = .ok (.if_icmp .ne 19, 3) := by decide +kernel
theorem dX12_markOfTable_40 : decode cX12_markOfTable 40 = .ok (.aload_n 0, 1) := by decide +kernel
theorem dX12_markOfTable_41 : decode cX12_markOfTable 41 = .ok (.bipush 22, 2) := by decide +kernel
theorem dX12_markOfTable_43 : decode cX12_markOfTable 43 = .ok (.invokevirtual 211, 3) := by decide +kernel
theorem dX12_markOfTable_46 : decode cX12_markOfTable 46 = .ok (.aload_n 0, 1) := by decide +kernel
theorem dX12_markOfTable_47 : decode cX12_markOfTable 47 = .ok (.iload_n 1, 1) := by decide +kernel
theorem dX12_markOfTable_48 : decode cX12_markOfTable 48 = .ok (.invokevirtual 218, 3) := by decide +kernel
theorem dX12_markOfTable_51 : decode cX12_markOfTable 51 = .ok (.sipush 1000, 3) := by decide +kernel
theorem dX12_markOfTable_54 : decode cX12_markOfTable 54 = .ok (.isub, 1) := by decide +kernel
theorem dX12_markOfTable_55 : decode cX12_markOfTable 55 = .ok (.ireturn, 1) := by decide +kernel
theorem dX12_markOfTable_56 : decode cX12_markOfTable 56 = .ok (.aload_n 0, 1) := by decide +kernel
theorem dX12_markOfTable_57 : decode cX12_markOfTable 57 = .ok (.iload_n 1, 1) := by decide +kernel
theorem dX12_markOfTable_58 : decode cX12_markOfTable 58 = .ok (.invokevirtual 218, 3) := by decide +kernel
theorem dX12_markOfTable_61 : decode cX12_markOfTable 61 = .ok (.ireturn, 1) := by decide +kernel
set_option maxRecDepth 20000 in
theorem ggX12_tableSize_X12_leaves : GoodIn wsX12_tableSize wsX12_leaves := goodIn_r _ [5, 6, 7, 29, 30, 31, 32, 33, 34, 35, 36, 37, 38, 39, 40, 41, 42, 43, 44, 45, 46, 47] (by decide +kernel) (by decide +kernel)
set_option maxRecDepth 20000 in
theorem gX12_tableSize_X12_leaves : GoodIn wsX12_tableSize (wsV RX12 211 RX12 yX12_leaves wsX12_leaves) := goodIn_app (goodIn_of _ (by decide +kernel)) ggX12_tableSize_X12_leaves
set_option maxRecDepth 20000 in
theorem ggX12_tableSize_X12_bareSize : GoodIn wsX12_tableSize wsX12_bareSize := goodIn_r _ [11, 12, 1, 2, 3, 4, 5, 6, 7, 29, 30, 31, 32, 33, 34, 35, 36, 37, 38, 39, 40, 41, 42, 43, 44, 45, 46, 47] (by decide +kernel) (by decide +kernel)
set_option maxRecDepth 20000 in
theorem gX12_tableSize_X12_bareSize : GoodIn wsX12_tableSize (wsV RX12 221 RX12 yX12_bareSize wsX12_bareSize) := goodIn_app (goodIn_of _ (by decide +kernel)) ggX12_tableSize_X12_bareSize
set_option maxRecDepth 20000 in
theorem ggX12_tableSize_X12_markOfTable : GoodIn wsX12_tableSize wsX12_markOfTable := goodIn_r _ [16, 12, 1, 2, 3, 4, 5, 6, 7, 17, 18, 19, 20, 21, 22, 23, 24, 25, 26, 27, 28, 29, 30, 31, 32, 33, 34, 35, 36, 37, 38, 39, 40, 41, 42, 43, 44, 45, 46, 47] (by decide +kernel) (by decide +kernel)
set_option maxRecDepth 20000 in
theorem gX12_tableSize_X12_markOfTable : GoodIn wsX12_tableSize (wsV RX12 224 RX12 yX12_markOfTable wsX12_markOfTable) := goodIn_app (goodIn_of _ (by decide +kernel)) ggX12_tableSize_X12_markOfTable
theorem dX12_tableSize_0 : decode cX12_tableSize 0 = .ok (.aload_n 0, 1) := by decide +kernel
theorem dX12_tableSize_1 : decode cX12_tableSize 1 = .ok (.bipush 11, 2) := by decide +kernel
theorem dX12_tableSize_3 : decode cX12_tableSize 3 = .ok (.invokevirtual 211, 3) := by decide +kernel
theorem dX12_tableSize_6 : decode cX12_tableSize 6 = .ok (.aload_n 0, 1) := by decide +kernel
theorem dX12_tableSize_7 : decode cX12_tableSize 7 = .ok (.iload_n 1, 1) := by decide +kernel
theorem dX12_tableSize_8 : decode cX12_tableSize 8 = .ok (.invokevirtual 221, 3) := by decide +kernel
theorem dX12_tableSize_11 : decode cX12_tableSize 11 = .ok (.istore_n 2, 1) := by decide +kernel
theorem dX12_tableSize_12 : decode cX12_tableSize 12 = .ok (.iload_n 2, 1) := by decide +kernel
theorem dX12_tableSize_13 : decode cX12_tableSize 13 = .ok (.aload_n 0, 1) := by decide +kernel
theorem dX12_tableSize_14 : decode cX12_tableSize 14 = .ok (.iload_n 1, 1) := by decide +kernel
theorem dX12_tableSize_15 : decode cX12_tableSize 15 = .ok (.invokevirtual 224, 3) := by decide +kernel
theorem dX12_tableSize_18 : decode cX12_tableSize 18 = .ok (.iadd, 1) := by decide +kernel
theorem dX12_tableSize_19 : decode cX12_tableSize 19 = .ok (.ireturn, 1) := by decide +kernel
set_option maxRecDepth 20000 in
theorem ggX12_notarySize_X12_leaves : GoodIn wsX12_notarySize wsX12_leaves := goodIn_r _ [5, 6, 7, 13, 14, 15, 16, 17, 18, 19, 20, 21, 22, 23, 24, 25, 26, 27, 28, 29, 30, 31] (by decide +kernel) (by decide +kernel)
set_option maxRecDepth 20000 in
theorem gX12_notarySize_X12_leaves : GoodIn wsX12_notarySize (wsV RX12 211 RX12 yX12_leaves wsX12_leaves) := goodIn_app (goodIn_of _ (by decide +kernel)) ggX12_notarySize_X12_leaves
set_option maxRecDepth 20000 in
theorem ggX12_notarySize_X12_bareSize : GoodIn wsX12_notarySize wsX12_bareSize := goodIn_r _ [11, 12, 1, 2, 3, 4, 5, 6, 7, 13, 14, 15, 16, 17, 18, 19, 20, 21, 22, 23, 24, 25, 26, 27, 28, 29, 30, 31] (by decide +kernel) (by decide +kernel)
set_option maxRecDepth 20000 in
theorem gX12_notarySize_X12_bareSize : GoodIn wsX12_notarySize (wsV RX12 221 RX12 yX12_bareSize wsX12_bareSize) := goodIn_app (goodIn_of _ (by decide +kernel)) ggX12_notarySize_X12_bareSize
theorem dX12_notarySize_0 : decode cX12_notarySize 0 = .ok (.aload_n 0, 1) := by decide +kernel
theorem dX12_notarySize_1 : decode cX12_notarySize 1 = .ok (.bipush 13, 2) := by decide +kernel
theorem dX12_notarySize_3 : decode cX12_notarySize 3 = .ok (.invokevirtual 211, 3) := by decide +kernel
theorem dX12_notarySize_6 : decode cX12_notarySize 6 = .ok (.aload_n 0, 1) := by decide +kernel
theorem dX12_notarySize_7 : decode cX12_notarySize 7 = .ok (.iload_n 1, 1) := by decide +kernel
theorem dX12_notarySize_8 : decode cX12_notarySize 8 = .ok (.invokevirtual 221, 3) := by decide +kernel
theorem dX12_notarySize_11 : decode cX12_notarySize 11 = .ok (.bipush 100, 2) := by decide +kernel
theorem dX12_notarySize_13 : decode cX12_notarySize 13 = .ok (.isub, 1) := by decide +kernel
theorem dX12_notarySize_14 : decode cX12_notarySize 14 = .ok (.ireturn, 1) := by decide +kernel
set_option maxRecDepth 20000 in
theorem ggX12_sizeOf_X12_leaves : GoodIn wsX12_sizeOf wsX12_leaves := goodIn_r _ [6, 7, 8, 37, 38, 39, 40, 41, 42, 43, 44, 45, 46, 47, 48, 49, 50, 51, 52, 53, 54, 55] (by decide +kernel) (by decide +kernel)
set_option maxRecDepth 20000 in
theorem gX12_sizeOf_X12_leaves : GoodIn wsX12_sizeOf (wsV RX12 211 RX12 yX12_leaves wsX12_leaves) := goodIn_app (goodIn_of _ (by decide +kernel)) ggX12_sizeOf_X12_leaves
set_option maxRecDepth 20000 in
theorem ggX12_sizeOf_X12_tableSize : GoodIn wsX12_sizeOf wsX12_tableSize := goodIn_r _ [12, 2, 3, 4, 5, 6, 7, 8, 13, 14, 15, 16, 1, 17, 18, 19, 20, 21, 22, 23, 24, 25, 26, 27, 28, 29, 30, 31, 32, 37, 38, 39, 40, 41, 42, 43, 44, 45, 46, 47, 48, 49, 50, 51, 52, 53, 54, 55] (by decide +kernel) (by decide +kernel)
set_option maxRecDepth 20000 in
theorem gX12_sizeOf_X12_tableSize : GoodIn wsX12_sizeOf (wsV RX12 227 RX12 yX12_tableSize wsX12_tableSize) := goodIn_app (goodIn_of _ (by decide +kernel)) ggX12_sizeOf_X12_tableSize
set_option maxRecDepth 20000 in
theorem ggX12_sizeOf_X12_notarySize : GoodIn wsX12_sizeOf wsX12_notarySize := goodIn_r _ [36, 2, 3, 4, 5, 6, 7, 8, 13, 14, 15, 16, 1, 37, 38, 39, 40, 41, 42, 43, 44, 45, 46, 47, 48, 49, 50, 51, 52, 53, 54, 55] (by decide +kernel) (by decide +kernel)
set_option maxRecDepth 20000 in
theorem gX12_sizeOf_X12_notarySize : GoodIn wsX12_sizeOf (wsV RX12 230 RX12 yX12_notarySize wsX12_notarySize) := goodIn_app (goodIn_of _ (by decide +kernel)) ggX12_sizeOf_X12_notarySize
theorem dX12_sizeOf_0 : decode cX12_sizeOf 0 = .ok (.aload_n 0, 1) := by decide +kernel
theorem dX12_sizeOf_1 : decode cX12_sizeOf 1 = .ok (.getfield 7, 3) := by decide +kernel
theorem dX12_sizeOf_4 : decode cX12_sizeOf 4 = .ok (.bipush 8, 2) := by decide +kernel
theorem dX12_sizeOf_6 : decode cX12_sizeOf 6 = .ok (.iload_n 1, 1) := by decide +kernel
theorem dX12_sizeOf_7 : decode cX12_sizeOf 7 = .ok (.iadd, 1) := by decide +kernel
theorem dX12_sizeOf_8 : decode cX12_sizeOf 8 = .ok (.iaload, 1) := by decide +kernel
theorem dX12_sizeOf_9 : decode cX12_sizeOf 9 = .ok (.tableswitch 64 2 5 #[31, 64, 44, 50], 31) := by decide +kernel
theorem dX12_sizeOf_40 : decode cX12_sizeOf 40 = .ok (.aload_n 0, 1) := by decide +kernel
theorem dX12_sizeOf_41 : decode cX12_sizeOf 41 = .ok (.bipush 12, 2) := by decide +kernel
theorem dX12_sizeOf_43 : decode cX12_sizeOf 43 = .ok (.invokevirtual 211, 3) := by decide +kernel
theorem dX12_sizeOf_46 : decode cX12_sizeOf 46 = .ok (.aload_n 0, 1) := by decide +kernel
theorem dX12_sizeOf_47 : decode cX12_sizeOf 47 = .ok (.iload_n 1, 1) := by decide +kernel
theorem dX12_sizeOf_48 : decode cX12_sizeOf 48 = .ok (.invokevirtual 227, 3) := by decide +kernel
theorem dX12_sizeOf_51 : decode cX12_sizeOf 51 = .ok (.ineg, 1) := by decide +kernel
theorem dX12_sizeOf_52 : decode cX12_sizeOf 52 = .ok (.ireturn, 1) := by decide +kernel
theorem dX12_sizeOf_53 : decode cX12_sizeOf 53 = .ok (.aload_n 0, 1) := by decide +kernel
theorem dX12_sizeOf_54 : decode cX12_sizeOf 54 = .ok (.iload_n 1, 1) := by decide +kernel
theorem dX12_sizeOf_55 : decode cX12_sizeOf 55 = .ok (.invokevirtual 230, 3) := by decide +kernel
theorem dX12_sizeOf_58 : decode cX12_sizeOf 58 = .ok (.ireturn, 1) := by decide +kernel
theorem dX12_sizeOf_59 : decode cX12_sizeOf 59 = .ok (.aload_n 0, 1) := by decide +kernel
theorem dX12_sizeOf_60 : decode cX12_sizeOf 60 = .ok (.bipush 14, 2) := by decide +kernel
theorem dX12_sizeOf_62 : decode cX12_sizeOf 62 = .ok (.invokevirtual 211, 3) := by decide +kernel
theorem dX12_sizeOf_65 : decode cX12_sizeOf 65 = .ok (.iconst 2, 1) := by decide +kernel
theorem dX12_sizeOf_66 : decode cX12_sizeOf 66 = .ok (.aload_n 0, 1) := by decide +kernel
theorem dX12_sizeOf_67 : decode cX12_sizeOf 67 = .ok (.iload_n 1, 1) := by decide +kernel
theorem dX12_sizeOf_68 : decode cX12_sizeOf 68 = .ok (.invokevirtual 230, 3) := by decide +kernel
theorem dX12_sizeOf_71 : decode cX12_sizeOf 71 = .ok (.imul, 1) := by decide +kernel
theorem dX12_sizeOf_72 : decode cX12_sizeOf 72 = .ok (.ireturn, 1) := by decide +kernel
theorem dX12_sizeOf_73 : decode cX12_sizeOf 73 = .ok (.aload_n 0, 1) := by decide +kernel
theorem dX12_sizeOf_74 : decode cX12_sizeOf 74 = .ok (.iload_n 1, 1) := by decide +kernel
theorem dX12_sizeOf_75 : decode cX12_sizeOf 75 = .ok (.invokevirtual 227, 3) := by decide +kernel
theorem dX12_sizeOf_78 : decode cX12_sizeOf 78 = .ok (.ireturn, 1) := by decide +kernel
set_option maxRecDepth 20000 in
theorem ggX12_markOf_X12_markOfTable : GoodIn wsX12_markOf wsX12_markOfTable := goodIn_r _ [6, 1, 7, 8, 9, 5, 10, 11, 12, 13, 14, 15, 16, 17, 18, 19, 20, 21, 22, 23, 24, 41, 42, 43, 44, 45, 46, 47, 48, 49, 50, 51, 52, 53, 54, 55, 56, 57, 58, 59] (by decide +kernel) (by decide +kernel)
set_option maxRecDepth 20000 in
theorem gX12_markOf_X12_markOfTable : GoodIn wsX12_markOf (wsV RX12 224 RX12 yX12_markOfTable wsX12_markOfTable) := goodIn_app (goodIn_of _ (by decide +kernel)) ggX12_markOf_X12_markOfTable
set_option maxRecDepth 20000 in
theorem ggX12_markOf_X12_leaves : GoodIn wsX12_markOf wsX12_leaves := goodIn_r _ [10, 11, 12, 41, 42, 43, 44, 45, 46, 47, 48, 49, 50, 51, 52, 53, 54, 55, 56, 57, 58, 59] (by decide +kernel) (by decide +kernel)
set_option maxRecDepth 20000 in
theorem gX12_markOf_X12_leaves : GoodIn wsX12_markOf (wsV RX12 211 RX12 yX12_leaves wsX12_leaves) := goodIn_app (goodIn_of _ (by decide +kernel)) ggX12_markOf_X12_leaves
set_option maxRecDepth 20000 in
theorem ggX12_markOf_X12_bareMark : GoodIn wsX12_markOf wsX12_bareMark := goodIn_r _ [20, 7, 8, 9, 5, 10, 11, 12, 41, 42, 43, 44, 45, 46, 47, 48, 49, 50, 51, 52, 53, 54, 55, 56, 57, 58, 59] (by decide +kernel) (by decide +kernel)
set_option maxRecDepth 20000 in
theorem gX12_markOf_X12_bareMark : GoodIn wsX12_markOf (wsV RX12 215 RX12 yX12_bareMark wsX12_bareMark) := goodIn_app (goodIn_of _ (by decide +kernel)) ggX12_markOf_X12_bareMark
set_option maxRecDepth 20000 in
theorem ggX12_markOf_X12_sizeOf : GoodIn wsX12_markOf wsX12_sizeOf := goodIn_r _ [28, 1, 7, 8, 9, 5, 10, 11, 12, 29, 30, 31, 32, 33, 34, 35, 36, 2, 3, 4, 6, 13, 14, 15, 16, 17, 18, 19, 20, 21, 22, 23, 24, 37, 38, 39, 40, 41, 42, 43, 44, 45, 46, 47, 48, 49, 50, 51, 52, 53, 54, 55, 56, 57, 58, 59] (by decide +kernel) (by decide +kernel)
set_option maxRecDepth 20000 in
theorem gX12_markOf_X12_sizeOf : GoodIn wsX12_markOf (wsV RX12 233 RX12 yX12_sizeOf wsX12_sizeOf) := goodIn_app (goodIn_of _ (by decide +kernel)) ggX12_markOf_X12_sizeOf
theorem dX12_markOf_0 : decode cX12_markOf 0 = .ok (.aload_n 0, 1) := by decide +kernel
theorem dX12_markOf_1 : decode cX12_markOf 1 = .ok (.getfield 7, 3) := by decide +kernel
theorem dX12_markOf_4 : decode cX12_markOf 4 = .ok (.bipush 8, 2) := by decide +kernel
theorem dX12_markOf_6 : decode cX12_markOf 6 = .ok (.iload_n 1, 1) := by decide +kernel
theorem dX12_markOf_7 : decode cX12_markOf 7 = .ok (.iadd, 1) := by decide +kernel
theorem dX12_markOf_8 : decode cX12_markOf 8 = .ok (.iaload, 1) := by decide +kernel
theorem dX12_markOf_9 : decode cX12_markOf 9 = .ok (.iconst 4, 1) := by decide +kernel
theorem dX12_markOf_10 : decode cX12_markOf 10 = .ok (.if_icmp .ge 9, 3) := by decide +kernel
theorem dX12_markOf_13 : decode cX12_markOf 13 = .ok (.aload_n 0, 1) := by decide +kernel
theorem dX12_markOf_14 : decode cX12_markOf 14 = .ok (.iload_n 1, 1) := by decide +kernel
theorem dX12_markOf_15 : decode cX12_markOf 15 = .ok (.invokevirtual 224, 3) := by decide +kernel
theorem dX12_markOf_18 : decode cX12_markOf 18 = .ok (.ireturn, 1) := by decide +kernel
theorem dX12_markOf_19 : decode cX12_markOf 19 = .ok (.aload_n 0, 1) := by decide +kernel
theorem dX12_markOf_20 : decode cX12_markOf 20 = .ok (.bipush 23, 2) := by decide +kernel
theorem dX12_markOf_22 : decode cX12_markOf 22 = .ok (.invokevirtual 211, 3) := by decide +kernel
theorem dX12_markOf_25 : decode cX12_markOf 25 = .ok (.aload_n 0, 1) := by decide +kernel
theorem dX12_markOf_26 : decode cX12_markOf 26 = .ok (.iload_n 1, 1) := by decide +kernel
theorem dX12_markOf_27 : decode cX12_markOf 27 = .ok (.invokevirtual 215, 3) := by decide +kernel
theorem dX12_markOf_30 : decode cX12_markOf 30 = .ok (.istore_n 2, 1) := by decide +kernel
theorem dX12_markOf_31 : decode cX12_markOf 31 = .ok (.iload_n 2, 1) := by decide +kernel
theorem dX12_markOf_32 : decode cX12_markOf 32 = .ok (.aload_n 0, 1) := by decide +kernel
theorem dX12_markOf_33 : decode cX12_markOf 33 = .ok (.iload_n 1, 1) := by decide +kernel
theorem dX12_markOf_34 : decode cX12_markOf 34 = .ok (.invokevirtual 233, 3) := by decide +kernel
theorem dX12_markOf_37 : decode cX12_markOf 37 = .ok (.isub, 1) := by decide +kernel
theorem dX12_markOf_38 : decode cX12_markOf 38 = .ok (.ireturn, 1) := by decide +kernel
set_option maxRecDepth 20000 in
theorem ggX12_ask_X12_isStall : GoodIn wsX12_ask wsX12_isStall := goodIn_r _ [7, 8, 9, 10, 6, 11, 53, 54, 55, 56, 57, 58, 59, 60, 61, 62, 63, 64, 65, 66, 67, 68, 69, 70, 71] (by decide +kernel) (by decide +kernel)
set_option maxRecDepth 20000 in
theorem gX12_ask_X12_isStall : GoodIn wsX12_ask (wsV RX12 133 RX12 yX12_isStall wsX12_isStall) := goodIn_app (goodIn_of _ (by decide +kernel)) ggX12_ask_X12_isStall
set_option maxRecDepth 20000 in
theorem ggX12_ask_X12_in : GoodIn wsX12_ask wsX12_in := goodIn_r _ [11] (by decide +kernel) (by decide +kernel)
set_option maxRecDepth 20000 in
theorem gX12_ask_X12_in : GoodIn wsX12_ask (va_wsS RX12 45 yX12_in wsX12_in) := goodIn_app (goodIn_of _ (by decide +kernel)) ggX12_ask_X12_in
set_option maxRecDepth 20000 in
theorem ggX12_ask_X12_sizeOf : GoodIn wsX12_ask wsX12_sizeOf := goodIn_r _ [15, 8, 16, 17, 18, 6, 19, 2, 20, 21, 22, 23, 24, 25, 26, 27, 28, 29, 30, 31, 32, 33, 34, 35, 36, 37, 38, 39, 40, 41, 42, 43, 44, 45, 46, 47, 48, 53, 54, 55, 56, 57, 58, 59, 60, 61, 62, 63, 64, 65, 66, 67, 68, 69, 70, 71] (by decide +kernel) (by decide +kernel)
set_option maxRecDepth 20000 in
theorem gX12_ask_X12_sizeOf : GoodIn wsX12_ask (wsV RX12 233 RX12 yX12_sizeOf wsX12_sizeOf) := goodIn_app (goodIn_of _ (by decide +kernel)) ggX12_ask_X12_sizeOf
set_option maxRecDepth 20000 in
theorem ggX12_ask_X12_markOf : GoodIn wsX12_ask wsX12_markOf := goodIn_r _ [52, 8, 29, 30, 31, 6, 32, 16, 17, 18, 19, 2, 20, 33, 34, 35, 36, 37, 38, 39, 40, 41, 42, 43, 44, 12, 13, 14, 15, 21, 22, 23, 24, 25, 26, 27, 28, 45, 46, 47, 48, 53, 54, 55, 56, 57, 58, 59, 60, 61, 62, 63, 64, 65, 66, 67, 68, 69, 70, 71] (by decide +kernel) (by decide +kernel)
set_option maxRecDepth 20000 in
theorem gX12_ask_X12_markOf : GoodIn wsX12_ask (wsV RX12 236 RX12 yX12_markOf wsX12_markOf) := goodIn_app (goodIn_of _ (by decide +kernel)) ggX12_ask_X12_markOf
theorem dX12_ask_0 : decode cX12_ask 0 = .ok (.aload_n 0, 1) := by decide +kernel
theorem dX12_ask_1 : decode cX12_ask 1 = .ok (.iload_n 1, 1) := by decide +kernel
theorem dX12_ask_2 : decode cX12_ask 2 = .ok (.invokevirtual 133, 3) := by decide +kernel
theorem dX12_ask_5 : decode cX12_ask 5 = .ok (.ifCond .eq 13, 3) := by decide +kernel
theorem dX12_ask_8 : decode cX12_ask 8 = .ok (.iload_n 2, 1) := by decide +kernel
theorem dX12_ask_9 : decode cX12_ask 9 = .ok (.i2l, 1) := by decide +kernel
theorem dX12_ask_10 : decode cX12_ask 10 = .ok (.lconst 0, 1) := by decide +kernel
theorem dX12_ask_11 : decode cX12_ask 11 = .ok (.lconst 1, 1) := by decide +kernel
theorem dX12_ask_12 : decode cX12_ask 12 = .ok (.invokestatic 45, 3) := by decide +kernel
theorem dX12_ask_15 : decode cX12_ask 15 = .ok (.ifCond .ne 6, 3) := by decide +kernel
theorem dX12_ask_18 : decode cX12_ask 18 = .ok (.ldc 55, 2) := by decide +kernel
theorem dX12_ask_20 : decode cX12_ask 20 = .ok (.ireturn, 1) := by decide +kernel
theorem dX12_ask_21 : decode cX12_ask 21 = .ok (.aload_n 0, 1) := by decide +kernel
theorem dX12_ask_22 : decode cX12_ask 22 = .ok (.iconst 0, 1) := by decide +kernel
theorem dX12_ask_23 : decode cX12_ask 23 = .ok (.putfield 205, 3) := by decide +kernel
theorem dX12_ask_26 : decode cX12_ask 26 = .ok (.iload_n 2, 1) := by decide +kernel
theorem dX12_ask_27 : decode cX12_ask 27 = .ok (.ifCond .ne 11, 3) := by decide +kernel
theorem dX12_ask_30 : decode cX12_ask 30 = .ok (.aload_n 0, 1) := by decide +kernel
theorem dX12_ask_31 : decode cX12_ask 31 = .ok (.iload_n 1, 1) := by decide +kernel
theorem dX12_ask_32 : decode cX12_ask 32 = .ok (.invokevirtual 233, 3) := by decide +kernel
theorem dX12_ask_35 : decode cX12_ask 35 = .ok (.goto 8, 3) := by decide +kernel
theorem dX12_ask_38 : decode cX12_ask 38 = .ok (.aload_n 0, 1) := by decide +kernel
theorem dX12_ask_39 : decode cX12_ask 39 = .ok (.iload_n 1, 1) := by decide +kernel
theorem dX12_ask_40 : decode cX12_ask 40 = .ok (.invokevirtual 236, 3) := by decide +kernel
theorem dX12_ask_43 : decode cX12_ask 43 = .ok (.ireturn, 1) := by decide +kernel
set_option maxRecDepth 20000 in
theorem ggX12_trace_X12_in : GoodIn wsX12_trace wsX12_in := goodIn_r _ [7] (by decide +kernel) (by decide +kernel)
set_option maxRecDepth 20000 in
theorem gX12_trace_X12_in : GoodIn wsX12_trace (va_wsS RX12 45 yX12_in wsX12_in) := goodIn_app (goodIn_of _ (by decide +kernel)) ggX12_trace_X12_in
theorem dX12_trace_0 : decode cX12_trace 0 = .ok (.iload_n 1, 1) := by decide +kernel
theorem dX12_trace_1 : decode cX12_trace 1 = .ok (.i2l, 1) := by decide +kernel
theorem dX12_trace_2 : decode cX12_trace 2 = .ok (.lconst 0, 1) := by decide +kernel
theorem dX12_trace_3 : decode cX12_trace 3 = .ok (.aload_n 0, 1) := by decide +kernel
theorem dX12_trace_4 : decode cX12_trace 4 = .ok (.getfield 205, 3) := by decide +kernel
theorem dX12_trace_7 : decode cX12_trace 7 = .ok (.iconst 1, 1) := by decide +kernel
theorem dX12_trace_8 : decode cX12_trace 8 = .ok (.isub, 1) := by decide +kernel
theorem dX12_trace_9 : decode cX12_trace 9 = .ok (.i2l, 1) := by decide +kernel
theorem dX12_trace_10 : decode cX12_trace 10 = .ok (.invokestatic 45, 3) := by decide +kernel
theorem dX12_trace_13 : decode cX12_trace 13 = .ok (.ifCond .eq 12, 3) := by decide +kernel
theorem dX12_trace_16 : decode cX12_trace 16 = .ok (.aload_n 0, 1) := by decide +kernel
theorem dX12_trace_17 : decode cX12_trace 17 = .ok (.getfield 35, 3) := by decide +kernel
theorem dX12_trace_20 : decode cX12_trace 20 = .ok (.iload_n 1, 1) := by decide +kernel
theorem dX12_trace_21 : decode cX12_trace 21 = .ok (.iaload, 1) := by decide +kernel
theorem dX12_trace_22 : decode cX12_trace 22 = .ok (.goto 5, 3) := by decide +kernel
theorem dX12_trace_25 : decode cX12_trace 25 = .ok (.ldc 166, 2) := by decide +kernel
theorem dX12_trace_27 : decode cX12_trace 27 = .ok (.ireturn, 1) := by decide +kernel
theorem dX12_rowsMany_0 : decode cX12_rowsMany 0 = .ok (.iconst 0, 1) := by decide +kernel
theorem dX12_rowsMany_1 : decode cX12_rowsMany 1 = .ok (.istore_n 1, 1) := by decide +kernel
theorem dX12_rowsMany_2 : decode cX12_rowsMany 2 = .ok (.iconst 0, 1) := by decide +kernel
theorem dX12_rowsMany_3 : decode cX12_rowsMany 3 = .ok (.istore_n 2, 1) := by decide +kernel
theorem dX12_rowsMany_4 : decode cX12_rowsMany 4 = .ok (.iload_n 2, 1) := by decide +kernel
theorem dX12_rowsMany_5 : decode cX12_rowsMany 5 = .ok (.bipush 8, 2) := by decide +kernel
theorem dX12_rowsMany_7 : decode cX12_rowsMany 7 = .ok (.if_icmp .ge 26, 3) := by decide +kernel
theorem dX12_rowsMany_10 : decode cX12_rowsMany 10 = .ok (.iload_n 1, 1) := by decide +kernel
theorem dX12_rowsMany_11 : decode cX12_rowsMany 11 = .ok (.aload_n 0, 1) := by decide +kernel
theorem dX12_rowsMany_12 : decode cX12_rowsMany 12 = .ok (.getfield 17, 3) := by decide +kernel
theorem dX12_rowsMany_15 : decode cX12_rowsMany 15 = .ok (.iload_n 2, 1) := by decide +kernel
theorem dX12_rowsMany_16 : decode cX12_rowsMany 16 = .ok (.iaload, 1) := by decide +kernel
theorem dX12_rowsMany_17 : decode cX12_rowsMany 17 = .ok (.ifCond .ge 7, 3) := by decide +kernel
theorem dX12_rowsMany_20 : decode cX12_rowsMany 20 = .ok (.iconst 0, 1) := by decide +kernel
theorem dX12_rowsMany_21 : decode cX12_rowsMany 21 = .ok (.goto 4, 3) := by decide +kernel
theorem dX12_rowsMany_24 : decode cX12_rowsMany 24 = .ok (.iconst 1, 1) := by decide +kernel
theorem dX12_rowsMany_25 : decode cX12_rowsMany 25 = .ok (.iadd, 1) := by decide +kernel
theorem dX12_rowsMany_26 : decode cX12_rowsMany 26 = .ok (.istore_n 1, 1) := by decide +kernel
theorem dX12_rowsMany_27 : decode cX12_rowsMany 27 = .ok (.iinc 2 1, 3) := by decide +kernel
theorem dX12_rowsMany_30 : decode cX12_rowsMany 30 = .ok (.goto (-26), 3) := by decide +kernel
theorem dX12_rowsMany_33 : decode cX12_rowsMany 33 = .ok (.iload_n 1, 1) := by decide +kernel
theorem dX12_rowsMany_34 : decode cX12_rowsMany 34 = .ok (.ireturn, 1) := by decide +kernel
set_option maxRecDepth 20000 in
theorem ggX12_count_X12_rowsMany : GoodIn wsX12_count wsX12_rowsMany := goodIn_r _ [9, 10, 11, 12, 13, 14, 15, 16, 17, 18, 19, 20, 21, 22, 23, 24, 25, 26, 27, 28, 29] (by decide +kernel) (by decide +kernel)
set_option maxRecDepth 20000 in
theorem gX12_count_X12_rowsMany : GoodIn wsX12_count (wsV RX12 239 RX12 yX12_rowsMany wsX12_rowsMany) := goodIn_app (goodIn_of _ (by decide +kernel)) ggX12_count_X12_rowsMany
theorem dX12_count_0 : decode cX12_count 0 = .ok (.iload_n 1, 1) := by decide +kernel
theorem dX12_count_1 : decode cX12_count 1 = .ok (.tableswitch 86 0 6 #[43, 48, 55, 62, 69, 76, 81], 43) := by decide +kernel
theorem dX12_count_44 : decode cX12_count 44 = .ok (.aload_n 0, 1) := by decide +kernel
theorem dX12_count_45 : decode cX12_count 45 = .ok (.invokevirtual 239, 3) := by decide +kernel
theorem dX12_count_48 : decode cX12_count 48 = .ok (.ireturn, 1) := by decide +kernel
theorem dX12_count_49 : decode cX12_count 49 = .ok (.aload_n 0, 1) := by decide +kernel
theorem dX12_count_50 : decode cX12_count 50 = .ok (.getfield 7, 3) := by decide +kernel
theorem dX12_count_53 : decode cX12_count 53 = .ok (.iconst 2, 1) := by decide +kernel
theorem dX12_count_54 : decode cX12_count 54 = .ok (.iaload, 1) := by decide +kernel
theorem dX12_count_55 : decode cX12_count 55 = .ok (.ireturn, 1) := by decide +kernel
theorem dX12_count_56 : decode cX12_count 56 = .ok (.aload_n 0, 1) := by decide +kernel
theorem dX12_count_57 : decode cX12_count 57 = .ok (.getfield 7, 3) := by decide +kernel
theorem dX12_count_60 : decode cX12_count 60 = .ok (.iconst 3, 1) := by decide +kernel
theorem dX12_count_61 : decode cX12_count 61 = .ok (.iaload, 1) := by decide +kernel
theorem dX12_count_62 : decode cX12_count 62 = .ok (.ireturn, 1) := by decide +kernel
theorem dX12_count_63 : decode cX12_count 63 = .ok (.aload_n 0, 1) := by decide +kernel
theorem dX12_count_64 : decode cX12_count 64 = .ok (.getfield 7, 3) := by decide +kernel
theorem dX12_count_67 : decode cX12_count 67 = .ok (.iconst 0, 1) := by decide +kernel
theorem dX12_count_68 : decode cX12_count 68 = .ok (.iaload, 1) := by decide +kernel
theorem dX12_count_69 : decode cX12_count 69 = .ok (.ireturn, 1) := by decide +kernel
theorem dX12_count_70 : decode cX12_count 70 = .ok (.aload_n 0, 1) := by decide +kernel
theorem dX12_count_71 : decode cX12_count 71 = .ok (.getfield 7, 3) := by decide +kernel
theorem dX12_count_74 : decode cX12_count 74 = .ok (.iconst 1, 1) := by decide +kernel
theorem dX12_count_75 : decode cX12_count 75 = .ok (.iaload, 1) := by decide +kernel
theorem dX12_count_76 : decode cX12_count 76 = .ok (.ireturn, 1) := by decide +kernel
theorem dX12_count_77 : decode cX12_count 77 = .ok (.aload_n 0, 1) := by decide +kernel
theorem dX12_count_78 : decode cX12_count 78 = .ok (.getfield 129, 3) := by decide +kernel
theorem dX12_count_81 : decode cX12_count 81 = .ok (.ireturn, 1) := by decide +kernel
theorem dX12_count_82 : decode cX12_count 82 = .ok (.aload_n 0, 1) := by decide +kernel
theorem dX12_count_83 : decode cX12_count 83 = .ok (.getfield 73, 3) := by decide +kernel
theorem dX12_count_86 : decode cX12_count 86 = .ok (.ireturn, 1) := by decide +kernel
theorem dX12_count_87 : decode cX12_count 87 = .ok (.ldc 55, 2) := by decide +kernel
theorem dX12_count_89 : decode cX12_count 89 = .ok (.ireturn, 1) := by decide +kernel
theorem dX12_status_0 : decode cX12_status 0 = .ok (.aload_n 0, 1) := by decide +kernel
theorem dX12_status_1 : decode cX12_status 1 = .ok (.getfield 38, 3) := by decide +kernel
theorem dX12_status_4 : decode cX12_status 4 = .ok (.ireturn, 1) := by decide +kernel
theorem dJ9_abs_0f7a4_0 : decode cJ9_abs_0f7a4 0 = .ok (.iload_n 0, 1) := by decide +kernel
theorem dJ9_abs_0f7a4_1 : decode cJ9_abs_0f7a4 1 = .ok (.ifCond .ge 8, 3) := by decide +kernel
theorem dJ9_abs_0f7a4_4 : decode cJ9_abs_0f7a4 4 = .ok (.iload_n 0, 1) := by decide +kernel
theorem dJ9_abs_0f7a4_5 : decode cJ9_abs_0f7a4 5 = .ok (.ineg, 1) := by decide +kernel
theorem dJ9_abs_0f7a4_6 : decode cJ9_abs_0f7a4 6 = .ok (.goto 4, 3) := by decide +kernel
theorem dJ9_abs_0f7a4_9 : decode cJ9_abs_0f7a4 9 = .ok (.iload_n 0, 1) := by decide +kernel
theorem dJ9_abs_0f7a4_10 : decode cJ9_abs_0f7a4 10 = .ok (.ireturn, 1) := by decide +kernel
theorem dJ9_max_7cf53_0 : decode cJ9_max_7cf53 0 = .ok (.iload_n 0, 1) := by decide +kernel
theorem dJ9_max_7cf53_1 : decode cJ9_max_7cf53 1 = .ok (.iload_n 1, 1) := by decide +kernel
theorem dJ9_max_7cf53_2 : decode cJ9_max_7cf53 2 = .ok (.if_icmp .lt 7, 3) := by decide +kernel
theorem dJ9_max_7cf53_5 : decode cJ9_max_7cf53 5 = .ok (.iload_n 0, 1) := by decide +kernel
theorem dJ9_max_7cf53_6 : decode cJ9_max_7cf53 6 = .ok (.goto 4, 3) := by decide +kernel
theorem dJ9_max_7cf53_9 : decode cJ9_max_7cf53 9 = .ok (.iload_n 1, 1) := by decide +kernel
theorem dJ9_max_7cf53_10 : decode cJ9_max_7cf53 10 = .ok (.ireturn, 1) := by decide +kernel
theorem dJ9_min_7cf53_0 : decode cJ9_min_7cf53 0 = .ok (.iload_n 0, 1) := by decide +kernel
theorem dJ9_min_7cf53_1 : decode cJ9_min_7cf53 1 = .ok (.iload_n 1, 1) := by decide +kernel
theorem dJ9_min_7cf53_2 : decode cJ9_min_7cf53 2 = .ok (.if_icmp .gt 7, 3) := by decide +kernel
theorem dJ9_min_7cf53_5 : decode cJ9_min_7cf53 5 = .ok (.iload_n 0, 1) := by decide +kernel
theorem dJ9_min_7cf53_6 : decode cJ9_min_7cf53 6 = .ok (.goto 4, 3) := by decide +kernel
theorem dJ9_min_7cf53_9 : decode cJ9_min_7cf53 9 = .ok (.iload_n 1, 1) := by decide +kernel
theorem dJ9_min_7cf53_10 : decode cJ9_min_7cf53 10 = .ok (.ireturn, 1) := by decide +kernel
theorem dJ7_fill_53178_0 : decode cJ7_fill_53178 0 = .ok (.iconst 0, 1) := by decide +kernel
theorem dJ7_fill_53178_1 : decode cJ7_fill_53178 1 = .ok (.istore_n 2, 1) := by decide +kernel
theorem dJ7_fill_53178_2 : decode cJ7_fill_53178 2 = .ok (.aload_n 0, 1) := by decide +kernel
theorem dJ7_fill_53178_3 : decode cJ7_fill_53178 3 = .ok (.arraylength, 1) := by decide +kernel
theorem dJ7_fill_53178_4 : decode cJ7_fill_53178 4 = .ok (.istore_n 3, 1) := by decide +kernel
theorem dJ7_fill_53178_5 : decode cJ7_fill_53178 5 = .ok (.iload_n 2, 1) := by decide +kernel
theorem dJ7_fill_53178_6 : decode cJ7_fill_53178 6 = .ok (.iload_n 3, 1) := by decide +kernel
theorem dJ7_fill_53178_7 : decode cJ7_fill_53178 7 = .ok (.if_icmp .ge 13, 3) := by decide +kernel
theorem dJ7_fill_53178_10 : decode cJ7_fill_53178 10 = .ok (.aload_n 0, 1) := by decide +kernel
theorem dJ7_fill_53178_11 : decode cJ7_fill_53178 11 = .ok (.iload_n 2, 1) := by decide +kernel
theorem dJ7_fill_53178_12 : decode cJ7_fill_53178 12 = .ok (.iload_n 1, 1) := by decide +kernel
theorem dJ7_fill_53178_13 : decode cJ7_fill_53178 13 = .ok (.iastore, 1) := by decide +kernel
theorem dJ7_fill_53178_14 : decode cJ7_fill_53178 14 = .ok (.iinc 2 1, 3) := by decide +kernel
theorem dJ7_fill_53178_17 : decode cJ7_fill_53178 17 = .ok (.goto (-12), 3) := by decide +kernel
theorem dJ7_fill_53178_20 : decode cJ7_fill_53178 20 = .ok (.return_, 1) := by decide +kernel
