theorem dX8_bestLoop_159 : decode cX8_bestLoop 159 = .ok (.iload 4, 2) := by decide +kernel
theorem dX8_bestLoop_161 : decode cX8_bestLoop 161 = .ok (.bipush 100, 2) := by decide +kernel
theorem dX8_bestLoop_163 : decode cX8_bestLoop 163 = .ok (.iload 5, 2) := by decide +kernel
theorem dX8_bestLoop_165 : decode cX8_bestLoop 165 = .ok (.imul, 1) := by decide +kernel
theorem dX8_bestLoop_166 : decode cX8_bestLoop 166 = .ok (.iadd, 1) := by decide +kernel
theorem dX8_bestLoop_167 : decode cX8_bestLoop 167 = .ok (.iload_n 3, 1) := by decide +kernel
theorem dX8_bestLoop_168 : decode cX8_bestLoop 168 = .ok (.invokevirtual 125, 3) := by decide +kernel
theorem dX8_bestLoop_171 : decode cX8_bestLoop 171 = .ok (.ireturn, 1) := by decide +kernel
set_option maxRecDepth 20000 in
theorem ggX8_rest_X8_in : GoodIn wsX8_rest wsX8_in := goodIn_r _ [11] (by decide +kernel) (by decide +kernel)
set_option maxRecDepth 20000 in
theorem gX8_rest_X8_in : GoodIn wsX8_rest (va_wsS RX8 95 yX8_in wsX8_in) := goodIn_app (goodIn_of _ (by decide +kernel)) ggX8_rest_X8_in
theorem dX8_rest_0 : decode cX8_rest 0 = .ok (.iload_n 1, 1) := by decide +kernel
theorem dX8_rest_1 : decode cX8_rest 1 = .ok (.iconst 0, 1) := by decide +kernel
theorem dX8_rest_2 : decode cX8_rest 2 = .ok (.iconst 3, 1) := by decide +kernel
theorem dX8_rest_3 : decode cX8_rest 3 = .ok (.invokestatic 95, 3) := by decide +kernel
theorem dX8_rest_6 : decode cX8_rest 6 = .ok (.ifCond .eq 37, 3) := by decide +kernel
theorem dX8_rest_9 : decode cX8_rest 9 = .ok (.iload_n 2, 1) := by decide +kernel
theorem dX8_rest_10 : decode cX8_rest 10 = .ok (.iconst 1, 1) := by decide +kernel
theorem dX8_rest_11 : decode cX8_rest 11 = .ok (.aload_n 0, 1) := by decide +kernel
theorem dX8_rest_12 : decode cX8_rest 12 = .ok (.getfield 113, 3) := by decide +kernel
theorem dX8_rest_15 : decode cX8_rest 15 = .ok (.iconst 1, 1) := by decide +kernel
theorem dX8_rest_16 : decode cX8_rest 16 = .ok (.isub, 1) := by decide +kernel
theorem dX8_rest_17 : decode cX8_rest 17 = .ok (.invokestatic 95, 3) := by decide +kernel
theorem dX8_rest_20 : decode cX8_rest 20 = .ok (.ifCond .eq 23, 3) := by decide +kernel
theorem dX8_rest_23 : decode cX8_rest 23 = .ok (.iload_n 1, 1) := by decide +kernel
theorem dX8_rest_24 : decode cX8_rest 24 = .ok (.iconst 2, 1) := by decide +kernel
theorem dX8_rest_25 : decode cX8_rest 25 = .ok (.if_icmp .ne 14, 3) := by decide +kernel
theorem dX8_rest_28 : decode cX8_rest 28 = .ok (.iload_n 3, 1) := by decide +kernel
theorem dX8_rest_29 : decode cX8_rest 29 = .ok (.iconst 1, 1) := by decide +kernel
theorem dX8_rest_30 : decode cX8_rest 30 = .ok (.sipush 500, 3) := by decide +kernel
theorem dX8_rest_33 : decode cX8_rest 33 = .ok (.invokestatic 95, 3) := by decide +kernel
theorem dX8_rest_36 : decode cX8_rest 36 = .ok (.ifCond .eq 7, 3) := by decide +kernel
theorem dX8_rest_39 : decode cX8_rest 39 = .ok (.iconst 1, 1) := by decide +kernel
theorem dX8_rest_40 : decode cX8_rest 40 = .ok (.goto 4, 3) := by decide +kernel
theorem dX8_rest_43 : decode cX8_rest 43 = .ok (.iconst 0, 1) := by decide +kernel
theorem dX8_rest_44 : decode cX8_rest 44 = .ok (.istore 4, 2) := by decide +kernel
theorem dX8_rest_46 : decode cX8_rest 46 = .ok (.iconst 0, 1) := by decide +kernel
theorem dX8_rest_47 : decode cX8_rest 47 = .ok (.istore 5, 2) := by decide +kernel
theorem dX8_rest_49 : decode cX8_rest 49 = .ok (.iload 5, 2) := by decide +kernel
theorem dX8_rest_51 : decode cX8_rest 51 = .ok (.aload_n 0, 1) := by decide +kernel
theorem dX8_rest_52 : decode cX8_rest 52 = .ok (.getfield 164, 3) := by decide +kernel
theorem dX8_rest_55 : decode cX8_rest 55 = .ok (.if_icmp .ge 42, 3) := by decide +kernel
theorem dX8_rest_58 : decode cX8_rest 58 = .ok (.iload 4, 2) := by decide +kernel
theorem dX8_rest_60 : decode cX8_rest 60 = .ok (.ifCond .eq 28, 3) := by decide +kernel
theorem dX8_rest_63 : decode cX8_rest 63 = .ok (.aload_n 0, 1) := by decide +kernel
theorem dX8_rest_64 : decode cX8_rest 64 = .ok (.getfield 62, 3) := by decide +kernel
theorem dX8_rest_67 : decode cX8_rest 67 = .ok (.iload 5, 2) := by decide +kernel
theorem dX8_rest_69 : decode cX8_rest 69 = .ok (.baload, 1) := by decide +kernel
theorem dX8_rest_70 : decode cX8_rest 70 = .ok (.ifCond .ne 14, 3) := by decide +kernel
theorem dX8_rest_73 : decode cX8_rest 73 = .ok (.aload_n 0, 1) := by decide +kernel
theorem dX8_rest_74 : decode cX8_rest 74 = .ok (.getfield 53, 3) := by decide +kernel
theorem dX8_rest_77 : decode cX8_rest 77 = .ok (.iload 5, 2) := by decide +kernel
theorem dX8_rest_79 : decode cX8_rest 79 = .ok (.iaload, 1) := by decide +kernel
theorem dX8_rest_80 : decode cX8_rest 80 = .ok (.iload_n 2, 1) := by decide +kernel
theorem dX8_rest_81 : decode cX8_rest 81 = .ok (.if_icmp .eq 7, 3) := by decide +kernel
theorem dX8_rest_84 : decode cX8_rest 84 = .ok (.iconst 1, 1) := by decide +kernel
theorem dX8_rest_85 : decode cX8_rest 85 = .ok (.goto 4, 3) := by decide +kernel
theorem dX8_rest_88 : decode cX8_rest 88 = .ok (.iconst 0, 1) := by decide +kernel
theorem dX8_rest_89 : decode cX8_rest 89 = .ok (.istore 4, 2) := by decide +kernel
theorem dX8_rest_91 : decode cX8_rest 91 = .ok (.iinc 5 1, 3) := by decide +kernel
theorem dX8_rest_94 : decode cX8_rest 94 = .ok (.goto (-45), 3) := by decide +kernel
theorem dX8_rest_97 : decode cX8_rest 97 = .ok (.iload 4, 2) := by decide +kernel
theorem dX8_rest_99 : decode cX8_rest 99 = .ok (.ifCond .ne 5, 3) := by decide +kernel
theorem dX8_rest_102 : decode cX8_rest 102 = .ok (.iconst (-1), 1) := by decide +kernel
theorem dX8_rest_103 : decode cX8_rest 103 = .ok (.ireturn, 1) := by decide +kernel
theorem dX8_rest_104 : decode cX8_rest 104 = .ok (.aload_n 0, 1) := by decide +kernel
theorem dX8_rest_105 : decode cX8_rest 105 = .ok (.getfield 164, 3) := by decide +kernel
theorem dX8_rest_108 : decode cX8_rest 108 = .ok (.bipush 12, 2) := by decide +kernel
theorem dX8_rest_110 : decode cX8_rest 110 = .ok (.if_icmp .ne 6, 3) := by decide +kernel
theorem dX8_rest_113 : decode cX8_rest 113 = .ok (.bipush (-2), 2) := by decide +kernel
theorem dX8_rest_115 : decode cX8_rest 115 = .ok (.ireturn, 1) := by decide +kernel
theorem dX8_rest_116 : decode cX8_rest 116 = .ok (.aload_n 0, 1) := by decide +kernel
theorem dX8_rest_117 : decode cX8_rest 117 = .ok (.getfield 50, 3) := by decide +kernel
theorem dX8_rest_120 : decode cX8_rest 120 = .ok (.aload_n 0, 1) := by decide +kernel
theorem dX8_rest_121 : decode cX8_rest 121 = .ok (.getfield 164, 3) := by decide +kernel
theorem dX8_rest_124 : decode cX8_rest 124 = .ok (.iload_n 1, 1) := by decide +kernel
theorem dX8_rest_125 : decode cX8_rest 125 = .ok (.iastore, 1) := by decide +kernel
theorem dX8_rest_126 : decode cX8_rest 126 = .ok (.aload_n 0, 1) := by decide +kernel
theorem dX8_rest_127 : decode cX8_rest 127 = .ok (.getfield 53, 3) := by decide +kernel
theorem dX8_rest_130 : decode cX8_rest 130 = .ok (.aload_n 0, 1) := by decide +kernel
theorem dX8_rest_131 : decode cX8_rest 131 = .ok (.getfield 164, 3) := by decide +kernel
theorem dX8_rest_134 : decode cX8_rest 134 = .ok (.iload_n 2, 1) := by decide +kernel
theorem dX8_rest_135 : decode cX8_rest 135 = .ok (.iastore, 1) := by decide +kernel
theorem dX8_rest_136 : decode cX8_rest 136 = .ok (.aload_n 0, 1) := by decide +kernel
theorem dX8_rest_137 : decode cX8_rest 137 = .ok (.getfield 56, 3) := by decide +kernel
theorem dX8_rest_140 : decode cX8_rest 140 = .ok (.aload_n 0, 1) := by decide +kernel
theorem dX8_rest_141 : decode cX8_rest 141 = .ok (.getfield 164, 3) := by decide +kernel
theorem dX8_rest_144 : decode cX8_rest 144 = .ok (.iload_n 1, 1) := by decide +kernel
theorem dX8_rest_145 : decode cX8_rest 145 = .ok (.iconst 2, 1) := by decide +kernel
theorem dX8_rest_146 : decode cX8_rest 146 = .ok (.if_icmp .ne 7, 3) := by decide +kernel
theorem dX8_rest_149 : decode cX8_rest 149 = .ok (.iload_n 3, 1) := by decide +kernel
theorem dX8_rest_150 : decode cX8_rest 150 = .ok (.goto 5, 3) := by decide +kernel
theorem dX8_rest_153 : decode cX8_rest 153 = .ok (.bipush (-9), 2) := by decide +kernel
theorem dX8_rest_155 : decode cX8_rest 155 = .ok (.iastore, 1) := by decide +kernel
theorem dX8_rest_156 : decode cX8_rest 156 = .ok (.aload_n 0, 1) := by decide +kernel
theorem dX8_rest_157 : decode cX8_rest 157 = .ok (.getfield 59, 3) := by decide +kernel
theorem dX8_rest_160 : decode cX8_rest 160 = .ok (.aload_n 0, 1) := by decide +kernel
theorem dX8_rest_161 : decode cX8_rest 161 = .ok (.getfield 164, 3) := by decide +kernel
theorem dX8_rest_164 : decode cX8_rest 164 = .ok (.bipush (-9), 2) := by decide +kernel
theorem dX8_rest_166 : decode cX8_rest 166 = .ok (.iastore, 1) := by decide +kernel
theorem dX8_rest_167 : decode cX8_rest 167 = .ok (.aload_n 0, 1) := by decide +kernel
theorem dX8_rest_168 : decode cX8_rest 168 = .ok (.getfield 62, 3) := by decide +kernel
theorem dX8_rest_171 : decode cX8_rest 171 = .ok (.aload_n 0, 1) := by decide +kernel
theorem dX8_rest_172 : decode cX8_rest 172 = .ok (.getfield 164, 3) := by decide +kernel
theorem dX8_rest_175 : decode cX8_rest 175 = .ok (.iconst 0, 1) := by decide +kernel
theorem dX8_rest_176 : decode cX8_rest 176 = .ok (.bastore, 1) := by decide +kernel
theorem dX8_rest_177 : decode cX8_rest 177 = .ok (.aload_n 0, 1) := by decide +kernel
theorem dX8_rest_178 : decode cX8_rest 178 = .ok (.dup, 1) := by decide +kernel
theorem dX8_rest_179 : decode cX8_rest 179 = .ok (.getfield 164, 3) := by decide +kernel
theorem dX8_rest_182 : decode cX8_rest 182 = .ok (.iconst 1, 1) := by decide +kernel
theorem dX8_rest_183 : decode cX8_rest 183 = .ok (.iadd, 1) := by decide +kernel
theorem dX8_rest_184 : decode cX8_rest 184 = .ok (.putfield 164, 3) := by decide +kernel
theorem dX8_rest_187 : decode cX8_rest 187 = .ok (.aload_n 0, 1) := by decide +kernel
theorem dX8_rest_188 : decode cX8_rest 188 = .ok (.getfield 164, 3) := by decide +kernel
theorem dX8_rest_191 : decode cX8_rest 191 = .ok (.iconst 1, 1) := by decide +kernel
theorem dX8_rest_192 : decode cX8_rest 192 = .ok (.isub, 1) := by decide +kernel
theorem dX8_rest_193 : decode cX8_rest 193 = .ok (.ireturn, 1) := by decide +kernel
set_option maxRecDepth 20000 in
theorem ggX8_need_X8_in : GoodIn wsX8_need wsX8_in := goodIn_r _ [6] (by decide +kernel) (by decide +kernel)
set_option maxRecDepth 20000 in
theorem gX8_need_X8_in : GoodIn wsX8_need (va_wsS RX8 95 yX8_in wsX8_in) := goodIn_app (goodIn_of _ (by decide +kernel)) ggX8_need_X8_in
set_option maxRecDepth 20000 in
theorem ggX8_need_X8_meets : GoodIn wsX8_need wsX8_meets := goodIn_r _ [10, 11, 12, 13, 14, 15, 16, 17, 18, 19, 20, 21, 22, 23, 24, 25, 26, 27, 28, 29, 30, 31, 32, 33, 34, 35, 36, 37, 38, 39, 40, 41, 42, 43, 44, 45, 46] (by decide +kernel) (by decide +kernel)
set_option maxRecDepth 20000 in
theorem gX8_need_X8_meets : GoodIn wsX8_need (wsV RX8 109 RX8 yX8_meets wsX8_meets) := goodIn_app (goodIn_of _ (by decide +kernel)) ggX8_need_X8_meets
theorem dX8_need_0 : decode cX8_need 0 = .ok (.iload_n 2, 1) := by decide +kernel
theorem dX8_need_1 : decode cX8_need 1 = .ok (.iconst 0, 1) := by decide +kernel
theorem dX8_need_2 : decode cX8_need 2 = .ok (.aload_n 0, 1) := by decide +kernel
theorem dX8_need_3 : decode cX8_need 3 = .ok (.getfield 164, 3) := by decide +kernel
theorem dX8_need_6 : decode cX8_need 6 = .ok (.iconst 1, 1) := by decide +kernel
theorem dX8_need_7 : decode cX8_need 7 = .ok (.isub, 1) := by decide +kernel
theorem dX8_need_8 : decode cX8_need 8 = .ok (.invokestatic 95, 3) := by decide +kernel
theorem dX8_need_11 : decode cX8_need 11 = .ok (.ifCond .eq 7, 3) := by decide +kernel
theorem dX8_need_14 : decode cX8_need 14 = .ok (.iload_n 1, 1) := by decide +kernel
theorem dX8_need_15 : decode cX8_need 15 = .ok (.ifCond .ne 7, 3) := by decide +kernel
theorem dX8_need_18 : decode cX8_need 18 = .ok (.iconst (-1), 1) := by decide +kernel
theorem dX8_need_19 : decode cX8_need 19 = .ok (.goto 21, 3) := by decide +kernel
theorem dX8_need_22 : decode cX8_need 22 = .ok (.aload_n 0, 1) := by decide +kernel
theorem dX8_need_23 : decode cX8_need 23 = .ok (.getfield 62, 3) := by decide +kernel
theorem dX8_need_26 : decode cX8_need 26 = .ok (.iload_n 2, 1) := by decide +kernel
theorem dX8_need_27 : decode cX8_need 27 = .ok (.baload, 1) := by decide +kernel
theorem dX8_need_28 : decode cX8_need 28 = .ok (.ifCond .eq 11, 3) := by decide +kernel
theorem dX8_need_31 : decode cX8_need 31 = .ok (.aload_n 0, 1) := by decide +kernel
theorem dX8_need_32 : decode cX8_need 32 = .ok (.iconst 1, 1) := by decide +kernel
theorem dX8_need_33 : decode cX8_need 33 = .ok (.invokevirtual 109, 3) := by decide +kernel
theorem dX8_need_36 : decode cX8_need 36 = .ok (.goto 4, 3) := by decide +kernel
theorem dX8_need_39 : decode cX8_need 39 = .ok (.iconst 0, 1) := by decide +kernel
theorem dX8_need_40 : decode cX8_need 40 = .ok (.ireturn, 1) := by decide +kernel
set_option maxRecDepth 20000 in
theorem ggX8_drop_X8_need : GoodIn wsX8_drop wsX8_need := goodIn_r _ [6, 7, 1, 8, 9, 5, 10, 11, 12, 13, 14, 15, 16, 17, 18, 19, 20, 21, 22, 23, 24, 25, 26, 27, 28, 29, 30, 31, 32, 33, 34, 35, 36, 37, 38, 39, 40, 41, 42, 43, 44, 45, 46, 47, 48, 49, 50] (by decide +kernel) (by decide +kernel)
set_option maxRecDepth 20000 in
theorem gX8_drop_X8_need : GoodIn wsX8_drop (wsV RX8 167 RX8 yX8_need wsX8_need) := goodIn_app (goodIn_of _ (by decide +kernel)) ggX8_drop_X8_need
theorem dX8_drop_0 : decode cX8_drop 0 = .ok (.aload_n 0, 1) := by decide +kernel
theorem dX8_drop_1 : decode cX8_drop 1 = .ok (.iconst 1, 1) := by decide +kernel
theorem dX8_drop_2 : decode cX8_drop 2 = .ok (.iload_n 1, 1) := by decide +kernel
theorem dX8_drop_3 : decode cX8_drop 3 = .ok (.invokevirtual 167, 3) := by decide +kernel
theorem dX8_drop_6 : decode cX8_drop 6 = .ok (.istore_n 2, 1) := by decide +kernel
theorem dX8_drop_7 : decode cX8_drop 7 = .ok (.iload_n 2, 1) := by decide +kernel
theorem dX8_drop_8 : decode cX8_drop 8 = .ok (.ifCond .ge 5, 3) := by decide +kernel
theorem dX8_drop_11 : decode cX8_drop 11 = .ok (.iload_n 2, 1) := by decide +kernel
theorem dX8_drop_12 : decode cX8_drop 12 = .ok (.ireturn, 1) := by decide +kernel
theorem dX8_drop_13 : decode cX8_drop 13 = .ok (.aload_n 0, 1) := by decide +kernel
theorem dX8_drop_14 : decode cX8_drop 14 = .ok (.getfield 62, 3) := by decide +kernel
theorem dX8_drop_17 : decode cX8_drop 17 = .ok (.iload_n 1, 1) := by decide +kernel
theorem dX8_drop_18 : decode cX8_drop 18 = .ok (.iconst 1, 1) := by decide +kernel
theorem dX8_drop_19 : decode cX8_drop 19 = .ok (.bastore, 1) := by decide +kernel
theorem dX8_drop_20 : decode cX8_drop 20 = .ok (.iconst 1, 1) := by decide +kernel
theorem dX8_drop_21 : decode cX8_drop 21 = .ok (.ireturn, 1) := by decide +kernel
theorem dX8_isThere_0 : decode cX8_isThere 0 = .ok (.aload_n 0, 1) := by decide +kernel
theorem dX8_isThere_1 : decode cX8_isThere 1 = .ok (.getfield 62, 3) := by decide +kernel
theorem dX8_isThere_4 : decode cX8_isThere 4 = .ok (.iload_n 1, 1) := by decide +kernel
theorem dX8_isThere_5 : decode cX8_isThere 5 = .ok (.baload, 1) := by decide +kernel
theorem dX8_isThere_6 : decode cX8_isThere 6 = .ok (.ifCond .ne 20, 3) := by decide +kernel
theorem dX8_isThere_9 : decode cX8_isThere 9 = .ok (.aload_n 0, 1) := by decide +kernel
theorem dX8_isThere_10 : decode cX8_isThere 10 = .ok (.getfield 53, 3) := by decide +kernel
theorem dX8_isThere_13 : decode cX8_isThere 13 = .ok (.iload_n 1, 1) := by decide +kernel
theorem dX8_isThere_14 : decode cX8_isThere 14 = .ok (.iaload, 1) := by decide +kernel
theorem dX8_isThere_15 : decode cX8_isThere 15 = .ok (.aload_n 0, 1) := by decide +kernel
theorem dX8_isThere_16 : decode cX8_isThere 16 = .ok (.getfield 113, 3) := by decide +kernel
theorem dX8_isThere_19 : decode cX8_isThere 19 = .ok (.if_icmp .ge 7, 3) := by decide +kernel
theorem dX8_isThere_22 : decode cX8_isThere 22 = .ok (.iconst 1, 1) := by decide +kernel
theorem dX8_isThere_23 : decode cX8_isThere 23 = .ok (.goto 4, 3) := by decide +kernel
theorem dX8_isThere_26 : decode cX8_isThere 26 = .ok (.iconst 0, 1) := by decide +kernel
theorem dX8_isThere_27 : decode cX8_isThere 27 = .ok (.ireturn, 1) := by decide +kernel
set_option maxRecDepth 20000 in
theorem ggX8_toldOf_X8_isThere : GoodIn wsX8_toldOf wsX8_isThere := goodIn_r _ [8, 9, 2, 10, 11, 12, 13, 14, 15, 16, 17, 18, 19, 20, 21, 22, 23, 24, 25, 26, 27, 28, 29, 30, 31, 32, 33, 34, 35, 36, 37, 38, 39, 40, 41, 42, 43, 44] (by decide +kernel) (by decide +kernel)
set_option maxRecDepth 20000 in
theorem gX8_toldOf_X8_isThere : GoodIn wsX8_toldOf (wsV RX8 171 RX8 yX8_isThere wsX8_isThere) := goodIn_app (goodIn_of _ (by decide +kernel)) ggX8_toldOf_X8_isThere
theorem dX8_toldOf_0 : decode cX8_toldOf 0 = .ok (.iload_n 2, 1) := by decide +kernel
theorem dX8_toldOf_1 : decode cX8_toldOf 1 = .ok (.ifCond .ne 12, 3) := by decide +kernel
theorem dX8_toldOf_4 : decode cX8_toldOf 4 = .ok (.aload_n 0, 1) := by decide +kernel
theorem dX8_toldOf_5 : decode cX8_toldOf 5 = .ok (.getfield 50, 3) := by decide +kernel
theorem dX8_toldOf_8 : decode cX8_toldOf 8 = .ok (.iload_n 1, 1) := by decide +kernel
theorem dX8_toldOf_9 : decode cX8_toldOf 9 = .ok (.iaload, 1) := by decide +kernel
theorem dX8_toldOf_10 : decode cX8_toldOf 10 = .ok (.goto 44, 3) := by decide +kernel
theorem dX8_toldOf_13 : decode cX8_toldOf 13 = .ok (.iload_n 2, 1) := by decide +kernel
theorem dX8_toldOf_14 : decode cX8_toldOf 14 = .ok (.iconst 1, 1) := by decide +kernel
theorem dX8_toldOf_15 : decode cX8_toldOf 15 = .ok (.if_icmp .ne 12, 3) := by decide +kernel
theorem dX8_toldOf_18 : decode cX8_toldOf 18 = .ok (.aload_n 0, 1) := by decide +kernel
theorem dX8_toldOf_19 : decode cX8_toldOf 19 = .ok (.getfield 53, 3) := by decide +kernel
theorem dX8_toldOf_22 : decode cX8_toldOf 22 = .ok (.iload_n 1, 1) := by decide +kernel
theorem dX8_toldOf_23 : decode cX8_toldOf 23 = .ok (.iaload, 1) := by decide +kernel
theorem dX8_toldOf_24 : decode cX8_toldOf 24 = .ok (.goto 30, 3) := by decide +kernel
theorem dX8_toldOf_27 : decode cX8_toldOf 27 = .ok (.iload_n 2, 1) := by decide +kernel
theorem dX8_toldOf_28 : decode cX8_toldOf 28 = .ok (.iconst 2, 1) := by decide +kernel
theorem dX8_toldOf_29 : decode cX8_toldOf 29 = .ok (.if_icmp .ne 12, 3) := by decide +kernel
theorem dX8_toldOf_32 : decode cX8_toldOf 32 = .ok (.aload_n 0, 1) := by decide +kernel
theorem dX8_toldOf_33 : decode cX8_toldOf 33 = .ok (.getfield 56, 3) := by decide +kernel
theorem dX8_toldOf_36 : decode cX8_toldOf 36 = .ok (.iload_n 1, 1) := by decide +kernel
theorem dX8_toldOf_37 : decode cX8_toldOf 37 = .ok (.iaload, 1) := by decide +kernel
theorem dX8_toldOf_38 : decode cX8_toldOf 38 = .ok (.goto 16, 3) := by decide +kernel
theorem dX8_toldOf_41 : decode cX8_toldOf 41 = .ok (.aload_n 0, 1) := by decide +kernel
theorem dX8_toldOf_42 : decode cX8_toldOf 42 = .ok (.iload_n 1, 1) := by decide +kernel
theorem dX8_toldOf_43 : decode cX8_toldOf 43 = .ok (.invokevirtual 171, 3) := by decide +kernel
theorem dX8_toldOf_46 : decode cX8_toldOf 46 = .ok (.ifCond .eq 7, 3) := by decide +kernel
theorem dX8_toldOf_49 : decode cX8_toldOf 49 = .ok (.iconst 1, 1) := by decide +kernel
theorem dX8_toldOf_50 : decode cX8_toldOf 50 = .ok (.goto 4, 3) := by decide +kernel
theorem dX8_toldOf_53 : decode cX8_toldOf 53 = .ok (.iconst 0, 1) := by decide +kernel
theorem dX8_toldOf_54 : decode cX8_toldOf 54 = .ok (.ireturn, 1) := by decide +kernel
set_option maxRecDepth 20000 in
theorem ggX8_told_X8_in : GoodIn wsX8_told wsX8_in := goodIn_r _ [4] (by decide +kernel) (by decide +kernel)
set_option maxRecDepth 20000 in
theorem gX8_told_X8_in : GoodIn wsX8_told (va_wsS RX8 95 yX8_in wsX8_in) := goodIn_app (goodIn_of _ (by decide +kernel)) ggX8_told_X8_in
set_option maxRecDepth 20000 in
theorem ggX8_told_X8_need : GoodIn wsX8_told wsX8_need := goodIn_r _ [8, 9, 10, 1, 2, 3, 4, 11, 12, 13, 14, 15, 16, 29, 30, 31, 32, 33, 34, 35, 36, 37, 38, 39, 40, 41, 42, 43, 44, 45, 46, 47, 48, 49, 50, 51, 52, 53, 54, 55, 56, 57, 58, 59, 60, 61, 62] (by decide +kernel) (by decide +kernel)
set_option maxRecDepth 20000 in
theorem gX8_told_X8_need : GoodIn wsX8_told (wsV RX8 167 RX8 yX8_need wsX8_need) := goodIn_app (goodIn_of _ (by decide +kernel)) ggX8_told_X8_need
set_option maxRecDepth 20000 in
theorem ggX8_told_X8_toldOf : GoodIn wsX8_told wsX8_toldOf := goodIn_r _ [20, 21, 22, 23, 24, 25, 26, 3, 27, 10, 28, 29, 30, 31, 32, 33, 34, 35, 36, 37, 38, 39, 40, 41, 42, 43, 44, 45, 46, 47, 48, 49, 50, 51, 52, 53, 54, 55, 56, 57, 58, 59, 60, 61, 62] (by decide +kernel) (by decide +kernel)
set_option maxRecDepth 20000 in
theorem gX8_told_X8_toldOf : GoodIn wsX8_told (wsV RX8 174 RX8 yX8_toldOf wsX8_toldOf) := goodIn_app (goodIn_of _ (by decide +kernel)) ggX8_told_X8_toldOf
theorem dX8_told_0 : decode cX8_told 0 = .ok (.aload_n 0, 1) := by decide +kernel
theorem dX8_told_1 : decode cX8_told 1 = .ok (.iload_n 2, 1) := by decide +kernel
theorem dX8_told_2 : decode cX8_told 2 = .ok (.iconst 0, 1) := by decide +kernel
theorem dX8_told_3 : decode cX8_told 3 = .ok (.iconst 3, 1) := by decide +kernel
theorem dX8_told_4 : decode cX8_told 4 = .ok (.invokestatic 95, 3) := by decide +kernel
theorem dX8_told_7 : decode cX8_told 7 = .ok (.iload_n 1, 1) := by decide +kernel
theorem dX8_told_8 : decode cX8_told 8 = .ok (.invokevirtual 167, 3) := by decide +kernel
theorem dX8_told_11 : decode cX8_told 11 = .ok (.istore_n 3, 1) := by decide +kernel
theorem dX8_told_12 : decode cX8_told 12 = .ok (.iload_n 3, 1) := by decide +kernel
theorem dX8_told_13 : decode cX8_told 13 = .ok (.ifCond .ge 7, 3) := by decide +kernel
theorem dX8_told_16 : decode cX8_told 16 = .ok (.iload_n 3, 1) := by decide +kernel
theorem dX8_told_17 : decode cX8_told 17 = .ok (.goto 9, 3) := by decide +kernel
theorem dX8_told_20 : decode cX8_told 20 = .ok (.aload_n 0, 1) := by decide +kernel
theorem dX8_told_21 : decode cX8_told 21 = .ok (.iload_n 1, 1) := by decide +kernel
theorem dX8_told_22 : decode cX8_told 22 = .ok (.iload_n 2, 1) := by decide +kernel
theorem dX8_told_23 : decode cX8_told 23 = .ok (.invokevirtual 174, 3) := by decide +kernel
theorem dX8_told_26 : decode cX8_told 26 = .ok (.ireturn, 1) := by decide +kernel
set_option maxRecDepth 20000 in
theorem ggX8_is_X8_in : GoodIn wsX8_is wsX8_in := goodIn_r _ [5] (by decide +kernel) (by decide +kernel)
set_option maxRecDepth 20000 in
theorem gX8_is_X8_in : GoodIn wsX8_is (va_wsS RX8 95 yX8_in wsX8_in) := goodIn_app (goodIn_of _ (by decide +kernel)) ggX8_is_X8_in
set_option maxRecDepth 20000 in
theorem ggX8_is_X8_need : GoodIn wsX8_is wsX8_need := goodIn_r _ [9, 10, 11, 2, 3, 4, 5, 12, 13, 14, 15, 16, 17, 18, 19, 20, 21, 22, 23, 24, 25, 26, 27, 28, 29, 30, 31, 32, 33, 34, 35, 36, 37, 38, 39, 40, 41, 42, 43, 44, 45, 46, 47, 48, 49, 50, 51] (by decide +kernel) (by decide +kernel)
set_option maxRecDepth 20000 in
theorem gX8_is_X8_need : GoodIn wsX8_is (wsV RX8 167 RX8 yX8_need wsX8_need) := goodIn_app (goodIn_of _ (by decide +kernel)) ggX8_is_X8_need
theorem dX8_is_0 : decode cX8_is 0 = .ok (.aload_n 0, 1) := by decide +kernel
theorem dX8_is_1 : decode cX8_is 1 = .ok (.iload_n 2, 1) := by decide +kernel
theorem dX8_is_2 : decode cX8_is 2 = .ok (.iconst 0, 1) := by decide +kernel
theorem dX8_is_3 : decode cX8_is 3 = .ok (.iconst 3, 1) := by decide +kernel
theorem dX8_is_4 : decode cX8_is 4 = .ok (.invokestatic 95, 3) := by decide +kernel
theorem dX8_is_7 : decode cX8_is 7 = .ok (.iload_n 1, 1) := by decide +kernel
theorem dX8_is_8 : decode cX8_is 8 = .ok (.invokevirtual 167, 3) := by decide +kernel
theorem dX8_is_11 : decode cX8_is 11 = .ok (.istore_n 3, 1) := by decide +kernel
theorem dX8_is_12 : decode cX8_is 12 = .ok (.iload_n 3, 1) := by decide +kernel
theorem dX8_is_13 : decode cX8_is 13 = .ok (.ifCond .ge 5, 3) := by decide +kernel
theorem dX8_is_16 : decode cX8_is 16 = .ok (.iload_n 3, 1) := by decide +kernel
theorem dX8_is_17 : decode cX8_is 17 = .ok (.ireturn, 1) := by decide +kernel
theorem dX8_is_18 : decode cX8_is 18 = .ok (.iload_n 2, 1) := by decide +kernel
theorem dX8_is_19 : decode cX8_is 19 = .ok (.ifCond .eq 28, 3) := by decide +kernel
theorem dX8_is_22 : decode cX8_is 22 = .ok (.aload_n 0, 1) := by decide +kernel
theorem dX8_is_23 : decode cX8_is 23 = .ok (.getfield 50, 3) := by decide +kernel
theorem dX8_is_26 : decode cX8_is 26 = .ok (.iload_n 1, 1) := by decide +kernel
theorem dX8_is_27 : decode cX8_is 27 = .ok (.iaload, 1) := by decide +kernel
theorem dX8_is_28 : decode cX8_is 28 = .ok (.iload_n 2, 1) := by decide +kernel
theorem dX8_is_29 : decode cX8_is 29 = .ok (.if_icmp .eq 18, 3) := by decide +kernel
theorem dX8_is_32 : decode cX8_is 32 = .ok (.iload_n 2, 1) := by decide +kernel
theorem dX8_is_33 : decode cX8_is 33 = .ok (.iconst 1, 1) := by decide +kernel
theorem dX8_is_34 : decode cX8_is 34 = .ok (.if_icmp .ne 17, 3) := by decide +kernel
theorem dX8_is_37 : decode cX8_is 37 = .ok (.aload_n 0, 1) := by decide +kernel
theorem dX8_is_38 : decode cX8_is 38 = .ok (.getfield 50, 3) := by decide +kernel
theorem dX8_is_41 : decode cX8_is 41 = .ok (.iload_n 1, 1) := by decide +kernel
theorem dX8_is_42 : decode cX8_is 42 = .ok (.iaload, 1) := by decide +kernel
theorem dX8_is_43 : decode cX8_is 43 = .ok (.iconst 2, 1) := by decide +kernel
theorem dX8_is_44 : decode cX8_is 44 = .ok (.if_icmp .ne 7, 3) := by decide +kernel
theorem dX8_is_47 : decode cX8_is 47 = .ok (.iconst 1, 1) := by decide +kernel
theorem dX8_is_48 : decode cX8_is 48 = .ok (.goto 4, 3) := by decide +kernel
theorem dX8_is_51 : decode cX8_is 51 = .ok (.iconst 0, 1) := by decide +kernel
theorem dX8_is_52 : decode cX8_is 52 = .ok (.ireturn, 1) := by decide +kernel
set_option maxRecDepth 20000 in
theorem ggX8_isLifted_X8_isThere : GoodIn wsX8_isLifted wsX8_isThere := goodIn_r _ [7, 8, 2, 9, 25, 26, 27, 28, 29, 30, 31, 32, 33, 34, 35, 36, 37, 38, 39, 40, 41, 42, 43, 44, 45, 46, 47, 48, 49, 50, 51, 52, 53, 54, 55, 56, 57, 58] (by decide +kernel) (by decide +kernel)
set_option maxRecDepth 20000 in
theorem gX8_isLifted_X8_isThere : GoodIn wsX8_isLifted (wsV RX8 171 RX8 yX8_isThere wsX8_isThere) := goodIn_app (goodIn_of _ (by decide +kernel)) ggX8_isLifted_X8_isThere
set_option maxRecDepth 20000 in
theorem ggX8_isLifted_X8_grownTo : GoodIn wsX8_isLifted wsX8_grownTo := goodIn_r _ [13, 9, 14, 15, 16, 17, 6, 18, 19, 20, 21, 22, 23, 24, 25, 26, 27, 28, 29, 30, 31, 32, 33, 34, 35, 36, 37, 38, 39, 40, 41, 42, 43, 44, 45, 46, 47, 48, 49, 50, 51, 52, 53, 54, 55, 56, 57, 58] (by decide +kernel) (by decide +kernel)
set_option maxRecDepth 20000 in
theorem gX8_isLifted_X8_grownTo : GoodIn wsX8_isLifted (wsV RX8 135 RX8 yX8_grownTo wsX8_grownTo) := goodIn_app (goodIn_of _ (by decide +kernel)) ggX8_isLifted_X8_grownTo
theorem dX8_isLifted_0 : decode cX8_isLifted 0 = .ok (.aload_n 0, 1) := by decide +kernel
theorem dX8_isLifted_1 : decode cX8_isLifted 1 = .ok (.iload_n 1, 1) := by decide +kernel
theorem dX8_isLifted_2 : decode cX8_isLifted 2 = .ok (.invokevirtual 171, 3) := by decide +kernel
theorem dX8_isLifted_5 : decode cX8_isLifted 5 = .ok (.ifCond .eq 32, 3) := by decide +kernel
theorem dX8_isLifted_8 : decode cX8_isLifted 8 = .ok (.aload_n 0, 1) := by decide +kernel
theorem dX8_isLifted_9 : decode cX8_isLifted 9 = .ok (.getfield 50, 3) := by decide +kernel
theorem dX8_isLifted_12 : decode cX8_isLifted 12 = .ok (.iload_n 1, 1) := by decide +kernel
theorem dX8_isLifted_13 : decode cX8_isLifted 13 = .ok (.iaload, 1) := by decide +kernel
theorem dX8_isLifted_14 : decode cX8_isLifted 14 = .ok (.iconst 2, 1) := by decide +kernel
theorem dX8_isLifted_15 : decode cX8_isLifted 15 = .ok (.if_icmp .ge 22, 3) := by decide +kernel
theorem dX8_isLifted_18 : decode cX8_isLifted 18 = .ok (.aload_n 0, 1) := by decide +kernel
theorem dX8_isLifted_19 : decode cX8_isLifted 19 = .ok (.aload_n 0, 1) := by decide +kernel
theorem dX8_isLifted_20 : decode cX8_isLifted 20 = .ok (.getfield 53, 3) := by decide +kernel
theorem dX8_isLifted_23 : decode cX8_isLifted 23 = .ok (.iload_n 1, 1) := by decide +kernel
theorem dX8_isLifted_24 : decode cX8_isLifted 24 = .ok (.iaload, 1) := by decide +kernel
theorem dX8_isLifted_25 : decode cX8_isLifted 25 = .ok (.iload_n 2, 1) := by decide +kernel
theorem dX8_isLifted_26 : decode cX8_isLifted 26 = .ok (.iconst 2, 1) := by decide +kernel
theorem dX8_isLifted_27 : decode cX8_isLifted 27 = .ok (.invokevirtual 135, 3) := by decide +kernel
theorem dX8_isLifted_30 : decode cX8_isLifted 30 = .ok (.ifCond .le 7, 3) := by decide +kernel
theorem dX8_isLifted_33 : decode cX8_isLifted 33 = .ok (.iconst 1, 1) := by decide +kernel
theorem dX8_isLifted_34 : decode cX8_isLifted 34 = .ok (.goto 4, 3) := by decide +kernel
theorem dX8_isLifted_37 : decode cX8_isLifted 37 = .ok (.iconst 0, 1) := by decide +kernel
theorem dX8_isLifted_38 : decode cX8_isLifted 38 = .ok (.ireturn, 1) := by decide +kernel
set_option maxRecDepth 20000 in
theorem ggX8_lifts_X8_isStep : GoodIn wsX8_lifts wsX8_isStep := goodIn_r _ [4, 5, 6, 3, 7] (by decide +kernel) (by decide +kernel)
set_option maxRecDepth 20000 in
theorem gX8_lifts_X8_isStep : GoodIn wsX8_lifts (va_wsS RX8 132 yX8_isStep wsX8_isStep) := goodIn_app (goodIn_of _ (by decide +kernel)) ggX8_lifts_X8_isStep
set_option maxRecDepth 20000 in
theorem ggX8_lifts_X8_need : GoodIn wsX8_lifts wsX8_need := goodIn_r _ [11, 12, 13, 5, 6, 3, 7, 14, 15, 16, 17, 18, 19, 46, 47, 48, 49, 50, 51, 52, 53, 54, 55, 56, 57, 58, 59, 60, 61, 62, 63, 64, 65, 66, 67, 68, 69, 70, 71, 72, 73, 74, 75, 76, 77, 78, 79] (by decide +kernel) (by decide +kernel)
set_option maxRecDepth 20000 in
theorem gX8_lifts_X8_need : GoodIn wsX8_lifts (wsV RX8 167 RX8 yX8_need wsX8_need) := goodIn_app (goodIn_of _ (by decide +kernel)) ggX8_lifts_X8_need
set_option maxRecDepth 20000 in
theorem ggX8_lifts_X8_isLifted : GoodIn wsX8_lifts wsX8_isLifted := goodIn_r _ [23, 24, 25, 26, 27, 28, 3, 29, 13, 30, 31, 32, 33, 34, 35, 36, 37, 38, 39, 40, 41, 42, 43, 44, 45, 46, 47, 48, 49, 50, 51, 52, 53, 54, 55, 56, 57, 58, 59, 60, 61, 62, 63, 64, 65, 66, 67, 68, 69, 70, 71, 72, 73, 74, 75, 76, 77, 78, 79] (by decide +kernel) (by decide +kernel)
set_option maxRecDepth 20000 in
theorem gX8_lifts_X8_isLifted : GoodIn wsX8_lifts (wsV RX8 177 RX8 yX8_isLifted wsX8_isLifted) := goodIn_app (goodIn_of _ (by decide +kernel)) ggX8_lifts_X8_isLifted
theorem dX8_lifts_0 : decode cX8_lifts 0 = .ok (.aload_n 0, 1) := by decide +kernel
theorem dX8_lifts_1 : decode cX8_lifts 1 = .ok (.iload_n 2, 1) := by decide +kernel
theorem dX8_lifts_2 : decode cX8_lifts 2 = .ok (.invokestatic 132, 3) := by decide +kernel
theorem dX8_lifts_5 : decode cX8_lifts 5 = .ok (.iload_n 1, 1) := by decide +kernel
theorem dX8_lifts_6 : decode cX8_lifts 6 = .ok (.invokevirtual 167, 3) := by decide +kernel
theorem dX8_lifts_9 : decode cX8_lifts 9 = .ok (.istore_n 3, 1) := by decide +kernel
theorem dX8_lifts_10 : decode cX8_lifts 10 = .ok (.iload_n 3, 1) := by decide +kernel
theorem dX8_lifts_11 : decode cX8_lifts 11 = .ok (.ifCond .ge 7, 3) := by decide +kernel
theorem dX8_lifts_14 : decode cX8_lifts 14 = .ok (.iload_n 3, 1) := by decide +kernel
theorem dX8_lifts_15 : decode cX8_lifts 15 = .ok (.goto 17, 3) := by decide +kernel
theorem dX8_lifts_18 : decode cX8_lifts 18 = .ok (.aload_n 0, 1) := by decide +kernel
theorem dX8_lifts_19 : decode cX8_lifts 19 = .ok (.iload_n 1, 1) := by decide +kernel
theorem dX8_lifts_20 : decode cX8_lifts 20 = .ok (.iload_n 2, 1) := by decide +kernel
theorem dX8_lifts_21 : decode cX8_lifts 21 = .ok (.invokevirtual 177, 3) := by decide +kernel
theorem dX8_lifts_24 : decode cX8_lifts 24 = .ok (.ifCond .eq 7, 3) := by decide +kernel
theorem dX8_lifts_27 : decode cX8_lifts 27 = .ok (.iconst 1, 1) := by decide +kernel
theorem dX8_lifts_28 : decode cX8_lifts 28 = .ok (.goto 4, 3) := by decide +kernel
theorem dX8_lifts_31 : decode cX8_lifts 31 = .ok (.iconst 0, 1) := by decide +kernel
theorem dX8_lifts_32 : decode cX8_lifts 32 = .ok (.ireturn, 1) := by decide +kernel
set_option maxRecDepth 20000 in
theorem ggX8_isBearing_X8_isThere : GoodIn wsX8_isBearing wsX8_isThere := goodIn_r _ [6, 7, 8, 9, 29, 30, 31, 32, 33, 34, 35, 36, 37, 38, 39, 40, 41, 42, 43, 44, 45, 46, 47, 48, 49, 50, 51, 52, 53, 54, 55, 56, 57, 58, 59, 60, 61, 62] (by decide +kernel) (by decide +kernel)
set_option maxRecDepth 20000 in
theorem gX8_isBearing_X8_isThere : GoodIn wsX8_isBearing (wsV RX8 171 RX8 yX8_isThere wsX8_isThere) := goodIn_app (goodIn_of _ (by decide +kernel)) ggX8_isBearing_X8_isThere
set_option maxRecDepth 20000 in
theorem ggX8_isBearing_X8_isLifted : GoodIn wsX8_isBearing wsX8_isLifted := goodIn_r _ [13, 1, 8, 2, 3, 4, 5, 6, 7, 9, 14, 15, 16, 17, 18, 19, 20, 21, 22, 23, 24, 25, 26, 27, 28, 29, 30, 31, 32, 33, 34, 35, 36, 37, 38, 39, 40, 41, 42, 43, 44, 45, 46, 47, 48, 49, 50, 51, 52, 53, 54, 55, 56, 57, 58, 59, 60, 61, 62] (by decide +kernel) (by decide +kernel)
set_option maxRecDepth 20000 in
theorem gX8_isBearing_X8_isLifted : GoodIn wsX8_isBearing (wsV RX8 177 RX8 yX8_isLifted wsX8_isLifted) := goodIn_app (goodIn_of _ (by decide +kernel)) ggX8_isBearing_X8_isLifted
theorem dX8_isBearing_0 : decode cX8_isBearing 0 = .ok (.aload_n 0, 1) := by decide +kernel
theorem dX8_isBearing_1 : decode cX8_isBearing 1 = .ok (.iload_n 1, 1) := by decide +kernel
theorem dX8_isBearing_2 : decode cX8_isBearing 2 = .ok (.invokevirtual 171, 3) := by decide +kernel
theorem dX8_isBearing_5 : decode cX8_isBearing 5 = .ok (.ifCond .eq 26, 3) := by decide +kernel
theorem dX8_isBearing_8 : decode cX8_isBearing 8 = .ok (.aload_n 0, 1) := by decide +kernel
theorem dX8_isBearing_9 : decode cX8_isBearing 9 = .ok (.getfield 50, 3) := by decide +kernel
theorem dX8_isBearing_12 : decode cX8_isBearing 12 = .ok (.iload_n 1, 1) := by decide +kernel
theorem dX8_isBearing_13 : decode cX8_isBearing 13 = .ok (.iaload, 1) := by decide +kernel
theorem dX8_isBearing_14 : decode cX8_isBearing 14 = .ok (.iconst 3, 1) := by decide +kernel
theorem dX8_isBearing_15 : decode cX8_isBearing 15 = .ok (.if_icmp .eq 16, 3) := by decide +kernel
theorem dX8_isBearing_18 : decode cX8_isBearing 18 = .ok (.aload_n 0, 1) := by decide +kernel
theorem dX8_isBearing_19 : decode cX8_isBearing 19 = .ok (.iload_n 1, 1) := by decide +kernel
theorem dX8_isBearing_20 : decode cX8_isBearing 20 = .ok (.iload_n 2, 1) := by decide +kernel
theorem dX8_isBearing_21 : decode cX8_isBearing 21 = .ok (.invokevirtual 177, 3) := by decide +kernel
theorem dX8_isBearing_24 : decode cX8_isBearing 24 = .ok (.ifCond .ne 7, 3) := by decide +kernel
theorem dX8_isBearing_27 : decode cX8_isBearing 27 = .ok (.iconst 1, 1) := by decide +kernel
theorem dX8_isBearing_28 : decode cX8_isBearing 28 = .ok (.goto 4, 3) := by decide +kernel
theorem dX8_isBearing_31 : decode cX8_isBearing 31 = .ok (.iconst 0, 1) := by decide +kernel
theorem dX8_isBearing_32 : decode cX8_isBearing 32 = .ok (.ireturn, 1) := by decide +kernel
set_option maxRecDepth 20000 in
theorem ggX8_twice_X8_isBearing : GoodIn wsX8_twice wsX8_isBearing := goodIn_r _ [10, 11, 12, 13, 14, 9, 15, 16, 3, 1, 17, 18, 19, 20, 21, 22, 23, 24, 25, 5, 26, 27, 28, 29, 30, 31, 32, 33, 34, 35, 36, 37, 38, 39, 40, 41, 42, 43, 44, 45, 46, 47, 48, 49, 50, 51, 52, 53, 54, 55, 56, 57, 58, 59, 60, 61, 62, 63, 64, 65, 66, 67, 68] (by decide +kernel) (by decide +kernel)
set_option maxRecDepth 20000 in
theorem gX8_twice_X8_isBearing : GoodIn wsX8_twice (wsV RX8 181 RX8 yX8_isBearing wsX8_isBearing) := goodIn_app (goodIn_of _ (by decide +kernel)) ggX8_twice_X8_isBearing
theorem dX8_twice_0 : decode cX8_twice 0 = .ok (.aload_n 0, 1) := by decide +kernel
theorem dX8_twice_1 : decode cX8_twice 1 = .ok (.iload_n 1, 1) := by decide +kernel
theorem dX8_twice_2 : decode cX8_twice 2 = .ok (.iload_n 2, 1) := by decide +kernel
theorem dX8_twice_3 : decode cX8_twice 3 = .ok (.invokevirtual 181, 3) := by decide +kernel
theorem dX8_twice_6 : decode cX8_twice 6 = .ok (.ifCond .ne 5, 3) := by decide +kernel
theorem dX8_twice_9 : decode cX8_twice 9 = .ok (.iconst 0, 1) := by decide +kernel
theorem dX8_twice_10 : decode cX8_twice 10 = .ok (.ireturn, 1) := by decide +kernel
theorem dX8_twice_11 : decode cX8_twice 11 = .ok (.iconst 0, 1) := by decide +kernel
theorem dX8_twice_12 : decode cX8_twice 12 = .ok (.istore 4, 2) := by decide +kernel
theorem dX8_twice_14 : decode cX8_twice 14 = .ok (.aload_n 0, 1) := by decide +kernel
theorem dX8_twice_15 : decode cX8_twice 15 = .ok (.getfield 113, 3) := by decide +kernel
theorem dX8_twice_18 : decode cX8_twice 18 = .ok (.istore 5, 2) := by decide +kernel
theorem dX8_twice_20 : decode cX8_twice 20 = .ok (.iconst 0, 1) := by decide +kernel
theorem dX8_twice_21 : decode cX8_twice 21 = .ok (.istore 6, 2) := by decide +kernel
theorem dX8_twice_23 : decode cX8_twice 23 = .ok (.iload 6, 2) := by decide +kernel
theorem dX8_twice_25 : decode cX8_twice 25 = .ok (.aload_n 0, 1) := by decide +kernel
theorem dX8_twice_26 : decode cX8_twice 26 = .ok (.getfield 164, 3) := by decide +kernel
theorem dX8_twice_29 : decode cX8_twice 29 = .ok (.if_icmp .ge 115, 3) := by decide +kernel
theorem dX8_twice_32 : decode cX8_twice 32 = .ok (.iload 6, 2) := by decide +kernel
theorem dX8_twice_34 : decode cX8_twice 34 = .ok (.iload_n 1, 1) := by decide +kernel
theorem dX8_twice_35 : decode cX8_twice 35 = .ok (.if_icmp .eq 103, 3) := by decide +kernel
theorem dX8_twice_38 : decode cX8_twice 38 = .ok (.iload 6, 2) := by decide +kernel
theorem dX8_twice_40 : decode cX8_twice 40 = .ok (.iload_n 3, 1) := by decide +kernel
theorem dX8_twice_41 : decode cX8_twice 41 = .ok (.if_icmp .eq 97, 3) := by decide +kernel
theorem dX8_twice_44 : decode cX8_twice 44 = .ok (.aload_n 0, 1) := by decide +kernel
theorem dX8_twice_45 : decode cX8_twice 45 = .ok (.iload 6, 2) := by decide +kernel
theorem dX8_twice_47 : decode cX8_twice 47 = .ok (.iload_n 2, 1) := by decide +kernel
theorem dX8_twice_48 : decode cX8_twice 48 = .ok (.invokevirtual 181, 3) := by decide +kernel
theorem dX8_twice_51 : decode cX8_twice 51 = .ok (.ifCond .eq 87, 3) := by decide +kernel
theorem dX8_twice_54 : decode cX8_twice 54 = .ok (.aload_n 0, 1) := by decide +kernel
theorem dX8_twice_55 : decode cX8_twice 55 = .ok (.getfield 53, 3) := by decide +kernel
theorem dX8_twice_58 : decode cX8_twice 58 = .ok (.iload 6, 2) := by decide +kernel
theorem dX8_twice_60 : decode cX8_twice 60 = .ok (.iaload, 1) := by decide +kernel
theorem dX8_twice_61 : decode cX8_twice 61 = .ok (.aload_n 0, 1) := by decide +kernel
theorem dX8_twice_62 : decode cX8_twice 62 = .ok (.getfield 53, 3) := by decide +kernel
theorem dX8_twice_65 : decode cX8_twice 65 = .ok (.iload_n 1, 1) := by decide +kernel
theorem dX8_twice_66 : decode cX8_twice 66 = .ok (.iaload, 1) := by decide +kernel
theorem dX8_twice_67 : decode cX8_twice 67 = .ok (.if_icmp .ge 25, 3) := by decide +kernel
theorem dX8_twice_70 : decode cX8_twice 70 = .ok (.aload_n 0, 1) := by decide +kernel
theorem dX8_twice_71 : decode cX8_twice 71 = .ok (.getfield 53, 3) := by decide +kernel
theorem dX8_twice_74 : decode cX8_twice 74 = .ok (.iload 6, 2) := by decide +kernel
theorem dX8_twice_76 : decode cX8_twice 76 = .ok (.iaload, 1) := by decide +kernel
theorem dX8_twice_77 : decode cX8_twice 77 = .ok (.iload 4, 2) := by decide +kernel
theorem dX8_twice_79 : decode cX8_twice 79 = .ok (.if_icmp .le 13, 3) := by decide +kernel
theorem dX8_twice_82 : decode cX8_twice 82 = .ok (.aload_n 0, 1) := by decide +kernel
theorem dX8_twice_83 : decode cX8_twice 83 = .ok (.getfield 53, 3) := by decide +kernel
theorem dX8_twice_86 : decode cX8_twice 86 = .ok (.iload 6, 2) := by decide +kernel
theorem dX8_twice_88 : decode cX8_twice 88 = .ok (.iaload, 1) := by decide +kernel
theorem dX8_twice_89 : decode cX8_twice 89 = .ok (.goto 5, 3) := by decide +kernel
theorem dX8_twice_92 : decode cX8_twice 92 = .ok (.iload 4, 2) := by decide +kernel
theorem dX8_twice_94 : decode cX8_twice 94 = .ok (.istore 4, 2) := by decide +kernel
theorem dX8_twice_96 : decode cX8_twice 96 = .ok (.aload_n 0, 1) := by decide +kernel
theorem dX8_twice_97 : decode cX8_twice 97 = .ok (.getfield 53, 3) := by decide +kernel
theorem dX8_twice_100 : decode cX8_twice 100 = .ok (.iload 6, 2) := by decide +kernel
theorem dX8_twice_102 : decode cX8_twice 102 = .ok (.iaload, 1) := by decide +kernel
theorem dX8_twice_103 : decode cX8_twice 103 = .ok (.aload_n 0, 1) := by decide +kernel
theorem dX8_twice_104 : decode cX8_twice 104 = .ok (.getfield 53, 3) := by decide +kernel
theorem dX8_twice_107 : decode cX8_twice 107 = .ok (.iload_n 1, 1) := by decide +kernel
theorem dX8_twice_108 : decode cX8_twice 108 = .ok (.iaload, 1) := by decide +kernel
theorem dX8_twice_109 : decode cX8_twice 109 = .ok (.if_icmp .le 25, 3) := by decide +kernel
theorem dX8_twice_112 : decode cX8_twice 112 = .ok (.aload_n 0, 1) := by decide +kernel
theorem dX8_twice_113 : decode cX8_twice 113 = .ok (.getfield 53, 3) := by decide +kernel
theorem dX8_twice_116 : decode cX8_twice 116 = .ok (.iload 6, 2) := by decide +kernel
theorem dX8_twice_118 : decode cX8_twice 118 = .ok (.iaload, 1) := by decide +kernel
theorem dX8_twice_119 : decode cX8_twice 119 = .ok (.iload 5, 2) := by decide +kernel
theorem dX8_twice_121 : decode cX8_twice 121 = .ok (.if_icmp .ge 13, 3) := by decide +kernel
theorem dX8_twice_124 : decode cX8_twice 124 = .ok (.aload_n 0, 1) := by decide +kernel
theorem dX8_twice_125 : decode cX8_twice 125 = .ok (.getfield 53, 3) := by decide +kernel
theorem dX8_twice_128 : decode cX8_twice 128 = .ok (.iload 6, 2) := by decide +kernel
theorem dX8_twice_130 : decode cX8_twice 130 = .ok (.iaload, 1) := by decide +kernel
theorem dX8_twice_131 : decode cX8_twice 131 = .ok (.goto 5, 3) := by decide +kernel
theorem dX8_twice_134 : decode cX8_twice 134 = .ok (.iload 5, 2) := by decide +kernel
theorem dX8_twice_136 : decode cX8_twice 136 = .ok (.istore 5, 2) := by decide +kernel
theorem dX8_twice_138 : decode cX8_twice 138 = .ok (.iinc 6 1, 3) := by decide +kernel
theorem dX8_twice_141 : decode cX8_twice 141 = .ok (.goto (-118), 3) := by decide +kernel
theorem dX8_twice_144 : decode cX8_twice 144 = .ok (.iconst 0, 1) := by decide +kernel
theorem dX8_twice_145 : decode cX8_twice 145 = .ok (.istore 6, 2) := by decide +kernel
theorem dX8_twice_147 : decode cX8_twice 147 = .ok (.iload 4, 2) := by decide +kernel
theorem dX8_twice_149 : decode cX8_twice 149 = .ok (.istore 7, 2) := by decide +kernel
theorem dX8_twice_151 : decode cX8_twice 151 = .ok (.iload 7, 2) := by decide +kernel
theorem dX8_twice_153 : decode cX8_twice 153 = .ok (.iload 5, 2) := by decide +kernel
theorem dX8_twice_155 : decode cX8_twice 155 = .ok (.if_icmp .ge 26, 3) := by decide +kernel
theorem dX8_twice_158 : decode cX8_twice 158 = .ok (.iload 6, 2) := by decide +kernel
theorem dX8_twice_160 : decode cX8_twice 160 = .ok (.aload_n 0, 1) := by decide +kernel
theorem dX8_twice_161 : decode cX8_twice 161 = .ok (.getfield 16, 3) := by decide +kernel
theorem dX8_twice_164 : decode cX8_twice 164 = .ok (.aload_n 0, 1) := by decide +kernel
theorem dX8_twice_165 : decode cX8_twice 165 = .ok (.getfield 38, 3) := by decide +kernel
theorem dX8_twice_168 : decode cX8_twice 168 = .ok (.iload 7, 2) := by decide +kernel
theorem dX8_twice_170 : decode cX8_twice 170 = .ok (.iaload, 1) := by decide +kernel
theorem dX8_twice_171 : decode cX8_twice 171 = .ok (.iaload, 1) := by decide +kernel
theorem dX8_twice_172 : decode cX8_twice 172 = .ok (.iadd, 1) := by decide +kernel
theorem dX8_twice_173 : decode cX8_twice 173 = .ok (.istore 6, 2) := by decide +kernel
theorem dX8_twice_175 : decode cX8_twice 175 = .ok (.iinc 7 1, 3) := by decide +kernel
theorem dX8_twice_178 : decode cX8_twice 178 = .ok (.goto (-27), 3) := by decide +kernel
theorem dX8_twice_181 : decode cX8_twice 181 = .ok (.iload 6, 2) := by decide +kernel
theorem dX8_twice_183 : decode cX8_twice 183 = .ok (.ireturn, 1) := by decide +kernel
set_option maxRecDepth 20000 in
theorem ggX8_load_X8_isStep : GoodIn wsX8_load wsX8_isStep := goodIn_r _ [5, 6, 7, 4, 8] (by decide +kernel) (by decide +kernel)
set_option maxRecDepth 20000 in
theorem gX8_load_X8_isStep : GoodIn wsX8_load (va_wsS RX8 132 yX8_isStep wsX8_isStep) := goodIn_app (goodIn_of _ (by decide +kernel)) ggX8_load_X8_isStep
set_option maxRecDepth 20000 in
theorem ggX8_load_X8_need : GoodIn wsX8_load wsX8_need := goodIn_r _ [12, 13, 14, 6, 7, 4, 8, 15, 16, 17, 18, 19, 20, 62, 63, 64, 65, 66, 67, 68, 69, 70, 71, 72, 73, 74, 75, 76, 77, 78, 79, 80, 81, 82, 83, 84, 85, 86, 87, 88, 89, 90, 91, 92, 93, 94, 95] (by decide +kernel) (by decide +kernel)
set_option maxRecDepth 20000 in
theorem gX8_load_X8_need : GoodIn wsX8_load (wsV RX8 167 RX8 yX8_need wsX8_need) := goodIn_app (goodIn_of _ (by decide +kernel)) ggX8_load_X8_need
set_option maxRecDepth 20000 in
theorem ggX8_load_X8_twice : GoodIn wsX8_load wsX8_twice := goodIn_r _ [24, 25, 13, 26, 27, 28, 29, 30, 31, 4, 32, 33, 34, 35, 36, 37, 14, 38, 39, 40, 41, 42, 43, 44, 45, 46, 47, 48, 49, 50, 51, 52, 53, 54, 55, 62, 63, 64, 65, 66, 67, 68, 69, 70, 71, 72, 73, 74, 75, 76, 77, 78, 79, 80, 81, 82, 83, 84, 85, 86, 87, 88, 89, 90, 91, 92, 93, 94, 95] (by decide +kernel) (by decide +kernel)
set_option maxRecDepth 20000 in
theorem gX8_load_X8_twice : GoodIn wsX8_load (wsV RX8 184 RX8 yX8_twice wsX8_twice) := goodIn_app (goodIn_of _ (by decide +kernel)) ggX8_load_X8_twice
set_option maxRecDepth 20000 in
theorem ggX8_load_X8_fraction : GoodIn wsX8_load wsX8_fraction := goodIn_r _ [59, 60, 61, 62, 63, 64, 65, 66, 67, 68, 69, 70, 71, 72, 73, 74, 75, 76, 77, 78, 79, 80, 81, 82, 83, 84, 85, 86, 87, 88, 89, 90, 91, 92, 93, 94, 95] (by decide +kernel) (by decide +kernel)
set_option maxRecDepth 20000 in
theorem gX8_load_X8_fraction : GoodIn wsX8_load (wsV RX8 189 RX8 yX8_fraction wsX8_fraction) := goodIn_app (goodIn_of _ (by decide +kernel)) ggX8_load_X8_fraction
theorem dX8_load_0 : decode cX8_load 0 = .ok (.aload_n 0, 1) := by decide +kernel
theorem dX8_load_1 : decode cX8_load 1 = .ok (.iload_n 2, 1) := by decide +kernel
theorem dX8_load_2 : decode cX8_load 2 = .ok (.invokestatic 132, 3) := by decide +kernel
theorem dX8_load_5 : decode cX8_load 5 = .ok (.iload_n 1, 1) := by decide +kernel
theorem dX8_load_6 : decode cX8_load 6 = .ok (.invokevirtual 167, 3) := by decide +kernel
theorem dX8_load_9 : decode cX8_load 9 = .ok (.istore_n 3, 1) := by decide +kernel
theorem dX8_load_10 : decode cX8_load 10 = .ok (.iload_n 3, 1) := by decide +kernel
theorem dX8_load_11 : decode cX8_load 11 = .ok (.ifCond .ge 7, 3) := by decide +kernel
theorem dX8_load_14 : decode cX8_load 14 = .ok (.iload_n 3, 1) := by decide +kernel
theorem dX8_load_15 : decode cX8_load 15 = .ok (.goto 20, 3) := by decide +kernel
theorem dX8_load_18 : decode cX8_load 18 = .ok (.aload_n 0, 1) := by decide +kernel
theorem dX8_load_19 : decode cX8_load 19 = .ok (.aload_n 0, 1) := by decide +kernel
theorem dX8_load_20 : decode cX8_load 20 = .ok (.iload_n 1, 1) := by decide +kernel
theorem dX8_load_21 : decode cX8_load 21 = .ok (.iload_n 2, 1) := by decide +kernel
theorem dX8_load_22 : decode cX8_load 22 = .ok (.bipush (-9), 2) := by decide +kernel
theorem dX8_load_24 : decode cX8_load 24 = .ok (.invokevirtual 184, 3) := by decide +kernel
theorem dX8_load_27 : decode cX8_load 27 = .ok (.i2l, 1) := by decide +kernel
theorem dX8_load_28 : decode cX8_load 28 = .ok (.ldc2_w 187, 3) := by decide +kernel
theorem dX8_load_31 : decode cX8_load 31 = .ok (.iconst 1, 1) := by decide +kernel
theorem dX8_load_32 : decode cX8_load 32 = .ok (.invokevirtual 189, 3) := by decide +kernel
theorem dX8_load_35 : decode cX8_load 35 = .ok (.ireturn, 1) := by decide +kernel
set_option maxRecDepth 20000 in
theorem ggX8_needSpring_X8_isStep : GoodIn wsX8_needSpring wsX8_isStep := goodIn_r _ [5, 6, 7, 4, 8] (by decide +kernel) (by decide +kernel)
set_option maxRecDepth 20000 in
theorem gX8_needSpring_X8_isStep : GoodIn wsX8_needSpring (va_wsS RX8 132 yX8_isStep wsX8_isStep) := goodIn_app (goodIn_of _ (by decide +kernel)) ggX8_needSpring_X8_isStep
set_option maxRecDepth 20000 in
theorem ggX8_needSpring_X8_need : GoodIn wsX8_needSpring wsX8_need := goodIn_r _ [12, 13, 14, 6, 7, 4, 8, 15, 16, 17, 18, 19, 20, 21, 22, 23, 24, 25, 26, 27, 28, 29, 30, 31, 32, 33, 34, 35, 36, 37, 38, 39, 40, 41, 42, 43, 44, 45, 46, 47, 48, 49, 50, 51, 52, 53, 54] (by decide +kernel) (by decide +kernel)
set_option maxRecDepth 20000 in
theorem gX8_needSpring_X8_need : GoodIn wsX8_needSpring (wsV RX8 167 RX8 yX8_need wsX8_need) := goodIn_app (goodIn_of _ (by decide +kernel)) ggX8_needSpring_X8_need
set_option maxRecDepth 20000 in
theorem ggX8_needSpring_X8_meets : GoodIn wsX8_needSpring wsX8_meets := goodIn_r _ [18, 19, 20, 21, 22, 23, 24, 25, 26, 27, 28, 29, 30, 31, 32, 33, 34, 35, 36, 37, 38, 39, 40, 41, 42, 43, 44, 45, 46, 47, 48, 49, 50, 51, 52, 53, 54] (by decide +kernel) (by decide +kernel)
set_option maxRecDepth 20000 in
theorem gX8_needSpring_X8_meets : GoodIn wsX8_needSpring (wsV RX8 109 RX8 yX8_meets wsX8_meets) := goodIn_app (goodIn_of _ (by decide +kernel)) ggX8_needSpring_X8_meets
theorem dX8_needSpring_0 : decode cX8_needSpring 0 = .ok (.aload_n 0, 1) := by decide +kernel
theorem dX8_needSpring_1 : decode cX8_needSpring 1 = .ok (.iload_n 2, 1) := by decide +kernel
theorem dX8_needSpring_2 : decode cX8_needSpring 2 = .ok (.invokestatic 132, 3) := by decide +kernel
theorem dX8_needSpring_5 : decode cX8_needSpring 5 = .ok (.iload_n 1, 1) := by decide +kernel
theorem dX8_needSpring_6 : decode cX8_needSpring 6 = .ok (.invokevirtual 167, 3) := by decide +kernel
theorem dX8_needSpring_9 : decode cX8_needSpring 9 = .ok (.istore_n 3, 1) := by decide +kernel
theorem dX8_needSpring_10 : decode cX8_needSpring 10 = .ok (.iload_n 3, 1) := by decide +kernel
theorem dX8_needSpring_11 : decode cX8_needSpring 11 = .ok (.ifCond .ge 7, 3) := by decide +kernel
theorem dX8_needSpring_14 : decode cX8_needSpring 14 = .ok (.iload_n 3, 1) := by decide +kernel
theorem dX8_needSpring_15 : decode cX8_needSpring 15 = .ok (.goto 22, 3) := by decide +kernel
theorem dX8_needSpring_18 : decode cX8_needSpring 18 = .ok (.aload_n 0, 1) := by decide +kernel
theorem dX8_needSpring_19 : decode cX8_needSpring 19 = .ok (.getfield 50, 3) := by decide +kernel
theorem dX8_needSpring_22 : decode cX8_needSpring 22 = .ok (.iload_n 1, 1) := by decide +kernel
theorem dX8_needSpring_23 : decode cX8_needSpring 23 = .ok (.iaload, 1) := by decide +kernel
theorem dX8_needSpring_24 : decode cX8_needSpring 24 = .ok (.iconst 2, 1) := by decide +kernel
theorem dX8_needSpring_25 : decode cX8_needSpring 25 = .ok (.if_icmp .eq 11, 3) := by decide +kernel
theorem dX8_needSpring_28 : decode cX8_needSpring 28 = .ok (.aload_n 0, 1) := by decide +kernel
theorem dX8_needSpring_29 : decode cX8_needSpring 29 = .ok (.iconst 3, 1) := by decide +kernel
theorem dX8_needSpring_30 : decode cX8_needSpring 30 = .ok (.invokevirtual 109, 3) := by decide +kernel
theorem dX8_needSpring_33 : decode cX8_needSpring 33 = .ok (.goto 4, 3) := by decide +kernel
theorem dX8_needSpring_36 : decode cX8_needSpring 36 = .ok (.iconst 0, 1) := by decide +kernel
theorem dX8_needSpring_37 : decode cX8_needSpring 37 = .ok (.ireturn, 1) := by decide +kernel
set_option maxRecDepth 20000 in
theorem ggX8_movedOf_X8_grownTo : GoodIn wsX8_movedOf wsX8_grownTo := goodIn_r _ [6, 7, 8, 9, 10, 11, 5, 12, 13, 14, 15, 16, 17, 18, 19, 20, 21, 22, 23, 24, 25, 26, 27, 28, 29, 30, 31, 32, 33, 34, 35, 36, 37, 38, 39, 40, 41, 42, 43, 44, 45, 46, 47, 48, 49, 50, 51, 52] (by decide +kernel) (by decide +kernel)
set_option maxRecDepth 20000 in
theorem gX8_movedOf_X8_grownTo : GoodIn wsX8_movedOf (wsV RX8 135 RX8 yX8_grownTo wsX8_grownTo) := goodIn_app (goodIn_of _ (by decide +kernel)) ggX8_movedOf_X8_grownTo
theorem dX8_movedOf_0 : decode cX8_movedOf 0 = .ok (.aload_n 0, 1) := by decide +kernel
theorem dX8_movedOf_1 : decode cX8_movedOf 1 = .ok (.aload_n 0, 1) := by decide +kernel
theorem dX8_movedOf_2 : decode cX8_movedOf 2 = .ok (.getfield 53, 3) := by decide +kernel
theorem dX8_movedOf_5 : decode cX8_movedOf 5 = .ok (.iload_n 1, 1) := by decide +kernel
theorem dX8_movedOf_6 : decode cX8_movedOf 6 = .ok (.iaload, 1) := by decide +kernel
theorem dX8_movedOf_7 : decode cX8_movedOf 7 = .ok (.iload_n 2, 1) := by decide +kernel
theorem dX8_movedOf_8 : decode cX8_movedOf 8 = .ok (.iconst 2, 1) := by decide +kernel
theorem dX8_movedOf_9 : decode cX8_movedOf 9 = .ok (.invokevirtual 135, 3) := by decide +kernel
theorem dX8_movedOf_12 : decode cX8_movedOf 12 = .ok (.istore_n 3, 1) := by decide +kernel
theorem dX8_movedOf_13 : decode cX8_movedOf 13 = .ok (.iload_n 3, 1) := by decide +kernel
theorem dX8_movedOf_14 : decode cX8_movedOf 14 = .ok (.ifCond .ge 9, 3) := by decide +kernel
theorem dX8_movedOf_17 : decode cX8_movedOf 17 = .ok (.iload_n 3, 1) := by decide +kernel
theorem dX8_movedOf_18 : decode cX8_movedOf 18 = .ok (.ineg, 1) := by decide +kernel
theorem dX8_movedOf_19 : decode cX8_movedOf 19 = .ok (.i2l, 1) := by decide +kernel
theorem dX8_movedOf_20 : decode cX8_movedOf 20 = .ok (.goto 5, 3) := by decide +kernel
theorem dX8_movedOf_23 : decode cX8_movedOf 23 = .ok (.iload_n 3, 1) := by decide +kernel
theorem dX8_movedOf_24 : decode cX8_movedOf 24 = .ok (.i2l, 1) := by decide +kernel
theorem dX8_movedOf_25 : decode cX8_movedOf 25 = .ok (.lreturn, 1) := by decide +kernel
set_option maxRecDepth 20000 in
theorem ggX8_change_X8_needSpring : GoodIn wsX8_change wsX8_needSpring := goodIn_r _ [7, 8, 9, 10, 6, 11, 12, 13, 14, 15, 16, 17, 18, 19, 20, 21, 22, 23, 24, 25, 26, 54, 55, 56, 57, 58, 59, 60, 61, 62, 63, 64, 65, 66, 67, 68, 69, 70, 71, 72, 73, 74, 75, 76, 77, 78, 79, 80, 81, 82, 83, 84, 85, 86, 87] (by decide +kernel) (by decide +kernel)
set_option maxRecDepth 20000 in
theorem gX8_change_X8_needSpring : GoodIn wsX8_change (wsV RX8 193 RX8 yX8_needSpring wsX8_needSpring) := goodIn_app (goodIn_of _ (by decide +kernel)) ggX8_change_X8_needSpring
set_option maxRecDepth 20000 in
theorem ggX8_change_X8_movedOf : GoodIn wsX8_change wsX8_movedOf := goodIn_r _ [30, 31, 32, 33, 34, 6, 35, 36, 37, 38, 39, 40, 41, 42, 43, 44, 45, 46, 47, 54, 55, 56, 57, 58, 59, 60, 61, 62, 63, 64, 65, 66, 67, 68, 69, 70, 71, 72, 73, 74, 75, 76, 77, 78, 79, 80, 81, 82, 83, 84, 85, 86, 87] (by decide +kernel) (by decide +kernel)
set_option maxRecDepth 20000 in
theorem gX8_change_X8_movedOf : GoodIn wsX8_change (wsV RX8 196 RX8 yX8_movedOf wsX8_movedOf) := goodIn_app (goodIn_of _ (by decide +kernel)) ggX8_change_X8_movedOf
set_option maxRecDepth 20000 in
theorem ggX8_change_X8_fraction : GoodIn wsX8_change wsX8_fraction := goodIn_r _ [51, 52, 53, 54, 55, 56, 57, 58, 59, 60, 61, 62, 63, 64, 65, 66, 67, 68, 69, 70, 71, 72, 73, 74, 75, 76, 77, 78, 79, 80, 81, 82, 83, 84, 85, 86, 87] (by decide +kernel) (by decide +kernel)
set_option maxRecDepth 20000 in
theorem gX8_change_X8_fraction : GoodIn wsX8_change (wsV RX8 189 RX8 yX8_fraction wsX8_fraction) := goodIn_app (goodIn_of _ (by decide +kernel)) ggX8_change_X8_fraction
theorem dX8_change_0 : decode cX8_change 0 = .ok (.aload_n 0, 1) := by decide +kernel
theorem dX8_change_1 : decode cX8_change 1 = .ok (.iload_n 1, 1) := by decide +kernel
theorem dX8_change_2 : decode cX8_change 2 = .ok (.iload_n 2, 1) := by decide +kernel
theorem dX8_change_3 : decode cX8_change 3 = .ok (.invokevirtual 193, 3) := by decide +kernel
theorem dX8_change_6 : decode cX8_change 6 = .ok (.istore_n 3, 1) := by decide +kernel
theorem dX8_change_7 : decode cX8_change 7 = .ok (.iload_n 3, 1) := by decide +kernel
theorem dX8_change_8 : decode cX8_change 8 = .ok (.ifCond .ge 7, 3) := by decide +kernel
theorem dX8_change_11 : decode cX8_change 11 = .ok (.iload_n 3, 1) := by decide +kernel
theorem dX8_change_12 : decode cX8_change 12 = .ok (.goto 25, 3) := by decide +kernel
theorem dX8_change_15 : decode cX8_change 15 = .ok (.aload_n 0, 1) := by decide +kernel
theorem dX8_change_16 : decode cX8_change 16 = .ok (.aload_n 0, 1) := by decide +kernel
theorem dX8_change_17 : decode cX8_change 17 = .ok (.getfield 56, 3) := by decide +kernel
theorem dX8_change_20 : decode cX8_change 20 = .ok (.iload_n 1, 1) := by decide +kernel
theorem dX8_change_21 : decode cX8_change 21 = .ok (.iaload, 1) := by decide +kernel
theorem dX8_change_22 : decode cX8_change 22 = .ok (.i2l, 1) := by decide +kernel
theorem dX8_change_23 : decode cX8_change 23 = .ok (.aload_n 0, 1) := by decide +kernel
theorem dX8_change_24 : decode cX8_change 24 = .ok (.iload_n 1, 1) := by decide +kernel
theorem dX8_change_25 : decode cX8_change 25 = .ok (.iload_n 2, 1) := by decide +kernel
theorem dX8_change_26 : decode cX8_change 26 = .ok (.invokevirtual 196, 3) := by decide +kernel
theorem dX8_change_29 : decode cX8_change 29 = .ok (.lmul, 1) := by decide +kernel
theorem dX8_change_30 : decode cX8_change 30 = .ok (.ldc2_w 200, 3) := by decide +kernel
theorem dX8_change_33 : decode cX8_change 33 = .ok (.iconst 1, 1) := by decide +kernel
theorem dX8_change_34 : decode cX8_change 34 = .ok (.invokevirtual 189, 3) := by decide +kernel
theorem dX8_change_37 : decode cX8_change 37 = .ok (.ireturn, 1) := by decide +kernel
set_option maxRecDepth 20000 in
theorem ggX8_firm_X8_needSpring : GoodIn wsX8_firm wsX8_needSpring := goodIn_r _ [8, 9, 10, 11, 7, 12, 13, 14, 15, 16, 17, 18, 19, 20, 21, 22, 23, 24, 25, 26, 27, 72, 73, 74, 75, 76, 77, 78, 79, 80, 81, 82, 83, 84, 85, 86, 87, 88, 89, 90, 91, 92, 93, 94, 95, 96, 97, 98, 99, 100, 101, 102, 103, 104, 105] (by decide +kernel) (by decide +kernel)
set_option maxRecDepth 20000 in
theorem gX8_firm_X8_needSpring : GoodIn wsX8_firm (wsV RX8 193 RX8 yX8_needSpring wsX8_needSpring) := goodIn_app (goodIn_of _ (by decide +kernel)) ggX8_firm_X8_needSpring
set_option maxRecDepth 20000 in
theorem ggX8_firm_X8_twice : GoodIn wsX8_firm wsX8_twice := goodIn_r _ [31, 32, 20, 33, 34, 35, 36, 37, 38, 7, 39, 9, 40, 41, 42, 43, 21, 44, 45, 46, 47, 48, 49, 50, 51, 52, 53, 54, 55, 56, 57, 58, 59, 60, 61, 72, 73, 74, 75, 76, 77, 78, 79, 80, 81, 82, 83, 84, 85, 86, 87, 88, 89, 90, 91, 92, 93, 94, 95, 96, 97, 98, 99, 100, 101, 102, 103, 104, 105] (by decide +kernel) (by decide +kernel)
set_option maxRecDepth 20000 in
theorem gX8_firm_X8_twice : GoodIn wsX8_firm (wsV RX8 184 RX8 yX8_twice wsX8_twice) := goodIn_app (goodIn_of _ (by decide +kernel)) ggX8_firm_X8_twice
set_option maxRecDepth 20000 in
theorem ggX8_firm_X8_meets : GoodIn wsX8_firm wsX8_meets := goodIn_r _ [25, 26, 27, 72, 73, 74, 75, 76, 77, 78, 79, 80, 81, 82, 83, 84, 85, 86, 87, 88, 89, 90, 91, 92, 93, 94, 95, 96, 97, 98, 99, 100, 101, 102, 103, 104, 105] (by decide +kernel) (by decide +kernel)
set_option maxRecDepth 20000 in
theorem gX8_firm_X8_meets : GoodIn wsX8_firm (wsV RX8 109 RX8 yX8_meets wsX8_meets) := goodIn_app (goodIn_of _ (by decide +kernel)) ggX8_firm_X8_meets
set_option maxRecDepth 20000 in
theorem ggX8_firm_X8_movedOf : GoodIn wsX8_firm wsX8_movedOf := goodIn_r _ [65, 33, 48, 49, 50, 7, 51, 32, 52, 35, 53, 54, 55, 56, 57, 58, 59, 60, 61, 72, 73, 74, 75, 76, 77, 78, 79, 80, 81, 82, 83, 84, 85, 86, 87, 88, 89, 90, 91, 92, 93, 94, 95, 96, 97, 98, 99, 100, 101, 102, 103, 104, 105] (by decide +kernel) (by decide +kernel)
set_option maxRecDepth 20000 in
theorem gX8_firm_X8_movedOf : GoodIn wsX8_firm (wsV RX8 196 RX8 yX8_movedOf wsX8_movedOf) := goodIn_app (goodIn_of _ (by decide +kernel)) ggX8_firm_X8_movedOf
set_option maxRecDepth 20000 in
theorem ggX8_firm_X8_fraction : GoodIn wsX8_firm wsX8_fraction := goodIn_r _ [69, 70, 71, 72, 73, 74, 75, 76, 77, 78, 79, 80, 81, 82, 83, 84, 85, 86, 87, 88, 89, 90, 91, 92, 93, 94, 95, 96, 97, 98, 99, 100, 101, 102, 103, 104, 105] (by decide +kernel) (by decide +kernel)
set_option maxRecDepth 20000 in
theorem gX8_firm_X8_fraction : GoodIn wsX8_firm (wsV RX8 189 RX8 yX8_fraction wsX8_fraction) := goodIn_app (goodIn_of _ (by decide +kernel)) ggX8_firm_X8_fraction
theorem dX8_firm_0 : decode cX8_firm 0 = .ok (.aload_n 0, 1) := by decide +kernel
theorem dX8_firm_1 : decode cX8_firm 1 = .ok (.iload_n 1, 1) := by decide +kernel
theorem dX8_firm_2 : decode cX8_firm 2 = .ok (.iload_n 2, 1) := by decide +kernel
theorem dX8_firm_3 : decode cX8_firm 3 = .ok (.invokevirtual 193, 3) := by decide +kernel
theorem dX8_firm_6 : decode cX8_firm 6 = .ok (.istore_n 3, 1) := by decide +kernel
theorem dX8_firm_7 : decode cX8_firm 7 = .ok (.iload_n 3, 1) := by decide +kernel
theorem dX8_firm_8 : decode cX8_firm 8 = .ok (.ifCond .ge 5, 3) := by decide +kernel
theorem dX8_firm_11 : decode cX8_firm 11 = .ok (.iload_n 3, 1) := by decide +kernel
theorem dX8_firm_12 : decode cX8_firm 12 = .ok (.ireturn, 1) := by decide +kernel
theorem dX8_firm_13 : decode cX8_firm 13 = .ok (.aload_n 0, 1) := by decide +kernel
theorem dX8_firm_14 : decode cX8_firm 14 = .ok (.iload_n 1, 1) := by decide +kernel
theorem dX8_firm_15 : decode cX8_firm 15 = .ok (.iload_n 2, 1) := by decide +kernel
theorem dX8_firm_16 : decode cX8_firm 16 = .ok (.bipush (-9), 2) := by decide +kernel
theorem dX8_firm_18 : decode cX8_firm 18 = .ok (.invokevirtual 184, 3) := by decide +kernel
theorem dX8_firm_21 : decode cX8_firm 21 = .ok (.istore 4, 2) := by decide +kernel
theorem dX8_firm_23 : decode cX8_firm 23 = .ok (.iload 4, 2) := by decide +kernel
theorem dX8_firm_25 : decode cX8_firm 25 = .ok (.ifCond .ne 11, 3) := by decide +kernel
theorem dX8_firm_28 : decode cX8_firm 28 = .ok (.aload_n 0, 1) := by decide +kernel
theorem dX8_firm_29 : decode cX8_firm 29 = .ok (.iconst 4, 1) := by decide +kernel
theorem dX8_firm_30 : decode cX8_firm 30 = .ok (.invokevirtual 109, 3) := by decide +kernel
theorem dX8_firm_33 : decode cX8_firm 33 = .ok (.goto 33, 3) := by decide +kernel
theorem dX8_firm_36 : decode cX8_firm 36 = .ok (.aload_n 0, 1) := by decide +kernel
theorem dX8_firm_37 : decode cX8_firm 37 = .ok (.ldc2_w 187, 3) := by decide +kernel
theorem dX8_firm_40 : decode cX8_firm 40 = .ok (.aload_n 0, 1) := by decide +kernel
theorem dX8_firm_41 : decode cX8_firm 41 = .ok (.getfield 56, 3) := by decide +kernel
theorem dX8_firm_44 : decode cX8_firm 44 = .ok (.iload_n 1, 1) := by decide +kernel
theorem dX8_firm_45 : decode cX8_firm 45 = .ok (.iaload, 1) := by decide +kernel
theorem dX8_firm_46 : decode cX8_firm 46 = .ok (.i2l, 1) := by decide +kernel
theorem dX8_firm_47 : decode cX8_firm 47 = .ok (.lmul, 1) := by decide +kernel
theorem dX8_firm_48 : decode cX8_firm 48 = .ok (.aload_n 0, 1) := by decide +kernel
theorem dX8_firm_49 : decode cX8_firm 49 = .ok (.iload_n 1, 1) := by decide +kernel
theorem dX8_firm_50 : decode cX8_firm 50 = .ok (.iload_n 2, 1) := by decide +kernel
theorem dX8_firm_51 : decode cX8_firm 51 = .ok (.invokevirtual 196, 3) := by decide +kernel
theorem dX8_firm_54 : decode cX8_firm 54 = .ok (.lmul, 1) := by decide +kernel
theorem dX8_firm_55 : decode cX8_firm 55 = .ok (.ldc2_w 200, 3) := by decide +kernel
theorem dX8_firm_58 : decode cX8_firm 58 = .ok (.iload 4, 2) := by decide +kernel
theorem dX8_firm_60 : decode cX8_firm 60 = .ok (.i2l, 1) := by decide +kernel
theorem dX8_firm_61 : decode cX8_firm 61 = .ok (.lmul, 1) := by decide +kernel
theorem dX8_firm_62 : decode cX8_firm 62 = .ok (.iconst 1, 1) := by decide +kernel
theorem dX8_firm_63 : decode cX8_firm 63 = .ok (.invokevirtual 189, 3) := by decide +kernel
theorem dX8_firm_66 : decode cX8_firm 66 = .ok (.ireturn, 1) := by decide +kernel
set_option maxRecDepth 20000 in
theorem ggX8_list_X8_in : GoodIn wsX8_list wsX8_in := goodIn_r _ [6] (by decide +kernel) (by decide +kernel)
set_option maxRecDepth 20000 in
theorem gX8_list_X8_in : GoodIn wsX8_list (va_wsS RX8 95 yX8_in wsX8_in) := goodIn_app (goodIn_of _ (by decide +kernel)) ggX8_list_X8_in
theorem dX8_list_0 : decode cX8_list 0 = .ok (.iload_n 1, 1) := by decide +kernel
theorem dX8_list_1 : decode cX8_list 1 = .ok (.iconst 1, 1) := by decide +kernel
theorem dX8_list_2 : decode cX8_list 2 = .ok (.sipush 500, 3) := by decide +kernel
theorem dX8_list_5 : decode cX8_list 5 = .ok (.invokestatic 95, 3) := by decide +kernel
theorem dX8_list_8 : decode cX8_list 8 = .ok (.ifCond .ne 5, 3) := by decide +kernel
theorem dX8_list_11 : decode cX8_list 11 = .ok (.iconst (-1), 1) := by decide +kernel
theorem dX8_list_12 : decode cX8_list 12 = .ok (.ireturn, 1) := by decide +kernel
theorem dX8_list_13 : decode cX8_list 13 = .ok (.aload_n 0, 1) := by decide +kernel
theorem dX8_list_14 : decode cX8_list 14 = .ok (.getfield 202, 3) := by decide +kernel
theorem dX8_list_17 : decode cX8_list 17 = .ok (.bipush 12, 2) := by decide +kernel
theorem dX8_list_19 : decode cX8_list 19 = .ok (.if_icmp .ne 6, 3) := by decide +kernel
theorem dX8_list_22 : decode cX8_list 22 = .ok (.bipush (-2), 2) := by decide +kernel
theorem dX8_list_24 : decode cX8_list 24 = .ok (.ireturn, 1) := by decide +kernel
theorem dX8_list_25 : decode cX8_list 25 = .ok (.aload_n 0, 1) := by decide +kernel
theorem dX8_list_26 : decode cX8_list 26 = .ok (.getfield 66, 3) := by decide +kernel
theorem dX8_list_29 : decode cX8_list 29 = .ok (.aload_n 0, 1) := by decide +kernel
theorem dX8_list_30 : decode cX8_list 30 = .ok (.getfield 202, 3) := by decide +kernel
theorem dX8_list_33 : decode cX8_list 33 = .ok (.iload_n 1, 1) := by decide +kernel
theorem dX8_list_34 : decode cX8_list 34 = .ok (.iastore, 1) := by decide +kernel
theorem dX8_list_35 : decode cX8_list 35 = .ok (.aload_n 0, 1) := by decide +kernel
theorem dX8_list_36 : decode cX8_list 36 = .ok (.dup, 1) := by decide +kernel
theorem dX8_list_37 : decode cX8_list 37 = .ok (.getfield 202, 3) := by decide +kernel
theorem dX8_list_40 : decode cX8_list 40 = .ok (.iconst 1, 1) := by decide +kernel
theorem dX8_list_41 : decode cX8_list 41 = .ok (.iadd, 1) := by decide +kernel
theorem dX8_list_42 : decode cX8_list 42 = .ok (.putfield 202, 3) := by decide +kernel
theorem dX8_list_45 : decode cX8_list 45 = .ok (.aload_n 0, 1) := by decide +kernel
theorem dX8_list_46 : decode cX8_list 46 = .ok (.getfield 202, 3) := by decide +kernel
theorem dX8_list_49 : decode cX8_list 49 = .ok (.ireturn, 1) := by decide +kernel
set_option maxRecDepth 20000 in
theorem ggX8_choose_X8_needSpring : GoodIn wsX8_choose wsX8_needSpring := goodIn_r _ [10, 11, 12, 13, 9, 14, 15, 16, 17, 18, 19, 20, 21, 22, 23, 24, 25, 26, 27, 28, 29, 68, 69, 70, 71, 72, 73, 74, 75, 76, 77, 78, 79, 80, 81, 82, 83, 84, 85, 86, 87, 88, 89, 90, 91, 92, 93, 94, 95, 96, 97, 98, 99, 100, 101] (by decide +kernel) (by decide +kernel)
set_option maxRecDepth 20000 in
theorem gX8_choose_X8_needSpring : GoodIn wsX8_choose (wsV RX8 193 RX8 yX8_needSpring wsX8_needSpring) := goodIn_app (goodIn_of _ (by decide +kernel)) ggX8_choose_X8_needSpring
set_option maxRecDepth 20000 in
theorem ggX8_choose_X8_twice : GoodIn wsX8_choose wsX8_twice := goodIn_r _ [33, 34, 22, 35, 36, 37, 38, 39, 40, 9, 41, 11, 42, 43, 44, 45, 23, 46, 47, 48, 49, 50, 51, 52, 53, 54, 55, 56, 57, 58, 59, 60, 61, 62, 63, 68, 69, 70, 71, 72, 73, 74, 75, 76, 77, 78, 79, 80, 81, 82, 83, 84, 85, 86, 87, 88, 89, 90, 91, 92, 93, 94, 95, 96, 97, 98, 99, 100, 101] (by decide +kernel) (by decide +kernel)
set_option maxRecDepth 20000 in
theorem gX8_choose_X8_twice : GoodIn wsX8_choose (wsV RX8 184 RX8 yX8_twice wsX8_twice) := goodIn_app (goodIn_of _ (by decide +kernel)) ggX8_choose_X8_twice
set_option maxRecDepth 20000 in
theorem ggX8_choose_X8_meets : GoodIn wsX8_choose wsX8_meets := goodIn_r _ [27, 28, 29, 68, 69, 70, 71, 72, 73, 74, 75, 76, 77, 78, 79, 80, 81, 82, 83, 84, 85, 86, 87, 88, 89, 90, 91, 92, 93, 94, 95, 96, 97, 98, 99, 100, 101] (by decide +kernel) (by decide +kernel)
set_option maxRecDepth 20000 in
theorem gX8_choose_X8_meets : GoodIn wsX8_choose (wsV RX8 109 RX8 yX8_meets wsX8_meets) := goodIn_app (goodIn_of _ (by decide +kernel)) ggX8_choose_X8_meets
set_option maxRecDepth 20000 in
theorem ggX8_choose_X8_movedOf : GoodIn wsX8_choose wsX8_movedOf := goodIn_r _ [67, 35, 50, 51, 52, 9, 53, 34, 54, 37, 55, 56, 57, 58, 59, 60, 61, 62, 63, 68, 69, 70, 71, 72, 73, 74, 75, 76, 77, 78, 79, 80, 81, 82, 83, 84, 85, 86, 87, 88, 89, 90, 91, 92, 93, 94, 95, 96, 97, 98, 99, 100, 101] (by decide +kernel) (by decide +kernel)
set_option maxRecDepth 20000 in
theorem gX8_choose_X8_movedOf : GoodIn wsX8_choose (wsV RX8 196 RX8 yX8_movedOf wsX8_movedOf) := goodIn_app (goodIn_of _ (by decide +kernel)) ggX8_choose_X8_movedOf
theorem dX8_choose_0 : decode cX8_choose 0 = .ok (.aload_n 0, 1) := by decide +kernel
theorem dX8_choose_1 : decode cX8_choose 1 = .ok (.iload_n 1, 1) := by decide +kernel
theorem dX8_choose_2 : decode cX8_choose 2 = .ok (.iload_n 2, 1) := by decide +kernel
theorem dX8_choose_3 : decode cX8_choose 3 = .ok (.invokevirtual 193, 3) := by decide +kernel
theorem dX8_choose_6 : decode cX8_choose 6 = .ok (.istore_n 3, 1) := by decide +kernel
theorem dX8_choose_7 : decode cX8_choose 7 = .ok (.iload_n 3, 1) := by decide +kernel
theorem dX8_choose_8 : decode cX8_choose 8 = .ok (.ifCond .ge 5, 3) := by decide +kernel
theorem dX8_choose_11 : decode cX8_choose 11 = .ok (.iload_n 3, 1) := by decide +kernel
theorem dX8_choose_12 : decode cX8_choose 12 = .ok (.ireturn, 1) := by decide +kernel
theorem dX8_choose_13 : decode cX8_choose 13 = .ok (.aload_n 0, 1) := by decide +kernel
theorem dX8_choose_14 : decode cX8_choose 14 = .ok (.iload_n 1, 1) := by decide +kernel
theorem dX8_choose_15 : decode cX8_choose 15 = .ok (.iload_n 2, 1) := by decide +kernel
theorem dX8_choose_16 : decode cX8_choose 16 = .ok (.bipush (-9), 2) := by decide +kernel
theorem dX8_choose_18 : decode cX8_choose 18 = .ok (.invokevirtual 184, 3) := by decide +kernel
theorem dX8_choose_21 : decode cX8_choose 21 = .ok (.istore 4, 2) := by decide +kernel
theorem dX8_choose_23 : decode cX8_choose 23 = .ok (.iload 4, 2) := by decide +kernel
theorem dX8_choose_25 : decode cX8_choose 25 = .ok (.ifCond .ne 9, 3) := by decide +kernel
theorem dX8_choose_28 : decode cX8_choose 28 = .ok (.aload_n 0, 1) := by decide +kernel
theorem dX8_choose_29 : decode cX8_choose 29 = .ok (.iconst 4, 1) := by decide +kernel
theorem dX8_choose_30 : decode cX8_choose 30 = .ok (.invokevirtual 109, 3) := by decide +kernel
theorem dX8_choose_33 : decode cX8_choose 33 = .ok (.ireturn, 1) := by decide +kernel
theorem dX8_choose_34 : decode cX8_choose 34 = .ok (.bipush (-9), 2) := by decide +kernel
theorem dX8_choose_36 : decode cX8_choose 36 = .ok (.istore 5, 2) := by decide +kernel
theorem dX8_choose_38 : decode cX8_choose 38 = .ok (.iconst 0, 1) := by decide +kernel
theorem dX8_choose_39 : decode cX8_choose 39 = .ok (.istore 6, 2) := by decide +kernel
theorem dX8_choose_41 : decode cX8_choose 41 = .ok (.iload 6, 2) := by decide +kernel
theorem dX8_choose_43 : decode cX8_choose 43 = .ok (.aload_n 0, 1) := by decide +kernel
theorem dX8_choose_44 : decode cX8_choose 44 = .ok (.getfield 202, 3) := by decide +kernel
theorem dX8_choose_47 : decode cX8_choose 47 = .ok (.if_icmp .ge 77, 3) := by decide +kernel
theorem dX8_choose_50 : decode cX8_choose 50 = .ok (.ldc2_w 205, 3) := by decide +kernel
theorem dX8_choose_53 : decode cX8_choose 53 = .ok (.aload_n 0, 1) := by decide +kernel
theorem dX8_choose_54 : decode cX8_choose 54 = .ok (.getfield 66, 3) := by decide +kernel
theorem dX8_choose_57 : decode cX8_choose 57 = .ok (.iload 6, 2) := by decide +kernel
theorem dX8_choose_59 : decode cX8_choose 59 = .ok (.iaload, 1) := by decide +kernel
theorem dX8_choose_60 : decode cX8_choose 60 = .ok (.i2l, 1) := by decide +kernel
theorem dX8_choose_61 : decode cX8_choose 61 = .ok (.lmul, 1) := by decide +kernel
theorem dX8_choose_62 : decode cX8_choose 62 = .ok (.aload_n 0, 1) := by decide +kernel
theorem dX8_choose_63 : decode cX8_choose 63 = .ok (.iload_n 1, 1) := by decide +kernel
theorem dX8_choose_64 : decode cX8_choose 64 = .ok (.iload_n 2, 1) := by decide +kernel
theorem dX8_choose_65 : decode cX8_choose 65 = .ok (.invokevirtual 196, 3) := by decide +kernel
theorem dX8_choose_68 : decode cX8_choose 68 = .ok (.lmul, 1) := by decide +kernel
theorem dX8_choose_69 : decode cX8_choose 69 = .ok (.ldc2_w 200, 3) := by decide +kernel
theorem dX8_choose_72 : decode cX8_choose 72 = .ok (.iload 4, 2) := by decide +kernel
theorem dX8_choose_74 : decode cX8_choose 74 = .ok (.i2l, 1) := by decide +kernel
theorem dX8_choose_75 : decode cX8_choose 75 = .ok (.lmul, 1) := by decide +kernel
theorem dX8_choose_76 : decode cX8_choose 76 = .ok (.lcmp, 1) := by decide +kernel
theorem dX8_choose_77 : decode cX8_choose 77 = .ok (.ifCond .gt 7, 3) := by decide +kernel
theorem dX8_choose_80 : decode cX8_choose 80 = .ok (.iconst 1, 1) := by decide +kernel
theorem dX8_choose_81 : decode cX8_choose 81 = .ok (.goto 4, 3) := by decide +kernel
theorem dX8_choose_84 : decode cX8_choose 84 = .ok (.iconst 0, 1) := by decide +kernel
theorem dX8_choose_85 : decode cX8_choose 85 = .ok (.istore 7, 2) := by decide +kernel
theorem dX8_choose_87 : decode cX8_choose 87 = .ok (.iload 7, 2) := by decide +kernel
theorem dX8_choose_89 : decode cX8_choose 89 = .ok (.ifCond .eq 25, 3) := by decide +kernel
theorem dX8_choose_92 : decode cX8_choose 92 = .ok (.aload_n 0, 1) := by decide +kernel
theorem dX8_choose_93 : decode cX8_choose 93 = .ok (.getfield 66, 3) := by decide +kernel
theorem dX8_choose_96 : decode cX8_choose 96 = .ok (.iload 6, 2) := by decide +kernel
theorem dX8_choose_98 : decode cX8_choose 98 = .ok (.iaload, 1) := by decide +kernel
theorem dX8_choose_99 : decode cX8_choose 99 = .ok (.iload 5, 2) := by decide +kernel
theorem dX8_choose_101 : decode cX8_choose 101 = .ok (.if_icmp .le 13, 3) := by decide +kernel
theorem dX8_choose_104 : decode cX8_choose 104 = .ok (.aload_n 0, 1) := by decide +kernel
theorem dX8_choose_105 : decode cX8_choose 105 = .ok (.getfield 66, 3) := by decide +kernel
theorem dX8_choose_108 : decode cX8_choose 108 = .ok (.iload 6, 2) := by decide +kernel
theorem dX8_choose_110 : decode cX8_choose 110 = .ok (.iaload, 1) := by decide +kernel
theorem dX8_choose_111 : decode cX8_choose 111 = .ok (.goto 5, 3) := by decide +kernel
theorem dX8_choose_114 : decode cX8_choose 114 = .ok (.iload 5, 2) := by decide +kernel
theorem dX8_choose_116 : decode cX8_choose 116 = .ok (.istore 5, 2) := by decide +kernel
theorem dX8_choose_118 : decode cX8_choose 118 = .ok (.iinc 6 1, 3) := by decide +kernel
theorem dX8_choose_121 : decode cX8_choose 121 = .ok (.goto (-80), 3) := by decide +kernel
theorem dX8_choose_124 : decode cX8_choose 124 = .ok (.aload_n 0, 1) := by decide +kernel
theorem dX8_choose_125 : decode cX8_choose 125 = .ok (.getfield 56, 3) := by decide +kernel
theorem dX8_choose_128 : decode cX8_choose 128 = .ok (.iload_n 1, 1) := by decide +kernel
theorem dX8_choose_129 : decode cX8_choose 129 = .ok (.iload 5, 2) := by decide +kernel
theorem dX8_choose_131 : decode cX8_choose 131 = .ok (.bipush (-9), 2) := by decide +kernel
theorem dX8_choose_133 : decode cX8_choose 133 = .ok (.if_icmp .ne 12, 3) := by decide +kernel
theorem dX8_choose_136 : decode cX8_choose 136 = .ok (.aload_n 0, 1) := by decide +kernel
theorem dX8_choose_137 : decode cX8_choose 137 = .ok (.getfield 56, 3) := by decide +kernel
theorem dX8_choose_140 : decode cX8_choose 140 = .ok (.iload_n 1, 1) := by decide +kernel
theorem dX8_choose_141 : decode cX8_choose 141 = .ok (.iaload, 1) := by decide +kernel
theorem dX8_choose_142 : decode cX8_choose 142 = .ok (.goto 5, 3) := by decide +kernel
theorem dX8_choose_145 : decode cX8_choose 145 = .ok (.iload 5, 2) := by decide +kernel
theorem dX8_choose_147 : decode cX8_choose 147 = .ok (.iastore, 1) := by decide +kernel
theorem dX8_choose_148 : decode cX8_choose 148 = .ok (.iload 5, 2) := by decide +kernel
theorem dX8_choose_150 : decode cX8_choose 150 = .ok (.ireturn, 1) := by decide +kernel
set_option maxRecDepth 20000 in
theorem ggX8_isCase_X8_in : GoodIn wsX8_isCase wsX8_in := goodIn_r _ [4] (by decide +kernel) (by decide +kernel)
set_option maxRecDepth 20000 in
theorem gX8_isCase_X8_in : GoodIn wsX8_isCase (va_wsS RX8 95 yX8_in wsX8_in) := goodIn_app (goodIn_of _ (by decide +kernel)) ggX8_isCase_X8_in
theorem dX8_isCase_0 : decode cX8_isCase 0 = .ok (.iload_n 0, 1) := by decide +kernel
theorem dX8_isCase_1 : decode cX8_isCase 1 = .ok (.iconst 0, 1) := by decide +kernel
theorem dX8_isCase_2 : decode cX8_isCase 2 = .ok (.bipush 7, 2) := by decide +kernel
theorem dX8_isCase_4 : decode cX8_isCase 4 = .ok (.invokestatic 95, 3) := by decide +kernel
theorem dX8_isCase_7 : decode cX8_isCase 7 = .ok (.ireturn, 1) := by decide +kernel
set_option maxRecDepth 20000 in
theorem ggX8_amount_X8_isCase : GoodIn wsX8_amount wsX8_isCase := goodIn_r _ [7, 8, 9, 6, 10] (by decide +kernel) (by decide +kernel)
set_option maxRecDepth 20000 in
theorem gX8_amount_X8_isCase : GoodIn wsX8_amount (va_wsS RX8 207 yX8_isCase wsX8_isCase) := goodIn_app (goodIn_of _ (by decide +kernel)) ggX8_amount_X8_isCase
set_option maxRecDepth 20000 in
theorem ggX8_amount_X8_in : GoodIn wsX8_amount wsX8_in := goodIn_r _ [10] (by decide +kernel) (by decide +kernel)
set_option maxRecDepth 20000 in
theorem gX8_amount_X8_in : GoodIn wsX8_amount (va_wsS RX8 95 yX8_in wsX8_in) := goodIn_app (goodIn_of _ (by decide +kernel)) ggX8_amount_X8_in
theorem dX8_amount_0 : decode cX8_amount 0 = .ok (.iload_n 1, 1) := by decide +kernel
theorem dX8_amount_1 : decode cX8_amount 1 = .ok (.invokestatic 207, 3) := by decide +kernel
theorem dX8_amount_4 : decode cX8_amount 4 = .ok (.ifCond .eq 38, 3) := by decide +kernel
theorem dX8_amount_7 : decode cX8_amount 7 = .ok (.iload_n 2, 1) := by decide +kernel
theorem dX8_amount_8 : decode cX8_amount 8 = .ok (.sipush (-10000), 3) := by decide +kernel
theorem dX8_amount_11 : decode cX8_amount 11 = .ok (.sipush 10000, 3) := by decide +kernel
theorem dX8_amount_14 : decode cX8_amount 14 = .ok (.invokestatic 95, 3) := by decide +kernel
theorem dX8_amount_17 : decode cX8_amount 17 = .ok (.ifCond .eq 25, 3) := by decide +kernel
theorem dX8_amount_20 : decode cX8_amount 20 = .ok (.iload_n 3, 1) := by decide +kernel
theorem dX8_amount_21 : decode cX8_amount 21 = .ok (.bipush (-9), 2) := by decide +kernel
theorem dX8_amount_23 : decode cX8_amount 23 = .ok (.bipush 9, 2) := by decide +kernel
theorem dX8_amount_25 : decode cX8_amount 25 = .ok (.invokestatic 95, 3) := by decide +kernel
theorem dX8_amount_28 : decode cX8_amount 28 = .ok (.ifCond .eq 14, 3) := by decide +kernel
theorem dX8_amount_31 : decode cX8_amount 31 = .ok (.iload 4, 2) := by decide +kernel
theorem dX8_amount_33 : decode cX8_amount 33 = .ok (.iload_n 3, 1) := by decide +kernel
theorem dX8_amount_34 : decode cX8_amount 34 = .ok (.bipush 9, 2) := by decide +kernel
theorem dX8_amount_36 : decode cX8_amount 36 = .ok (.invokestatic 95, 3) := by decide +kernel
theorem dX8_amount_39 : decode cX8_amount 39 = .ok (.ifCond .ne 5, 3) := by decide +kernel
theorem dX8_amount_42 : decode cX8_amount 42 = .ok (.iconst (-1), 1) := by decide +kernel
theorem dX8_amount_43 : decode cX8_amount 43 = .ok (.ireturn, 1) := by decide +kernel
theorem dX8_amount_44 : decode cX8_amount 44 = .ok (.aload_n 0, 1) := by decide +kernel
theorem dX8_amount_45 : decode cX8_amount 45 = .ok (.getfield 69, 3) := by decide +kernel
theorem dX8_amount_48 : decode cX8_amount 48 = .ok (.iload_n 1, 1) := by decide +kernel
theorem dX8_amount_49 : decode cX8_amount 49 = .ok (.iload_n 2, 1) := by decide +kernel
theorem dX8_amount_50 : decode cX8_amount 50 = .ok (.iastore, 1) := by decide +kernel
theorem dX8_amount_51 : decode cX8_amount 51 = .ok (.aload_n 0, 1) := by decide +kernel
theorem dX8_amount_52 : decode cX8_amount 52 = .ok (.getfield 72, 3) := by decide +kernel
theorem dX8_amount_55 : decode cX8_amount 55 = .ok (.iload_n 1, 1) := by decide +kernel
theorem dX8_amount_56 : decode cX8_amount 56 = .ok (.iload_n 3, 1) := by decide +kernel
theorem dX8_amount_57 : decode cX8_amount 57 = .ok (.iastore, 1) := by decide +kernel
theorem dX8_amount_58 : decode cX8_amount 58 = .ok (.aload_n 0, 1) := by decide +kernel
theorem dX8_amount_59 : decode cX8_amount 59 = .ok (.getfield 75, 3) := by decide +kernel
theorem dX8_amount_62 : decode cX8_amount 62 = .ok (.iload_n 1, 1) := by decide +kernel
theorem dX8_amount_63 : decode cX8_amount 63 = .ok (.iload 4, 2) := by decide +kernel
theorem dX8_amount_65 : decode cX8_amount 65 = .ok (.iastore, 1) := by decide +kernel
theorem dX8_amount_66 : decode cX8_amount 66 = .ok (.iconst 1, 1) := by decide +kernel
theorem dX8_amount_67 : decode cX8_amount 67 = .ok (.ireturn, 1) := by decide +kernel
set_option maxRecDepth 20000 in
theorem ggX8_bar_X8_isCase : GoodIn wsX8_bar wsX8_isCase := goodIn_r _ [5, 6, 7, 4, 8] (by decide +kernel) (by decide +kernel)
set_option maxRecDepth 20000 in
theorem gX8_bar_X8_isCase : GoodIn wsX8_bar (va_wsS RX8 207 yX8_isCase wsX8_isCase) := goodIn_app (goodIn_of _ (by decide +kernel)) ggX8_bar_X8_isCase
theorem dX8_bar_0 : decode cX8_bar 0 = .ok (.iload_n 1, 1) := by decide +kernel
theorem dX8_bar_1 : decode cX8_bar 1 = .ok (.invokestatic 207, 3) := by decide +kernel
theorem dX8_bar_4 : decode cX8_bar 4 = .ok (.ifCond .eq 15, 3) := by decide +kernel
theorem dX8_bar_7 : decode cX8_bar 7 = .ok (.iload_n 2, 1) := by decide +kernel
theorem dX8_bar_8 : decode cX8_bar 8 = .ok (.invokestatic 207, 3) := by decide +kernel
theorem dX8_bar_11 : decode cX8_bar 11 = .ok (.ifCond .eq 8, 3) := by decide +kernel
theorem dX8_bar_14 : decode cX8_bar 14 = .ok (.iload_n 1, 1) := by decide +kernel
theorem dX8_bar_15 : decode cX8_bar 15 = .ok (.iload_n 2, 1) := by decide +kernel
theorem dX8_bar_16 : decode cX8_bar 16 = .ok (.if_icmp .ne 5, 3) := by decide +kernel
theorem dX8_bar_19 : decode cX8_bar 19 = .ok (.iconst (-1), 1) := by decide +kernel
theorem dX8_bar_20 : decode cX8_bar 20 = .ok (.ireturn, 1) := by decide +kernel
theorem dX8_bar_21 : decode cX8_bar 21 = .ok (.aload_n 0, 1) := by decide +kernel
theorem dX8_bar_22 : decode cX8_bar 22 = .ok (.getfield 78, 3) := by decide +kernel
theorem dX8_bar_25 : decode cX8_bar 25 = .ok (.iload_n 1, 1) := by decide +kernel
theorem dX8_bar_26 : decode cX8_bar 26 = .ok (.iaload, 1) := by decide +kernel
theorem dX8_bar_27 : decode cX8_bar 27 = .ok (.iload_n 2, 1) := by decide +kernel
theorem dX8_bar_28 : decode cX8_bar 28 = .ok (.ishr, 1) := by decide +kernel
theorem dX8_bar_29 : decode cX8_bar 29 = .ok (.iconst 1, 1) := by decide +kernel
theorem dX8_bar_30 : decode cX8_bar 30 = .ok (.iand, 1) := by decide +kernel
theorem dX8_bar_31 : decode cX8_bar 31 = .ok (.istore 4, 2) := by decide +kernel
theorem dX8_bar_33 : decode cX8_bar 33 = .ok (.aload_n 0, 1) := by decide +kernel
theorem dX8_bar_34 : decode cX8_bar 34 = .ok (.getfield 78, 3) := by decide +kernel
theorem dX8_bar_37 : decode cX8_bar 37 = .ok (.iload_n 1, 1) := by decide +kernel
theorem dX8_bar_38 : decode cX8_bar 38 = .ok (.iload_n 3, 1) := by decide +kernel
theorem dX8_bar_39 : decode cX8_bar 39 = .ok (.ifCond .eq 16, 3) := by decide +kernel
theorem dX8_bar_42 : decode cX8_bar 42 = .ok (.aload_n 0, 1) := by decide +kernel
theorem dX8_bar_43 : decode cX8_bar 43 = .ok (.getfield 78, 3) := by decide +kernel
theorem dX8_bar_46 : decode cX8_bar 46 = .ok (.iload_n 1, 1) := by decide +kernel
theorem dX8_bar_47 : decode cX8_bar 47 = .ok (.iaload, 1) := by decide +kernel
theorem dX8_bar_48 : decode cX8_bar 48 = .ok (.iconst 1, 1) := by decide +kernel
theorem dX8_bar_49 : decode cX8_bar 49 = .ok (.iload_n 2, 1) := by decide +kernel
theorem dX8_bar_50 : decode cX8_bar 50 = .ok (.ishl, 1) := by decide +kernel
theorem dX8_bar_51 : decode cX8_bar 51 = .ok (.ior, 1) := by decide +kernel
theorem dX8_bar_52 : decode cX8_bar 52 = .ok (.goto 15, 3) := by decide +kernel
theorem dX8_bar_55 : decode cX8_bar 55 = .ok (.aload_n 0, 1) := by decide +kernel
theorem dX8_bar_56 : decode cX8_bar 56 = .ok (.getfield 78, 3) := by decide +kernel
theorem dX8_bar_59 : decode cX8_bar 59 = .ok (.iload_n 1, 1) := by decide +kernel
theorem dX8_bar_60 : decode cX8_bar 60 = .ok (.iaload, 1) := by decide +kernel
theorem dX8_bar_61 : decode cX8_bar 61 = .ok (.iconst 1, 1) := by decide +kernel
theorem dX8_bar_62 : decode cX8_bar 62 = .ok (.iload_n 2, 1) := by decide +kernel
theorem dX8_bar_63 : decode cX8_bar 63 = .ok (.ishl, 1) := by decide +kernel
theorem dX8_bar_64 : decode cX8_bar 64 = .ok (.iconst (-1), 1) := by decide +kernel
theorem dX8_bar_65 : decode cX8_bar 65 = .ok (.ixor, 1) := by decide +kernel
theorem dX8_bar_66 : decode cX8_bar 66 = .ok (.iand, 1) := by decide +kernel
theorem dX8_bar_67 : decode cX8_bar 67 = .ok (.iastore, 1) := by decide +kernel
theorem dX8_bar_68 : decode cX8_bar 68 = .ok (.aload_n 0, 1) := by decide +kernel
theorem dX8_bar_69 : decode cX8_bar 69 = .ok (.getfield 78, 3) := by decide +kernel
theorem dX8_bar_72 : decode cX8_bar 72 = .ok (.iload_n 2, 1) := by decide +kernel
theorem dX8_bar_73 : decode cX8_bar 73 = .ok (.iload_n 3, 1) := by decide +kernel
theorem dX8_bar_74 : decode cX8_bar 74 = .ok (.ifCond .eq 16, 3) := by decide +kernel
theorem dX8_bar_77 : decode cX8_bar 77 = .ok (.aload_n 0, 1) := by decide +kernel
theorem dX8_bar_78 : decode cX8_bar 78 = .ok (.getfield 78, 3) := by decide +kernel
theorem dX8_bar_81 : decode cX8_bar 81 = .ok (.iload_n 2, 1) := by decide +kernel
theorem dX8_bar_82 : decode cX8_bar 82 = .ok (.iaload, 1) := by decide +kernel
theorem dX8_bar_83 : decode cX8_bar 83 = .ok (.iconst 1, 1) := by decide +kernel
theorem dX8_bar_84 : decode cX8_bar 84 = .ok (.iload_n 1, 1) := by decide +kernel
theorem dX8_bar_85 : decode cX8_bar 85 = .ok (.ishl, 1) := by decide +kernel
theorem dX8_bar_86 : decode cX8_bar 86 = .ok (.ior, 1) := by decide +kernel
theorem dX8_bar_87 : decode cX8_bar 87 = .ok (.goto 15, 3) := by decide +kernel
theorem dX8_bar_90 : decode cX8_bar 90 = .ok (.aload_n 0, 1) := by decide +kernel
theorem dX8_bar_91 : decode cX8_bar 91 = .ok (.getfield 78, 3) := by decide +kernel
theorem dX8_bar_94 : decode cX8_bar 94 = .ok (.iload_n 2, 1) := by decide +kernel
theorem dX8_bar_95 : decode cX8_bar 95 = .ok (.iaload, 1) := by decide +kernel
theorem dX8_bar_96 : decode cX8_bar 96 = .ok (.iconst 1, 1) := by decide +kernel
theorem dX8_bar_97 : decode cX8_bar 97 = .ok (.iload_n 1, 1) := by decide +kernel
theorem dX8_bar_98 : decode cX8_bar 98 = .ok (.ishl, 1) := by decide +kernel
theorem dX8_bar_99 : decode cX8_bar 99 = .ok (.iconst (-1), 1) := by decide +kernel
theorem dX8_bar_100 : decode cX8_bar 100 = .ok (.ixor, 1) := by decide +kernel
theorem dX8_bar_101 : decode cX8_bar 101 = .ok (.iand, 1) := by decide +kernel
theorem dX8_bar_102 : decode cX8_bar 102 = .ok (.iastore, 1) := by decide +kernel
theorem dX8_bar_103 : decode cX8_bar 103 = .ok (.iload 4, 2) := by decide +kernel
theorem dX8_bar_105 : decode cX8_bar 105 = .ok (.ireturn, 1) := by decide +kernel
theorem dX8_mayJoin_0 : decode cX8_mayJoin 0 = .ok (.iconst 1, 1) := by decide +kernel
theorem dX8_mayJoin_1 : decode cX8_mayJoin 1 = .ok (.istore_n 2, 1) := by decide +kernel
theorem dX8_mayJoin_2 : decode cX8_mayJoin 2 = .ok (.iconst 0, 1) := by decide +kernel
theorem dX8_mayJoin_3 : decode cX8_mayJoin 3 = .ok (.istore_n 3, 1) := by decide +kernel
theorem dX8_mayJoin_4 : decode cX8_mayJoin 4 = .ok (.iload_n 3, 1) := by decide +kernel
theorem dX8_mayJoin_5 : decode cX8_mayJoin 5 = .ok (.bipush 8, 2) := by decide +kernel
theorem dX8_mayJoin_7 : decode cX8_mayJoin 7 = .ok (.if_icmp .ge 38, 3) := by decide +kernel
theorem dX8_mayJoin_10 : decode cX8_mayJoin 10 = .ok (.iload_n 2, 1) := by decide +kernel
theorem dX8_mayJoin_11 : decode cX8_mayJoin 11 = .ok (.ifCond .eq 26, 3) := by decide +kernel
theorem dX8_mayJoin_14 : decode cX8_mayJoin 14 = .ok (.iload_n 1, 1) := by decide +kernel
theorem dX8_mayJoin_15 : decode cX8_mayJoin 15 = .ok (.iload_n 3, 1) := by decide +kernel
theorem dX8_mayJoin_16 : decode cX8_mayJoin 16 = .ok (.ishr, 1) := by decide +kernel
theorem dX8_mayJoin_17 : decode cX8_mayJoin 17 = .ok (.iconst 1, 1) := by decide +kernel
theorem dX8_mayJoin_18 : decode cX8_mayJoin 18 = .ok (.iand, 1) := by decide +kernel
theorem dX8_mayJoin_19 : decode cX8_mayJoin 19 = .ok (.ifCond .eq 14, 3) := by decide +kernel
theorem dX8_mayJoin_22 : decode cX8_mayJoin 22 = .ok (.aload_n 0, 1) := by decide +kernel
theorem dX8_mayJoin_23 : decode cX8_mayJoin 23 = .ok (.getfield 78, 3) := by decide +kernel
theorem dX8_mayJoin_26 : decode cX8_mayJoin 26 = .ok (.iload_n 3, 1) := by decide +kernel
theorem dX8_mayJoin_27 : decode cX8_mayJoin 27 = .ok (.iaload, 1) := by decide +kernel
theorem dX8_mayJoin_28 : decode cX8_mayJoin 28 = .ok (.iload_n 1, 1) := by decide +kernel
theorem dX8_mayJoin_29 : decode cX8_mayJoin 29 = .ok (.iand, 1) := by decide +kernel
theorem dX8_mayJoin_30 : decode cX8_mayJoin 30 = .ok (.ifCond .ne 7, 3) := by decide +kernel
theorem dX8_mayJoin_33 : decode cX8_mayJoin 33 = .ok (.iconst 1, 1) := by decide +kernel
theorem dX8_mayJoin_34 : decode cX8_mayJoin 34 = .ok (.goto 4, 3) := by decide +kernel
theorem dX8_mayJoin_37 : decode cX8_mayJoin 37 = .ok (.iconst 0, 1) := by decide +kernel
theorem dX8_mayJoin_38 : decode cX8_mayJoin 38 = .ok (.istore_n 2, 1) := by decide +kernel
theorem dX8_mayJoin_39 : decode cX8_mayJoin 39 = .ok (.iinc 3 1, 3) := by decide +kernel
theorem dX8_mayJoin_42 : decode cX8_mayJoin 42 = .ok (.goto (-38), 3) := by decide +kernel
theorem dX8_mayJoin_45 : decode cX8_mayJoin 45 = .ok (.iload_n 2, 1) := by decide +kernel
theorem dX8_mayJoin_46 : decode cX8_mayJoin 46 = .ok (.ireturn, 1) := by decide +kernel
theorem dX8_joined_0 : decode cX8_joined 0 = .ok (.iconst 0, 1) := by decide +kernel
theorem dX8_joined_1 : decode cX8_joined 1 = .ok (.istore_n 2, 1) := by decide +kernel
theorem dX8_joined_2 : decode cX8_joined 2 = .ok (.iconst 0, 1) := by decide +kernel
theorem dX8_joined_3 : decode cX8_joined 3 = .ok (.istore_n 3, 1) := by decide +kernel
theorem dX8_joined_4 : decode cX8_joined 4 = .ok (.iload_n 3, 1) := by decide +kernel
theorem dX8_joined_5 : decode cX8_joined 5 = .ok (.bipush 8, 2) := by decide +kernel
theorem dX8_joined_7 : decode cX8_joined 7 = .ok (.if_icmp .ge 68, 3) := by decide +kernel
theorem dX8_joined_10 : decode cX8_joined 10 = .ok (.aload_n 0, 1) := by decide +kernel
theorem dX8_joined_11 : decode cX8_joined 11 = .ok (.getfield 69, 3) := by decide +kernel
theorem dX8_joined_14 : decode cX8_joined 14 = .ok (.iload_n 3, 1) := by decide +kernel
theorem dX8_joined_15 : decode cX8_joined 15 = .ok (.iaload, 1) := by decide +kernel
theorem dX8_joined_16 : decode cX8_joined 16 = .ok (.aload_n 0, 1) := by decide +kernel
theorem dX8_joined_17 : decode cX8_joined 17 = .ok (.getfield 72, 3) := by decide +kernel
theorem dX8_joined_20 : decode cX8_joined 20 = .ok (.iload_n 3, 1) := by decide +kernel
theorem dX8_joined_21 : decode cX8_joined 21 = .ok (.iaload, 1) := by decide +kernel
theorem dX8_joined_22 : decode cX8_joined 22 = .ok (.imul, 1) := by decide +kernel
theorem dX8_joined_23 : decode cX8_joined 23 = .ok (.istore 4, 2) := by decide +kernel
theorem dX8_joined_25 : decode cX8_joined 25 = .ok (.aload_n 0, 1) := by decide +kernel
theorem dX8_joined_26 : decode cX8_joined 26 = .ok (.getfield 69, 3) := by decide +kernel
theorem dX8_joined_29 : decode cX8_joined 29 = .ok (.iload_n 3, 1) := by decide +kernel
theorem dX8_joined_30 : decode cX8_joined 30 = .ok (.iaload, 1) := by decide +kernel
theorem dX8_joined_31 : decode cX8_joined 31 = .ok (.aload_n 0, 1) := by decide +kernel
theorem dX8_joined_32 : decode cX8_joined 32 = .ok (.getfield 75, 3) := by decide +kernel
theorem dX8_joined_35 : decode cX8_joined 35 = .ok (.iload_n 3, 1) := by decide +kernel
theorem dX8_joined_36 : decode cX8_joined 36 = .ok (.iaload, 1) := by decide +kernel
theorem dX8_joined_37 : decode cX8_joined 37 = .ok (.imul, 1) := by decide +kernel
theorem dX8_joined_38 : decode cX8_joined 38 = .ok (.istore 5, 2) := by decide +kernel
theorem dX8_joined_40 : decode cX8_joined 40 = .ok (.iload_n 2, 1) := by decide +kernel
theorem dX8_joined_41 : decode cX8_joined 41 = .ok (.iload_n 1, 1) := by decide +kernel
theorem dX8_joined_42 : decode cX8_joined 42 = .ok (.iload_n 3, 1) := by decide +kernel
theorem dX8_joined_43 : decode cX8_joined 43 = .ok (.ishr, 1) := by decide +kernel
theorem dX8_joined_44 : decode cX8_joined 44 = .ok (.iconst 1, 1) := by decide +kernel
theorem dX8_joined_45 : decode cX8_joined 45 = .ok (.iand, 1) := by decide +kernel
theorem dX8_joined_46 : decode cX8_joined 46 = .ok (.ifCond .ne 7, 3) := by decide +kernel
theorem dX8_joined_49 : decode cX8_joined 49 = .ok (.iconst 0, 1) := by decide +kernel
theorem dX8_joined_50 : decode cX8_joined 50 = .ok (.goto 17, 3) := by decide +kernel
theorem dX8_joined_53 : decode cX8_joined 53 = .ok (.iload 4, 2) := by decide +kernel
theorem dX8_joined_55 : decode cX8_joined 55 = .ok (.iload 5, 2) := by decide +kernel
theorem dX8_joined_57 : decode cX8_joined 57 = .ok (.if_icmp .le 8, 3) := by decide +kernel
theorem dX8_joined_60 : decode cX8_joined 60 = .ok (.iload 4, 2) := by decide +kernel
theorem dX8_joined_62 : decode cX8_joined 62 = .ok (.goto 5, 3) := by decide +kernel
theorem dX8_joined_65 : decode cX8_joined 65 = .ok (.iload 5, 2) := by decide +kernel
theorem dX8_joined_67 : decode cX8_joined 67 = .ok (.iadd, 1) := by decide +kernel
theorem dX8_joined_68 : decode cX8_joined 68 = .ok (.istore_n 2, 1) := by decide +kernel
theorem dX8_joined_69 : decode cX8_joined 69 = .ok (.iinc 3 1, 3) := by decide +kernel
theorem dX8_joined_72 : decode cX8_joined 72 = .ok (.goto (-68), 3) := by decide +kernel
theorem dX8_joined_75 : decode cX8_joined 75 = .ok (.iload_n 2, 1) := by decide +kernel
theorem dX8_joined_76 : decode cX8_joined 76 = .ok (.ireturn, 1) := by decide +kernel
set_option maxRecDepth 20000 in
theorem ggX8_worst_X8_mayJoin : GoodIn wsX8_worst wsX8_mayJoin := goodIn_r _ [5, 6, 19, 20, 21, 22, 23, 24, 25, 26, 27, 28, 29, 30, 31, 32, 33, 34, 35, 36, 37, 38, 39, 40, 41, 42, 43, 44, 45, 46, 47, 48, 49, 50, 51, 52] (by decide +kernel) (by decide +kernel)
set_option maxRecDepth 20000 in
theorem gX8_worst_X8_mayJoin : GoodIn wsX8_worst (wsV RX8 210 RX8 yX8_mayJoin wsX8_mayJoin) := goodIn_app (goodIn_of _ (by decide +kernel)) ggX8_worst_X8_mayJoin
set_option maxRecDepth 20000 in
theorem ggX8_worst_X8_joined : GoodIn wsX8_worst wsX8_joined := goodIn_r _ [10, 11, 12, 13, 19, 20, 21, 22, 23, 24, 25, 26, 27, 28, 29, 30, 31, 32, 33, 34, 35, 36, 37, 38, 39, 40, 41, 42, 43, 44, 45, 46, 47, 48, 49, 50, 51, 52] (by decide +kernel) (by decide +kernel)
set_option maxRecDepth 20000 in
theorem gX8_worst_X8_joined : GoodIn wsX8_worst (wsV RX8 213 RX8 yX8_joined wsX8_joined) := goodIn_app (goodIn_of _ (by decide +kernel)) ggX8_worst_X8_joined
set_option maxRecDepth 20000 in
theorem ggX8_worst_X8_tells : GoodIn wsX8_worst wsX8_tells := goodIn_r _ [17, 18, 19, 20, 21, 22, 23, 24, 25, 26, 27, 28, 29, 30, 31, 32, 33, 34, 35, 36, 37, 38, 39, 40, 41, 42, 43, 44, 45, 46, 47, 48, 49, 50, 51, 52] (by decide +kernel) (by decide +kernel)
set_option maxRecDepth 20000 in
theorem gX8_worst_X8_tells : GoodIn wsX8_worst (wsV RX8 125 RX8 yX8_tells wsX8_tells) := goodIn_app (goodIn_of _ (by decide +kernel)) ggX8_worst_X8_tells
theorem dX8_worst_0 : decode cX8_worst 0 = .ok (.iconst 0, 1) := by decide +kernel
theorem dX8_worst_1 : decode cX8_worst 1 = .ok (.istore_n 1, 1) := by decide +kernel
theorem dX8_worst_2 : decode cX8_worst 2 = .ok (.iconst 0, 1) := by decide +kernel
theorem dX8_worst_3 : decode cX8_worst 3 = .ok (.istore_n 2, 1) := by decide +kernel
theorem dX8_worst_4 : decode cX8_worst 4 = .ok (.iconst 1, 1) := by decide +kernel
theorem dX8_worst_5 : decode cX8_worst 5 = .ok (.istore_n 3, 1) := by decide +kernel
theorem dX8_worst_6 : decode cX8_worst 6 = .ok (.iload_n 3, 1) := by decide +kernel
theorem dX8_worst_7 : decode cX8_worst 7 = .ok (.sipush 256, 3) := by decide +kernel
theorem dX8_worst_10 : decode cX8_worst 10 = .ok (.if_icmp .ge 34, 3) := by decide +kernel
theorem dX8_worst_13 : decode cX8_worst 13 = .ok (.aload_n 0, 1) := by decide +kernel
theorem dX8_worst_14 : decode cX8_worst 14 = .ok (.iload_n 3, 1) := by decide +kernel
theorem dX8_worst_15 : decode cX8_worst 15 = .ok (.invokevirtual 210, 3) := by decide +kernel
theorem dX8_worst_18 : decode cX8_worst 18 = .ok (.ifCond .eq 20, 3) := by decide +kernel
theorem dX8_worst_21 : decode cX8_worst 21 = .ok (.aload_n 0, 1) := by decide +kernel
theorem dX8_worst_22 : decode cX8_worst 22 = .ok (.iload_n 3, 1) := by decide +kernel
theorem dX8_worst_23 : decode cX8_worst 23 = .ok (.invokevirtual 213, 3) := by decide +kernel
theorem dX8_worst_26 : decode cX8_worst 26 = .ok (.iload_n 2, 1) := by decide +kernel
theorem dX8_worst_27 : decode cX8_worst 27 = .ok (.if_icmp .le 11, 3) := by decide +kernel
theorem dX8_worst_30 : decode cX8_worst 30 = .ok (.iload_n 3, 1) := by decide +kernel
theorem dX8_worst_31 : decode cX8_worst 31 = .ok (.istore_n 1, 1) := by decide +kernel
theorem dX8_worst_32 : decode cX8_worst 32 = .ok (.aload_n 0, 1) := by decide +kernel
theorem dX8_worst_33 : decode cX8_worst 33 = .ok (.iload_n 3, 1) := by decide +kernel
theorem dX8_worst_34 : decode cX8_worst 34 = .ok (.invokevirtual 213, 3) := by decide +kernel
theorem dX8_worst_37 : decode cX8_worst 37 = .ok (.istore_n 2, 1) := by decide +kernel
theorem dX8_worst_38 : decode cX8_worst 38 = .ok (.iinc 3 1, 3) := by decide +kernel
theorem dX8_worst_41 : decode cX8_worst 41 = .ok (.goto (-35), 3) := by decide +kernel
theorem dX8_worst_44 : decode cX8_worst 44 = .ok (.aload_n 0, 1) := by decide +kernel
theorem dX8_worst_45 : decode cX8_worst 45 = .ok (.iload_n 1, 1) := by decide +kernel
theorem dX8_worst_46 : decode cX8_worst 46 = .ok (.iload_n 2, 1) := by decide +kernel
theorem dX8_worst_47 : decode cX8_worst 47 = .ok (.invokevirtual 125, 3) := by decide +kernel
theorem dX8_worst_50 : decode cX8_worst 50 = .ok (.ireturn, 1) := by decide +kernel
set_option maxRecDepth 20000 in
theorem ggX8_cycle_X8_in : GoodIn wsX8_cycle wsX8_in := goodIn_r _ [8] (by decide +kernel) (by decide +kernel)
set_option maxRecDepth 20000 in
theorem gX8_cycle_X8_in : GoodIn wsX8_cycle (va_wsS RX8 95 yX8_in wsX8_in) := goodIn_app (goodIn_of _ (by decide +kernel)) ggX8_cycle_X8_in
theorem dX8_cycle_0 : decode cX8_cycle 0 = .ok (.iload_n 1, 1) := by decide +kernel
theorem dX8_cycle_1 : decode cX8_cycle 1 = .ok (.iconst 1, 1) := by decide +kernel
theorem dX8_cycle_2 : decode cX8_cycle 2 = .ok (.ldc 216, 2) := by decide +kernel
theorem dX8_cycle_4 : decode cX8_cycle 4 = .ok (.invokestatic 95, 3) := by decide +kernel
theorem dX8_cycle_7 : decode cX8_cycle 7 = .ok (.ifCond .eq 13, 3) := by decide +kernel
theorem dX8_cycle_10 : decode cX8_cycle 10 = .ok (.iload_n 2, 1) := by decide +kernel
theorem dX8_cycle_11 : decode cX8_cycle 11 = .ok (.iconst 1, 1) := by decide +kernel
theorem dX8_cycle_12 : decode cX8_cycle 12 = .ok (.bipush 60, 2) := by decide +kernel
theorem dX8_cycle_14 : decode cX8_cycle 14 = .ok (.invokestatic 95, 3) := by decide +kernel
theorem dX8_cycle_17 : decode cX8_cycle 17 = .ok (.ifCond .ne 5, 3) := by decide +kernel
theorem dX8_cycle_20 : decode cX8_cycle 20 = .ok (.iconst (-1), 1) := by decide +kernel
theorem dX8_cycle_21 : decode cX8_cycle 21 = .ok (.ireturn, 1) := by decide +kernel
theorem dX8_cycle_22 : decode cX8_cycle 22 = .ok (.aload_n 0, 1) := by decide +kernel
theorem dX8_cycle_23 : decode cX8_cycle 23 = .ok (.getfield 217, 3) := by decide +kernel
theorem dX8_cycle_26 : decode cX8_cycle 26 = .ok (.bipush 30, 2) := by decide +kernel
theorem dX8_cycle_28 : decode cX8_cycle 28 = .ok (.if_icmp .ne 6, 3) := by decide +kernel
theorem dX8_cycle_31 : decode cX8_cycle 31 = .ok (.bipush (-2), 2) := by decide +kernel
theorem dX8_cycle_33 : decode cX8_cycle 33 = .ok (.ireturn, 1) := by decide +kernel
theorem dX8_cycle_34 : decode cX8_cycle 34 = .ok (.aload_n 0, 1) := by decide +kernel
theorem dX8_cycle_35 : decode cX8_cycle 35 = .ok (.getfield 81, 3) := by decide +kernel
theorem dX8_cycle_38 : decode cX8_cycle 38 = .ok (.aload_n 0, 1) := by decide +kernel
theorem dX8_cycle_39 : decode cX8_cycle 39 = .ok (.getfield 217, 3) := by decide +kernel
theorem dX8_cycle_42 : decode cX8_cycle 42 = .ok (.iload_n 1, 1) := by decide +kernel
theorem dX8_cycle_43 : decode cX8_cycle 43 = .ok (.iastore, 1) := by decide +kernel
theorem dX8_cycle_44 : decode cX8_cycle 44 = .ok (.aload_n 0, 1) := by decide +kernel
theorem dX8_cycle_45 : decode cX8_cycle 45 = .ok (.getfield 84, 3) := by decide +kernel
theorem dX8_cycle_48 : decode cX8_cycle 48 = .ok (.aload_n 0, 1) := by decide +kernel
theorem dX8_cycle_49 : decode cX8_cycle 49 = .ok (.getfield 217, 3) := by decide +kernel
theorem dX8_cycle_52 : decode cX8_cycle 52 = .ok (.iload_n 2, 1) := by decide +kernel
theorem dX8_cycle_53 : decode cX8_cycle 53 = .ok (.iastore, 1) := by decide +kernel
theorem dX8_cycle_54 : decode cX8_cycle 54 = .ok (.aload_n 0, 1) := by decide +kernel
theorem dX8_cycle_55 : decode cX8_cycle 55 = .ok (.dup, 1) := by decide +kernel
theorem dX8_cycle_56 : decode cX8_cycle 56 = .ok (.getfield 217, 3) := by decide +kernel
theorem dX8_cycle_59 : decode cX8_cycle 59 = .ok (.iconst 1, 1) := by decide +kernel
theorem dX8_cycle_60 : decode cX8_cycle 60 = .ok (.iadd, 1) := by decide +kernel
theorem dX8_cycle_61 : decode cX8_cycle 61 = .ok (.putfield 217, 3) := by decide +kernel
theorem dX8_cycle_64 : decode cX8_cycle 64 = .ok (.aload_n 0, 1) := by decide +kernel
theorem dX8_cycle_65 : decode cX8_cycle 65 = .ok (.getfield 217, 3) := by decide +kernel
theorem dX8_cycle_68 : decode cX8_cycle 68 = .ok (.ireturn, 1) := by decide +kernel
set_option maxRecDepth 20000 in
theorem ggX8_used_X8_fraction : GoodIn wsX8_used wsX8_fraction := goodIn_r _ [9, 10, 11, 12, 13, 14, 15, 16, 17, 18, 19, 20, 21, 22, 23, 24, 25, 26, 27, 28, 29, 30, 31, 32, 33, 34, 35, 36, 37, 38, 39, 40, 41, 42, 43, 44, 45] (by decide +kernel) (by decide +kernel)
set_option maxRecDepth 20000 in
theorem gX8_used_X8_fraction : GoodIn wsX8_used (wsV RX8 189 RX8 yX8_fraction wsX8_fraction) := goodIn_app (goodIn_of _ (by decide +kernel)) ggX8_used_X8_fraction
theorem dX8_used_0 : decode cX8_used 0 = .ok (.lconst 0, 1) := by decide +kernel
theorem dX8_used_1 : decode cX8_used 1 = .ok (.lstore_n 1, 1) := by decide +kernel
theorem dX8_used_2 : decode cX8_used 2 = .ok (.iconst 0, 1) := by decide +kernel
theorem dX8_used_3 : decode cX8_used 3 = .ok (.istore_n 3, 1) := by decide +kernel
theorem dX8_used_4 : decode cX8_used 4 = .ok (.iload_n 3, 1) := by decide +kernel
theorem dX8_used_5 : decode cX8_used 5 = .ok (.aload_n 0, 1) := by decide +kernel
theorem dX8_used_6 : decode cX8_used 6 = .ok (.getfield 217, 3) := by decide +kernel
theorem dX8_used_9 : decode cX8_used 9 = .ok (.if_icmp .ge 28, 3) := by decide +kernel
theorem dX8_used_12 : decode cX8_used 12 = .ok (.lload_n 1, 1) := by decide +kernel
theorem dX8_used_13 : decode cX8_used 13 = .ok (.aload_n 0, 1) := by decide +kernel
theorem dX8_used_14 : decode cX8_used 14 = .ok (.getfield 81, 3) := by decide +kernel
theorem dX8_used_17 : decode cX8_used 17 = .ok (.iload_n 3, 1) := by decide +kernel
theorem dX8_used_18 : decode cX8_used 18 = .ok (.iaload, 1) := by decide +kernel
theorem dX8_used_19 : decode cX8_used 19 = .ok (.i2l, 1) := by decide +kernel
theorem dX8_used_20 : decode cX8_used 20 = .ok (.aload_n 0, 1) := by decide +kernel
theorem dX8_used_21 : decode cX8_used 21 = .ok (.getfield 84, 3) := by decide +kernel
theorem dX8_used_24 : decode cX8_used 24 = .ok (.iload_n 3, 1) := by decide +kernel
theorem dX8_used_25 : decode cX8_used 25 = .ok (.iaload, 1) := by decide +kernel
theorem dX8_used_26 : decode cX8_used 26 = .ok (.iconst 4, 1) := by decide +kernel
theorem dX8_used_27 : decode cX8_used 27 = .ok (.idiv, 1) := by decide +kernel
theorem dX8_used_28 : decode cX8_used 28 = .ok (.lshl, 1) := by decide +kernel
theorem dX8_used_29 : decode cX8_used 29 = .ok (.ladd, 1) := by decide +kernel
theorem dX8_used_30 : decode cX8_used 30 = .ok (.lstore_n 1, 1) := by decide +kernel
theorem dX8_used_31 : decode cX8_used 31 = .ok (.iinc 3 1, 3) := by decide +kernel
theorem dX8_used_34 : decode cX8_used 34 = .ok (.goto (-30), 3) := by decide +kernel
theorem dX8_used_37 : decode cX8_used 37 = .ok (.aload_n 0, 1) := by decide +kernel
theorem dX8_used_38 : decode cX8_used 38 = .ok (.lload_n 1, 1) := by decide +kernel
theorem dX8_used_39 : decode cX8_used 39 = .ok (.ldc2_w 220, 3) := by decide +kernel
theorem dX8_used_42 : decode cX8_used 42 = .ok (.lload_n 1, 1) := by decide +kernel
theorem dX8_used_43 : decode cX8_used 43 = .ok (.ldc2_w 220, 3) := by decide +kernel
theorem dX8_used_46 : decode cX8_used 46 = .ok (.lcmp, 1) := by decide +kernel
theorem dX8_used_47 : decode cX8_used 47 = .ok (.ifCond .le 7, 3) := by decide +kernel
theorem dX8_used_50 : decode cX8_used 50 = .ok (.iconst 1, 1) := by decide +kernel
theorem dX8_used_51 : decode cX8_used 51 = .ok (.goto 4, 3) := by decide +kernel
theorem dX8_used_54 : decode cX8_used 54 = .ok (.iconst 0, 1) := by decide +kernel
theorem dX8_used_55 : decode cX8_used 55 = .ok (.invokevirtual 189, 3) := by decide +kernel
theorem dX8_used_58 : decode cX8_used 58 = .ok (.ireturn, 1) := by decide +kernel
set_option maxRecDepth 20000 in
theorem ggX8_read_X8_in : GoodIn wsX8_read wsX8_in := goodIn_r _ [6] (by decide +kernel) (by decide +kernel)
set_option maxRecDepth 20000 in
theorem gX8_read_X8_in : GoodIn wsX8_read (va_wsS RX8 95 yX8_in wsX8_in) := goodIn_app (goodIn_of _ (by decide +kernel)) ggX8_read_X8_in
set_option maxRecDepth 20000 in
theorem ggX8_read_X8_need : GoodIn wsX8_read wsX8_need := goodIn_r _ [10, 11, 12, 3, 4, 5, 6, 13, 14, 15, 16, 17, 18, 19, 20, 21, 22, 23, 24, 25, 26, 27, 28, 29, 30, 31, 32, 33, 34, 35, 36, 37, 38, 39, 40, 41, 42, 43, 44, 45, 46, 47, 48, 49, 50, 51, 52] (by decide +kernel) (by decide +kernel)
set_option maxRecDepth 20000 in
theorem gX8_read_X8_need : GoodIn wsX8_read (wsV RX8 167 RX8 yX8_need wsX8_need) := goodIn_app (goodIn_of _ (by decide +kernel)) ggX8_read_X8_need
theorem dX8_read_0 : decode cX8_read 0 = .ok (.aload_n 0, 1) := by decide +kernel
theorem dX8_read_1 : decode cX8_read 1 = .ok (.iload_n 2, 1) := by decide +kernel
theorem dX8_read_2 : decode cX8_read 2 = .ok (.bipush (-9), 2) := by decide +kernel
theorem dX8_read_4 : decode cX8_read 4 = .ok (.if_icmp .eq 13, 3) := by decide +kernel
theorem dX8_read_7 : decode cX8_read 7 = .ok (.iload_n 2, 1) := by decide +kernel
theorem dX8_read_8 : decode cX8_read 8 = .ok (.iconst 0, 1) := by decide +kernel
theorem dX8_read_9 : decode cX8_read 9 = .ok (.ldc 216, 2) := by decide +kernel
theorem dX8_read_11 : decode cX8_read 11 = .ok (.invokestatic 95, 3) := by decide +kernel
theorem dX8_read_14 : decode cX8_read 14 = .ok (.ifCond .eq 7, 3) := by decide +kernel
theorem dX8_read_17 : decode cX8_read 17 = .ok (.iconst 1, 1) := by decide +kernel
theorem dX8_read_18 : decode cX8_read 18 = .ok (.goto 4, 3) := by decide +kernel
theorem dX8_read_21 : decode cX8_read 21 = .ok (.iconst 0, 1) := by decide +kernel
theorem dX8_read_22 : decode cX8_read 22 = .ok (.iload_n 1, 1) := by decide +kernel
theorem dX8_read_23 : decode cX8_read 23 = .ok (.invokevirtual 167, 3) := by decide +kernel
theorem dX8_read_26 : decode cX8_read 26 = .ok (.istore_n 3, 1) := by decide +kernel
theorem dX8_read_27 : decode cX8_read 27 = .ok (.iload_n 3, 1) := by decide +kernel
theorem dX8_read_28 : decode cX8_read 28 = .ok (.ifCond .ge 5, 3) := by decide +kernel
theorem dX8_read_31 : decode cX8_read 31 = .ok (.iload_n 3, 1) := by decide +kernel
theorem dX8_read_32 : decode cX8_read 32 = .ok (.ireturn, 1) := by decide +kernel
theorem dX8_read_33 : decode cX8_read 33 = .ok (.aload_n 0, 1) := by decide +kernel
theorem dX8_read_34 : decode cX8_read 34 = .ok (.getfield 59, 3) := by decide +kernel
theorem dX8_read_37 : decode cX8_read 37 = .ok (.iload_n 1, 1) := by decide +kernel
theorem dX8_read_38 : decode cX8_read 38 = .ok (.iaload, 1) := by decide +kernel
theorem dX8_read_39 : decode cX8_read 39 = .ok (.istore 4, 2) := by decide +kernel
theorem dX8_read_41 : decode cX8_read 41 = .ok (.aload_n 0, 1) := by decide +kernel
theorem dX8_read_42 : decode cX8_read 42 = .ok (.getfield 59, 3) := by decide +kernel
theorem dX8_read_45 : decode cX8_read 45 = .ok (.iload_n 1, 1) := by decide +kernel
theorem dX8_read_46 : decode cX8_read 46 = .ok (.iload_n 2, 1) := by decide +kernel
theorem dX8_read_47 : decode cX8_read 47 = .ok (.iastore, 1) := by decide +kernel
theorem dX8_read_48 : decode cX8_read 48 = .ok (.iload 4, 2) := by decide +kernel
theorem dX8_read_50 : decode cX8_read 50 = .ok (.ireturn, 1) := by decide +kernel
set_option maxRecDepth 20000 in
theorem ggX8_differs_X8_twice : GoodIn wsX8_differs wsX8_twice := goodIn_r _ [8, 9, 1, 10, 11, 12, 13, 14, 15, 7, 16, 17, 18, 19, 20, 21, 2, 22, 23, 24, 25, 26, 27, 28, 29, 30, 31, 32, 33, 34, 35, 36, 37, 38, 39, 40, 41, 42, 43, 44, 45, 46, 47, 48, 49, 50, 51, 52, 53, 54, 55, 56, 57, 58, 59, 60, 61, 62, 63, 64, 65, 66, 67, 68, 69, 70, 71, 72, 73] (by decide +kernel) (by decide +kernel)
set_option maxRecDepth 20000 in
theorem gX8_differs_X8_twice : GoodIn wsX8_differs (wsV RX8 184 RX8 yX8_twice wsX8_twice) := goodIn_app (goodIn_of _ (by decide +kernel)) ggX8_differs_X8_twice
theorem dX8_differs_0 : decode cX8_differs 0 = .ok (.iconst 0, 1) := by decide +kernel
theorem dX8_differs_1 : decode cX8_differs 1 = .ok (.istore_n 3, 1) := by decide +kernel
theorem dX8_differs_2 : decode cX8_differs 2 = .ok (.iconst 0, 1) := by decide +kernel
theorem dX8_differs_3 : decode cX8_differs 3 = .ok (.istore 4, 2) := by decide +kernel
theorem dX8_differs_5 : decode cX8_differs 5 = .ok (.iload 4, 2) := by decide +kernel
theorem dX8_differs_7 : decode cX8_differs 7 = .ok (.aload_n 0, 1) := by decide +kernel
theorem dX8_differs_8 : decode cX8_differs 8 = .ok (.getfield 164, 3) := by decide +kernel
theorem dX8_differs_11 : decode cX8_differs 11 = .ok (.if_icmp .ge 71, 3) := by decide +kernel
theorem dX8_differs_14 : decode cX8_differs 14 = .ok (.aload_n 0, 1) := by decide +kernel
theorem dX8_differs_15 : decode cX8_differs 15 = .ok (.getfield 62, 3) := by decide +kernel
theorem dX8_differs_18 : decode cX8_differs 18 = .ok (.iload 4, 2) := by decide +kernel
theorem dX8_differs_20 : decode cX8_differs 20 = .ok (.baload, 1) := by decide +kernel
theorem dX8_differs_21 : decode cX8_differs 21 = .ok (.ifCond .ne 55, 3) := by decide +kernel
theorem dX8_differs_24 : decode cX8_differs 24 = .ok (.iload 4, 2) := by decide +kernel
theorem dX8_differs_26 : decode cX8_differs 26 = .ok (.iload_n 2, 1) := by decide +kernel
theorem dX8_differs_27 : decode cX8_differs 27 = .ok (.if_icmp .eq 49, 3) := by decide +kernel
theorem dX8_differs_30 : decode cX8_differs 30 = .ok (.aload_n 0, 1) := by decide +kernel
theorem dX8_differs_31 : decode cX8_differs 31 = .ok (.getfield 59, 3) := by decide +kernel
theorem dX8_differs_34 : decode cX8_differs 34 = .ok (.iload 4, 2) := by decide +kernel
theorem dX8_differs_36 : decode cX8_differs 36 = .ok (.iaload, 1) := by decide +kernel
theorem dX8_differs_37 : decode cX8_differs 37 = .ok (.bipush (-9), 2) := by decide +kernel
theorem dX8_differs_39 : decode cX8_differs 39 = .ok (.if_icmp .eq 37, 3) := by decide +kernel
theorem dX8_differs_42 : decode cX8_differs 42 = .ok (.aload_n 0, 1) := by decide +kernel
theorem dX8_differs_43 : decode cX8_differs 43 = .ok (.iload 4, 2) := by decide +kernel
theorem dX8_differs_45 : decode cX8_differs 45 = .ok (.iload_n 1, 1) := by decide +kernel
theorem dX8_differs_46 : decode cX8_differs 46 = .ok (.iload_n 2, 1) := by decide +kernel
theorem dX8_differs_47 : decode cX8_differs 47 = .ok (.invokevirtual 184, 3) := by decide +kernel
theorem dX8_differs_50 : decode cX8_differs 50 = .ok (.aload_n 0, 1) := by decide +kernel
theorem dX8_differs_51 : decode cX8_differs 51 = .ok (.getfield 59, 3) := by decide +kernel
theorem dX8_differs_54 : decode cX8_differs 54 = .ok (.iload 4, 2) := by decide +kernel
theorem dX8_differs_56 : decode cX8_differs 56 = .ok (.iaload, 1) := by decide +kernel
theorem dX8_differs_57 : decode cX8_differs 57 = .ok (.isub, 1) := by decide +kernel
theorem dX8_differs_58 : decode cX8_differs 58 = .ok (.istore 5, 2) := by decide +kernel
theorem dX8_differs_60 : decode cX8_differs 60 = .ok (.iload_n 3, 1) := by decide +kernel
theorem dX8_differs_61 : decode cX8_differs 61 = .ok (.iload 5, 2) := by decide +kernel
theorem dX8_differs_63 : decode cX8_differs 63 = .ok (.ifCond .ge 9, 3) := by decide +kernel
theorem dX8_differs_66 : decode cX8_differs 66 = .ok (.iload 5, 2) := by decide +kernel
theorem dX8_differs_68 : decode cX8_differs 68 = .ok (.ineg, 1) := by decide +kernel
theorem dX8_differs_69 : decode cX8_differs 69 = .ok (.goto 5, 3) := by decide +kernel
theorem dX8_differs_72 : decode cX8_differs 72 = .ok (.iload 5, 2) := by decide +kernel
theorem dX8_differs_74 : decode cX8_differs 74 = .ok (.iadd, 1) := by decide +kernel
theorem dX8_differs_75 : decode cX8_differs 75 = .ok (.istore_n 3, 1) := by decide +kernel
theorem dX8_differs_76 : decode cX8_differs 76 = .ok (.iinc 4 1, 3) := by decide +kernel
theorem dX8_differs_79 : decode cX8_differs 79 = .ok (.goto (-74), 3) := by decide +kernel
theorem dX8_differs_82 : decode cX8_differs 82 = .ok (.iload_n 3, 1) := by decide +kernel
theorem dX8_differs_83 : decode cX8_differs 83 = .ok (.ireturn, 1) := by decide +kernel
set_option maxRecDepth 20000 in
theorem ggX8_missing_X8_isStep : GoodIn wsX8_missing wsX8_isStep := goodIn_r _ [7, 8, 9, 6, 10] (by decide +kernel) (by decide +kernel)
set_option maxRecDepth 20000 in
theorem gX8_missing_X8_isStep : GoodIn wsX8_missing (va_wsS RX8 132 yX8_isStep wsX8_isStep) := goodIn_app (goodIn_of _ (by decide +kernel)) ggX8_missing_X8_isStep
set_option maxRecDepth 20000 in
theorem ggX8_missing_X8_differs : GoodIn wsX8_missing wsX8_differs := goodIn_r _ [14, 1, 2, 3, 15, 16, 17, 6, 18, 19, 20, 21, 22, 23, 24, 25, 26, 27, 28, 29, 30, 31, 32, 33, 34, 35, 36, 37, 38, 39, 40, 41, 42, 43, 44, 45, 46, 47, 48, 49, 55, 56, 57, 58, 59, 60, 61, 62, 63, 64, 65, 66, 67, 68, 69, 70, 71, 72, 73, 74, 75, 76, 77, 78, 79, 80, 81, 82, 83, 84, 85, 86, 87, 88] (by decide +kernel) (by decide +kernel)
set_option maxRecDepth 20000 in
theorem gX8_missing_X8_differs : GoodIn wsX8_missing (wsV RX8 222 RX8 yX8_differs wsX8_differs) := goodIn_app (goodIn_of _ (by decide +kernel)) ggX8_missing_X8_differs
set_option maxRecDepth 20000 in
theorem ggX8_missing_X8_isBearing : GoodIn wsX8_missing wsX8_isBearing := goodIn_r _ [26, 27, 28, 29, 30, 6, 31, 2, 20, 19, 32, 33, 34, 35, 36, 37, 38, 39, 40, 22, 41, 42, 43, 44, 45, 46, 47, 48, 49, 55, 56, 57, 58, 59, 60, 61, 62, 63, 64, 65, 66, 67, 68, 69, 70, 71, 72, 73, 74, 75, 76, 77, 78, 79, 80, 81, 82, 83, 84, 85, 86, 87, 88] (by decide +kernel) (by decide +kernel)
set_option maxRecDepth 20000 in
theorem gX8_missing_X8_isBearing : GoodIn wsX8_missing (wsV RX8 181 RX8 yX8_isBearing wsX8_isBearing) := goodIn_app (goodIn_of _ (by decide +kernel)) ggX8_missing_X8_isBearing
set_option maxRecDepth 20000 in
theorem ggX8_missing_X8_tells : GoodIn wsX8_missing wsX8_tells := goodIn_r _ [53, 54, 55, 56, 57, 58, 59, 60, 61, 62, 63, 64, 65, 66, 67, 68, 69, 70, 71, 72, 73, 74, 75, 76, 77, 78, 79, 80, 81, 82, 83, 84, 85, 86, 87, 88] (by decide +kernel) (by decide +kernel)
set_option maxRecDepth 20000 in
theorem gX8_missing_X8_tells : GoodIn wsX8_missing (wsV RX8 125 RX8 yX8_tells wsX8_tells) := goodIn_app (goodIn_of _ (by decide +kernel)) ggX8_missing_X8_tells
theorem dX8_missing_0 : decode cX8_missing 0 = .ok (.iload_n 1, 1) := by decide +kernel
theorem dX8_missing_1 : decode cX8_missing 1 = .ok (.invokestatic 132, 3) := by decide +kernel
theorem dX8_missing_4 : decode cX8_missing 4 = .ok (.ifCond .ne 5, 3) := by decide +kernel
theorem dX8_missing_7 : decode cX8_missing 7 = .ok (.iconst (-1), 1) := by decide +kernel
theorem dX8_missing_8 : decode cX8_missing 8 = .ok (.ireturn, 1) := by decide +kernel
theorem dX8_missing_9 : decode cX8_missing 9 = .ok (.iconst 0, 1) := by decide +kernel
theorem dX8_missing_10 : decode cX8_missing 10 = .ok (.istore_n 2, 1) := by decide +kernel
theorem dX8_missing_11 : decode cX8_missing 11 = .ok (.iconst 0, 1) := by decide +kernel
theorem dX8_missing_12 : decode cX8_missing 12 = .ok (.istore_n 3, 1) := by decide +kernel
theorem dX8_missing_13 : decode cX8_missing 13 = .ok (.iload_n 3, 1) := by decide +kernel
theorem dX8_missing_14 : decode cX8_missing 14 = .ok (.aload_n 0, 1) := by decide +kernel
theorem dX8_missing_15 : decode cX8_missing 15 = .ok (.getfield 164, 3) := by decide +kernel
theorem dX8_missing_18 : decode cX8_missing 18 = .ok (.if_icmp .ge 39, 3) := by decide +kernel
theorem dX8_missing_21 : decode cX8_missing 21 = .ok (.iload_n 2, 1) := by decide +kernel
theorem dX8_missing_22 : decode cX8_missing 22 = .ok (.ifCond .ne 23, 3) := by decide +kernel
theorem dX8_missing_25 : decode cX8_missing 25 = .ok (.aload_n 0, 1) := by decide +kernel
theorem dX8_missing_26 : decode cX8_missing 26 = .ok (.getfield 62, 3) := by decide +kernel
theorem dX8_missing_29 : decode cX8_missing 29 = .ok (.iload_n 3, 1) := by decide +kernel
theorem dX8_missing_30 : decode cX8_missing 30 = .ok (.baload, 1) := by decide +kernel
theorem dX8_missing_31 : decode cX8_missing 31 = .ok (.ifCond .ne 18, 3) := by decide +kernel
theorem dX8_missing_34 : decode cX8_missing 34 = .ok (.aload_n 0, 1) := by decide +kernel
theorem dX8_missing_35 : decode cX8_missing 35 = .ok (.getfield 59, 3) := by decide +kernel
theorem dX8_missing_38 : decode cX8_missing 38 = .ok (.iload_n 3, 1) := by decide +kernel
theorem dX8_missing_39 : decode cX8_missing 39 = .ok (.iaload, 1) := by decide +kernel
theorem dX8_missing_40 : decode cX8_missing 40 = .ok (.bipush (-9), 2) := by decide +kernel
theorem dX8_missing_42 : decode cX8_missing 42 = .ok (.if_icmp .eq 7, 3) := by decide +kernel
theorem dX8_missing_45 : decode cX8_missing 45 = .ok (.iconst 1, 1) := by decide +kernel
theorem dX8_missing_46 : decode cX8_missing 46 = .ok (.goto 4, 3) := by decide +kernel
theorem dX8_missing_49 : decode cX8_missing 49 = .ok (.iconst 0, 1) := by decide +kernel
theorem dX8_missing_50 : decode cX8_missing 50 = .ok (.istore_n 2, 1) := by decide +kernel
theorem dX8_missing_51 : decode cX8_missing 51 = .ok (.iinc 3 1, 3) := by decide +kernel
theorem dX8_missing_54 : decode cX8_missing 54 = .ok (.goto (-41), 3) := by decide +kernel
theorem dX8_missing_57 : decode cX8_missing 57 = .ok (.iload_n 2, 1) := by decide +kernel
theorem dX8_missing_58 : decode cX8_missing 58 = .ok (.ifCond .ne 6, 3) := by decide +kernel
theorem dX8_missing_61 : decode cX8_missing 61 = .ok (.bipush (-4), 2) := by decide +kernel
theorem dX8_missing_63 : decode cX8_missing 63 = .ok (.ireturn, 1) := by decide +kernel
theorem dX8_missing_64 : decode cX8_missing 64 = .ok (.bipush (-9), 2) := by decide +kernel
theorem dX8_missing_66 : decode cX8_missing 66 = .ok (.istore_n 3, 1) := by decide +kernel
theorem dX8_missing_67 : decode cX8_missing 67 = .ok (.aload_n 0, 1) := by decide +kernel
theorem dX8_missing_68 : decode cX8_missing 68 = .ok (.iload_n 1, 1) := by decide +kernel
theorem dX8_missing_69 : decode cX8_missing 69 = .ok (.bipush (-9), 2) := by decide +kernel
theorem dX8_missing_71 : decode cX8_missing 71 = .ok (.invokevirtual 222, 3) := by decide +kernel
theorem dX8_missing_74 : decode cX8_missing 74 = .ok (.istore 4, 2) := by decide +kernel
theorem dX8_missing_76 : decode cX8_missing 76 = .ok (.iconst 0, 1) := by decide +kernel
theorem dX8_missing_77 : decode cX8_missing 77 = .ok (.istore 5, 2) := by decide +kernel
theorem dX8_missing_79 : decode cX8_missing 79 = .ok (.iload 5, 2) := by decide +kernel
theorem dX8_missing_81 : decode cX8_missing 81 = .ok (.aload_n 0, 1) := by decide +kernel
theorem dX8_missing_82 : decode cX8_missing 82 = .ok (.getfield 164, 3) := by decide +kernel
theorem dX8_missing_85 : decode cX8_missing 85 = .ok (.if_icmp .ge 47, 3) := by decide +kernel
theorem dX8_missing_88 : decode cX8_missing 88 = .ok (.aload_n 0, 1) := by decide +kernel
theorem dX8_missing_89 : decode cX8_missing 89 = .ok (.iload 5, 2) := by decide +kernel
theorem dX8_missing_91 : decode cX8_missing 91 = .ok (.iload_n 1, 1) := by decide +kernel
theorem dX8_missing_92 : decode cX8_missing 92 = .ok (.invokevirtual 181, 3) := by decide +kernel
theorem dX8_missing_95 : decode cX8_missing 95 = .ok (.ifCond .eq 13, 3) := by decide +kernel
theorem dX8_missing_98 : decode cX8_missing 98 = .ok (.aload_n 0, 1) := by decide +kernel
theorem dX8_missing_99 : decode cX8_missing 99 = .ok (.iload_n 1, 1) := by decide +kernel
theorem dX8_missing_100 : decode cX8_missing 100 = .ok (.iload 5, 2) := by decide +kernel
theorem dX8_missing_102 : decode cX8_missing 102 = .ok (.invokevirtual 222, 3) := by decide +kernel
theorem dX8_missing_105 : decode cX8_missing 105 = .ok (.goto 5, 3) := by decide +kernel
theorem dX8_missing_108 : decode cX8_missing 108 = .ok (.iload 4, 2) := by decide +kernel
theorem dX8_missing_110 : decode cX8_missing 110 = .ok (.istore 6, 2) := by decide +kernel
theorem dX8_missing_112 : decode cX8_missing 112 = .ok (.iload 6, 2) := by decide +kernel
theorem dX8_missing_114 : decode cX8_missing 114 = .ok (.iload 4, 2) := by decide +kernel
theorem dX8_missing_116 : decode cX8_missing 116 = .ok (.if_icmp .ge 10, 3) := by decide +kernel
theorem dX8_missing_119 : decode cX8_missing 119 = .ok (.iload 5, 2) := by decide +kernel
theorem dX8_missing_121 : decode cX8_missing 121 = .ok (.istore_n 3, 1) := by decide +kernel
theorem dX8_missing_122 : decode cX8_missing 122 = .ok (.iload 6, 2) := by decide +kernel
theorem dX8_missing_124 : decode cX8_missing 124 = .ok (.istore 4, 2) := by decide +kernel
theorem dX8_missing_126 : decode cX8_missing 126 = .ok (.iinc 5 1, 3) := by decide +kernel
theorem dX8_missing_129 : decode cX8_missing 129 = .ok (.goto (-50), 3) := by decide +kernel
theorem dX8_missing_132 : decode cX8_missing 132 = .ok (.aload_n 0, 1) := by decide +kernel
theorem dX8_missing_133 : decode cX8_missing 133 = .ok (.iload 4, 2) := by decide +kernel
theorem dX8_missing_135 : decode cX8_missing 135 = .ok (.iload_n 3, 1) := by decide +kernel
theorem dX8_missing_136 : decode cX8_missing 136 = .ok (.invokevirtual 125, 3) := by decide +kernel
theorem dX8_missing_139 : decode cX8_missing 139 = .ok (.ireturn, 1) := by decide +kernel
theorem dX8_count_0 : decode cX8_count 0 = .ok (.iconst 0, 1) := by decide +kernel
theorem dX8_count_1 : decode cX8_count 1 = .ok (.istore_n 2, 1) := by decide +kernel
theorem dX8_count_2 : decode cX8_count 2 = .ok (.iconst 0, 1) := by decide +kernel
theorem dX8_count_3 : decode cX8_count 3 = .ok (.istore_n 3, 1) := by decide +kernel
theorem dX8_count_4 : decode cX8_count 4 = .ok (.iload_n 3, 1) := by decide +kernel
theorem dX8_count_5 : decode cX8_count 5 = .ok (.aload_n 0, 1) := by decide +kernel
theorem dX8_count_6 : decode cX8_count 6 = .ok (.getfield 164, 3) := by decide +kernel
theorem dX8_count_9 : decode cX8_count 9 = .ok (.if_icmp .ge 26, 3) := by decide +kernel
theorem dX8_count_12 : decode cX8_count 12 = .ok (.iload_n 2, 1) := by decide +kernel
theorem dX8_count_13 : decode cX8_count 13 = .ok (.aload_n 0, 1) := by decide +kernel
theorem dX8_count_14 : decode cX8_count 14 = .ok (.getfield 62, 3) := by decide +kernel
theorem dX8_count_17 : decode cX8_count 17 = .ok (.iload_n 3, 1) := by decide +kernel
theorem dX8_count_18 : decode cX8_count 18 = .ok (.baload, 1) := by decide +kernel
theorem dX8_count_19 : decode cX8_count 19 = .ok (.ifCond .eq 7, 3) := by decide +kernel
theorem dX8_count_22 : decode cX8_count 22 = .ok (.iconst 0, 1) := by decide +kernel
theorem dX8_count_23 : decode cX8_count 23 = .ok (.goto 4, 3) := by decide +kernel
theorem dX8_count_26 : decode cX8_count 26 = .ok (.iconst 1, 1) := by decide +kernel
theorem dX8_count_27 : decode cX8_count 27 = .ok (.iadd, 1) := by decide +kernel
theorem dX8_count_28 : decode cX8_count 28 = .ok (.istore_n 2, 1) := by decide +kernel
theorem dX8_count_29 : decode cX8_count 29 = .ok (.iinc 3 1, 3) := by decide +kernel
theorem dX8_count_32 : decode cX8_count 32 = .ok (.goto (-28), 3) := by decide +kernel
theorem dX8_count_35 : decode cX8_count 35 = .ok (.iload_n 1, 1) := by decide +kernel
theorem dX8_count_36 : decode cX8_count 36 = .ok (.tableswitch 67 0 5 #[40, 45, 50, 55, 57, 62], 40) := by decide +kernel
theorem dX8_count_76 : decode cX8_count 76 = .ok (.aload_n 0, 1) := by decide +kernel
theorem dX8_count_77 : decode cX8_count 77 = .ok (.getfield 116, 3) := by decide +kernel
theorem dX8_count_80 : decode cX8_count 80 = .ok (.ireturn, 1) := by decide +kernel
theorem dX8_count_81 : decode cX8_count 81 = .ok (.aload_n 0, 1) := by decide +kernel
theorem dX8_count_82 : decode cX8_count 82 = .ok (.getfield 113, 3) := by decide +kernel
theorem dX8_count_85 : decode cX8_count 85 = .ok (.ireturn, 1) := by decide +kernel
theorem dX8_count_86 : decode cX8_count 86 = .ok (.aload_n 0, 1) := by decide +kernel
theorem dX8_count_87 : decode cX8_count 87 = .ok (.getfield 164, 3) := by decide +kernel
theorem dX8_count_90 : decode cX8_count 90 = .ok (.ireturn, 1) := by decide +kernel
theorem dX8_count_91 : decode cX8_count 91 = .ok (.iload_n 2, 1) := by decide +kernel
theorem dX8_count_92 : decode cX8_count 92 = .ok (.ireturn, 1) := by decide +kernel
theorem dX8_count_93 : decode cX8_count 93 = .ok (.aload_n 0, 1) := by decide +kernel
theorem dX8_count_94 : decode cX8_count 94 = .ok (.getfield 202, 3) := by decide +kernel
theorem dX8_count_97 : decode cX8_count 97 = .ok (.ireturn, 1) := by decide +kernel
theorem dX8_count_98 : decode cX8_count 98 = .ok (.aload_n 0, 1) := by decide +kernel
theorem dX8_count_99 : decode cX8_count 99 = .ok (.getfield 217, 3) := by decide +kernel
theorem dX8_count_102 : decode cX8_count 102 = .ok (.ireturn, 1) := by decide +kernel
theorem dX8_count_103 : decode cX8_count 103 = .ok (.iconst (-1), 1) := by decide +kernel
theorem dX8_count_104 : decode cX8_count 104 = .ok (.ireturn, 1) := by decide +kernel
set_option maxRecDepth 20000 in
theorem ggX8_digest_X8_count : GoodIn wsX8_digest wsX8_count := goodIn_r _ [20, 7, 8, 3, 21, 22, 23, 35, 36, 37, 38, 39, 40, 41, 42, 43, 44, 45, 46, 47, 48, 49, 50, 51, 52, 53, 54, 55, 56, 57, 58, 59, 60, 61, 62, 63, 64, 65, 66, 67, 68] (by decide +kernel) (by decide +kernel)
set_option maxRecDepth 20000 in
theorem gX8_digest_X8_count : GoodIn wsX8_digest (wsV RX8 229 RX8 yX8_count wsX8_count) := goodIn_app (goodIn_of _ (by decide +kernel)) ggX8_digest_X8_count
set_option maxRecDepth 20000 in
theorem ggX8_digest_X8_toldOf : GoodIn wsX8_digest wsX8_toldOf := goodIn_r _ [27, 28, 29, 30, 31, 32, 33, 19, 34, 8, 21, 35, 36, 37, 38, 39, 40, 41, 42, 43, 44, 45, 46, 47, 48, 49, 50, 51, 52, 53, 54, 55, 56, 57, 58, 59, 60, 61, 62, 63, 64, 65, 66, 67, 68] (by decide +kernel) (by decide +kernel)
set_option maxRecDepth 20000 in
theorem gX8_digest_X8_toldOf : GoodIn wsX8_digest (wsV RX8 174 RX8 yX8_toldOf wsX8_toldOf) := goodIn_app (goodIn_of _ (by decide +kernel)) ggX8_digest_X8_toldOf
theorem dX8_digest_0 : decode cX8_digest 0 = .ok (.ldc2_w 225, 3) := by decide +kernel
theorem dX8_digest_3 : decode cX8_digest 3 = .ok (.lstore_n 1, 1) := by decide +kernel
theorem dX8_digest_4 : decode cX8_digest 4 = .ok (.iconst 0, 1) := by decide +kernel
theorem dX8_digest_5 : decode cX8_digest 5 = .ok (.istore_n 3, 1) := by decide +kernel
theorem dX8_digest_6 : decode cX8_digest 6 = .ok (.iload_n 3, 1) := by decide +kernel
theorem dX8_digest_7 : decode cX8_digest 7 = .ok (.bipush 6, 2) := by decide +kernel
theorem dX8_digest_9 : decode cX8_digest 9 = .ok (.if_icmp .ge 22, 3) := by decide +kernel
theorem dX8_digest_12 : decode cX8_digest 12 = .ok (.ldc2_w 227, 3) := by decide +kernel
theorem dX8_digest_15 : decode cX8_digest 15 = .ok (.lload_n 1, 1) := by decide +kernel
theorem dX8_digest_16 : decode cX8_digest 16 = .ok (.lmul, 1) := by decide +kernel
theorem dX8_digest_17 : decode cX8_digest 17 = .ok (.aload_n 0, 1) := by decide +kernel
theorem dX8_digest_18 : decode cX8_digest 18 = .ok (.iload_n 3, 1) := by decide +kernel
theorem dX8_digest_19 : decode cX8_digest 19 = .ok (.invokevirtual 229, 3) := by decide +kernel
theorem dX8_digest_22 : decode cX8_digest 22 = .ok (.i2l, 1) := by decide +kernel
theorem dX8_digest_23 : decode cX8_digest 23 = .ok (.ladd, 1) := by decide +kernel
theorem dX8_digest_24 : decode cX8_digest 24 = .ok (.lstore_n 1, 1) := by decide +kernel
theorem dX8_digest_25 : decode cX8_digest 25 = .ok (.iinc 3 1, 3) := by decide +kernel
theorem dX8_digest_28 : decode cX8_digest 28 = .ok (.goto (-22), 3) := by decide +kernel
theorem dX8_digest_31 : decode cX8_digest 31 = .ok (.iconst 0, 1) := by decide +kernel
theorem dX8_digest_32 : decode cX8_digest 32 = .ok (.istore_n 3, 1) := by decide +kernel
theorem dX8_digest_33 : decode cX8_digest 33 = .ok (.iload_n 3, 1) := by decide +kernel
theorem dX8_digest_34 : decode cX8_digest 34 = .ok (.aload_n 0, 1) := by decide +kernel
theorem dX8_digest_35 : decode cX8_digest 35 = .ok (.getfield 116, 3) := by decide +kernel
theorem dX8_digest_38 : decode cX8_digest 38 = .ok (.if_icmp .ge 47, 3) := by decide +kernel
theorem dX8_digest_41 : decode cX8_digest 41 = .ok (.ldc2_w 227, 3) := by decide +kernel
theorem dX8_digest_44 : decode cX8_digest 44 = .ok (.ldc2_w 227, 3) := by decide +kernel
theorem dX8_digest_47 : decode cX8_digest 47 = .ok (.ldc2_w 227, 3) := by decide +kernel
theorem dX8_digest_50 : decode cX8_digest 50 = .ok (.lload_n 1, 1) := by decide +kernel
theorem dX8_digest_51 : decode cX8_digest 51 = .ok (.lmul, 1) := by decide +kernel
theorem dX8_digest_52 : decode cX8_digest 52 = .ok (.aload_n 0, 1) := by decide +kernel
theorem dX8_digest_53 : decode cX8_digest 53 = .ok (.getfield 26, 3) := by decide +kernel
theorem dX8_digest_56 : decode cX8_digest 56 = .ok (.iload_n 3, 1) := by decide +kernel
theorem dX8_digest_57 : decode cX8_digest 57 = .ok (.iaload, 1) := by decide +kernel
theorem dX8_digest_58 : decode cX8_digest 58 = .ok (.i2l, 1) := by decide +kernel
theorem dX8_digest_59 : decode cX8_digest 59 = .ok (.ladd, 1) := by decide +kernel
theorem dX8_digest_60 : decode cX8_digest 60 = .ok (.lmul, 1) := by decide +kernel
theorem dX8_digest_61 : decode cX8_digest 61 = .ok (.aload_n 0, 1) := by decide +kernel
theorem dX8_digest_62 : decode cX8_digest 62 = .ok (.getfield 29, 3) := by decide +kernel
theorem dX8_digest_65 : decode cX8_digest 65 = .ok (.iload_n 3, 1) := by decide +kernel
theorem dX8_digest_66 : decode cX8_digest 66 = .ok (.iaload, 1) := by decide +kernel
theorem dX8_digest_67 : decode cX8_digest 67 = .ok (.i2l, 1) := by decide +kernel
theorem dX8_digest_68 : decode cX8_digest 68 = .ok (.ladd, 1) := by decide +kernel
theorem dX8_digest_69 : decode cX8_digest 69 = .ok (.lmul, 1) := by decide +kernel
theorem dX8_digest_70 : decode cX8_digest 70 = .ok (.aload_n 0, 1) := by decide +kernel
theorem dX8_digest_71 : decode cX8_digest 71 = .ok (.getfield 32, 3) := by decide +kernel
theorem dX8_digest_74 : decode cX8_digest 74 = .ok (.iload_n 3, 1) := by decide +kernel
theorem dX8_digest_75 : decode cX8_digest 75 = .ok (.iaload, 1) := by decide +kernel
theorem dX8_digest_76 : decode cX8_digest 76 = .ok (.i2l, 1) := by decide +kernel
theorem dX8_digest_77 : decode cX8_digest 77 = .ok (.ladd, 1) := by decide +kernel
theorem dX8_digest_78 : decode cX8_digest 78 = .ok (.lstore_n 1, 1) := by decide +kernel
theorem dX8_digest_79 : decode cX8_digest 79 = .ok (.iinc 3 1, 3) := by decide +kernel
theorem dX8_digest_82 : decode cX8_digest 82 = .ok (.goto (-49), 3) := by decide +kernel
theorem dX8_digest_85 : decode cX8_digest 85 = .ok (.iconst 0, 1) := by decide +kernel
theorem dX8_digest_86 : decode cX8_digest 86 = .ok (.istore_n 3, 1) := by decide +kernel
theorem dX8_digest_87 : decode cX8_digest 87 = .ok (.iload_n 3, 1) := by decide +kernel
theorem dX8_digest_88 : decode cX8_digest 88 = .ok (.aload_n 0, 1) := by decide +kernel
theorem dX8_digest_89 : decode cX8_digest 89 = .ok (.getfield 164, 3) := by decide +kernel
theorem dX8_digest_92 : decode cX8_digest 92 = .ok (.if_icmp .ge 96, 3) := by decide +kernel
theorem dX8_digest_95 : decode cX8_digest 95 = .ok (.aload_n 0, 1) := by decide +kernel
theorem dX8_digest_96 : decode cX8_digest 96 = .ok (.getfield 62, 3) := by decide +kernel
theorem dX8_digest_99 : decode cX8_digest 99 = .ok (.iload_n 3, 1) := by decide +kernel
theorem dX8_digest_100 : decode cX8_digest 100 = .ok (.baload, 1) := by decide +kernel
theorem dX8_digest_101 : decode cX8_digest 101 = .ok (.ifCond .eq 13, 3) := by decide +kernel
theorem dX8_digest_104 : decode cX8_digest 104 = .ok (.ldc2_w 227, 3) := by decide +kernel
theorem dX8_digest_107 : decode cX8_digest 107 = .ok (.lload_n 1, 1) := by decide +kernel
theorem dX8_digest_108 : decode cX8_digest 108 = .ok (.lmul, 1) := by decide +kernel
theorem dX8_digest_109 : decode cX8_digest 109 = .ok (.lconst 1, 1) := by decide +kernel
theorem dX8_digest_110 : decode cX8_digest 110 = .ok (.lsub, 1) := by decide +kernel
theorem dX8_digest_111 : decode cX8_digest 111 = .ok (.goto 4, 3) := by decide +kernel
theorem dX8_digest_114 : decode cX8_digest 114 = .ok (.lload_n 1, 1) := by decide +kernel
theorem dX8_digest_115 : decode cX8_digest 115 = .ok (.lstore_n 1, 1) := by decide +kernel
theorem dX8_digest_116 : decode cX8_digest 116 = .ok (.iconst 0, 1) := by decide +kernel
theorem dX8_digest_117 : decode cX8_digest 117 = .ok (.istore 4, 2) := by decide +kernel
theorem dX8_digest_119 : decode cX8_digest 119 = .ok (.iload 4, 2) := by decide +kernel
theorem dX8_digest_121 : decode cX8_digest 121 = .ok (.iconst 4, 1) := by decide +kernel
theorem dX8_digest_122 : decode cX8_digest 122 = .ok (.if_icmp .ge 33, 3) := by decide +kernel
theorem dX8_digest_125 : decode cX8_digest 125 = .ok (.aload_n 0, 1) := by decide +kernel
theorem dX8_digest_126 : decode cX8_digest 126 = .ok (.getfield 62, 3) := by decide +kernel
theorem dX8_digest_129 : decode cX8_digest 129 = .ok (.iload_n 3, 1) := by decide +kernel
theorem dX8_digest_130 : decode cX8_digest 130 = .ok (.baload, 1) := by decide +kernel
theorem dX8_digest_131 : decode cX8_digest 131 = .ok (.ifCond .ne 24, 3) := by decide +kernel
theorem dX8_digest_134 : decode cX8_digest 134 = .ok (.ldc2_w 227, 3) := by decide +kernel
theorem dX8_digest_137 : decode cX8_digest 137 = .ok (.lload_n 1, 1) := by decide +kernel
theorem dX8_digest_138 : decode cX8_digest 138 = .ok (.lmul, 1) := by decide +kernel
theorem dX8_digest_139 : decode cX8_digest 139 = .ok (.aload_n 0, 1) := by decide +kernel
theorem dX8_digest_140 : decode cX8_digest 140 = .ok (.iload_n 3, 1) := by decide +kernel
theorem dX8_digest_141 : decode cX8_digest 141 = .ok (.iload 4, 2) := by decide +kernel
theorem dX8_digest_143 : decode cX8_digest 143 = .ok (.invokevirtual 174, 3) := by decide +kernel
theorem dX8_digest_146 : decode cX8_digest 146 = .ok (.i2l, 1) := by decide +kernel
theorem dX8_digest_147 : decode cX8_digest 147 = .ok (.ladd, 1) := by decide +kernel
theorem dX8_digest_148 : decode cX8_digest 148 = .ok (.lstore_n 1, 1) := by decide +kernel
theorem dX8_digest_149 : decode cX8_digest 149 = .ok (.iinc 4 1, 3) := by decide +kernel
theorem dX8_digest_152 : decode cX8_digest 152 = .ok (.goto (-33), 3) := by decide +kernel
theorem dX8_digest_155 : decode cX8_digest 155 = .ok (.aload_n 0, 1) := by decide +kernel
theorem dX8_digest_156 : decode cX8_digest 156 = .ok (.getfield 62, 3) := by decide +kernel
theorem dX8_digest_159 : decode cX8_digest 159 = .ok (.iload_n 3, 1) := by decide +kernel
theorem dX8_digest_160 : decode cX8_digest 160 = .ok (.baload, 1) := by decide +kernel
theorem dX8_digest_161 : decode cX8_digest 161 = .ok (.ifCond .eq 7, 3) := by decide +kernel
theorem dX8_digest_164 : decode cX8_digest 164 = .ok (.lload_n 1, 1) := by decide +kernel
theorem dX8_digest_165 : decode cX8_digest 165 = .ok (.goto 16, 3) := by decide +kernel
theorem dX8_digest_168 : decode cX8_digest 168 = .ok (.ldc2_w 227, 3) := by decide +kernel
theorem dX8_digest_171 : decode cX8_digest 171 = .ok (.lload_n 1, 1) := by decide +kernel
theorem dX8_digest_172 : decode cX8_digest 172 = .ok (.lmul, 1) := by decide +kernel
theorem dX8_digest_173 : decode cX8_digest 173 = .ok (.aload_n 0, 1) := by decide +kernel
theorem dX8_digest_174 : decode cX8_digest 174 = .ok (.getfield 59, 3) := by decide +kernel
theorem dX8_digest_177 : decode cX8_digest 177 = .ok (.iload_n 3, 1) := by decide +kernel
theorem dX8_digest_178 : decode cX8_digest 178 = .ok (.iaload, 1) := by decide +kernel
theorem dX8_digest_179 : decode cX8_digest 179 = .ok (.i2l, 1) := by decide +kernel
theorem dX8_digest_180 : decode cX8_digest 180 = .ok (.ladd, 1) := by decide +kernel
theorem dX8_digest_181 : decode cX8_digest 181 = .ok (.lstore_n 1, 1) := by decide +kernel
theorem dX8_digest_182 : decode cX8_digest 182 = .ok (.iinc 3 1, 3) := by decide +kernel
theorem dX8_digest_185 : decode cX8_digest 185 = .ok (.goto (-98), 3) := by decide +kernel
theorem dX8_digest_188 : decode cX8_digest 188 = .ok (.iconst 0, 1) := by decide +kernel
theorem dX8_digest_189 : decode cX8_digest 189 = .ok (.istore_n 3, 1) := by decide +kernel
theorem dX8_digest_190 : decode cX8_digest 190 = .ok (.iload_n 3, 1) := by decide +kernel
theorem dX8_digest_191 : decode cX8_digest 191 = .ok (.bipush 8, 2) := by decide +kernel
theorem dX8_digest_193 : decode cX8_digest 193 = .ok (.if_icmp .ge 47, 3) := by decide +kernel
theorem dX8_digest_196 : decode cX8_digest 196 = .ok (.ldc2_w 227, 3) := by decide +kernel
theorem dX8_digest_199 : decode cX8_digest 199 = .ok (.ldc2_w 227, 3) := by decide +kernel
theorem dX8_digest_202 : decode cX8_digest 202 = .ok (.ldc2_w 227, 3) := by decide +kernel
theorem dX8_digest_205 : decode cX8_digest 205 = .ok (.lload_n 1, 1) := by decide +kernel
theorem dX8_digest_206 : decode cX8_digest 206 = .ok (.lmul, 1) := by decide +kernel
theorem dX8_digest_207 : decode cX8_digest 207 = .ok (.aload_n 0, 1) := by decide +kernel
theorem dX8_digest_208 : decode cX8_digest 208 = .ok (.getfield 69, 3) := by decide +kernel
theorem dX8_digest_211 : decode cX8_digest 211 = .ok (.iload_n 3, 1) := by decide +kernel
theorem dX8_digest_212 : decode cX8_digest 212 = .ok (.iaload, 1) := by decide +kernel
theorem dX8_digest_213 : decode cX8_digest 213 = .ok (.i2l, 1) := by decide +kernel
theorem dX8_digest_214 : decode cX8_digest 214 = .ok (.ladd, 1) := by decide +kernel
theorem dX8_digest_215 : decode cX8_digest 215 = .ok (.lmul, 1) := by decide +kernel
theorem dX8_digest_216 : decode cX8_digest 216 = .ok (.aload_n 0, 1) := by decide +kernel
theorem dX8_digest_217 : decode cX8_digest 217 = .ok (.getfield 72, 3) := by decide +kernel
theorem dX8_digest_220 : decode cX8_digest 220 = .ok (.iload_n 3, 1) := by decide +kernel
theorem dX8_digest_221 : decode cX8_digest 221 = .ok (.iaload, 1) := by decide +kernel
theorem dX8_digest_222 : decode cX8_digest 222 = .ok (.i2l, 1) := by decide +kernel
theorem dX8_digest_223 : decode cX8_digest 223 = .ok (.ladd, 1) := by decide +kernel
theorem dX8_digest_224 : decode cX8_digest 224 = .ok (.lmul, 1) := by decide +kernel
theorem dX8_digest_225 : decode cX8_digest 225 = .ok (.aload_n 0, 1) := by decide +kernel
theorem dX8_digest_226 : decode cX8_digest 226 = .ok (.getfield 75, 3) := by decide +kernel
theorem dX8_digest_229 : decode cX8_digest 229 = .ok (.iload_n 3, 1) := by decide +kernel
theorem dX8_digest_230 : decode cX8_digest 230 = .ok (.iaload, 1) := by decide +kernel
theorem dX8_digest_231 : decode cX8_digest 231 = .ok (.i2l, 1) := by decide +kernel
theorem dX8_digest_232 : decode cX8_digest 232 = .ok (.ladd, 1) := by decide +kernel
theorem dX8_digest_233 : decode cX8_digest 233 = .ok (.lstore_n 1, 1) := by decide +kernel
theorem dX8_digest_234 : decode cX8_digest 234 = .ok (.iinc 3 1, 3) := by decide +kernel
theorem dX8_digest_237 : decode cX8_digest 237 = .ok (.goto (-47), 3) := by decide +kernel
theorem dX8_digest_240 : decode cX8_digest 240 = .ok (.iconst 0, 1) := by decide +kernel
theorem dX8_digest_241 : decode cX8_digest 241 = .ok (.istore_n 3, 1) := by decide +kernel
theorem dX8_digest_242 : decode cX8_digest 242 = .ok (.iload_n 3, 1) := by decide +kernel
theorem dX8_digest_243 : decode cX8_digest 243 = .ok (.iconst 4, 1) := by decide +kernel
theorem dX8_digest_244 : decode cX8_digest 244 = .ok (.if_icmp .ge 75, 3) := by decide +kernel
theorem dX8_digest_247 : decode cX8_digest 247 = .ok (.ldc2_w 227, 3) := by decide +kernel
theorem dX8_digest_250 : decode cX8_digest 250 = .ok (.ldc2_w 227, 3) := by decide +kernel
theorem dX8_digest_253 : decode cX8_digest 253 = .ok (.lload_n 1, 1) := by decide +kernel
theorem dX8_digest_254 : decode cX8_digest 254 = .ok (.lmul, 1) := by decide +kernel
theorem dX8_digest_255 : decode cX8_digest 255 = .ok (.aload_n 0, 1) := by decide +kernel
theorem dX8_digest_256 : decode cX8_digest 256 = .ok (.getfield 16, 3) := by decide +kernel
theorem dX8_digest_259 : decode cX8_digest 259 = .ok (.iload_n 3, 1) := by decide +kernel
theorem dX8_digest_260 : decode cX8_digest 260 = .ok (.iaload, 1) := by decide +kernel
theorem dX8_digest_261 : decode cX8_digest 261 = .ok (.i2l, 1) := by decide +kernel
theorem dX8_digest_262 : decode cX8_digest 262 = .ok (.ladd, 1) := by decide +kernel
theorem dX8_digest_263 : decode cX8_digest 263 = .ok (.lmul, 1) := by decide +kernel
theorem dX8_digest_264 : decode cX8_digest 264 = .ok (.aload_n 0, 1) := by decide +kernel
theorem dX8_digest_265 : decode cX8_digest 265 = .ok (.getfield 13, 3) := by decide +kernel
theorem dX8_digest_268 : decode cX8_digest 268 = .ok (.iload_n 3, 1) := by decide +kernel
theorem dX8_digest_269 : decode cX8_digest 269 = .ok (.iaload, 1) := by decide +kernel
theorem dX8_digest_270 : decode cX8_digest 270 = .ok (.i2l, 1) := by decide +kernel
theorem dX8_digest_271 : decode cX8_digest 271 = .ok (.ladd, 1) := by decide +kernel
theorem dX8_digest_272 : decode cX8_digest 272 = .ok (.lstore_n 1, 1) := by decide +kernel
theorem dX8_digest_273 : decode cX8_digest 273 = .ok (.iconst 0, 1) := by decide +kernel
theorem dX8_digest_274 : decode cX8_digest 274 = .ok (.istore 4, 2) := by decide +kernel
theorem dX8_digest_276 : decode cX8_digest 276 = .ok (.iload 4, 2) := by decide +kernel
theorem dX8_digest_278 : decode cX8_digest 278 = .ok (.aload_n 0, 1) := by decide +kernel
theorem dX8_digest_279 : decode cX8_digest 279 = .ok (.getfield 13, 3) := by decide +kernel
theorem dX8_digest_282 : decode cX8_digest 282 = .ok (.iload_n 3, 1) := by decide +kernel
theorem dX8_digest_283 : decode cX8_digest 283 = .ok (.iaload, 1) := by decide +kernel
theorem dX8_digest_284 : decode cX8_digest 284 = .ok (.if_icmp .ge 29, 3) := by decide +kernel
theorem dX8_digest_287 : decode cX8_digest 287 = .ok (.ldc2_w 227, 3) := by decide +kernel
theorem dX8_digest_290 : decode cX8_digest 290 = .ok (.lload_n 1, 1) := by decide +kernel
theorem dX8_digest_291 : decode cX8_digest 291 = .ok (.lmul, 1) := by decide +kernel
theorem dX8_digest_292 : decode cX8_digest 292 = .ok (.aload_n 0, 1) := by decide +kernel
theorem dX8_digest_293 : decode cX8_digest 293 = .ok (.getfield 19, 3) := by decide +kernel
theorem dX8_digest_296 : decode cX8_digest 296 = .ok (.bipush 16, 2) := by decide +kernel
theorem dX8_digest_298 : decode cX8_digest 298 = .ok (.iload_n 3, 1) := by decide +kernel
theorem dX8_digest_299 : decode cX8_digest 299 = .ok (.imul, 1) := by decide +kernel
theorem dX8_digest_300 : decode cX8_digest 300 = .ok (.iload 4, 2) := by decide +kernel
theorem dX8_digest_302 : decode cX8_digest 302 = .ok (.iadd, 1) := by decide +kernel
theorem dX8_digest_303 : decode cX8_digest 303 = .ok (.baload, 1) := by decide +kernel
theorem dX8_digest_304 : decode cX8_digest 304 = .ok (.i2l, 1) := by decide +kernel
theorem dX8_digest_305 : decode cX8_digest 305 = .ok (.ladd, 1) := by decide +kernel
theorem dX8_digest_306 : decode cX8_digest 306 = .ok (.lstore_n 1, 1) := by decide +kernel
theorem dX8_digest_307 : decode cX8_digest 307 = .ok (.iinc 4 1, 3) := by decide +kernel
theorem dX8_digest_310 : decode cX8_digest 310 = .ok (.goto (-34), 3) := by decide +kernel
theorem dX8_digest_313 : decode cX8_digest 313 = .ok (.iinc 3 1, 3) := by decide +kernel
theorem dX8_digest_316 : decode cX8_digest 316 = .ok (.goto (-74), 3) := by decide +kernel
theorem dX8_digest_319 : decode cX8_digest 319 = .ok (.lload_n 1, 1) := by decide +kernel
theorem dX8_digest_320 : decode cX8_digest 320 = .ok (.lreturn, 1) := by decide +kernel
theorem dJ9_abs_0f7a4_0 : decode cJ9_abs_0f7a4 0 = .ok (.iload_n 0, 1) := by decide +kernel
theorem dJ9_abs_0f7a4_1 : decode cJ9_abs_0f7a4 1 = .ok (.ifCond .ge 8, 3) := by decide +kernel
theorem dJ9_abs_0f7a4_4 : decode cJ9_abs_0f7a4 4 = .ok (.iload_n 0, 1) := by decide +kernel
theorem dJ9_abs_0f7a4_5 : decode cJ9_abs_0f7a4 5 = .ok (.ineg, 1) := by decide +kernel
theorem dJ9_abs_0f7a4_6 : decode cJ9_abs_0f7a4 6 = .ok (.goto 4, 3) := by decide +kernel
theorem dJ9_abs_0f7a4_9 : decode cJ9_abs_0f7a4 9 = .ok (.iload_n 0, 1) := by decide +kernel
theorem dJ9_abs_0f7a4_10 : decode cJ9_abs_0f7a4 10 = .ok (.ireturn, 1) := by decide +kernel
theorem dJ9_max_7cf53_0 : decode cJ9_max_7cf53 0 = .ok (.iload_n 0, 1) := by decide +kernel
theorem dJ9_max_7cf53_1 : decode cJ9_max_7cf53 1 = .ok (.iload_n 1, 1) := by decide +kernel
theorem dJ9_max_7cf53_2 : decode cJ9_max_7cf53 2 = .ok (.if_icmp .lt 7, 3) := by decide +kernel
theorem dJ9_max_7cf53_5 : decode cJ9_max_7cf53 5 = .ok (.iload_n 0, 1) := by decide +kernel
theorem dJ9_max_7cf53_6 : decode cJ9_max_7cf53 6 = .ok (.goto 4, 3) := by decide +kernel
theorem dJ9_max_7cf53_9 : decode cJ9_max_7cf53 9 = .ok (.iload_n 1, 1) := by decide +kernel
theorem dJ9_max_7cf53_10 : decode cJ9_max_7cf53 10 = .ok (.ireturn, 1) := by decide +kernel
theorem dJ9_min_7cf53_0 : decode cJ9_min_7cf53 0 = .ok (.iload_n 0, 1) := by decide +kernel
theorem dJ9_min_7cf53_1 : decode cJ9_min_7cf53 1 = .ok (.iload_n 1, 1) := by decide +kernel
theorem dJ9_min_7cf53_2 : decode cJ9_min_7cf53 2 = .ok (.if_icmp .gt 7, 3) := by decide +kernel
theorem dJ9_min_7cf53_5 : decode cJ9_min_7cf53 5 = .ok (.iload_n 0, 1) := by decide +kernel
theorem dJ9_min_7cf53_6 : decode cJ9_min_7cf53 6 = .ok (.goto 4, 3) := by decide +kernel
theorem dJ9_min_7cf53_9 : decode cJ9_min_7cf53 9 = .ok (.iload_n 1, 1) := by decide +kernel
theorem dJ9_min_7cf53_10 : decode cJ9_min_7cf53 10 = .ok (.ireturn, 1) := by decide +kernel
theorem dJ7_fill_53178_0 : decode cJ7_fill_53178 0 = .ok (.iconst 0, 1) := by decide +kernel
theorem dJ7_fill_53178_1 : decode cJ7_fill_53178 1 = .ok (.istore_n 2, 1) := by decide +kernel
theorem dJ7_fill_53178_2 : decode cJ7_fill_53178 2 = .ok (.aload_n 0, 1) := by decide +kernel
theorem dJ7_fill_53178_3 : decode cJ7_fill_53178 3 = .ok (.arraylength, 1) := by decide +kernel
theorem dJ7_fill_53178_4 : decode cJ7_fill_53178 4 = .ok (.istore_n 3, 1) := by decide +kernel
theorem dJ7_fill_53178_5 : decode cJ7_fill_53178 5 = .ok (.iload_n 2, 1) := by decide +kernel
theorem dJ7_fill_53178_6 : decode cJ7_fill_53178 6 = .ok (.iload_n 3, 1) := by decide +kernel
theorem dJ7_fill_53178_7 : decode cJ7_fill_53178 7 = .ok (.if_icmp .ge 13, 3) := by decide +kernel
theorem dJ7_fill_53178_10 : decode cJ7_fill_53178 10 = .ok (.aload_n 0, 1) := by decide +kernel
theorem dJ7_fill_53178_11 : decode cJ7_fill_53178 11 = .ok (.iload_n 2, 1) := by decide +kernel
theorem dJ7_fill_53178_12 : decode cJ7_fill_53178 12 = .ok (.iload_n 1, 1) := by decide +kernel
theorem dJ7_fill_53178_13 : decode cJ7_fill_53178 13 = .ok (.iastore, 1) := by decide +kernel
theorem dJ7_fill_53178_14 : decode cJ7_fill_53178 14 = .ok (.iinc 2 1, 3) := by decide +kernel
theorem dJ7_fill_53178_17 : decode cJ7_fill_53178 17 = .ok (.goto (-12), 3) := by decide +kernel
theorem dJ7_fill_53178_20 : decode cJ7_fill_53178 20 = .ok (.return_, 1) := by decide +kernel
