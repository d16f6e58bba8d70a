theorem dX8_init_0 : decode cX8_init 0 = .ok (.aload_n 0, 1) := by decide +kernel
theorem dX8_init_1 : decode cX8_init 1 = .ok (.invokespecial 1, 3) := by decide +kernel
theorem dX8_init_4 : decode cX8_init 4 = .ok (.aload_n 0, 1) := by decide +kernel
theorem dX8_init_5 : decode cX8_init 5 = .ok (.bipush 6, 2) := by decide +kernel
theorem dX8_init_7 : decode cX8_init 7 = .ok (.newarray .int, 2) := by decide +kernel
theorem dX8_init_9 : decode cX8_init 9 = .ok (.putfield 7, 3) := by decide +kernel
theorem dX8_init_12 : decode cX8_init 12 = .ok (.aload_n 0, 1) := by decide +kernel
theorem dX8_init_13 : decode cX8_init 13 = .ok (.iconst 4, 1) := by decide +kernel
theorem dX8_init_14 : decode cX8_init 14 = .ok (.newarray .int, 2) := by decide +kernel
theorem dX8_init_16 : decode cX8_init 16 = .ok (.putfield 13, 3) := by decide +kernel
theorem dX8_init_19 : decode cX8_init 19 = .ok (.aload_n 0, 1) := by decide +kernel
theorem dX8_init_20 : decode cX8_init 20 = .ok (.iconst 4, 1) := by decide +kernel
theorem dX8_init_21 : decode cX8_init 21 = .ok (.newarray .int, 2) := by decide +kernel
theorem dX8_init_23 : decode cX8_init 23 = .ok (.putfield 16, 3) := by decide +kernel
theorem dX8_init_26 : decode cX8_init 26 = .ok (.aload_n 0, 1) := by decide +kernel
theorem dX8_init_27 : decode cX8_init 27 = .ok (.bipush 64, 2) := by decide +kernel
theorem dX8_init_29 : decode cX8_init 29 = .ok (.newarray .byte, 2) := by decide +kernel
theorem dX8_init_31 : decode cX8_init 31 = .ok (.putfield 19, 3) := by decide +kernel
theorem dX8_init_34 : decode cX8_init 34 = .ok (.aload_n 0, 1) := by decide +kernel
theorem dX8_init_35 : decode cX8_init 35 = .ok (.bipush 16, 2) := by decide +kernel
theorem dX8_init_37 : decode cX8_init 37 = .ok (.newarray .byte, 2) := by decide +kernel
theorem dX8_init_39 : decode cX8_init 39 = .ok (.putfield 23, 3) := by decide +kernel
theorem dX8_init_42 : decode cX8_init 42 = .ok (.aload_n 0, 1) := by decide +kernel
theorem dX8_init_43 : decode cX8_init 43 = .ok (.bipush 12, 2) := by decide +kernel
theorem dX8_init_45 : decode cX8_init 45 = .ok (.newarray .int, 2) := by decide +kernel
theorem dX8_init_47 : decode cX8_init 47 = .ok (.putfield 26, 3) := by decide +kernel
theorem dX8_init_50 : decode cX8_init 50 = .ok (.aload_n 0, 1) := by decide +kernel
theorem dX8_init_51 : decode cX8_init 51 = .ok (.bipush 12, 2) := by decide +kernel
theorem dX8_init_53 : decode cX8_init 53 = .ok (.newarray .int, 2) := by decide +kernel
theorem dX8_init_55 : decode cX8_init 55 = .ok (.putfield 29, 3) := by decide +kernel
theorem dX8_init_58 : decode cX8_init 58 = .ok (.aload_n 0, 1) := by decide +kernel
theorem dX8_init_59 : decode cX8_init 59 = .ok (.bipush 12, 2) := by decide +kernel
theorem dX8_init_61 : decode cX8_init 61 = .ok (.newarray .int, 2) := by decide +kernel
theorem dX8_init_63 : decode cX8_init 63 = .ok (.putfield 32, 3) := by decide +kernel
theorem dX8_init_66 : decode cX8_init 66 = .ok (.aload_n 0, 1) := by decide +kernel
theorem dX8_init_67 : decode cX8_init 67 = .ok (.sipush 240, 3) := by decide +kernel
theorem dX8_init_70 : decode cX8_init 70 = .ok (.newarray .int, 2) := by decide +kernel
theorem dX8_init_72 : decode cX8_init 72 = .ok (.putfield 35, 3) := by decide +kernel
theorem dX8_init_75 : decode cX8_init 75 = .ok (.aload_n 0, 1) := by decide +kernel
theorem dX8_init_76 : decode cX8_init 76 = .ok (.sipush 240, 3) := by decide +kernel
theorem dX8_init_79 : decode cX8_init 79 = .ok (.newarray .int, 2) := by decide +kernel
theorem dX8_init_81 : decode cX8_init 81 = .ok (.putfield 38, 3) := by decide +kernel
theorem dX8_init_84 : decode cX8_init 84 = .ok (.aload_n 0, 1) := by decide +kernel
theorem dX8_init_85 : decode cX8_init 85 = .ok (.sipush 241, 3) := by decide +kernel
theorem dX8_init_88 : decode cX8_init 88 = .ok (.newarray .int, 2) := by decide +kernel
theorem dX8_init_90 : decode cX8_init 90 = .ok (.putfield 41, 3) := by decide +kernel
theorem dX8_init_93 : decode cX8_init 93 = .ok (.aload_n 0, 1) := by decide +kernel
theorem dX8_init_94 : decode cX8_init 94 = .ok (.sipush 241, 3) := by decide +kernel
theorem dX8_init_97 : decode cX8_init 97 = .ok (.newarray .int, 2) := by decide +kernel
theorem dX8_init_99 : decode cX8_init 99 = .ok (.putfield 44, 3) := by decide +kernel
theorem dX8_init_102 : decode cX8_init 102 = .ok (.aload_n 0, 1) := by decide +kernel
theorem dX8_init_103 : decode cX8_init 103 = .ok (.sipush 241, 3) := by decide +kernel
theorem dX8_init_106 : decode cX8_init 106 = .ok (.newarray .int, 2) := by decide +kernel
theorem dX8_init_108 : decode cX8_init 108 = .ok (.putfield 47, 3) := by decide +kernel
theorem dX8_init_111 : decode cX8_init 111 = .ok (.aload_n 0, 1) := by decide +kernel
theorem dX8_init_112 : decode cX8_init 112 = .ok (.bipush 12, 2) := by decide +kernel
theorem dX8_init_114 : decode cX8_init 114 = .ok (.newarray .int, 2) := by decide +kernel
theorem dX8_init_116 : decode cX8_init 116 = .ok (.putfield 50, 3) := by decide +kernel
theorem dX8_init_119 : decode cX8_init 119 = .ok (.aload_n 0, 1) := by decide +kernel
theorem dX8_init_120 : decode cX8_init 120 = .ok (.bipush 12, 2) := by decide +kernel
theorem dX8_init_122 : decode cX8_init 122 = .ok (.newarray .int, 2) := by decide +kernel
theorem dX8_init_124 : decode cX8_init 124 = .ok (.putfield 53, 3) := by decide +kernel
theorem dX8_init_127 : decode cX8_init 127 = .ok (.aload_n 0, 1) := by decide +kernel
theorem dX8_init_128 : decode cX8_init 128 = .ok (.bipush 12, 2) := by decide +kernel
theorem dX8_init_130 : decode cX8_init 130 = .ok (.newarray .int, 2) := by decide +kernel
theorem dX8_init_132 : decode cX8_init 132 = .ok (.putfield 56, 3) := by decide +kernel
theorem dX8_init_135 : decode cX8_init 135 = .ok (.aload_n 0, 1) := by decide +kernel
theorem dX8_init_136 : decode cX8_init 136 = .ok (.bipush 12, 2) := by decide +kernel
theorem dX8_init_138 : decode cX8_init 138 = .ok (.newarray .int, 2) := by decide +kernel
theorem dX8_init_140 : decode cX8_init 140 = .ok (.putfield 59, 3) := by decide +kernel
theorem dX8_init_143 : decode cX8_init 143 = .ok (.aload_n 0, 1) := by decide +kernel
theorem dX8_init_144 : decode cX8_init 144 = .ok (.bipush 12, 2) := by decide +kernel
theorem dX8_init_146 : decode cX8_init 146 = .ok (.newarray .boolean, 2) := by decide +kernel
theorem dX8_init_148 : decode cX8_init 148 = .ok (.putfield 62, 3) := by decide +kernel
theorem dX8_init_151 : decode cX8_init 151 = .ok (.aload_n 0, 1) := by decide +kernel
theorem dX8_init_152 : decode cX8_init 152 = .ok (.bipush 12, 2) := by decide +kernel
theorem dX8_init_154 : decode cX8_init 154 = .ok (.newarray .int, 2) := by decide +kernel
theorem dX8_init_156 : decode cX8_init 156 = .ok (.putfield 66, 3) := by decide +kernel
theorem dX8_init_159 : decode cX8_init 159 = .ok (.aload_n 0, 1) := by decide +kernel
theorem dX8_init_160 : decode cX8_init 160 = .ok (.bipush 8, 2) := by decide +kernel
theorem dX8_init_162 : decode cX8_init 162 = .ok (.newarray .int, 2) := by decide +kernel
theorem dX8_init_164 : decode cX8_init 164 = .ok (.putfield 69, 3) := by decide +kernel
theorem dX8_init_167 : decode cX8_init 167 = .ok (.aload_n 0, 1) := by decide +kernel
theorem dX8_init_168 : decode cX8_init 168 = .ok (.bipush 8, 2) := by decide +kernel
theorem dX8_init_170 : decode cX8_init 170 = .ok (.newarray .int, 2) := by decide +kernel
theorem dX8_init_172 : decode cX8_init 172 = .ok (.putfield 72, 3) := by decide +kernel
theorem dX8_init_175 : decode cX8_init 175 = .ok (.aload_n 0, 1) := by decide +kernel
theorem dX8_init_176 : decode cX8_init 176 = .ok (.bipush 8, 2) := by decide +kernel
theorem dX8_init_178 : decode cX8_init 178 = .ok (.newarray .int, 2) := by decide +kernel
theorem dX8_init_180 : decode cX8_init 180 = .ok (.putfield 75, 3) := by decide +kernel
theorem dX8_init_183 : decode cX8_init 183 = .ok (.aload_n 0, 1) := by decide +kernel
theorem dX8_init_184 : decode cX8_init 184 = .ok (.bipush 8, 2) := by decide +kernel
theorem dX8_init_186 : decode cX8_init 186 = .ok (.newarray .int, 2) := by decide +kernel
theorem dX8_init_188 : decode cX8_init 188 = .ok (.putfield 78, 3) := by decide +kernel
theorem dX8_init_191 : decode cX8_init 191 = .ok (.aload_n 0, 1) := by decide +kernel
theorem dX8_init_192 : decode cX8_init 192 = .ok (.bipush 30, 2) := by decide +kernel
theorem dX8_init_194 : decode cX8_init 194 = .ok (.newarray .int, 2) := by decide +kernel
theorem dX8_init_196 : decode cX8_init 196 = .ok (.putfield 81, 3) := by decide +kernel
theorem dX8_init_199 : decode cX8_init 199 = .ok (.aload_n 0, 1) := by decide +kernel
theorem dX8_init_200 : decode cX8_init 200 = .ok (.bipush 30, 2) := by decide +kernel
theorem dX8_init_202 : decode cX8_init 202 = .ok (.newarray .int, 2) := by decide +kernel
theorem dX8_init_204 : decode cX8_init 204 = .ok (.putfield 84, 3) := by decide +kernel
theorem dX8_init_207 : decode cX8_init 207 = .ok (.aload_n 0, 1) := by decide +kernel
theorem dX8_init_208 : decode cX8_init 208 = .ok (.lconst 1, 1) := by decide +kernel
theorem dX8_init_209 : decode cX8_init 209 = .ok (.putfield 87, 3) := by decide +kernel
theorem dX8_init_212 : decode cX8_init 212 = .ok (.iconst 0, 1) := by decide +kernel
theorem dX8_init_213 : decode cX8_init 213 = .ok (.istore_n 1, 1) := by decide +kernel
theorem dX8_init_214 : decode cX8_init 214 = .ok (.iload_n 1, 1) := by decide +kernel
theorem dX8_init_215 : decode cX8_init 215 = .ok (.iconst 4, 1) := by decide +kernel
theorem dX8_init_216 : decode cX8_init 216 = .ok (.if_icmp .ge 24, 3) := by decide +kernel
theorem dX8_init_219 : decode cX8_init 219 = .ok (.aload_n 0, 1) := by decide +kernel
theorem dX8_init_220 : decode cX8_init 220 = .ok (.getfield 13, 3) := by decide +kernel
theorem dX8_init_223 : decode cX8_init 223 = .ok (.iload_n 1, 1) := by decide +kernel
theorem dX8_init_224 : decode cX8_init 224 = .ok (.iconst (-1), 1) := by decide +kernel
theorem dX8_init_225 : decode cX8_init 225 = .ok (.iastore, 1) := by decide +kernel
theorem dX8_init_226 : decode cX8_init 226 = .ok (.aload_n 0, 1) := by decide +kernel
theorem dX8_init_227 : decode cX8_init 227 = .ok (.getfield 16, 3) := by decide +kernel
theorem dX8_init_230 : decode cX8_init 230 = .ok (.iload_n 1, 1) := by decide +kernel
theorem dX8_init_231 : decode cX8_init 231 = .ok (.bipush 10, 2) := by decide +kernel
theorem dX8_init_233 : decode cX8_init 233 = .ok (.iastore, 1) := by decide +kernel
theorem dX8_init_234 : decode cX8_init 234 = .ok (.iinc 1 1, 3) := by decide +kernel
theorem dX8_init_237 : decode cX8_init 237 = .ok (.goto (-23), 3) := by decide +kernel
theorem dX8_init_240 : decode cX8_init 240 = .ok (.iconst 0, 1) := by decide +kernel
theorem dX8_init_241 : decode cX8_init 241 = .ok (.istore_n 1, 1) := by decide +kernel
theorem dX8_init_242 : decode cX8_init 242 = .ok (.iload_n 1, 1) := by decide +kernel
theorem dX8_init_243 : decode cX8_init 243 = .ok (.bipush 8, 2) := by decide +kernel
theorem dX8_init_245 : decode cX8_init 245 = .ok (.if_icmp .ge 16, 3) := by decide +kernel
theorem dX8_init_248 : decode cX8_init 248 = .ok (.aload_n 0, 1) := by decide +kernel
theorem dX8_init_249 : decode cX8_init 249 = .ok (.getfield 75, 3) := by decide +kernel
theorem dX8_init_252 : decode cX8_init 252 = .ok (.iload_n 1, 1) := by decide +kernel
theorem dX8_init_253 : decode cX8_init 253 = .ok (.iconst 1, 1) := by decide +kernel
theorem dX8_init_254 : decode cX8_init 254 = .ok (.iastore, 1) := by decide +kernel
theorem dX8_init_255 : decode cX8_init 255 = .ok (.iinc 1 1, 3) := by decide +kernel
theorem dX8_init_258 : decode cX8_init 258 = .ok (.goto (-16), 3) := by decide +kernel
theorem dX8_init_261 : decode cX8_init 261 = .ok (.return_, 1) := by decide +kernel
theorem dX8_in_0 : decode cX8_in 0 = .ok (.iload_n 0, 1) := by decide +kernel
theorem dX8_in_1 : decode cX8_in 1 = .ok (.iload_n 1, 1) := by decide +kernel
theorem dX8_in_2 : decode cX8_in 2 = .ok (.if_icmp .lt 12, 3) := by decide +kernel
theorem dX8_in_5 : decode cX8_in 5 = .ok (.iload_n 0, 1) := by decide +kernel
theorem dX8_in_6 : decode cX8_in 6 = .ok (.iload_n 2, 1) := by decide +kernel
theorem dX8_in_7 : decode cX8_in 7 = .ok (.if_icmp .gt 7, 3) := by decide +kernel
theorem dX8_in_10 : decode cX8_in 10 = .ok (.iconst 1, 1) := by decide +kernel
theorem dX8_in_11 : decode cX8_in 11 = .ok (.goto 4, 3) := by decide +kernel
theorem dX8_in_14 : decode cX8_in 14 = .ok (.iconst 0, 1) := by decide +kernel
theorem dX8_in_15 : decode cX8_in 15 = .ok (.ireturn, 1) := by decide +kernel
theorem dX8_meets_0 : decode cX8_meets 0 = .ok (.aload_n 0, 1) := by decide +kernel
theorem dX8_meets_1 : decode cX8_meets 1 = .ok (.iload_n 1, 1) := by decide +kernel
theorem dX8_meets_2 : decode cX8_meets 2 = .ok (.putfield 91, 3) := by decide +kernel
theorem dX8_meets_5 : decode cX8_meets 5 = .ok (.aload_n 0, 1) := by decide +kernel
theorem dX8_meets_6 : decode cX8_meets 6 = .ok (.getfield 7, 3) := by decide +kernel
theorem dX8_meets_9 : decode cX8_meets 9 = .ok (.iload_n 1, 1) := by decide +kernel
theorem dX8_meets_10 : decode cX8_meets 10 = .ok (.dup2, 1) := by decide +kernel
theorem dX8_meets_11 : decode cX8_meets 11 = .ok (.iaload, 1) := by decide +kernel
theorem dX8_meets_12 : decode cX8_meets 12 = .ok (.iconst 1, 1) := by decide +kernel
theorem dX8_meets_13 : decode cX8_meets 13 = .ok (.iadd, 1) := by decide +kernel
theorem dX8_meets_14 : decode cX8_meets 14 = .ok (.iastore, 1) := by decide +kernel
theorem dX8_meets_15 : decode cX8_meets 15 = .ok (.bipush (-3), 2) := by decide +kernel
theorem dX8_meets_17 : decode cX8_meets 17 = .ok (.ireturn, 1) := by decide +kernel
theorem dX8_finding_0 : decode cX8_finding 0 = .ok (.aload_n 0, 1) := by decide +kernel
theorem dX8_finding_1 : decode cX8_finding 1 = .ok (.getfield 91, 3) := by decide +kernel
theorem dX8_finding_4 : decode cX8_finding 4 = .ok (.ireturn, 1) := by decide +kernel
set_option maxRecDepth 20000 in
theorem ggX8_findings_X8_in : GoodIn wsX8_findings wsX8_in := goodIn_r _ [5] (by decide +kernel) (by decide +kernel)
set_option maxRecDepth 20000 in
theorem gX8_findings_X8_in : GoodIn wsX8_findings (va_wsS RX8 95 yX8_in wsX8_in) := goodIn_app (goodIn_of _ (by decide +kernel)) ggX8_findings_X8_in
theorem dX8_findings_0 : decode cX8_findings 0 = .ok (.iload_n 1, 1) := by decide +kernel
theorem dX8_findings_1 : decode cX8_findings 1 = .ok (.iconst 1, 1) := by decide +kernel
theorem dX8_findings_2 : decode cX8_findings 2 = .ok (.iconst 5, 1) := by decide +kernel
theorem dX8_findings_3 : decode cX8_findings 3 = .ok (.invokestatic 95, 3) := by decide +kernel
theorem dX8_findings_6 : decode cX8_findings 6 = .ok (.ifCond .eq 12, 3) := by decide +kernel
theorem dX8_findings_9 : decode cX8_findings 9 = .ok (.aload_n 0, 1) := by decide +kernel
theorem dX8_findings_10 : decode cX8_findings 10 = .ok (.getfield 7, 3) := by decide +kernel
theorem dX8_findings_13 : decode cX8_findings 13 = .ok (.iload_n 1, 1) := by decide +kernel
theorem dX8_findings_14 : decode cX8_findings 14 = .ok (.iaload, 1) := by decide +kernel
theorem dX8_findings_15 : decode cX8_findings 15 = .ok (.goto 4, 3) := by decide +kernel
theorem dX8_findings_18 : decode cX8_findings 18 = .ok (.iconst (-1), 1) := by decide +kernel
theorem dX8_findings_19 : decode cX8_findings 19 = .ok (.ireturn, 1) := by decide +kernel
theorem dX8_tells_0 : decode cX8_tells 0 = .ok (.aload_n 0, 1) := by decide +kernel
theorem dX8_tells_1 : decode cX8_tells 1 = .ok (.iload_n 1, 1) := by decide +kernel
theorem dX8_tells_2 : decode cX8_tells 2 = .ok (.putfield 99, 3) := by decide +kernel
theorem dX8_tells_5 : decode cX8_tells 5 = .ok (.iload_n 2, 1) := by decide +kernel
theorem dX8_tells_6 : decode cX8_tells 6 = .ok (.ireturn, 1) := by decide +kernel
theorem dX8_asked_0 : decode cX8_asked 0 = .ok (.aload_n 0, 1) := by decide +kernel
theorem dX8_asked_1 : decode cX8_asked 1 = .ok (.getfield 99, 3) := by decide +kernel
theorem dX8_asked_4 : decode cX8_asked 4 = .ok (.ireturn, 1) := by decide +kernel
theorem dX8_fraction_0 : decode cX8_fraction 0 = .ok (.lload_n 1, 1) := by decide +kernel
theorem dX8_fraction_1 : decode cX8_fraction 1 = .ok (.lstore 6, 2) := by decide +kernel
theorem dX8_fraction_3 : decode cX8_fraction 3 = .ok (.lload_n 3, 1) := by decide +kernel
theorem dX8_fraction_4 : decode cX8_fraction 4 = .ok (.lstore 8, 2) := by decide +kernel
theorem dX8_fraction_6 : decode cX8_fraction 6 = .ok (.lload 8, 2) := by decide +kernel
theorem dX8_fraction_8 : decode cX8_fraction 8 = .ok (.lconst 0, 1) := by decide +kernel
theorem dX8_fraction_9 : decode cX8_fraction 9 = .ok (.lcmp, 1) := by decide +kernel
theorem dX8_fraction_10 : decode cX8_fraction 10 = .ok (.ifCond .eq 21, 3) := by decide +kernel
theorem dX8_fraction_13 : decode cX8_fraction 13 = .ok (.lload 6, 2) := by decide +kernel
theorem dX8_fraction_15 : decode cX8_fraction 15 = .ok (.lload 8, 2) := by decide +kernel
theorem dX8_fraction_17 : decode cX8_fraction 17 = .ok (.lrem, 1) := by decide +kernel
theorem dX8_fraction_18 : decode cX8_fraction 18 = .ok (.lstore 10, 2) := by decide +kernel
theorem dX8_fraction_20 : decode cX8_fraction 20 = .ok (.lload 8, 2) := by decide +kernel
theorem dX8_fraction_22 : decode cX8_fraction 22 = .ok (.lstore 6, 2) := by decide +kernel
theorem dX8_fraction_24 : decode cX8_fraction 24 = .ok (.lload 10, 2) := by decide +kernel
theorem dX8_fraction_26 : decode cX8_fraction 26 = .ok (.lstore 8, 2) := by decide +kernel
theorem dX8_fraction_28 : decode cX8_fraction 28 = .ok (.goto (-22), 3) := by decide +kernel
theorem dX8_fraction_31 : decode cX8_fraction 31 = .ok (.aload_n 0, 1) := by decide +kernel
theorem dX8_fraction_32 : decode cX8_fraction 32 = .ok (.lload_n 1, 1) := by decide +kernel
theorem dX8_fraction_33 : decode cX8_fraction 33 = .ok (.lload 6, 2) := by decide +kernel
theorem dX8_fraction_35 : decode cX8_fraction 35 = .ok (.ldiv, 1) := by decide +kernel
theorem dX8_fraction_36 : decode cX8_fraction 36 = .ok (.putfield 102, 3) := by decide +kernel
theorem dX8_fraction_39 : decode cX8_fraction 39 = .ok (.aload_n 0, 1) := by decide +kernel
theorem dX8_fraction_40 : decode cX8_fraction 40 = .ok (.lload_n 3, 1) := by decide +kernel
theorem dX8_fraction_41 : decode cX8_fraction 41 = .ok (.lload 6, 2) := by decide +kernel
theorem dX8_fraction_43 : decode cX8_fraction 43 = .ok (.ldiv, 1) := by decide +kernel
theorem dX8_fraction_44 : decode cX8_fraction 44 = .ok (.putfield 87, 3) := by decide +kernel
theorem dX8_fraction_47 : decode cX8_fraction 47 = .ok (.iload 5, 2) := by decide +kernel
theorem dX8_fraction_49 : decode cX8_fraction 49 = .ok (.ireturn, 1) := by decide +kernel
theorem dX8_upper_0 : decode cX8_upper 0 = .ok (.aload_n 0, 1) := by decide +kernel
theorem dX8_upper_1 : decode cX8_upper 1 = .ok (.getfield 102, 3) := by decide +kernel
theorem dX8_upper_4 : decode cX8_upper 4 = .ok (.lreturn, 1) := by decide +kernel
theorem dX8_lower_0 : decode cX8_lower 0 = .ok (.aload_n 0, 1) := by decide +kernel
theorem dX8_lower_1 : decode cX8_lower 1 = .ok (.getfield 87, 3) := by decide +kernel
theorem dX8_lower_4 : decode cX8_lower 4 = .ok (.lreturn, 1) := by decide +kernel
set_option maxRecDepth 20000 in
theorem ggX8_isStuff_X8_in : GoodIn wsX8_isStuff wsX8_in := goodIn_r _ [4] (by decide +kernel) (by decide +kernel)
set_option maxRecDepth 20000 in
theorem gX8_isStuff_X8_in : GoodIn wsX8_isStuff (va_wsS RX8 95 yX8_in wsX8_in) := goodIn_app (goodIn_of _ (by decide +kernel)) ggX8_isStuff_X8_in
theorem dX8_isStuff_0 : decode cX8_isStuff 0 = .ok (.iload_n 0, 1) := by decide +kernel
theorem dX8_isStuff_1 : decode cX8_isStuff 1 = .ok (.iconst 0, 1) := by decide +kernel
theorem dX8_isStuff_2 : decode cX8_isStuff 2 = .ok (.iconst 3, 1) := by decide +kernel
theorem dX8_isStuff_3 : decode cX8_isStuff 3 = .ok (.invokestatic 95, 3) := by decide +kernel
theorem dX8_isStuff_6 : decode cX8_isStuff 6 = .ok (.ireturn, 1) := by decide +kernel
set_option maxRecDepth 20000 in
theorem ggX8_stuff_X8_isStuff : GoodIn wsX8_stuff wsX8_isStuff := goodIn_r _ [6, 7, 8, 5, 9] (by decide +kernel) (by decide +kernel)
set_option maxRecDepth 20000 in
theorem gX8_stuff_X8_isStuff : GoodIn wsX8_stuff (va_wsS RX8 105 yX8_isStuff wsX8_isStuff) := goodIn_app (goodIn_of _ (by decide +kernel)) ggX8_stuff_X8_isStuff
set_option maxRecDepth 20000 in
theorem ggX8_stuff_X8_meets : GoodIn wsX8_stuff wsX8_meets := goodIn_r _ [13, 14, 15, 16, 17, 18, 19, 20, 21, 22, 23, 24, 25, 26, 27, 28, 29, 30, 31, 32, 33, 34, 35, 36, 37, 38, 39, 40, 41, 42, 43, 44, 45, 46, 47, 48, 49] (by decide +kernel) (by decide +kernel)
set_option maxRecDepth 20000 in
theorem gX8_stuff_X8_meets : GoodIn wsX8_stuff (wsV RX8 109 RX8 yX8_meets wsX8_meets) := goodIn_app (goodIn_of _ (by decide +kernel)) ggX8_stuff_X8_meets
theorem dX8_stuff_0 : decode cX8_stuff 0 = .ok (.iload_n 1, 1) := by decide +kernel
theorem dX8_stuff_1 : decode cX8_stuff 1 = .ok (.invokestatic 105, 3) := by decide +kernel
theorem dX8_stuff_4 : decode cX8_stuff 4 = .ok (.ifCond .eq 9, 3) := by decide +kernel
theorem dX8_stuff_7 : decode cX8_stuff 7 = .ok (.iload_n 2, 1) := by decide +kernel
theorem dX8_stuff_8 : decode cX8_stuff 8 = .ok (.bipush 16, 2) := by decide +kernel
theorem dX8_stuff_10 : decode cX8_stuff 10 = .ok (.if_icmp .le 5, 3) := by decide +kernel
theorem dX8_stuff_13 : decode cX8_stuff 13 = .ok (.iconst (-1), 1) := by decide +kernel
theorem dX8_stuff_14 : decode cX8_stuff 14 = .ok (.ireturn, 1) := by decide +kernel
theorem dX8_stuff_15 : decode cX8_stuff 15 = .ok (.iload_n 2, 1) := by decide +kernel
theorem dX8_stuff_16 : decode cX8_stuff 16 = .ok (.ifCond .ge 9, 3) := by decide +kernel
theorem dX8_stuff_19 : decode cX8_stuff 19 = .ok (.aload_n 0, 1) := by decide +kernel
theorem dX8_stuff_20 : decode cX8_stuff 20 = .ok (.iconst 5, 1) := by decide +kernel
theorem dX8_stuff_21 : decode cX8_stuff 21 = .ok (.invokevirtual 109, 3) := by decide +kernel
theorem dX8_stuff_24 : decode cX8_stuff 24 = .ok (.ireturn, 1) := by decide +kernel
theorem dX8_stuff_25 : decode cX8_stuff 25 = .ok (.aload_n 0, 1) := by decide +kernel
theorem dX8_stuff_26 : decode cX8_stuff 26 = .ok (.getfield 13, 3) := by decide +kernel
theorem dX8_stuff_29 : decode cX8_stuff 29 = .ok (.iload_n 1, 1) := by decide +kernel
theorem dX8_stuff_30 : decode cX8_stuff 30 = .ok (.iload_n 2, 1) := by decide +kernel
theorem dX8_stuff_31 : decode cX8_stuff 31 = .ok (.iastore, 1) := by decide +kernel
theorem dX8_stuff_32 : decode cX8_stuff 32 = .ok (.iconst 0, 1) := by decide +kernel
theorem dX8_stuff_33 : decode cX8_stuff 33 = .ok (.istore_n 3, 1) := by decide +kernel
theorem dX8_stuff_34 : decode cX8_stuff 34 = .ok (.iload_n 3, 1) := by decide +kernel
theorem dX8_stuff_35 : decode cX8_stuff 35 = .ok (.bipush 16, 2) := by decide +kernel
theorem dX8_stuff_37 : decode cX8_stuff 37 = .ok (.if_icmp .ge 21, 3) := by decide +kernel
theorem dX8_stuff_40 : decode cX8_stuff 40 = .ok (.aload_n 0, 1) := by decide +kernel
theorem dX8_stuff_41 : decode cX8_stuff 41 = .ok (.getfield 19, 3) := by decide +kernel
theorem dX8_stuff_44 : decode cX8_stuff 44 = .ok (.bipush 16, 2) := by decide +kernel
theorem dX8_stuff_46 : decode cX8_stuff 46 = .ok (.iload_n 1, 1) := by decide +kernel
theorem dX8_stuff_47 : decode cX8_stuff 47 = .ok (.imul, 1) := by decide +kernel
theorem dX8_stuff_48 : decode cX8_stuff 48 = .ok (.iload_n 3, 1) := by decide +kernel
theorem dX8_stuff_49 : decode cX8_stuff 49 = .ok (.iadd, 1) := by decide +kernel
theorem dX8_stuff_50 : decode cX8_stuff 50 = .ok (.iconst 0, 1) := by decide +kernel
theorem dX8_stuff_51 : decode cX8_stuff 51 = .ok (.bastore, 1) := by decide +kernel
theorem dX8_stuff_52 : decode cX8_stuff 52 = .ok (.iinc 3 1, 3) := by decide +kernel
theorem dX8_stuff_55 : decode cX8_stuff 55 = .ok (.goto (-21), 3) := by decide +kernel
theorem dX8_stuff_58 : decode cX8_stuff 58 = .ok (.iload_n 2, 1) := by decide +kernel
theorem dX8_stuff_59 : decode cX8_stuff 59 = .ok (.ireturn, 1) := by decide +kernel
set_option maxRecDepth 20000 in
theorem ggX8_lay_X8_isStuff : GoodIn wsX8_lay wsX8_isStuff := goodIn_r _ [6, 7, 8, 5, 9] (by decide +kernel) (by decide +kernel)
set_option maxRecDepth 20000 in
theorem gX8_lay_X8_isStuff : GoodIn wsX8_lay (va_wsS RX8 105 yX8_isStuff wsX8_isStuff) := goodIn_app (goodIn_of _ (by decide +kernel)) ggX8_lay_X8_isStuff
set_option maxRecDepth 20000 in
theorem ggX8_lay_X8_meets : GoodIn wsX8_lay wsX8_meets := goodIn_r _ [13, 14, 15, 16, 17, 18, 19, 20, 21, 22, 23, 24, 25, 26, 27, 28, 29, 30, 31, 32, 33, 34, 35, 36, 37, 38, 39, 40, 41, 42, 43, 44, 45, 46, 47, 48, 49] (by decide +kernel) (by decide +kernel)
set_option maxRecDepth 20000 in
theorem gX8_lay_X8_meets : GoodIn wsX8_lay (wsV RX8 109 RX8 yX8_meets wsX8_meets) := goodIn_app (goodIn_of _ (by decide +kernel)) ggX8_lay_X8_meets
set_option maxRecDepth 20000 in
theorem ggX8_lay_X8_in : GoodIn wsX8_lay wsX8_in := goodIn_r _ [9] (by decide +kernel) (by decide +kernel)
set_option maxRecDepth 20000 in
theorem gX8_lay_X8_in : GoodIn wsX8_lay (va_wsS RX8 95 yX8_in wsX8_in) := goodIn_app (goodIn_of _ (by decide +kernel)) ggX8_lay_X8_in
theorem dX8_lay_0 : decode cX8_lay 0 = .ok (.iload_n 1, 1) := by decide +kernel
theorem dX8_lay_1 : decode cX8_lay 1 = .ok (.invokestatic 105, 3) := by decide +kernel
theorem dX8_lay_4 : decode cX8_lay 4 = .ok (.ifCond .ne 5, 3) := by decide +kernel
theorem dX8_lay_7 : decode cX8_lay 7 = .ok (.iconst (-1), 1) := by decide +kernel
theorem dX8_lay_8 : decode cX8_lay 8 = .ok (.ireturn, 1) := by decide +kernel
theorem dX8_lay_9 : decode cX8_lay 9 = .ok (.aload_n 0, 1) := by decide +kernel
theorem dX8_lay_10 : decode cX8_lay 10 = .ok (.getfield 13, 3) := by decide +kernel
theorem dX8_lay_13 : decode cX8_lay 13 = .ok (.iload_n 1, 1) := by decide +kernel
theorem dX8_lay_14 : decode cX8_lay 14 = .ok (.iaload, 1) := by decide +kernel
theorem dX8_lay_15 : decode cX8_lay 15 = .ok (.ifCond .ge 9, 3) := by decide +kernel
theorem dX8_lay_18 : decode cX8_lay 18 = .ok (.aload_n 0, 1) := by decide +kernel
theorem dX8_lay_19 : decode cX8_lay 19 = .ok (.iconst 1, 1) := by decide +kernel
theorem dX8_lay_20 : decode cX8_lay 20 = .ok (.invokevirtual 109, 3) := by decide +kernel
theorem dX8_lay_23 : decode cX8_lay 23 = .ok (.ireturn, 1) := by decide +kernel
theorem dX8_lay_24 : decode cX8_lay 24 = .ok (.iload_n 2, 1) := by decide +kernel
theorem dX8_lay_25 : decode cX8_lay 25 = .ok (.iconst 0, 1) := by decide +kernel
theorem dX8_lay_26 : decode cX8_lay 26 = .ok (.aload_n 0, 1) := by decide +kernel
theorem dX8_lay_27 : decode cX8_lay 27 = .ok (.getfield 13, 3) := by decide +kernel
theorem dX8_lay_30 : decode cX8_lay 30 = .ok (.iload_n 1, 1) := by decide +kernel
theorem dX8_lay_31 : decode cX8_lay 31 = .ok (.iaload, 1) := by decide +kernel
theorem dX8_lay_32 : decode cX8_lay 32 = .ok (.iconst 1, 1) := by decide +kernel
theorem dX8_lay_33 : decode cX8_lay 33 = .ok (.isub, 1) := by decide +kernel
theorem dX8_lay_34 : decode cX8_lay 34 = .ok (.invokestatic 95, 3) := by decide +kernel
theorem dX8_lay_37 : decode cX8_lay 37 = .ok (.ifCond .ne 9, 3) := by decide +kernel
theorem dX8_lay_40 : decode cX8_lay 40 = .ok (.aload_n 0, 1) := by decide +kernel
theorem dX8_lay_41 : decode cX8_lay 41 = .ok (.iconst 2, 1) := by decide +kernel
theorem dX8_lay_42 : decode cX8_lay 42 = .ok (.invokevirtual 109, 3) := by decide +kernel
theorem dX8_lay_45 : decode cX8_lay 45 = .ok (.ireturn, 1) := by decide +kernel
theorem dX8_lay_46 : decode cX8_lay 46 = .ok (.aload_n 0, 1) := by decide +kernel
theorem dX8_lay_47 : decode cX8_lay 47 = .ok (.getfield 19, 3) := by decide +kernel
theorem dX8_lay_50 : decode cX8_lay 50 = .ok (.bipush 16, 2) := by decide +kernel
theorem dX8_lay_52 : decode cX8_lay 52 = .ok (.iload_n 1, 1) := by decide +kernel
theorem dX8_lay_53 : decode cX8_lay 53 = .ok (.imul, 1) := by decide +kernel
theorem dX8_lay_54 : decode cX8_lay 54 = .ok (.iload_n 2, 1) := by decide +kernel
theorem dX8_lay_55 : decode cX8_lay 55 = .ok (.iadd, 1) := by decide +kernel
theorem dX8_lay_56 : decode cX8_lay 56 = .ok (.baload, 1) := by decide +kernel
theorem dX8_lay_57 : decode cX8_lay 57 = .ok (.istore 4, 2) := by decide +kernel
theorem dX8_lay_59 : decode cX8_lay 59 = .ok (.aload_n 0, 1) := by decide +kernel
theorem dX8_lay_60 : decode cX8_lay 60 = .ok (.getfield 19, 3) := by decide +kernel
theorem dX8_lay_63 : decode cX8_lay 63 = .ok (.bipush 16, 2) := by decide +kernel
theorem dX8_lay_65 : decode cX8_lay 65 = .ok (.iload_n 1, 1) := by decide +kernel
theorem dX8_lay_66 : decode cX8_lay 66 = .ok (.imul, 1) := by decide +kernel
theorem dX8_lay_67 : decode cX8_lay 67 = .ok (.iload_n 2, 1) := by decide +kernel
theorem dX8_lay_68 : decode cX8_lay 68 = .ok (.iadd, 1) := by decide +kernel
theorem dX8_lay_69 : decode cX8_lay 69 = .ok (.iload_n 3, 1) := by decide +kernel
theorem dX8_lay_70 : decode cX8_lay 70 = .ok (.i2b, 1) := by decide +kernel
theorem dX8_lay_71 : decode cX8_lay 71 = .ok (.bastore, 1) := by decide +kernel
theorem dX8_lay_72 : decode cX8_lay 72 = .ok (.sipush 1000, 3) := by decide +kernel
theorem dX8_lay_75 : decode cX8_lay 75 = .ok (.iload 4, 2) := by decide +kernel
theorem dX8_lay_77 : decode cX8_lay 77 = .ok (.iadd, 1) := by decide +kernel
theorem dX8_lay_78 : decode cX8_lay 78 = .ok (.ireturn, 1) := by decide +kernel
set_option maxRecDepth 20000 in
theorem ggX8_tear_X8_isStuff : GoodIn wsX8_tear wsX8_isStuff := goodIn_r _ [5, 6, 7, 4, 8] (by decide +kernel) (by decide +kernel)
set_option maxRecDepth 20000 in
theorem gX8_tear_X8_isStuff : GoodIn wsX8_tear (va_wsS RX8 105 yX8_isStuff wsX8_isStuff) := goodIn_app (goodIn_of _ (by decide +kernel)) ggX8_tear_X8_isStuff
set_option maxRecDepth 20000 in
theorem ggX8_tear_X8_meets : GoodIn wsX8_tear wsX8_meets := goodIn_r _ [12, 13, 14, 15, 16, 17, 18, 19, 20, 21, 22, 23, 24, 25, 26, 27, 28, 29, 30, 31, 32, 33, 34, 35, 36, 37, 38, 39, 40, 41, 42, 43, 44, 45, 46, 47, 48] (by decide +kernel) (by decide +kernel)
set_option maxRecDepth 20000 in
theorem gX8_tear_X8_meets : GoodIn wsX8_tear (wsV RX8 109 RX8 yX8_meets wsX8_meets) := goodIn_app (goodIn_of _ (by decide +kernel)) ggX8_tear_X8_meets
theorem dX8_tear_0 : decode cX8_tear 0 = .ok (.iload_n 1, 1) := by decide +kernel
theorem dX8_tear_1 : decode cX8_tear 1 = .ok (.invokestatic 105, 3) := by decide +kernel
theorem dX8_tear_4 : decode cX8_tear 4 = .ok (.ifCond .ne 5, 3) := by decide +kernel
theorem dX8_tear_7 : decode cX8_tear 7 = .ok (.iconst (-1), 1) := by decide +kernel
theorem dX8_tear_8 : decode cX8_tear 8 = .ok (.ireturn, 1) := by decide +kernel
theorem dX8_tear_9 : decode cX8_tear 9 = .ok (.aload_n 0, 1) := by decide +kernel
theorem dX8_tear_10 : decode cX8_tear 10 = .ok (.getfield 13, 3) := by decide +kernel
theorem dX8_tear_13 : decode cX8_tear 13 = .ok (.iload_n 1, 1) := by decide +kernel
theorem dX8_tear_14 : decode cX8_tear 14 = .ok (.iaload, 1) := by decide +kernel
theorem dX8_tear_15 : decode cX8_tear 15 = .ok (.ifCond .ge 9, 3) := by decide +kernel
theorem dX8_tear_18 : decode cX8_tear 18 = .ok (.aload_n 0, 1) := by decide +kernel
theorem dX8_tear_19 : decode cX8_tear 19 = .ok (.iconst 1, 1) := by decide +kernel
theorem dX8_tear_20 : decode cX8_tear 20 = .ok (.invokevirtual 109, 3) := by decide +kernel
theorem dX8_tear_23 : decode cX8_tear 23 = .ok (.ireturn, 1) := by decide +kernel
theorem dX8_tear_24 : decode cX8_tear 24 = .ok (.aload_n 0, 1) := by decide +kernel
theorem dX8_tear_25 : decode cX8_tear 25 = .ok (.getfield 13, 3) := by decide +kernel
theorem dX8_tear_28 : decode cX8_tear 28 = .ok (.iload_n 1, 1) := by decide +kernel
theorem dX8_tear_29 : decode cX8_tear 29 = .ok (.iconst (-1), 1) := by decide +kernel
theorem dX8_tear_30 : decode cX8_tear 30 = .ok (.iastore, 1) := by decide +kernel
theorem dX8_tear_31 : decode cX8_tear 31 = .ok (.iconst 1, 1) := by decide +kernel
theorem dX8_tear_32 : decode cX8_tear 32 = .ok (.ireturn, 1) := by decide +kernel
set_option maxRecDepth 20000 in
theorem ggX8_copy_X8_isStuff : GoodIn wsX8_copy wsX8_isStuff := goodIn_r _ [7, 8, 9, 6, 10] (by decide +kernel) (by decide +kernel)
set_option maxRecDepth 20000 in
theorem gX8_copy_X8_isStuff : GoodIn wsX8_copy (va_wsS RX8 105 yX8_isStuff wsX8_isStuff) := goodIn_app (goodIn_of _ (by decide +kernel)) ggX8_copy_X8_isStuff
set_option maxRecDepth 20000 in
theorem ggX8_copy_X8_meets : GoodIn wsX8_copy wsX8_meets := goodIn_r _ [14, 15, 16, 17, 18, 19, 20, 21, 22, 23, 24, 25, 26, 27, 28, 29, 30, 31, 32, 33, 34, 35, 36, 37, 38, 39, 40, 41, 42, 43, 44, 45, 46, 47, 48, 49, 50] (by decide +kernel) (by decide +kernel)
set_option maxRecDepth 20000 in
theorem gX8_copy_X8_meets : GoodIn wsX8_copy (wsV RX8 109 RX8 yX8_meets wsX8_meets) := goodIn_app (goodIn_of _ (by decide +kernel)) ggX8_copy_X8_meets
theorem dX8_copy_0 : decode cX8_copy 0 = .ok (.iload_n 1, 1) := by decide +kernel
theorem dX8_copy_1 : decode cX8_copy 1 = .ok (.invokestatic 105, 3) := by decide +kernel
theorem dX8_copy_4 : decode cX8_copy 4 = .ok (.ifCond .eq 10, 3) := by decide +kernel
theorem dX8_copy_7 : decode cX8_copy 7 = .ok (.iload_n 3, 1) := by decide +kernel
theorem dX8_copy_8 : decode cX8_copy 8 = .ok (.invokestatic 105, 3) := by decide +kernel
theorem dX8_copy_11 : decode cX8_copy 11 = .ok (.ifCond .ne 5, 3) := by decide +kernel
theorem dX8_copy_14 : decode cX8_copy 14 = .ok (.iconst (-1), 1) := by decide +kernel
theorem dX8_copy_15 : decode cX8_copy 15 = .ok (.ireturn, 1) := by decide +kernel
theorem dX8_copy_16 : decode cX8_copy 16 = .ok (.aload_n 0, 1) := by decide +kernel
theorem dX8_copy_17 : decode cX8_copy 17 = .ok (.getfield 13, 3) := by decide +kernel
theorem dX8_copy_20 : decode cX8_copy 20 = .ok (.iload_n 1, 1) := by decide +kernel
theorem dX8_copy_21 : decode cX8_copy 21 = .ok (.iaload, 1) := by decide +kernel
theorem dX8_copy_22 : decode cX8_copy 22 = .ok (.ifCond .lt 12, 3) := by decide +kernel
theorem dX8_copy_25 : decode cX8_copy 25 = .ok (.aload_n 0, 1) := by decide +kernel
theorem dX8_copy_26 : decode cX8_copy 26 = .ok (.getfield 13, 3) := by decide +kernel
theorem dX8_copy_29 : decode cX8_copy 29 = .ok (.iload_n 3, 1) := by decide +kernel
theorem dX8_copy_30 : decode cX8_copy 30 = .ok (.iaload, 1) := by decide +kernel
theorem dX8_copy_31 : decode cX8_copy 31 = .ok (.ifCond .ge 9, 3) := by decide +kernel
theorem dX8_copy_34 : decode cX8_copy 34 = .ok (.aload_n 0, 1) := by decide +kernel
theorem dX8_copy_35 : decode cX8_copy 35 = .ok (.iconst 1, 1) := by decide +kernel
theorem dX8_copy_36 : decode cX8_copy 36 = .ok (.invokevirtual 109, 3) := by decide +kernel
theorem dX8_copy_39 : decode cX8_copy 39 = .ok (.ireturn, 1) := by decide +kernel
theorem dX8_copy_40 : decode cX8_copy 40 = .ok (.iload_n 2, 1) := by decide +kernel
theorem dX8_copy_41 : decode cX8_copy 41 = .ok (.ifCond .lt 48, 3) := by decide +kernel
theorem dX8_copy_44 : decode cX8_copy 44 = .ok (.iload 4, 2) := by decide +kernel
theorem dX8_copy_46 : decode cX8_copy 46 = .ok (.ifCond .lt 43, 3) := by decide +kernel
theorem dX8_copy_49 : decode cX8_copy 49 = .ok (.iload 5, 2) := by decide +kernel
theorem dX8_copy_51 : decode cX8_copy 51 = .ok (.ifCond .lt 38, 3) := by decide +kernel
theorem dX8_copy_54 : decode cX8_copy 54 = .ok (.iload_n 2, 1) := by decide +kernel
theorem dX8_copy_55 : decode cX8_copy 55 = .ok (.i2l, 1) := by decide +kernel
theorem dX8_copy_56 : decode cX8_copy 56 = .ok (.iload 5, 2) := by decide +kernel
theorem dX8_copy_58 : decode cX8_copy 58 = .ok (.i2l, 1) := by decide +kernel
theorem dX8_copy_59 : decode cX8_copy 59 = .ok (.ladd, 1) := by decide +kernel
theorem dX8_copy_60 : decode cX8_copy 60 = .ok (.aload_n 0, 1) := by decide +kernel
theorem dX8_copy_61 : decode cX8_copy 61 = .ok (.getfield 13, 3) := by decide +kernel
theorem dX8_copy_64 : decode cX8_copy 64 = .ok (.iload_n 1, 1) := by decide +kernel
theorem dX8_copy_65 : decode cX8_copy 65 = .ok (.iaload, 1) := by decide +kernel
theorem dX8_copy_66 : decode cX8_copy 66 = .ok (.i2l, 1) := by decide +kernel
theorem dX8_copy_67 : decode cX8_copy 67 = .ok (.lcmp, 1) := by decide +kernel
theorem dX8_copy_68 : decode cX8_copy 68 = .ok (.ifCond .gt 21, 3) := by decide +kernel
theorem dX8_copy_71 : decode cX8_copy 71 = .ok (.iload 4, 2) := by decide +kernel
theorem dX8_copy_73 : decode cX8_copy 73 = .ok (.i2l, 1) := by decide +kernel
theorem dX8_copy_74 : decode cX8_copy 74 = .ok (.iload 5, 2) := by decide +kernel
theorem dX8_copy_76 : decode cX8_copy 76 = .ok (.i2l, 1) := by decide +kernel
theorem dX8_copy_77 : decode cX8_copy 77 = .ok (.ladd, 1) := by decide +kernel
theorem dX8_copy_78 : decode cX8_copy 78 = .ok (.aload_n 0, 1) := by decide +kernel
theorem dX8_copy_79 : decode cX8_copy 79 = .ok (.getfield 13, 3) := by decide +kernel
theorem dX8_copy_82 : decode cX8_copy 82 = .ok (.iload_n 3, 1) := by decide +kernel
theorem dX8_copy_83 : decode cX8_copy 83 = .ok (.iaload, 1) := by decide +kernel
theorem dX8_copy_84 : decode cX8_copy 84 = .ok (.i2l, 1) := by decide +kernel
theorem dX8_copy_85 : decode cX8_copy 85 = .ok (.lcmp, 1) := by decide +kernel
theorem dX8_copy_86 : decode cX8_copy 86 = .ok (.ifCond .le 9, 3) := by decide +kernel
theorem dX8_copy_89 : decode cX8_copy 89 = .ok (.aload_n 0, 1) := by decide +kernel
theorem dX8_copy_90 : decode cX8_copy 90 = .ok (.iconst 2, 1) := by decide +kernel
theorem dX8_copy_91 : decode cX8_copy 91 = .ok (.invokevirtual 109, 3) := by decide +kernel
theorem dX8_copy_94 : decode cX8_copy 94 = .ok (.ireturn, 1) := by decide +kernel
theorem dX8_copy_95 : decode cX8_copy 95 = .ok (.iconst 0, 1) := by decide +kernel
theorem dX8_copy_96 : decode cX8_copy 96 = .ok (.istore 6, 2) := by decide +kernel
theorem dX8_copy_98 : decode cX8_copy 98 = .ok (.iload 6, 2) := by decide +kernel
theorem dX8_copy_100 : decode cX8_copy 100 = .ok (.iload 5, 2) := by decide +kernel
theorem dX8_copy_102 : decode cX8_copy 102 = .ok (.if_icmp .ge 30, 3) := by decide +kernel
theorem dX8_copy_105 : decode cX8_copy 105 = .ok (.aload_n 0, 1) := by decide +kernel
theorem dX8_copy_106 : decode cX8_copy 106 = .ok (.getfield 23, 3) := by decide +kernel
theorem dX8_copy_109 : decode cX8_copy 109 = .ok (.iload 6, 2) := by decide +kernel
theorem dX8_copy_111 : decode cX8_copy 111 = .ok (.aload_n 0, 1) := by decide +kernel
theorem dX8_copy_112 : decode cX8_copy 112 = .ok (.getfield 19, 3) := by decide +kernel
theorem dX8_copy_115 : decode cX8_copy 115 = .ok (.bipush 16, 2) := by decide +kernel
theorem dX8_copy_117 : decode cX8_copy 117 = .ok (.iload_n 1, 1) := by decide +kernel
theorem dX8_copy_118 : decode cX8_copy 118 = .ok (.imul, 1) := by decide +kernel
theorem dX8_copy_119 : decode cX8_copy 119 = .ok (.iload_n 2, 1) := by decide +kernel
theorem dX8_copy_120 : decode cX8_copy 120 = .ok (.iadd, 1) := by decide +kernel
theorem dX8_copy_121 : decode cX8_copy 121 = .ok (.iload 6, 2) := by decide +kernel
theorem dX8_copy_123 : decode cX8_copy 123 = .ok (.iadd, 1) := by decide +kernel
theorem dX8_copy_124 : decode cX8_copy 124 = .ok (.baload, 1) := by decide +kernel
theorem dX8_copy_125 : decode cX8_copy 125 = .ok (.bastore, 1) := by decide +kernel
theorem dX8_copy_126 : decode cX8_copy 126 = .ok (.iinc 6 1, 3) := by decide +kernel
theorem dX8_copy_129 : decode cX8_copy 129 = .ok (.goto (-31), 3) := by decide +kernel
theorem dX8_copy_132 : decode cX8_copy 132 = .ok (.iconst 0, 1) := by decide +kernel
theorem dX8_copy_133 : decode cX8_copy 133 = .ok (.istore 6, 2) := by decide +kernel
theorem dX8_copy_135 : decode cX8_copy 135 = .ok (.iload 6, 2) := by decide +kernel
theorem dX8_copy_137 : decode cX8_copy 137 = .ok (.iload 5, 2) := by decide +kernel
theorem dX8_copy_139 : decode cX8_copy 139 = .ok (.if_icmp .ge 31, 3) := by decide +kernel
theorem dX8_copy_142 : decode cX8_copy 142 = .ok (.aload_n 0, 1) := by decide +kernel
theorem dX8_copy_143 : decode cX8_copy 143 = .ok (.getfield 19, 3) := by decide +kernel
theorem dX8_copy_146 : decode cX8_copy 146 = .ok (.bipush 16, 2) := by decide +kernel
theorem dX8_copy_148 : decode cX8_copy 148 = .ok (.iload_n 3, 1) := by decide +kernel
theorem dX8_copy_149 : decode cX8_copy 149 = .ok (.imul, 1) := by decide +kernel
theorem dX8_copy_150 : decode cX8_copy 150 = .ok (.iload 4, 2) := by decide +kernel
theorem dX8_copy_152 : decode cX8_copy 152 = .ok (.iadd, 1) := by decide +kernel
theorem dX8_copy_153 : decode cX8_copy 153 = .ok (.iload 6, 2) := by decide +kernel
theorem dX8_copy_155 : decode cX8_copy 155 = .ok (.iadd, 1) := by decide +kernel
theorem dX8_copy_156 : decode cX8_copy 156 = .ok (.aload_n 0, 1) := by decide +kernel
theorem dX8_copy_157 : decode cX8_copy 157 = .ok (.getfield 23, 3) := by decide +kernel
theorem dX8_copy_160 : decode cX8_copy 160 = .ok (.iload 6, 2) := by decide +kernel
theorem dX8_copy_162 : decode cX8_copy 162 = .ok (.baload, 1) := by decide +kernel
theorem dX8_copy_163 : decode cX8_copy 163 = .ok (.bastore, 1) := by decide +kernel
theorem dX8_copy_164 : decode cX8_copy 164 = .ok (.iinc 6 1, 3) := by decide +kernel
theorem dX8_copy_167 : decode cX8_copy 167 = .ok (.goto (-32), 3) := by decide +kernel
theorem dX8_copy_170 : decode cX8_copy 170 = .ok (.iconst 1, 1) := by decide +kernel
theorem dX8_copy_171 : decode cX8_copy 171 = .ok (.ireturn, 1) := by decide +kernel
set_option maxRecDepth 20000 in
theorem ggX8_weigh_X8_isStuff : GoodIn wsX8_weigh wsX8_isStuff := goodIn_r _ [5, 6, 7, 4, 8] (by decide +kernel) (by decide +kernel)
set_option maxRecDepth 20000 in
theorem gX8_weigh_X8_isStuff : GoodIn wsX8_weigh (va_wsS RX8 105 yX8_isStuff wsX8_isStuff) := goodIn_app (goodIn_of _ (by decide +kernel)) ggX8_weigh_X8_isStuff
set_option maxRecDepth 20000 in
theorem ggX8_weigh_X8_in : GoodIn wsX8_weigh wsX8_in := goodIn_r _ [8] (by decide +kernel) (by decide +kernel)
set_option maxRecDepth 20000 in
theorem gX8_weigh_X8_in : GoodIn wsX8_weigh (va_wsS RX8 95 yX8_in wsX8_in) := goodIn_app (goodIn_of _ (by decide +kernel)) ggX8_weigh_X8_in
theorem dX8_weigh_0 : decode cX8_weigh 0 = .ok (.iload_n 1, 1) := by decide +kernel
theorem dX8_weigh_1 : decode cX8_weigh 1 = .ok (.invokestatic 105, 3) := by decide +kernel
theorem dX8_weigh_4 : decode cX8_weigh 4 = .ok (.ifCond .eq 13, 3) := by decide +kernel
theorem dX8_weigh_7 : decode cX8_weigh 7 = .ok (.iload_n 2, 1) := by decide +kernel
theorem dX8_weigh_8 : decode cX8_weigh 8 = .ok (.iconst 1, 1) := by decide +kernel
theorem dX8_weigh_9 : decode cX8_weigh 9 = .ok (.bipush 50, 2) := by decide +kernel
theorem dX8_weigh_11 : decode cX8_weigh 11 = .ok (.invokestatic 95, 3) := by decide +kernel
theorem dX8_weigh_14 : decode cX8_weigh 14 = .ok (.ifCond .ne 5, 3) := by decide +kernel
theorem dX8_weigh_17 : decode cX8_weigh 17 = .ok (.iconst (-1), 1) := by decide +kernel
theorem dX8_weigh_18 : decode cX8_weigh 18 = .ok (.ireturn, 1) := by decide +kernel
theorem dX8_weigh_19 : decode cX8_weigh 19 = .ok (.aload_n 0, 1) := by decide +kernel
theorem dX8_weigh_20 : decode cX8_weigh 20 = .ok (.getfield 16, 3) := by decide +kernel
theorem dX8_weigh_23 : decode cX8_weigh 23 = .ok (.iload_n 1, 1) := by decide +kernel
theorem dX8_weigh_24 : decode cX8_weigh 24 = .ok (.iaload, 1) := by decide +kernel
theorem dX8_weigh_25 : decode cX8_weigh 25 = .ok (.istore_n 3, 1) := by decide +kernel
theorem dX8_weigh_26 : decode cX8_weigh 26 = .ok (.aload_n 0, 1) := by decide +kernel
theorem dX8_weigh_27 : decode cX8_weigh 27 = .ok (.getfield 16, 3) := by decide +kernel
theorem dX8_weigh_30 : decode cX8_weigh 30 = .ok (.iload_n 1, 1) := by decide +kernel
theorem dX8_weigh_31 : decode cX8_weigh 31 = .ok (.iload_n 2, 1) := by decide +kernel
theorem dX8_weigh_32 : decode cX8_weigh 32 = .ok (.iastore, 1) := by decide +kernel
theorem dX8_weigh_33 : decode cX8_weigh 33 = .ok (.iload_n 3, 1) := by decide +kernel
theorem dX8_weigh_34 : decode cX8_weigh 34 = .ok (.ireturn, 1) := by decide +kernel
set_option maxRecDepth 20000 in
theorem ggX8_mean_X8_isStuff : GoodIn wsX8_mean wsX8_isStuff := goodIn_r _ [6, 7, 8, 5, 9] (by decide +kernel) (by decide +kernel)
set_option maxRecDepth 20000 in
theorem gX8_mean_X8_isStuff : GoodIn wsX8_mean (va_wsS RX8 105 yX8_isStuff wsX8_isStuff) := goodIn_app (goodIn_of _ (by decide +kernel)) ggX8_mean_X8_isStuff
set_option maxRecDepth 20000 in
theorem ggX8_mean_X8_meets : GoodIn wsX8_mean wsX8_meets := goodIn_r _ [13, 14, 15, 16, 17, 18, 19, 20, 21, 22, 23, 24, 25, 26, 27, 28, 29, 30, 31, 32, 33, 34, 35, 36, 37, 38, 39, 40, 41, 42, 43, 44, 45, 46, 47, 48, 49] (by decide +kernel) (by decide +kernel)
set_option maxRecDepth 20000 in
theorem gX8_mean_X8_meets : GoodIn wsX8_mean (wsV RX8 109 RX8 yX8_meets wsX8_meets) := goodIn_app (goodIn_of _ (by decide +kernel)) ggX8_mean_X8_meets
theorem dX8_mean_0 : decode cX8_mean 0 = .ok (.iload_n 1, 1) := by decide +kernel
theorem dX8_mean_1 : decode cX8_mean 1 = .ok (.invokestatic 105, 3) := by decide +kernel
theorem dX8_mean_4 : decode cX8_mean 4 = .ok (.ifCond .ne 5, 3) := by decide +kernel
theorem dX8_mean_7 : decode cX8_mean 7 = .ok (.iconst (-1), 1) := by decide +kernel
theorem dX8_mean_8 : decode cX8_mean 8 = .ok (.ireturn, 1) := by decide +kernel
theorem dX8_mean_9 : decode cX8_mean 9 = .ok (.aload_n 0, 1) := by decide +kernel
theorem dX8_mean_10 : decode cX8_mean 10 = .ok (.getfield 13, 3) := by decide +kernel
theorem dX8_mean_13 : decode cX8_mean 13 = .ok (.iload_n 1, 1) := by decide +kernel
theorem dX8_mean_14 : decode cX8_mean 14 = .ok (.iaload, 1) := by decide +kernel
theorem dX8_mean_15 : decode cX8_mean 15 = .ok (.ifCond .ge 9, 3) := by decide +kernel
theorem dX8_mean_18 : decode cX8_mean 18 = .ok (.aload_n 0, 1) := by decide +kernel
theorem dX8_mean_19 : decode cX8_mean 19 = .ok (.iconst 1, 1) := by decide +kernel
theorem dX8_mean_20 : decode cX8_mean 20 = .ok (.invokevirtual 109, 3) := by decide +kernel
theorem dX8_mean_23 : decode cX8_mean 23 = .ok (.ireturn, 1) := by decide +kernel
theorem dX8_mean_24 : decode cX8_mean 24 = .ok (.aload_n 0, 1) := by decide +kernel
theorem dX8_mean_25 : decode cX8_mean 25 = .ok (.getfield 13, 3) := by decide +kernel
theorem dX8_mean_28 : decode cX8_mean 28 = .ok (.iload_n 1, 1) := by decide +kernel
theorem dX8_mean_29 : decode cX8_mean 29 = .ok (.iaload, 1) := by decide +kernel
theorem dX8_mean_30 : decode cX8_mean 30 = .ok (.ifCond .ne 9, 3) := by decide +kernel
theorem dX8_mean_33 : decode cX8_mean 33 = .ok (.aload_n 0, 1) := by decide +kernel
theorem dX8_mean_34 : decode cX8_mean 34 = .ok (.iconst 4, 1) := by decide +kernel
theorem dX8_mean_35 : decode cX8_mean 35 = .ok (.invokevirtual 109, 3) := by decide +kernel
theorem dX8_mean_38 : decode cX8_mean 38 = .ok (.ireturn, 1) := by decide +kernel
theorem dX8_mean_39 : decode cX8_mean 39 = .ok (.iconst 0, 1) := by decide +kernel
theorem dX8_mean_40 : decode cX8_mean 40 = .ok (.istore_n 2, 1) := by decide +kernel
theorem dX8_mean_41 : decode cX8_mean 41 = .ok (.iconst 0, 1) := by decide +kernel
theorem dX8_mean_42 : decode cX8_mean 42 = .ok (.istore_n 3, 1) := by decide +kernel
theorem dX8_mean_43 : decode cX8_mean 43 = .ok (.iload_n 3, 1) := by decide +kernel
theorem dX8_mean_44 : decode cX8_mean 44 = .ok (.aload_n 0, 1) := by decide +kernel
theorem dX8_mean_45 : decode cX8_mean 45 = .ok (.getfield 13, 3) := by decide +kernel
theorem dX8_mean_48 : decode cX8_mean 48 = .ok (.iload_n 1, 1) := by decide +kernel
theorem dX8_mean_49 : decode cX8_mean 49 = .ok (.iaload, 1) := by decide +kernel
theorem dX8_mean_50 : decode cX8_mean 50 = .ok (.if_icmp .ge 23, 3) := by decide +kernel
theorem dX8_mean_53 : decode cX8_mean 53 = .ok (.iload_n 2, 1) := by decide +kernel
theorem dX8_mean_54 : decode cX8_mean 54 = .ok (.aload_n 0, 1) := by decide +kernel
theorem dX8_mean_55 : decode cX8_mean 55 = .ok (.getfield 19, 3) := by decide +kernel
theorem dX8_mean_58 : decode cX8_mean 58 = .ok (.bipush 16, 2) := by decide +kernel
theorem dX8_mean_60 : decode cX8_mean 60 = .ok (.iload_n 1, 1) := by decide +kernel
theorem dX8_mean_61 : decode cX8_mean 61 = .ok (.imul, 1) := by decide +kernel
theorem dX8_mean_62 : decode cX8_mean 62 = .ok (.iload_n 3, 1) := by decide +kernel
theorem dX8_mean_63 : decode cX8_mean 63 = .ok (.iadd, 1) := by decide +kernel
theorem dX8_mean_64 : decode cX8_mean 64 = .ok (.baload, 1) := by decide +kernel
theorem dX8_mean_65 : decode cX8_mean 65 = .ok (.iadd, 1) := by decide +kernel
theorem dX8_mean_66 : decode cX8_mean 66 = .ok (.istore_n 2, 1) := by decide +kernel
theorem dX8_mean_67 : decode cX8_mean 67 = .ok (.iinc 3 1, 3) := by decide +kernel
theorem dX8_mean_70 : decode cX8_mean 70 = .ok (.goto (-27), 3) := by decide +kernel
theorem dX8_mean_73 : decode cX8_mean 73 = .ok (.iload_n 2, 1) := by decide +kernel
theorem dX8_mean_74 : decode cX8_mean 74 = .ok (.aload_n 0, 1) := by decide +kernel
theorem dX8_mean_75 : decode cX8_mean 75 = .ok (.getfield 13, 3) := by decide +kernel
theorem dX8_mean_78 : decode cX8_mean 78 = .ok (.iload_n 1, 1) := by decide +kernel
theorem dX8_mean_79 : decode cX8_mean 79 = .ok (.iaload, 1) := by decide +kernel
theorem dX8_mean_80 : decode cX8_mean 80 = .ok (.idiv, 1) := by decide +kernel
theorem dX8_mean_81 : decode cX8_mean 81 = .ok (.ireturn, 1) := by decide +kernel
theorem dX8_growth_0 : decode cX8_growth 0 = .ok (.iload_n 2, 1) := by decide +kernel
theorem dX8_growth_1 : decode cX8_growth 1 = .ok (.aload_n 0, 1) := by decide +kernel
theorem dX8_growth_2 : decode cX8_growth 2 = .ok (.getfield 13, 3) := by decide +kernel
theorem dX8_growth_5 : decode cX8_growth 5 = .ok (.iload_n 1, 1) := by decide +kernel
theorem dX8_growth_6 : decode cX8_growth 6 = .ok (.iaload, 1) := by decide +kernel
theorem dX8_growth_7 : decode cX8_growth 7 = .ok (.if_icmp .ge 17, 3) := by decide +kernel
theorem dX8_growth_10 : decode cX8_growth 10 = .ok (.aload_n 0, 1) := by decide +kernel
theorem dX8_growth_11 : decode cX8_growth 11 = .ok (.getfield 19, 3) := by decide +kernel
theorem dX8_growth_14 : decode cX8_growth 14 = .ok (.bipush 16, 2) := by decide +kernel
theorem dX8_growth_16 : decode cX8_growth 16 = .ok (.iload_n 1, 1) := by decide +kernel
theorem dX8_growth_17 : decode cX8_growth 17 = .ok (.imul, 1) := by decide +kernel
theorem dX8_growth_18 : decode cX8_growth 18 = .ok (.iload_n 2, 1) := by decide +kernel
theorem dX8_growth_19 : decode cX8_growth 19 = .ok (.iadd, 1) := by decide +kernel
theorem dX8_growth_20 : decode cX8_growth 20 = .ok (.baload, 1) := by decide +kernel
theorem dX8_growth_21 : decode cX8_growth 21 = .ok (.goto 4, 3) := by decide +kernel
theorem dX8_growth_24 : decode cX8_growth 24 = .ok (.iconst 0, 1) := by decide +kernel
theorem dX8_growth_25 : decode cX8_growth 25 = .ok (.ireturn, 1) := by decide +kernel
theorem dX8_signOf_0 : decode cX8_signOf 0 = .ok (.iload_n 0, 1) := by decide +kernel
theorem dX8_signOf_1 : decode cX8_signOf 1 = .ok (.iconst 2, 1) := by decide +kernel
theorem dX8_signOf_2 : decode cX8_signOf 2 = .ok (.irem, 1) := by decide +kernel
theorem dX8_signOf_3 : decode cX8_signOf 3 = .ok (.ifCond .ne 7, 3) := by decide +kernel
theorem dX8_signOf_6 : decode cX8_signOf 6 = .ok (.iconst 1, 1) := by decide +kernel
theorem dX8_signOf_7 : decode cX8_signOf 7 = .ok (.goto 4, 3) := by decide +kernel
theorem dX8_signOf_10 : decode cX8_signOf 10 = .ok (.iconst (-1), 1) := by decide +kernel
theorem dX8_signOf_11 : decode cX8_signOf 11 = .ok (.ireturn, 1) := by decide +kernel
set_option maxRecDepth 20000 in
theorem ggX8_layRun_X8_signOf : GoodIn wsX8_layRun wsX8_signOf := goodIn_r _ [14] (by decide +kernel) (by decide +kernel)
set_option maxRecDepth 20000 in
theorem gX8_layRun_X8_signOf : GoodIn wsX8_layRun (va_wsS RX8 119 yX8_signOf wsX8_signOf) := goodIn_app (goodIn_of _ (by decide +kernel)) ggX8_layRun_X8_signOf
theorem dX8_layRun_0 : decode cX8_layRun 0 = .ok (.aload_n 0, 1) := by decide +kernel
theorem dX8_layRun_1 : decode cX8_layRun 1 = .ok (.iconst 0, 1) := by decide +kernel
theorem dX8_layRun_2 : decode cX8_layRun 2 = .ok (.putfield 113, 3) := by decide +kernel
theorem dX8_layRun_5 : decode cX8_layRun 5 = .ok (.iconst 0, 1) := by decide +kernel
theorem dX8_layRun_6 : decode cX8_layRun 6 = .ok (.istore_n 1, 1) := by decide +kernel
theorem dX8_layRun_7 : decode cX8_layRun 7 = .ok (.iload_n 1, 1) := by decide +kernel
theorem dX8_layRun_8 : decode cX8_layRun 8 = .ok (.aload_n 0, 1) := by decide +kernel
theorem dX8_layRun_9 : decode cX8_layRun 9 = .ok (.getfield 116, 3) := by decide +kernel
theorem dX8_layRun_12 : decode cX8_layRun 12 = .ok (.if_icmp .ge 176, 3) := by decide +kernel
theorem dX8_layRun_15 : decode cX8_layRun 15 = .ok (.iconst 0, 1) := by decide +kernel
theorem dX8_layRun_16 : decode cX8_layRun 16 = .ok (.istore_n 2, 1) := by decide +kernel
theorem dX8_layRun_17 : decode cX8_layRun 17 = .ok (.iload_n 2, 1) := by decide +kernel
theorem dX8_layRun_18 : decode cX8_layRun 18 = .ok (.aload_n 0, 1) := by decide +kernel
theorem dX8_layRun_19 : decode cX8_layRun 19 = .ok (.getfield 29, 3) := by decide +kernel
theorem dX8_layRun_22 : decode cX8_layRun 22 = .ok (.iload_n 1, 1) := by decide +kernel
theorem dX8_layRun_23 : decode cX8_layRun 23 = .ok (.iaload, 1) := by decide +kernel
theorem dX8_layRun_24 : decode cX8_layRun 24 = .ok (.if_icmp .ge 158, 3) := by decide +kernel
theorem dX8_layRun_27 : decode cX8_layRun 27 = .ok (.aload_n 0, 1) := by decide +kernel
theorem dX8_layRun_28 : decode cX8_layRun 28 = .ok (.getfield 26, 3) := by decide +kernel
theorem dX8_layRun_31 : decode cX8_layRun 31 = .ok (.iload_n 1, 1) := by decide +kernel
theorem dX8_layRun_32 : decode cX8_layRun 32 = .ok (.iaload, 1) := by decide +kernel
theorem dX8_layRun_33 : decode cX8_layRun 33 = .ok (.istore_n 3, 1) := by decide +kernel
theorem dX8_layRun_34 : decode cX8_layRun 34 = .ok (.aload_n 0, 1) := by decide +kernel
theorem dX8_layRun_35 : decode cX8_layRun 35 = .ok (.getfield 35, 3) := by decide +kernel
theorem dX8_layRun_38 : decode cX8_layRun 38 = .ok (.aload_n 0, 1) := by decide +kernel
theorem dX8_layRun_39 : decode cX8_layRun 39 = .ok (.getfield 113, 3) := by decide +kernel
theorem dX8_layRun_42 : decode cX8_layRun 42 = .ok (.iload_n 3, 1) := by decide +kernel
theorem dX8_layRun_43 : decode cX8_layRun 43 = .ok (.iastore, 1) := by decide +kernel
theorem dX8_layRun_44 : decode cX8_layRun 44 = .ok (.aload_n 0, 1) := by decide +kernel
theorem dX8_layRun_45 : decode cX8_layRun 45 = .ok (.getfield 38, 3) := by decide +kernel
theorem dX8_layRun_48 : decode cX8_layRun 48 = .ok (.aload_n 0, 1) := by decide +kernel
theorem dX8_layRun_49 : decode cX8_layRun 49 = .ok (.getfield 113, 3) := by decide +kernel
theorem dX8_layRun_52 : decode cX8_layRun 52 = .ok (.aload_n 0, 1) := by decide +kernel
theorem dX8_layRun_53 : decode cX8_layRun 53 = .ok (.getfield 32, 3) := by decide +kernel
theorem dX8_layRun_56 : decode cX8_layRun 56 = .ok (.iload_n 1, 1) := by decide +kernel
theorem dX8_layRun_57 : decode cX8_layRun 57 = .ok (.iaload, 1) := by decide +kernel
theorem dX8_layRun_58 : decode cX8_layRun 58 = .ok (.iastore, 1) := by decide +kernel
theorem dX8_layRun_59 : decode cX8_layRun 59 = .ok (.aload_n 0, 1) := by decide +kernel
theorem dX8_layRun_60 : decode cX8_layRun 60 = .ok (.getfield 41, 3) := by decide +kernel
theorem dX8_layRun_63 : decode cX8_layRun 63 = .ok (.aload_n 0, 1) := by decide +kernel
theorem dX8_layRun_64 : decode cX8_layRun 64 = .ok (.getfield 113, 3) := by decide +kernel
theorem dX8_layRun_67 : decode cX8_layRun 67 = .ok (.iconst 1, 1) := by decide +kernel
theorem dX8_layRun_68 : decode cX8_layRun 68 = .ok (.iadd, 1) := by decide +kernel
theorem dX8_layRun_69 : decode cX8_layRun 69 = .ok (.aload_n 0, 1) := by decide +kernel
theorem dX8_layRun_70 : decode cX8_layRun 70 = .ok (.getfield 41, 3) := by decide +kernel
theorem dX8_layRun_73 : decode cX8_layRun 73 = .ok (.aload_n 0, 1) := by decide +kernel
theorem dX8_layRun_74 : decode cX8_layRun 74 = .ok (.getfield 113, 3) := by decide +kernel
theorem dX8_layRun_77 : decode cX8_layRun 77 = .ok (.iaload, 1) := by decide +kernel
theorem dX8_layRun_78 : decode cX8_layRun 78 = .ok (.iload_n 3, 1) := by decide +kernel
theorem dX8_layRun_79 : decode cX8_layRun 79 = .ok (.iconst 2, 1) := by decide +kernel
theorem dX8_layRun_80 : decode cX8_layRun 80 = .ok (.idiv, 1) := by decide +kernel
theorem dX8_layRun_81 : decode cX8_layRun 81 = .ok (.ifCond .ne 10, 3) := by decide +kernel
theorem dX8_layRun_84 : decode cX8_layRun 84 = .ok (.iload_n 3, 1) := by decide +kernel
theorem dX8_layRun_85 : decode cX8_layRun 85 = .ok (.invokestatic 119, 3) := by decide +kernel
theorem dX8_layRun_88 : decode cX8_layRun 88 = .ok (.goto 4, 3) := by decide +kernel
theorem dX8_layRun_91 : decode cX8_layRun 91 = .ok (.iconst 0, 1) := by decide +kernel
theorem dX8_layRun_92 : decode cX8_layRun 92 = .ok (.iadd, 1) := by decide +kernel
theorem dX8_layRun_93 : decode cX8_layRun 93 = .ok (.iastore, 1) := by decide +kernel
theorem dX8_layRun_94 : decode cX8_layRun 94 = .ok (.aload_n 0, 1) := by decide +kernel
theorem dX8_layRun_95 : decode cX8_layRun 95 = .ok (.getfield 44, 3) := by decide +kernel
theorem dX8_layRun_98 : decode cX8_layRun 98 = .ok (.aload_n 0, 1) := by decide +kernel
theorem dX8_layRun_99 : decode cX8_layRun 99 = .ok (.getfield 113, 3) := by decide +kernel
theorem dX8_layRun_102 : decode cX8_layRun 102 = .ok (.iconst 1, 1) := by decide +kernel
theorem dX8_layRun_103 : decode cX8_layRun 103 = .ok (.iadd, 1) := by decide +kernel
theorem dX8_layRun_104 : decode cX8_layRun 104 = .ok (.aload_n 0, 1) := by decide +kernel
theorem dX8_layRun_105 : decode cX8_layRun 105 = .ok (.getfield 44, 3) := by decide +kernel
theorem dX8_layRun_108 : decode cX8_layRun 108 = .ok (.aload_n 0, 1) := by decide +kernel
theorem dX8_layRun_109 : decode cX8_layRun 109 = .ok (.getfield 113, 3) := by decide +kernel
theorem dX8_layRun_112 : decode cX8_layRun 112 = .ok (.iaload, 1) := by decide +kernel
theorem dX8_layRun_113 : decode cX8_layRun 113 = .ok (.iload_n 3, 1) := by decide +kernel
theorem dX8_layRun_114 : decode cX8_layRun 114 = .ok (.iconst 2, 1) := by decide +kernel
theorem dX8_layRun_115 : decode cX8_layRun 115 = .ok (.idiv, 1) := by decide +kernel
theorem dX8_layRun_116 : decode cX8_layRun 116 = .ok (.iconst 1, 1) := by decide +kernel
theorem dX8_layRun_117 : decode cX8_layRun 117 = .ok (.if_icmp .ne 10, 3) := by decide +kernel
theorem dX8_layRun_120 : decode cX8_layRun 120 = .ok (.iload_n 3, 1) := by decide +kernel
theorem dX8_layRun_121 : decode cX8_layRun 121 = .ok (.invokestatic 119, 3) := by decide +kernel
theorem dX8_layRun_124 : decode cX8_layRun 124 = .ok (.goto 4, 3) := by decide +kernel
theorem dX8_layRun_127 : decode cX8_layRun 127 = .ok (.iconst 0, 1) := by decide +kernel
theorem dX8_layRun_128 : decode cX8_layRun 128 = .ok (.iadd, 1) := by decide +kernel
theorem dX8_layRun_129 : decode cX8_layRun 129 = .ok (.iastore, 1) := by decide +kernel
theorem dX8_layRun_130 : decode cX8_layRun 130 = .ok (.aload_n 0, 1) := by decide +kernel
theorem dX8_layRun_131 : decode cX8_layRun 131 = .ok (.getfield 47, 3) := by decide +kernel
theorem dX8_layRun_134 : decode cX8_layRun 134 = .ok (.aload_n 0, 1) := by decide +kernel
theorem dX8_layRun_135 : decode cX8_layRun 135 = .ok (.getfield 113, 3) := by decide +kernel
theorem dX8_layRun_138 : decode cX8_layRun 138 = .ok (.iconst 1, 1) := by decide +kernel
theorem dX8_layRun_139 : decode cX8_layRun 139 = .ok (.iadd, 1) := by decide +kernel
theorem dX8_layRun_140 : decode cX8_layRun 140 = .ok (.aload_n 0, 1) := by decide +kernel
theorem dX8_layRun_141 : decode cX8_layRun 141 = .ok (.getfield 47, 3) := by decide +kernel
theorem dX8_layRun_144 : decode cX8_layRun 144 = .ok (.aload_n 0, 1) := by decide +kernel
theorem dX8_layRun_145 : decode cX8_layRun 145 = .ok (.getfield 113, 3) := by decide +kernel
theorem dX8_layRun_148 : decode cX8_layRun 148 = .ok (.iaload, 1) := by decide +kernel
theorem dX8_layRun_149 : decode cX8_layRun 149 = .ok (.iload_n 3, 1) := by decide +kernel
theorem dX8_layRun_150 : decode cX8_layRun 150 = .ok (.iconst 2, 1) := by decide +kernel
theorem dX8_layRun_151 : decode cX8_layRun 151 = .ok (.idiv, 1) := by decide +kernel
theorem dX8_layRun_152 : decode cX8_layRun 152 = .ok (.iconst 2, 1) := by decide +kernel
theorem dX8_layRun_153 : decode cX8_layRun 153 = .ok (.if_icmp .ne 10, 3) := by decide +kernel
theorem dX8_layRun_156 : decode cX8_layRun 156 = .ok (.iload_n 3, 1) := by decide +kernel
theorem dX8_layRun_157 : decode cX8_layRun 157 = .ok (.invokestatic 119, 3) := by decide +kernel
theorem dX8_layRun_160 : decode cX8_layRun 160 = .ok (.goto 4, 3) := by decide +kernel
theorem dX8_layRun_163 : decode cX8_layRun 163 = .ok (.iconst 0, 1) := by decide +kernel
theorem dX8_layRun_164 : decode cX8_layRun 164 = .ok (.iadd, 1) := by decide +kernel
theorem dX8_layRun_165 : decode cX8_layRun 165 = .ok (.iastore, 1) := by decide +kernel
theorem dX8_layRun_166 : decode cX8_layRun 166 = .ok (.aload_n 0, 1) := by decide +kernel
theorem dX8_layRun_167 : decode cX8_layRun 167 = .ok (.dup, 1) := by decide +kernel
theorem dX8_layRun_168 : decode cX8_layRun 168 = .ok (.getfield 113, 3) := by decide +kernel
theorem dX8_layRun_171 : decode cX8_layRun 171 = .ok (.iconst 1, 1) := by decide +kernel
theorem dX8_layRun_172 : decode cX8_layRun 172 = .ok (.iadd, 1) := by decide +kernel
theorem dX8_layRun_173 : decode cX8_layRun 173 = .ok (.putfield 113, 3) := by decide +kernel
theorem dX8_layRun_176 : decode cX8_layRun 176 = .ok (.iinc 2 1, 3) := by decide +kernel
theorem dX8_layRun_179 : decode cX8_layRun 179 = .ok (.goto (-162), 3) := by decide +kernel
theorem dX8_layRun_182 : decode cX8_layRun 182 = .ok (.iinc 1 1, 3) := by decide +kernel
theorem dX8_layRun_185 : decode cX8_layRun 185 = .ok (.goto (-178), 3) := by decide +kernel
theorem dX8_layRun_188 : decode cX8_layRun 188 = .ok (.return_, 1) := by decide +kernel
set_option maxRecDepth 20000 in
theorem ggX8_leg_X8_in : GoodIn wsX8_leg wsX8_in := goodIn_r _ [8] (by decide +kernel) (by decide +kernel)
set_option maxRecDepth 20000 in
theorem gX8_leg_X8_in : GoodIn wsX8_leg (va_wsS RX8 95 yX8_in wsX8_in) := goodIn_app (goodIn_of _ (by decide +kernel)) ggX8_leg_X8_in
set_option maxRecDepth 20000 in
theorem ggX8_leg_X8_isStuff : GoodIn wsX8_leg wsX8_isStuff := goodIn_r _ [11, 5, 6, 7, 8] (by decide +kernel) (by decide +kernel)
set_option maxRecDepth 20000 in
theorem gX8_leg_X8_isStuff : GoodIn wsX8_leg (va_wsS RX8 105 yX8_isStuff wsX8_isStuff) := goodIn_app (goodIn_of _ (by decide +kernel)) ggX8_leg_X8_isStuff
set_option maxRecDepth 20000 in
theorem ggX8_leg_X8_layRun : GoodIn wsX8_leg wsX8_layRun := goodIn_r _ [15, 16, 1, 3, 2, 17, 18, 4, 19, 20, 21, 22, 23, 7, 24, 25, 26, 27, 28, 29, 30, 31, 32, 33, 34, 35, 36, 37, 38, 39, 40, 41, 42, 43, 44, 45, 46, 47, 48, 49, 50, 51, 52, 53, 54, 55, 56, 57, 58] (by decide +kernel) (by decide +kernel)
set_option maxRecDepth 20000 in
theorem gX8_leg_X8_layRun : GoodIn wsX8_leg (wsV RX8 122 RX8 yX8_layRun wsX8_layRun) := goodIn_app (goodIn_of _ (by decide +kernel)) ggX8_leg_X8_layRun
theorem dX8_leg_0 : decode cX8_leg 0 = .ok (.iload_n 1, 1) := by decide +kernel
theorem dX8_leg_1 : decode cX8_leg 1 = .ok (.iconst 0, 1) := by decide +kernel
theorem dX8_leg_2 : decode cX8_leg 2 = .ok (.iconst 5, 1) := by decide +kernel
theorem dX8_leg_3 : decode cX8_leg 3 = .ok (.invokestatic 95, 3) := by decide +kernel
theorem dX8_leg_6 : decode cX8_leg 6 = .ok (.ifCond .eq 20, 3) := by decide +kernel
theorem dX8_leg_9 : decode cX8_leg 9 = .ok (.iload_n 2, 1) := by decide +kernel
theorem dX8_leg_10 : decode cX8_leg 10 = .ok (.iconst 1, 1) := by decide +kernel
theorem dX8_leg_11 : decode cX8_leg 11 = .ok (.bipush 20, 2) := by decide +kernel
theorem dX8_leg_13 : decode cX8_leg 13 = .ok (.invokestatic 95, 3) := by decide +kernel
theorem dX8_leg_16 : decode cX8_leg 16 = .ok (.ifCond .eq 10, 3) := by decide +kernel
theorem dX8_leg_19 : decode cX8_leg 19 = .ok (.iload_n 3, 1) := by decide +kernel
theorem dX8_leg_20 : decode cX8_leg 20 = .ok (.invokestatic 105, 3) := by decide +kernel
theorem dX8_leg_23 : decode cX8_leg 23 = .ok (.ifCond .ne 5, 3) := by decide +kernel
theorem dX8_leg_26 : decode cX8_leg 26 = .ok (.iconst (-1), 1) := by decide +kernel
theorem dX8_leg_27 : decode cX8_leg 27 = .ok (.ireturn, 1) := by decide +kernel
theorem dX8_leg_28 : decode cX8_leg 28 = .ok (.aload_n 0, 1) := by decide +kernel
theorem dX8_leg_29 : decode cX8_leg 29 = .ok (.getfield 116, 3) := by decide +kernel
theorem dX8_leg_32 : decode cX8_leg 32 = .ok (.bipush 12, 2) := by decide +kernel
theorem dX8_leg_34 : decode cX8_leg 34 = .ok (.if_icmp .ne 6, 3) := by decide +kernel
theorem dX8_leg_37 : decode cX8_leg 37 = .ok (.bipush (-2), 2) := by decide +kernel
theorem dX8_leg_39 : decode cX8_leg 39 = .ok (.ireturn, 1) := by decide +kernel
theorem dX8_leg_40 : decode cX8_leg 40 = .ok (.aload_n 0, 1) := by decide +kernel
theorem dX8_leg_41 : decode cX8_leg 41 = .ok (.getfield 26, 3) := by decide +kernel
theorem dX8_leg_44 : decode cX8_leg 44 = .ok (.aload_n 0, 1) := by decide +kernel
theorem dX8_leg_45 : decode cX8_leg 45 = .ok (.getfield 116, 3) := by decide +kernel
theorem dX8_leg_48 : decode cX8_leg 48 = .ok (.iload_n 1, 1) := by decide +kernel
theorem dX8_leg_49 : decode cX8_leg 49 = .ok (.iastore, 1) := by decide +kernel
theorem dX8_leg_50 : decode cX8_leg 50 = .ok (.aload_n 0, 1) := by decide +kernel
theorem dX8_leg_51 : decode cX8_leg 51 = .ok (.getfield 29, 3) := by decide +kernel
theorem dX8_leg_54 : decode cX8_leg 54 = .ok (.aload_n 0, 1) := by decide +kernel
theorem dX8_leg_55 : decode cX8_leg 55 = .ok (.getfield 116, 3) := by decide +kernel
theorem dX8_leg_58 : decode cX8_leg 58 = .ok (.iload_n 2, 1) := by decide +kernel
theorem dX8_leg_59 : decode cX8_leg 59 = .ok (.iastore, 1) := by decide +kernel
theorem dX8_leg_60 : decode cX8_leg 60 = .ok (.aload_n 0, 1) := by decide +kernel
theorem dX8_leg_61 : decode cX8_leg 61 = .ok (.getfield 32, 3) := by decide +kernel
theorem dX8_leg_64 : decode cX8_leg 64 = .ok (.aload_n 0, 1) := by decide +kernel
theorem dX8_leg_65 : decode cX8_leg 65 = .ok (.getfield 116, 3) := by decide +kernel
theorem dX8_leg_68 : decode cX8_leg 68 = .ok (.iload_n 3, 1) := by decide +kernel
theorem dX8_leg_69 : decode cX8_leg 69 = .ok (.iastore, 1) := by decide +kernel
theorem dX8_leg_70 : decode cX8_leg 70 = .ok (.aload_n 0, 1) := by decide +kernel
theorem dX8_leg_71 : decode cX8_leg 71 = .ok (.dup, 1) := by decide +kernel
theorem dX8_leg_72 : decode cX8_leg 72 = .ok (.getfield 116, 3) := by decide +kernel
theorem dX8_leg_75 : decode cX8_leg 75 = .ok (.iconst 1, 1) := by decide +kernel
theorem dX8_leg_76 : decode cX8_leg 76 = .ok (.iadd, 1) := by decide +kernel
theorem dX8_leg_77 : decode cX8_leg 77 = .ok (.putfield 116, 3) := by decide +kernel
theorem dX8_leg_80 : decode cX8_leg 80 = .ok (.aload_n 0, 1) := by decide +kernel
theorem dX8_leg_81 : decode cX8_leg 81 = .ok (.invokevirtual 122, 3) := by decide +kernel
theorem dX8_leg_84 : decode cX8_leg 84 = .ok (.aload_n 0, 1) := by decide +kernel
theorem dX8_leg_85 : decode cX8_leg 85 = .ok (.getfield 116, 3) := by decide +kernel
theorem dX8_leg_88 : decode cX8_leg 88 = .ok (.ireturn, 1) := by decide +kernel
set_option maxRecDepth 20000 in
theorem ggX8_cut_X8_layRun : GoodIn wsX8_cut wsX8_layRun := goodIn_r _ [6, 7, 1, 8, 9, 10, 11, 12, 13, 14, 15, 16, 17, 5, 18, 19, 20, 21, 22, 23, 24, 25, 26, 27, 28, 29, 30, 31, 32, 33, 34, 35, 36, 37, 38, 39, 40, 41, 42, 43, 44, 45, 46, 47, 48, 49, 50, 51, 52] (by decide +kernel) (by decide +kernel)
set_option maxRecDepth 20000 in
theorem gX8_cut_X8_layRun : GoodIn wsX8_cut (wsV RX8 122 RX8 yX8_layRun wsX8_layRun) := goodIn_app (goodIn_of _ (by decide +kernel)) ggX8_cut_X8_layRun
theorem dX8_cut_0 : decode cX8_cut 0 = .ok (.aload_n 0, 1) := by decide +kernel
theorem dX8_cut_1 : decode cX8_cut 1 = .ok (.getfield 116, 3) := by decide +kernel
theorem dX8_cut_4 : decode cX8_cut 4 = .ok (.ifCond .ne 6, 3) := by decide +kernel
theorem dX8_cut_7 : decode cX8_cut 7 = .ok (.bipush (-4), 2) := by decide +kernel
theorem dX8_cut_9 : decode cX8_cut 9 = .ok (.ireturn, 1) := by decide +kernel
theorem dX8_cut_10 : decode cX8_cut 10 = .ok (.aload_n 0, 1) := by decide +kernel
theorem dX8_cut_11 : decode cX8_cut 11 = .ok (.dup, 1) := by decide +kernel
theorem dX8_cut_12 : decode cX8_cut 12 = .ok (.getfield 116, 3) := by decide +kernel
theorem dX8_cut_15 : decode cX8_cut 15 = .ok (.iconst 1, 1) := by decide +kernel
theorem dX8_cut_16 : decode cX8_cut 16 = .ok (.isub, 1) := by decide +kernel
theorem dX8_cut_17 : decode cX8_cut 17 = .ok (.putfield 116, 3) := by decide +kernel
theorem dX8_cut_20 : decode cX8_cut 20 = .ok (.aload_n 0, 1) := by decide +kernel
theorem dX8_cut_21 : decode cX8_cut 21 = .ok (.invokevirtual 122, 3) := by decide +kernel
theorem dX8_cut_24 : decode cX8_cut 24 = .ok (.aload_n 0, 1) := by decide +kernel
theorem dX8_cut_25 : decode cX8_cut 25 = .ok (.getfield 116, 3) := by decide +kernel
theorem dX8_cut_28 : decode cX8_cut 28 = .ok (.ireturn, 1) := by decide +kernel
set_option maxRecDepth 20000 in
theorem ggX8_where_X8_in : GoodIn wsX8_where wsX8_in := goodIn_r _ [8] (by decide +kernel) (by decide +kernel)
set_option maxRecDepth 20000 in
theorem gX8_where_X8_in : GoodIn wsX8_where (va_wsS RX8 95 yX8_in wsX8_in) := goodIn_app (goodIn_of _ (by decide +kernel)) ggX8_where_X8_in
set_option maxRecDepth 20000 in
theorem ggX8_where_X8_tells : GoodIn wsX8_where wsX8_tells := goodIn_r _ [12, 13, 14, 15, 16, 17, 18, 19, 20, 21, 22, 23, 24, 25, 26, 27, 28, 29, 30, 31, 32, 33, 34, 35, 36, 37, 38, 39, 40, 41, 42, 43, 44, 45, 46, 47] (by decide +kernel) (by decide +kernel)
set_option maxRecDepth 20000 in
theorem gX8_where_X8_tells : GoodIn wsX8_where (wsV RX8 125 RX8 yX8_tells wsX8_tells) := goodIn_app (goodIn_of _ (by decide +kernel)) ggX8_where_X8_tells
theorem dX8_where_0 : decode cX8_where 0 = .ok (.iload_n 1, 1) := by decide +kernel
theorem dX8_where_1 : decode cX8_where 1 = .ok (.iconst 0, 1) := by decide +kernel
theorem dX8_where_2 : decode cX8_where 2 = .ok (.aload_n 0, 1) := by decide +kernel
theorem dX8_where_3 : decode cX8_where 3 = .ok (.getfield 113, 3) := by decide +kernel
theorem dX8_where_6 : decode cX8_where 6 = .ok (.invokestatic 95, 3) := by decide +kernel
theorem dX8_where_9 : decode cX8_where 9 = .ok (.ifCond .eq 53, 3) := by decide +kernel
theorem dX8_where_12 : decode cX8_where 12 = .ok (.iload_n 2, 1) := by decide +kernel
theorem dX8_where_13 : decode cX8_where 13 = .ok (.iconst 0, 1) := by decide +kernel
theorem dX8_where_14 : decode cX8_where 14 = .ok (.iconst 2, 1) := by decide +kernel
theorem dX8_where_15 : decode cX8_where 15 = .ok (.invokestatic 95, 3) := by decide +kernel
theorem dX8_where_18 : decode cX8_where 18 = .ok (.ifCond .eq 44, 3) := by decide +kernel
theorem dX8_where_21 : decode cX8_where 21 = .ok (.aload_n 0, 1) := by decide +kernel
theorem dX8_where_22 : decode cX8_where 22 = .ok (.iload_n 2, 1) := by decide +kernel
theorem dX8_where_23 : decode cX8_where 23 = .ok (.ifCond .ne 12, 3) := by decide +kernel
theorem dX8_where_26 : decode cX8_where 26 = .ok (.aload_n 0, 1) := by decide +kernel
theorem dX8_where_27 : decode cX8_where 27 = .ok (.getfield 41, 3) := by decide +kernel
theorem dX8_where_30 : decode cX8_where 30 = .ok (.iload_n 1, 1) := by decide +kernel
theorem dX8_where_31 : decode cX8_where 31 = .ok (.iaload, 1) := by decide +kernel
theorem dX8_where_32 : decode cX8_where 32 = .ok (.goto 23, 3) := by decide +kernel
theorem dX8_where_35 : decode cX8_where 35 = .ok (.iload_n 2, 1) := by decide +kernel
theorem dX8_where_36 : decode cX8_where 36 = .ok (.iconst 1, 1) := by decide +kernel
theorem dX8_where_37 : decode cX8_where 37 = .ok (.if_icmp .ne 12, 3) := by decide +kernel
theorem dX8_where_40 : decode cX8_where 40 = .ok (.aload_n 0, 1) := by decide +kernel
theorem dX8_where_41 : decode cX8_where 41 = .ok (.getfield 44, 3) := by decide +kernel
theorem dX8_where_44 : decode cX8_where 44 = .ok (.iload_n 1, 1) := by decide +kernel
theorem dX8_where_45 : decode cX8_where 45 = .ok (.iaload, 1) := by decide +kernel
theorem dX8_where_46 : decode cX8_where 46 = .ok (.goto 9, 3) := by decide +kernel
theorem dX8_where_49 : decode cX8_where 49 = .ok (.aload_n 0, 1) := by decide +kernel
theorem dX8_where_50 : decode cX8_where 50 = .ok (.getfield 47, 3) := by decide +kernel
theorem dX8_where_53 : decode cX8_where 53 = .ok (.iload_n 1, 1) := by decide +kernel
theorem dX8_where_54 : decode cX8_where 54 = .ok (.iaload, 1) := by decide +kernel
theorem dX8_where_55 : decode cX8_where 55 = .ok (.iconst 1, 1) := by decide +kernel
theorem dX8_where_56 : decode cX8_where 56 = .ok (.invokevirtual 125, 3) := by decide +kernel
theorem dX8_where_59 : decode cX8_where 59 = .ok (.goto 4, 3) := by decide +kernel
theorem dX8_where_62 : decode cX8_where 62 = .ok (.iconst (-1), 1) := by decide +kernel
theorem dX8_where_63 : decode cX8_where 63 = .ok (.ireturn, 1) := by decide +kernel
set_option maxRecDepth 20000 in
theorem ggX8_isStep_X8_in : GoodIn wsX8_isStep wsX8_in := goodIn_r _ [4] (by decide +kernel) (by decide +kernel)
set_option maxRecDepth 20000 in
theorem gX8_isStep_X8_in : GoodIn wsX8_isStep (va_wsS RX8 95 yX8_in wsX8_in) := goodIn_app (goodIn_of _ (by decide +kernel)) ggX8_isStep_X8_in
theorem dX8_isStep_0 : decode cX8_isStep 0 = .ok (.iload_n 0, 1) := by decide +kernel
theorem dX8_isStep_1 : decode cX8_isStep 1 = .ok (.iconst 0, 1) := by decide +kernel
theorem dX8_isStep_2 : decode cX8_isStep 2 = .ok (.bipush 15, 2) := by decide +kernel
theorem dX8_isStep_4 : decode cX8_isStep 4 = .ok (.invokestatic 95, 3) := by decide +kernel
theorem dX8_isStep_7 : decode cX8_isStep 7 = .ok (.ireturn, 1) := by decide +kernel
set_option maxRecDepth 20000 in
theorem ggX8_grownTo_X8_signOf : GoodIn wsX8_grownTo wsX8_signOf := goodIn_r _ [7] (by decide +kernel) (by decide +kernel)
set_option maxRecDepth 20000 in
theorem gX8_grownTo_X8_signOf : GoodIn wsX8_grownTo (va_wsS RX8 119 yX8_signOf wsX8_signOf) := goodIn_app (goodIn_of _ (by decide +kernel)) ggX8_grownTo_X8_signOf
set_option maxRecDepth 20000 in
theorem ggX8_grownTo_X8_growth : GoodIn wsX8_grownTo wsX8_growth := goodIn_r _ [11, 12, 13, 14, 15, 16, 17, 18, 19, 20, 21, 22, 23, 24, 25, 26, 27, 28, 29, 30, 31, 32, 33, 34, 35, 36, 37, 38, 39, 40, 41, 42, 43, 44, 45, 46, 47] (by decide +kernel) (by decide +kernel)
set_option maxRecDepth 20000 in
theorem gX8_grownTo_X8_growth : GoodIn wsX8_grownTo (wsV RX8 129 RX8 yX8_growth wsX8_growth) := goodIn_app (goodIn_of _ (by decide +kernel)) ggX8_grownTo_X8_growth
theorem dX8_grownTo_0 : decode cX8_grownTo 0 = .ok (.iconst 0, 1) := by decide +kernel
theorem dX8_grownTo_1 : decode cX8_grownTo 1 = .ok (.istore 4, 2) := by decide +kernel
theorem dX8_grownTo_3 : decode cX8_grownTo 3 = .ok (.iconst 0, 1) := by decide +kernel
theorem dX8_grownTo_4 : decode cX8_grownTo 4 = .ok (.istore 5, 2) := by decide +kernel
theorem dX8_grownTo_6 : decode cX8_grownTo 6 = .ok (.iload 5, 2) := by decide +kernel
theorem dX8_grownTo_8 : decode cX8_grownTo 8 = .ok (.aload_n 0, 1) := by decide +kernel
theorem dX8_grownTo_9 : decode cX8_grownTo 9 = .ok (.getfield 113, 3) := by decide +kernel
theorem dX8_grownTo_12 : decode cX8_grownTo 12 = .ok (.if_icmp .ge 60, 3) := by decide +kernel
theorem dX8_grownTo_15 : decode cX8_grownTo 15 = .ok (.iload 5, 2) := by decide +kernel
theorem dX8_grownTo_17 : decode cX8_grownTo 17 = .ok (.iload_n 1, 1) := by decide +kernel
theorem dX8_grownTo_18 : decode cX8_grownTo 18 = .ok (.if_icmp .ge 54, 3) := by decide +kernel
theorem dX8_grownTo_21 : decode cX8_grownTo 21 = .ok (.iload 4, 2) := by decide +kernel
theorem dX8_grownTo_23 : decode cX8_grownTo 23 = .ok (.aload_n 0, 1) := by decide +kernel
theorem dX8_grownTo_24 : decode cX8_grownTo 24 = .ok (.getfield 35, 3) := by decide +kernel
theorem dX8_grownTo_27 : decode cX8_grownTo 27 = .ok (.iload 5, 2) := by decide +kernel
theorem dX8_grownTo_29 : decode cX8_grownTo 29 = .ok (.iaload, 1) := by decide +kernel
theorem dX8_grownTo_30 : decode cX8_grownTo 30 = .ok (.iconst 2, 1) := by decide +kernel
theorem dX8_grownTo_31 : decode cX8_grownTo 31 = .ok (.idiv, 1) := by decide +kernel
theorem dX8_grownTo_32 : decode cX8_grownTo 32 = .ok (.iload_n 3, 1) := by decide +kernel
theorem dX8_grownTo_33 : decode cX8_grownTo 33 = .ok (.if_icmp .ne 29, 3) := by decide +kernel
theorem dX8_grownTo_36 : decode cX8_grownTo 36 = .ok (.aload_n 0, 1) := by decide +kernel
theorem dX8_grownTo_37 : decode cX8_grownTo 37 = .ok (.getfield 35, 3) := by decide +kernel
theorem dX8_grownTo_40 : decode cX8_grownTo 40 = .ok (.iload 5, 2) := by decide +kernel
theorem dX8_grownTo_42 : decode cX8_grownTo 42 = .ok (.iaload, 1) := by decide +kernel
theorem dX8_grownTo_43 : decode cX8_grownTo 43 = .ok (.invokestatic 119, 3) := by decide +kernel
theorem dX8_grownTo_46 : decode cX8_grownTo 46 = .ok (.aload_n 0, 1) := by decide +kernel
theorem dX8_grownTo_47 : decode cX8_grownTo 47 = .ok (.aload_n 0, 1) := by decide +kernel
theorem dX8_grownTo_48 : decode cX8_grownTo 48 = .ok (.getfield 38, 3) := by decide +kernel
theorem dX8_grownTo_51 : decode cX8_grownTo 51 = .ok (.iload 5, 2) := by decide +kernel
theorem dX8_grownTo_53 : decode cX8_grownTo 53 = .ok (.iaload, 1) := by decide +kernel
theorem dX8_grownTo_54 : decode cX8_grownTo 54 = .ok (.iload_n 2, 1) := by decide +kernel
theorem dX8_grownTo_55 : decode cX8_grownTo 55 = .ok (.invokevirtual 129, 3) := by decide +kernel
theorem dX8_grownTo_58 : decode cX8_grownTo 58 = .ok (.imul, 1) := by decide +kernel
theorem dX8_grownTo_59 : decode cX8_grownTo 59 = .ok (.goto 4, 3) := by decide +kernel
theorem dX8_grownTo_62 : decode cX8_grownTo 62 = .ok (.iconst 0, 1) := by decide +kernel
theorem dX8_grownTo_63 : decode cX8_grownTo 63 = .ok (.iadd, 1) := by decide +kernel
theorem dX8_grownTo_64 : decode cX8_grownTo 64 = .ok (.istore 4, 2) := by decide +kernel
theorem dX8_grownTo_66 : decode cX8_grownTo 66 = .ok (.iinc 5 1, 3) := by decide +kernel
theorem dX8_grownTo_69 : decode cX8_grownTo 69 = .ok (.goto (-63), 3) := by decide +kernel
theorem dX8_grownTo_72 : decode cX8_grownTo 72 = .ok (.iload 4, 2) := by decide +kernel
theorem dX8_grownTo_74 : decode cX8_grownTo 74 = .ok (.ireturn, 1) := by decide +kernel
set_option maxRecDepth 20000 in
theorem ggX8_grown_X8_isStep : GoodIn wsX8_grown wsX8_isStep := goodIn_r _ [5, 6, 7, 4, 8] (by decide +kernel) (by decide +kernel)
set_option maxRecDepth 20000 in
theorem gX8_grown_X8_isStep : GoodIn wsX8_grown (va_wsS RX8 132 yX8_isStep wsX8_isStep) := goodIn_app (goodIn_of _ (by decide +kernel)) ggX8_grown_X8_isStep
set_option maxRecDepth 20000 in
theorem ggX8_grown_X8_in : GoodIn wsX8_grown wsX8_in := goodIn_r _ [8] (by decide +kernel) (by decide +kernel)
set_option maxRecDepth 20000 in
theorem gX8_grown_X8_in : GoodIn wsX8_grown (va_wsS RX8 95 yX8_in wsX8_in) := goodIn_app (goodIn_of _ (by decide +kernel)) ggX8_grown_X8_in
set_option maxRecDepth 20000 in
theorem ggX8_grown_X8_grownTo : GoodIn wsX8_grown wsX8_grownTo := goodIn_r _ [12, 1, 13, 14, 15, 16, 4, 17, 18, 19, 20, 21, 22, 23, 29, 30, 31, 32, 33, 34, 35, 36, 37, 38, 39, 40, 41, 42, 43, 44, 45, 46, 47, 48, 49, 50, 51, 52, 53, 54, 55, 56, 57, 58, 59, 60, 61, 62] (by decide +kernel) (by decide +kernel)
set_option maxRecDepth 20000 in
theorem gX8_grown_X8_grownTo : GoodIn wsX8_grown (wsV RX8 135 RX8 yX8_grownTo wsX8_grownTo) := goodIn_app (goodIn_of _ (by decide +kernel)) ggX8_grown_X8_grownTo
set_option maxRecDepth 20000 in
theorem ggX8_grown_X8_tells : GoodIn wsX8_grown wsX8_tells := goodIn_r _ [27, 28, 29, 30, 31, 32, 33, 34, 35, 36, 37, 38, 39, 40, 41, 42, 43, 44, 45, 46, 47, 48, 49, 50, 51, 52, 53, 54, 55, 56, 57, 58, 59, 60, 61, 62] (by decide +kernel) (by decide +kernel)
set_option maxRecDepth 20000 in
theorem gX8_grown_X8_tells : GoodIn wsX8_grown (wsV RX8 125 RX8 yX8_tells wsX8_tells) := goodIn_app (goodIn_of _ (by decide +kernel)) ggX8_grown_X8_tells
theorem dX8_grown_0 : decode cX8_grown 0 = .ok (.iload_n 1, 1) := by decide +kernel
theorem dX8_grown_1 : decode cX8_grown 1 = .ok (.invokestatic 132, 3) := by decide +kernel
theorem dX8_grown_4 : decode cX8_grown 4 = .ok (.ifCond .eq 30, 3) := by decide +kernel
theorem dX8_grown_7 : decode cX8_grown 7 = .ok (.iload_n 2, 1) := by decide +kernel
theorem dX8_grown_8 : decode cX8_grown 8 = .ok (.iconst 0, 1) := by decide +kernel
theorem dX8_grown_9 : decode cX8_grown 9 = .ok (.iconst 2, 1) := by decide +kernel
theorem dX8_grown_10 : decode cX8_grown 10 = .ok (.invokestatic 95, 3) := by decide +kernel
theorem dX8_grown_13 : decode cX8_grown 13 = .ok (.ifCond .eq 21, 3) := by decide +kernel
theorem dX8_grown_16 : decode cX8_grown 16 = .ok (.aload_n 0, 1) := by decide +kernel
theorem dX8_grown_17 : decode cX8_grown 17 = .ok (.aload_n 0, 1) := by decide +kernel
theorem dX8_grown_18 : decode cX8_grown 18 = .ok (.aload_n 0, 1) := by decide +kernel
theorem dX8_grown_19 : decode cX8_grown 19 = .ok (.getfield 113, 3) := by decide +kernel
theorem dX8_grown_22 : decode cX8_grown 22 = .ok (.iload_n 1, 1) := by decide +kernel
theorem dX8_grown_23 : decode cX8_grown 23 = .ok (.iload_n 2, 1) := by decide +kernel
theorem dX8_grown_24 : decode cX8_grown 24 = .ok (.invokevirtual 135, 3) := by decide +kernel
theorem dX8_grown_27 : decode cX8_grown 27 = .ok (.iconst 1, 1) := by decide +kernel
theorem dX8_grown_28 : decode cX8_grown 28 = .ok (.invokevirtual 125, 3) := by decide +kernel
theorem dX8_grown_31 : decode cX8_grown 31 = .ok (.goto 4, 3) := by decide +kernel
theorem dX8_grown_34 : decode cX8_grown 34 = .ok (.iconst (-1), 1) := by decide +kernel
theorem dX8_grown_35 : decode cX8_grown 35 = .ok (.ireturn, 1) := by decide +kernel
set_option maxRecDepth 20000 in
theorem ggX8_move_X8_in : GoodIn wsX8_move wsX8_in := goodIn_r _ [5] (by decide +kernel) (by decide +kernel)
set_option maxRecDepth 20000 in
theorem gX8_move_X8_in : GoodIn wsX8_move (va_wsS RX8 95 yX8_in wsX8_in) := goodIn_app (goodIn_of _ (by decide +kernel)) ggX8_move_X8_in
set_option maxRecDepth 20000 in
theorem ggX8_move_X8_isStep : GoodIn wsX8_move wsX8_isStep := goodIn_r _ [8, 2, 3, 4, 5] (by decide +kernel) (by decide +kernel)
set_option maxRecDepth 20000 in
theorem gX8_move_X8_isStep : GoodIn wsX8_move (va_wsS RX8 132 yX8_isStep wsX8_isStep) := goodIn_app (goodIn_of _ (by decide +kernel)) ggX8_move_X8_isStep
set_option maxRecDepth 20000 in
theorem ggX8_move_X8_grownTo : GoodIn wsX8_move wsX8_grownTo := goodIn_r _ [12, 1, 13, 14, 15, 16, 4, 17, 18, 19, 20, 21, 22, 23, 29, 30, 31, 32, 33, 34, 35, 36, 37, 38, 39, 40, 41, 42, 43, 44, 45, 46, 47, 48, 49, 50, 51, 52, 53, 54, 55, 56, 57, 58, 59, 60, 61, 62] (by decide +kernel) (by decide +kernel)
set_option maxRecDepth 20000 in
theorem gX8_move_X8_grownTo : GoodIn wsX8_move (wsV RX8 135 RX8 yX8_grownTo wsX8_grownTo) := goodIn_app (goodIn_of _ (by decide +kernel)) ggX8_move_X8_grownTo
set_option maxRecDepth 20000 in
theorem ggX8_move_X8_tells : GoodIn wsX8_move wsX8_tells := goodIn_r _ [27, 28, 29, 30, 31, 32, 33, 34, 35, 36, 37, 38, 39, 40, 41, 42, 43, 44, 45, 46, 47, 48, 49, 50, 51, 52, 53, 54, 55, 56, 57, 58, 59, 60, 61, 62] (by decide +kernel) (by decide +kernel)
set_option maxRecDepth 20000 in
theorem gX8_move_X8_tells : GoodIn wsX8_move (wsV RX8 125 RX8 yX8_tells wsX8_tells) := goodIn_app (goodIn_of _ (by decide +kernel)) ggX8_move_X8_tells
theorem dX8_move_0 : decode cX8_move 0 = .ok (.iload_n 1, 1) := by decide +kernel
theorem dX8_move_1 : decode cX8_move 1 = .ok (.iconst 0, 1) := by decide +kernel
theorem dX8_move_2 : decode cX8_move 2 = .ok (.aload_n 0, 1) := by decide +kernel
theorem dX8_move_3 : decode cX8_move 3 = .ok (.getfield 113, 3) := by decide +kernel
theorem dX8_move_6 : decode cX8_move 6 = .ok (.invokestatic 95, 3) := by decide +kernel
theorem dX8_move_9 : decode cX8_move 9 = .ok (.ifCond .eq 25, 3) := by decide +kernel
theorem dX8_move_12 : decode cX8_move 12 = .ok (.iload_n 2, 1) := by decide +kernel
theorem dX8_move_13 : decode cX8_move 13 = .ok (.invokestatic 132, 3) := by decide +kernel
theorem dX8_move_16 : decode cX8_move 16 = .ok (.ifCond .eq 18, 3) := by decide +kernel
theorem dX8_move_19 : decode cX8_move 19 = .ok (.aload_n 0, 1) := by decide +kernel
theorem dX8_move_20 : decode cX8_move 20 = .ok (.aload_n 0, 1) := by decide +kernel
theorem dX8_move_21 : decode cX8_move 21 = .ok (.iload_n 1, 1) := by decide +kernel
theorem dX8_move_22 : decode cX8_move 22 = .ok (.iload_n 2, 1) := by decide +kernel
theorem dX8_move_23 : decode cX8_move 23 = .ok (.iconst 2, 1) := by decide +kernel
theorem dX8_move_24 : decode cX8_move 24 = .ok (.invokevirtual 135, 3) := by decide +kernel
theorem dX8_move_27 : decode cX8_move 27 = .ok (.iconst 1, 1) := by decide +kernel
theorem dX8_move_28 : decode cX8_move 28 = .ok (.invokevirtual 125, 3) := by decide +kernel
theorem dX8_move_31 : decode cX8_move 31 = .ok (.goto 4, 3) := by decide +kernel
theorem dX8_move_34 : decode cX8_move 34 = .ok (.iconst (-1), 1) := by decide +kernel
theorem dX8_move_35 : decode cX8_move 35 = .ok (.ireturn, 1) := by decide +kernel
theorem dX8_root_0 : decode cX8_root 0 = .ok (.iconst 0, 1) := by decide +kernel
theorem dX8_root_1 : decode cX8_root 1 = .ok (.istore_n 2, 1) := by decide +kernel
theorem dX8_root_2 : decode cX8_root 2 = .ok (.ldc 139, 2) := by decide +kernel
theorem dX8_root_4 : decode cX8_root 4 = .ok (.istore_n 3, 1) := by decide +kernel
theorem dX8_root_5 : decode cX8_root 5 = .ok (.iload_n 3, 1) := by decide +kernel
theorem dX8_root_6 : decode cX8_root 6 = .ok (.ifCond .le 34, 3) := by decide +kernel
theorem dX8_root_9 : decode cX8_root 9 = .ok (.iload_n 2, 1) := by decide +kernel
theorem dX8_root_10 : decode cX8_root 10 = .ok (.iload_n 3, 1) := by decide +kernel
theorem dX8_root_11 : decode cX8_root 11 = .ok (.iadd, 1) := by decide +kernel
theorem dX8_root_12 : decode cX8_root 12 = .ok (.i2l, 1) := by decide +kernel
theorem dX8_root_13 : decode cX8_root 13 = .ok (.lstore 4, 2) := by decide +kernel
theorem dX8_root_15 : decode cX8_root 15 = .ok (.iload_n 2, 1) := by decide +kernel
theorem dX8_root_16 : decode cX8_root 16 = .ok (.lload 4, 2) := by decide +kernel
theorem dX8_root_18 : decode cX8_root 18 = .ok (.lload 4, 2) := by decide +kernel
theorem dX8_root_20 : decode cX8_root 20 = .ok (.lmul, 1) := by decide +kernel
theorem dX8_root_21 : decode cX8_root 21 = .ok (.lload_n 0, 1) := by decide +kernel
theorem dX8_root_22 : decode cX8_root 22 = .ok (.lcmp, 1) := by decide +kernel
theorem dX8_root_23 : decode cX8_root 23 = .ok (.ifCond .gt 7, 3) := by decide +kernel
theorem dX8_root_26 : decode cX8_root 26 = .ok (.iload_n 3, 1) := by decide +kernel
theorem dX8_root_27 : decode cX8_root 27 = .ok (.goto 4, 3) := by decide +kernel
theorem dX8_root_30 : decode cX8_root 30 = .ok (.iconst 0, 1) := by decide +kernel
theorem dX8_root_31 : decode cX8_root 31 = .ok (.iadd, 1) := by decide +kernel
theorem dX8_root_32 : decode cX8_root 32 = .ok (.istore_n 2, 1) := by decide +kernel
theorem dX8_root_33 : decode cX8_root 33 = .ok (.iload_n 3, 1) := by decide +kernel
theorem dX8_root_34 : decode cX8_root 34 = .ok (.iconst 2, 1) := by decide +kernel
theorem dX8_root_35 : decode cX8_root 35 = .ok (.idiv, 1) := by decide +kernel
theorem dX8_root_36 : decode cX8_root 36 = .ok (.istore_n 3, 1) := by decide +kernel
theorem dX8_root_37 : decode cX8_root 37 = .ok (.goto (-32), 3) := by decide +kernel
theorem dX8_root_40 : decode cX8_root 40 = .ok (.iload_n 2, 1) := by decide +kernel
theorem dX8_root_41 : decode cX8_root 41 = .ok (.ireturn, 1) := by decide +kernel
theorem dX8_squares_0 : decode cX8_squares 0 = .ok (.lload_n 0, 1) := by decide +kernel
theorem dX8_squares_1 : decode cX8_squares 1 = .ok (.lload_n 0, 1) := by decide +kernel
theorem dX8_squares_2 : decode cX8_squares 2 = .ok (.lmul, 1) := by decide +kernel
theorem dX8_squares_3 : decode cX8_squares 3 = .ok (.lload_n 2, 1) := by decide +kernel
theorem dX8_squares_4 : decode cX8_squares 4 = .ok (.lload_n 2, 1) := by decide +kernel
theorem dX8_squares_5 : decode cX8_squares 5 = .ok (.lmul, 1) := by decide +kernel
theorem dX8_squares_6 : decode cX8_squares 6 = .ok (.ladd, 1) := by decide +kernel
theorem dX8_squares_7 : decode cX8_squares 7 = .ok (.lload 4, 2) := by decide +kernel
theorem dX8_squares_9 : decode cX8_squares 9 = .ok (.lload 4, 2) := by decide +kernel
theorem dX8_squares_11 : decode cX8_squares 11 = .ok (.lmul, 1) := by decide +kernel
theorem dX8_squares_12 : decode cX8_squares 12 = .ok (.ladd, 1) := by decide +kernel
theorem dX8_squares_13 : decode cX8_squares 13 = .ok (.lreturn, 1) := by decide +kernel
set_option maxRecDepth 20000 in
theorem ggX8_room_X8_squares : GoodIn wsX8_room wsX8_squares := goodIn_r _ [8] (by decide +kernel) (by decide +kernel)
set_option maxRecDepth 20000 in
theorem gX8_room_X8_squares : GoodIn wsX8_room (va_wsS RX8 140 yX8_squares wsX8_squares) := goodIn_app (goodIn_of _ (by decide +kernel)) ggX8_room_X8_squares
set_option maxRecDepth 20000 in
theorem ggX8_room_X8_root : GoodIn wsX8_room wsX8_root := goodIn_r _ [11, 12] (by decide +kernel) (by decide +kernel)
set_option maxRecDepth 20000 in
theorem gX8_room_X8_root : GoodIn wsX8_room (va_wsS RX8 144 yX8_root wsX8_root) := goodIn_app (goodIn_of _ (by decide +kernel)) ggX8_room_X8_root
set_option maxRecDepth 20000 in
theorem ggX8_room_X8_grownTo : GoodIn wsX8_room wsX8_grownTo := goodIn_r _ [16, 2, 17, 18, 19, 20, 7, 21, 22, 23, 24, 25, 26, 27, 28, 29, 30, 31, 32, 33, 34, 35, 36, 37, 38, 39, 40, 41, 42, 43, 44, 45, 46, 47, 48, 49, 50, 51, 52, 53, 54, 55, 56, 57, 58, 59, 60, 61] (by decide +kernel) (by decide +kernel)
set_option maxRecDepth 20000 in
theorem gX8_room_X8_grownTo : GoodIn wsX8_room (wsV RX8 135 RX8 yX8_grownTo wsX8_grownTo) := goodIn_app (goodIn_of _ (by decide +kernel)) ggX8_room_X8_grownTo
theorem dX8_room_0 : decode cX8_room 0 = .ok (.aload_n 0, 1) := by decide +kernel
theorem dX8_room_1 : decode cX8_room 1 = .ok (.getfield 41, 3) := by decide +kernel
theorem dX8_room_4 : decode cX8_room 4 = .ok (.aload_n 0, 1) := by decide +kernel
theorem dX8_room_5 : decode cX8_room 5 = .ok (.getfield 113, 3) := by decide +kernel
theorem dX8_room_8 : decode cX8_room 8 = .ok (.iaload, 1) := by decide +kernel
theorem dX8_room_9 : decode cX8_room 9 = .ok (.i2l, 1) := by decide +kernel
theorem dX8_room_10 : decode cX8_room 10 = .ok (.aload_n 0, 1) := by decide +kernel
theorem dX8_room_11 : decode cX8_room 11 = .ok (.getfield 44, 3) := by decide +kernel
theorem dX8_room_14 : decode cX8_room 14 = .ok (.aload_n 0, 1) := by decide +kernel
theorem dX8_room_15 : decode cX8_room 15 = .ok (.getfield 113, 3) := by decide +kernel
theorem dX8_room_18 : decode cX8_room 18 = .ok (.iaload, 1) := by decide +kernel
theorem dX8_room_19 : decode cX8_room 19 = .ok (.i2l, 1) := by decide +kernel
theorem dX8_room_20 : decode cX8_room 20 = .ok (.aload_n 0, 1) := by decide +kernel
theorem dX8_room_21 : decode cX8_room 21 = .ok (.getfield 47, 3) := by decide +kernel
theorem dX8_room_24 : decode cX8_room 24 = .ok (.aload_n 0, 1) := by decide +kernel
theorem dX8_room_25 : decode cX8_room 25 = .ok (.getfield 113, 3) := by decide +kernel
theorem dX8_room_28 : decode cX8_room 28 = .ok (.iaload, 1) := by decide +kernel
theorem dX8_room_29 : decode cX8_room 29 = .ok (.i2l, 1) := by decide +kernel
theorem dX8_room_30 : decode cX8_room 30 = .ok (.invokestatic 140, 3) := by decide +kernel
theorem dX8_room_33 : decode cX8_room 33 = .ok (.invokestatic 144, 3) := by decide +kernel
theorem dX8_room_36 : decode cX8_room 36 = .ok (.istore 4, 2) := by decide +kernel
theorem dX8_room_38 : decode cX8_room 38 = .ok (.aload_n 0, 1) := by decide +kernel
theorem dX8_room_39 : decode cX8_room 39 = .ok (.getfield 113, 3) := by decide +kernel
theorem dX8_room_42 : decode cX8_room 42 = .ok (.iload_n 3, 1) := by decide +kernel
theorem dX8_room_43 : decode cX8_room 43 = .ok (.iadd, 1) := by decide +kernel
theorem dX8_room_44 : decode cX8_room 44 = .ok (.iload 4, 2) := by decide +kernel
theorem dX8_room_46 : decode cX8_room 46 = .ok (.isub, 1) := by decide +kernel
theorem dX8_room_47 : decode cX8_room 47 = .ok (.istore 5, 2) := by decide +kernel
theorem dX8_room_49 : decode cX8_room 49 = .ok (.bipush 30, 2) := by decide +kernel
theorem dX8_room_51 : decode cX8_room 51 = .ok (.iload 5, 2) := by decide +kernel
theorem dX8_room_53 : decode cX8_room 53 = .ok (.imul, 1) := by decide +kernel
theorem dX8_room_54 : decode cX8_room 54 = .ok (.iload 5, 2) := by decide +kernel
theorem dX8_room_56 : decode cX8_room 56 = .ok (.imul, 1) := by decide +kernel
theorem dX8_room_57 : decode cX8_room 57 = .ok (.iload_n 2, 1) := by decide +kernel
theorem dX8_room_58 : decode cX8_room 58 = .ok (.aload_n 0, 1) := by decide +kernel
theorem dX8_room_59 : decode cX8_room 59 = .ok (.aload_n 0, 1) := by decide +kernel
theorem dX8_room_60 : decode cX8_room 60 = .ok (.getfield 113, 3) := by decide +kernel
theorem dX8_room_63 : decode cX8_room 63 = .ok (.iload_n 1, 1) := by decide +kernel
theorem dX8_room_64 : decode cX8_room 64 = .ok (.iconst 0, 1) := by decide +kernel
theorem dX8_room_65 : decode cX8_room 65 = .ok (.invokevirtual 135, 3) := by decide +kernel
theorem dX8_room_68 : decode cX8_room 68 = .ok (.i2l, 1) := by decide +kernel
theorem dX8_room_69 : decode cX8_room 69 = .ok (.aload_n 0, 1) := by decide +kernel
theorem dX8_room_70 : decode cX8_room 70 = .ok (.aload_n 0, 1) := by decide +kernel
theorem dX8_room_71 : decode cX8_room 71 = .ok (.getfield 113, 3) := by decide +kernel
theorem dX8_room_74 : decode cX8_room 74 = .ok (.iload_n 1, 1) := by decide +kernel
theorem dX8_room_75 : decode cX8_room 75 = .ok (.iconst 1, 1) := by decide +kernel
theorem dX8_room_76 : decode cX8_room 76 = .ok (.invokevirtual 135, 3) := by decide +kernel
theorem dX8_room_79 : decode cX8_room 79 = .ok (.i2l, 1) := by decide +kernel
theorem dX8_room_80 : decode cX8_room 80 = .ok (.aload_n 0, 1) := by decide +kernel
theorem dX8_room_81 : decode cX8_room 81 = .ok (.aload_n 0, 1) := by decide +kernel
theorem dX8_room_82 : decode cX8_room 82 = .ok (.getfield 113, 3) := by decide +kernel
theorem dX8_room_85 : decode cX8_room 85 = .ok (.iload_n 1, 1) := by decide +kernel
theorem dX8_room_86 : decode cX8_room 86 = .ok (.iconst 2, 1) := by decide +kernel
theorem dX8_room_87 : decode cX8_room 87 = .ok (.invokevirtual 135, 3) := by decide +kernel
theorem dX8_room_90 : decode cX8_room 90 = .ok (.i2l, 1) := by decide +kernel
theorem dX8_room_91 : decode cX8_room 91 = .ok (.invokestatic 140, 3) := by decide +kernel
theorem dX8_room_94 : decode cX8_room 94 = .ok (.invokestatic 144, 3) := by decide +kernel
theorem dX8_room_97 : decode cX8_room 97 = .ok (.imul, 1) := by decide +kernel
theorem dX8_room_98 : decode cX8_room 98 = .ok (.isub, 1) := by decide +kernel
theorem dX8_room_99 : decode cX8_room 99 = .ok (.ireturn, 1) := by decide +kernel
set_option maxRecDepth 20000 in
theorem ggX8_soft_X8_isStep : GoodIn wsX8_soft wsX8_isStep := goodIn_r _ [5, 6, 7, 4, 8] (by decide +kernel) (by decide +kernel)
set_option maxRecDepth 20000 in
theorem gX8_soft_X8_isStep : GoodIn wsX8_soft (va_wsS RX8 132 yX8_isStep wsX8_isStep) := goodIn_app (goodIn_of _ (by decide +kernel)) ggX8_soft_X8_isStep
set_option maxRecDepth 20000 in
theorem ggX8_soft_X8_in : GoodIn wsX8_soft wsX8_in := goodIn_r _ [8] (by decide +kernel) (by decide +kernel)
set_option maxRecDepth 20000 in
theorem gX8_soft_X8_in : GoodIn wsX8_soft (va_wsS RX8 95 yX8_in wsX8_in) := goodIn_app (goodIn_of _ (by decide +kernel)) ggX8_soft_X8_in
set_option maxRecDepth 20000 in
theorem ggX8_soft_X8_room : GoodIn wsX8_soft wsX8_room := goodIn_r _ [12, 13, 14, 15, 16, 17, 18, 4, 19, 20, 21, 22, 23, 24, 25, 26, 27, 28, 29, 30, 31, 32, 33, 34, 35, 36, 37, 38, 44, 45, 46, 47, 48, 49, 50, 51, 52, 53, 54, 55, 56, 57, 58, 59, 60, 61, 62, 63, 64, 65, 66, 67, 68, 69, 70, 71, 72, 73, 74, 75, 76, 77] (by decide +kernel) (by decide +kernel)
set_option maxRecDepth 20000 in
theorem gX8_soft_X8_room : GoodIn wsX8_soft (wsV RX8 148 RX8 yX8_room wsX8_room) := goodIn_app (goodIn_of _ (by decide +kernel)) ggX8_soft_X8_room
set_option maxRecDepth 20000 in
theorem ggX8_soft_X8_tells : GoodIn wsX8_soft wsX8_tells := goodIn_r _ [42, 43, 44, 45, 46, 47, 48, 49, 50, 51, 52, 53, 54, 55, 56, 57, 58, 59, 60, 61, 62, 63, 64, 65, 66, 67, 68, 69, 70, 71, 72, 73, 74, 75, 76, 77] (by decide +kernel) (by decide +kernel)
set_option maxRecDepth 20000 in
theorem gX8_soft_X8_tells : GoodIn wsX8_soft (wsV RX8 125 RX8 yX8_tells wsX8_tells) := goodIn_app (goodIn_of _ (by decide +kernel)) ggX8_soft_X8_tells
theorem dX8_soft_0 : decode cX8_soft 0 = .ok (.iload_n 1, 1) := by decide +kernel
theorem dX8_soft_1 : decode cX8_soft 1 = .ok (.invokestatic 132, 3) := by decide +kernel
theorem dX8_soft_4 : decode cX8_soft 4 = .ok (.ifCond .eq 13, 3) := by decide +kernel
theorem dX8_soft_7 : decode cX8_soft 7 = .ok (.iload_n 2, 1) := by decide +kernel
theorem dX8_soft_8 : decode cX8_soft 8 = .ok (.iconst 1, 1) := by decide +kernel
theorem dX8_soft_9 : decode cX8_soft 9 = .ok (.bipush 100, 2) := by decide +kernel
theorem dX8_soft_11 : decode cX8_soft 11 = .ok (.invokestatic 95, 3) := by decide +kernel
theorem dX8_soft_14 : decode cX8_soft 14 = .ok (.ifCond .ne 5, 3) := by decide +kernel
theorem dX8_soft_17 : decode cX8_soft 17 = .ok (.iconst (-1), 1) := by decide +kernel
theorem dX8_soft_18 : decode cX8_soft 18 = .ok (.ireturn, 1) := by decide +kernel
theorem dX8_soft_19 : decode cX8_soft 19 = .ok (.aload_n 0, 1) := by decide +kernel
theorem dX8_soft_20 : decode cX8_soft 20 = .ok (.getfield 116, 3) := by decide +kernel
theorem dX8_soft_23 : decode cX8_soft 23 = .ok (.ifCond .ne 6, 3) := by decide +kernel
theorem dX8_soft_26 : decode cX8_soft 26 = .ok (.bipush (-4), 2) := by decide +kernel
theorem dX8_soft_28 : decode cX8_soft 28 = .ok (.ireturn, 1) := by decide +kernel
theorem dX8_soft_29 : decode cX8_soft 29 = .ok (.aload_n 0, 1) := by decide +kernel
theorem dX8_soft_30 : decode cX8_soft 30 = .ok (.iload_n 1, 1) := by decide +kernel
theorem dX8_soft_31 : decode cX8_soft 31 = .ok (.iload_n 2, 1) := by decide +kernel
theorem dX8_soft_32 : decode cX8_soft 32 = .ok (.iconst 0, 1) := by decide +kernel
theorem dX8_soft_33 : decode cX8_soft 33 = .ok (.invokevirtual 148, 3) := by decide +kernel
theorem dX8_soft_36 : decode cX8_soft 36 = .ok (.istore_n 3, 1) := by decide +kernel
theorem dX8_soft_37 : decode cX8_soft 37 = .ok (.aload_n 0, 1) := by decide +kernel
theorem dX8_soft_38 : decode cX8_soft 38 = .ok (.iload_n 3, 1) := by decide +kernel
theorem dX8_soft_39 : decode cX8_soft 39 = .ok (.iload_n 3, 1) := by decide +kernel
theorem dX8_soft_40 : decode cX8_soft 40 = .ok (.ifCond .lt 7, 3) := by decide +kernel
theorem dX8_soft_43 : decode cX8_soft 43 = .ok (.iconst 1, 1) := by decide +kernel
theorem dX8_soft_44 : decode cX8_soft 44 = .ok (.goto 4, 3) := by decide +kernel
theorem dX8_soft_47 : decode cX8_soft 47 = .ok (.iconst 0, 1) := by decide +kernel
theorem dX8_soft_48 : decode cX8_soft 48 = .ok (.invokevirtual 125, 3) := by decide +kernel
theorem dX8_soft_51 : decode cX8_soft 51 = .ok (.ireturn, 1) := by decide +kernel
theorem dX8_isOnRun_0 : decode cX8_isOnRun 0 = .ok (.iconst 0, 1) := by decide +kernel
theorem dX8_isOnRun_1 : decode cX8_isOnRun 1 = .ok (.istore 4, 2) := by decide +kernel
theorem dX8_isOnRun_3 : decode cX8_isOnRun 3 = .ok (.iconst 0, 1) := by decide +kernel
theorem dX8_isOnRun_4 : decode cX8_isOnRun 4 = .ok (.istore 5, 2) := by decide +kernel
theorem dX8_isOnRun_6 : decode cX8_isOnRun 6 = .ok (.iload 5, 2) := by decide +kernel
theorem dX8_isOnRun_8 : decode cX8_isOnRun 8 = .ok (.aload_n 0, 1) := by decide +kernel
theorem dX8_isOnRun_9 : decode cX8_isOnRun 9 = .ok (.getfield 113, 3) := by decide +kernel
theorem dX8_isOnRun_12 : decode cX8_isOnRun 12 = .ok (.if_icmp .gt 54, 3) := by decide +kernel
theorem dX8_isOnRun_15 : decode cX8_isOnRun 15 = .ok (.iload 4, 2) := by decide +kernel
theorem dX8_isOnRun_17 : decode cX8_isOnRun 17 = .ok (.ifCond .ne 36, 3) := by decide +kernel
theorem dX8_isOnRun_20 : decode cX8_isOnRun 20 = .ok (.aload_n 0, 1) := by decide +kernel
theorem dX8_isOnRun_21 : decode cX8_isOnRun 21 = .ok (.getfield 41, 3) := by decide +kernel
theorem dX8_isOnRun_24 : decode cX8_isOnRun 24 = .ok (.iload 5, 2) := by decide +kernel
theorem dX8_isOnRun_26 : decode cX8_isOnRun 26 = .ok (.iaload, 1) := by decide +kernel
theorem dX8_isOnRun_27 : decode cX8_isOnRun 27 = .ok (.iload_n 1, 1) := by decide +kernel
theorem dX8_isOnRun_28 : decode cX8_isOnRun 28 = .ok (.if_icmp .ne 29, 3) := by decide +kernel
theorem dX8_isOnRun_31 : decode cX8_isOnRun 31 = .ok (.aload_n 0, 1) := by decide +kernel
theorem dX8_isOnRun_32 : decode cX8_isOnRun 32 = .ok (.getfield 44, 3) := by decide +kernel
theorem dX8_isOnRun_35 : decode cX8_isOnRun 35 = .ok (.iload 5, 2) := by decide +kernel
theorem dX8_isOnRun_37 : decode cX8_isOnRun 37 = .ok (.iaload, 1) := by decide +kernel
theorem dX8_isOnRun_38 : decode cX8_isOnRun 38 = .ok (.iload_n 2, 1) := by decide +kernel
theorem dX8_isOnRun_39 : decode cX8_isOnRun 39 = .ok (.if_icmp .ne 18, 3) := by decide +kernel
theorem dX8_isOnRun_42 : decode cX8_isOnRun 42 = .ok (.aload_n 0, 1) := by decide +kernel
theorem dX8_isOnRun_43 : decode cX8_isOnRun 43 = .ok (.getfield 47, 3) := by decide +kernel
theorem dX8_isOnRun_46 : decode cX8_isOnRun 46 = .ok (.iload 5, 2) := by decide +kernel
theorem dX8_isOnRun_48 : decode cX8_isOnRun 48 = .ok (.iaload, 1) := by decide +kernel
theorem dX8_isOnRun_49 : decode cX8_isOnRun 49 = .ok (.iload_n 3, 1) := by decide +kernel
theorem dX8_isOnRun_50 : decode cX8_isOnRun 50 = .ok (.if_icmp .ne 7, 3) := by decide +kernel
theorem dX8_isOnRun_53 : decode cX8_isOnRun 53 = .ok (.iconst 1, 1) := by decide +kernel
theorem dX8_isOnRun_54 : decode cX8_isOnRun 54 = .ok (.goto 4, 3) := by decide +kernel
theorem dX8_isOnRun_57 : decode cX8_isOnRun 57 = .ok (.iconst 0, 1) := by decide +kernel
theorem dX8_isOnRun_58 : decode cX8_isOnRun 58 = .ok (.istore 4, 2) := by decide +kernel
theorem dX8_isOnRun_60 : decode cX8_isOnRun 60 = .ok (.iinc 5 1, 3) := by decide +kernel
theorem dX8_isOnRun_63 : decode cX8_isOnRun 63 = .ok (.goto (-57), 3) := by decide +kernel
theorem dX8_isOnRun_66 : decode cX8_isOnRun 66 = .ok (.iload 4, 2) := by decide +kernel
theorem dX8_isOnRun_68 : decode cX8_isOnRun 68 = .ok (.ireturn, 1) := by decide +kernel
set_option maxRecDepth 20000 in
theorem ggX8_isTaken_X8_signOf : GoodIn wsX8_isTaken wsX8_signOf := goodIn_r _ [7] (by decide +kernel) (by decide +kernel)
set_option maxRecDepth 20000 in
theorem gX8_isTaken_X8_signOf : GoodIn wsX8_isTaken (va_wsS RX8 119 yX8_signOf wsX8_signOf) := goodIn_app (goodIn_of _ (by decide +kernel)) ggX8_isTaken_X8_signOf
set_option maxRecDepth 20000 in
theorem ggX8_isTaken_X8_isOnRun : GoodIn wsX8_isTaken wsX8_isOnRun := goodIn_r _ [11, 12, 1, 2, 3, 13, 14, 15, 16, 17, 18, 19, 20, 21, 22, 23, 24, 25, 26, 27, 28, 29, 30, 31, 32, 33, 34, 35, 36, 37, 38, 39, 40, 41, 42, 43, 44, 45, 46] (by decide +kernel) (by decide +kernel)
set_option maxRecDepth 20000 in
theorem gX8_isTaken_X8_isOnRun : GoodIn wsX8_isTaken (wsV RX8 151 RX8 yX8_isOnRun wsX8_isOnRun) := goodIn_app (goodIn_of _ (by decide +kernel)) ggX8_isTaken_X8_isOnRun
theorem dX8_isTaken_0 : decode cX8_isTaken 0 = .ok (.iload_n 3, 1) := by decide +kernel
theorem dX8_isTaken_1 : decode cX8_isTaken 1 = .ok (.iload_n 2, 1) := by decide +kernel
theorem dX8_isTaken_2 : decode cX8_isTaken 2 = .ok (.invokestatic 119, 3) := by decide +kernel
theorem dX8_isTaken_5 : decode cX8_isTaken 5 = .ok (.imul, 1) := by decide +kernel
theorem dX8_isTaken_6 : decode cX8_isTaken 6 = .ok (.istore 4, 2) := by decide +kernel
theorem dX8_isTaken_8 : decode cX8_isTaken 8 = .ok (.aload_n 0, 1) := by decide +kernel
theorem dX8_isTaken_9 : decode cX8_isTaken 9 = .ok (.aload_n 0, 1) := by decide +kernel
theorem dX8_isTaken_10 : decode cX8_isTaken 10 = .ok (.getfield 41, 3) := by decide +kernel
theorem dX8_isTaken_13 : decode cX8_isTaken 13 = .ok (.iload_n 1, 1) := by decide +kernel
theorem dX8_isTaken_14 : decode cX8_isTaken 14 = .ok (.iaload, 1) := by decide +kernel
theorem dX8_isTaken_15 : decode cX8_isTaken 15 = .ok (.iload_n 2, 1) := by decide +kernel
theorem dX8_isTaken_16 : decode cX8_isTaken 16 = .ok (.iconst 2, 1) := by decide +kernel
theorem dX8_isTaken_17 : decode cX8_isTaken 17 = .ok (.idiv, 1) := by decide +kernel
theorem dX8_isTaken_18 : decode cX8_isTaken 18 = .ok (.ifCond .ne 8, 3) := by decide +kernel
theorem dX8_isTaken_21 : decode cX8_isTaken 21 = .ok (.iload 4, 2) := by decide +kernel
theorem dX8_isTaken_23 : decode cX8_isTaken 23 = .ok (.goto 4, 3) := by decide +kernel
theorem dX8_isTaken_26 : decode cX8_isTaken 26 = .ok (.iconst 0, 1) := by decide +kernel
theorem dX8_isTaken_27 : decode cX8_isTaken 27 = .ok (.iadd, 1) := by decide +kernel
theorem dX8_isTaken_28 : decode cX8_isTaken 28 = .ok (.aload_n 0, 1) := by decide +kernel
theorem dX8_isTaken_29 : decode cX8_isTaken 29 = .ok (.getfield 44, 3) := by decide +kernel
theorem dX8_isTaken_32 : decode cX8_isTaken 32 = .ok (.iload_n 1, 1) := by decide +kernel
theorem dX8_isTaken_33 : decode cX8_isTaken 33 = .ok (.iaload, 1) := by decide +kernel
theorem dX8_isTaken_34 : decode cX8_isTaken 34 = .ok (.iload_n 2, 1) := by decide +kernel
theorem dX8_isTaken_35 : decode cX8_isTaken 35 = .ok (.iconst 2, 1) := by decide +kernel
theorem dX8_isTaken_36 : decode cX8_isTaken 36 = .ok (.idiv, 1) := by decide +kernel
theorem dX8_isTaken_37 : decode cX8_isTaken 37 = .ok (.iconst 1, 1) := by decide +kernel
theorem dX8_isTaken_38 : decode cX8_isTaken 38 = .ok (.if_icmp .ne 8, 3) := by decide +kernel
theorem dX8_isTaken_41 : decode cX8_isTaken 41 = .ok (.iload 4, 2) := by decide +kernel
theorem dX8_isTaken_43 : decode cX8_isTaken 43 = .ok (.goto 4, 3) := by decide +kernel
theorem dX8_isTaken_46 : decode cX8_isTaken 46 = .ok (.iconst 0, 1) := by decide +kernel
theorem dX8_isTaken_47 : decode cX8_isTaken 47 = .ok (.iadd, 1) := by decide +kernel
theorem dX8_isTaken_48 : decode cX8_isTaken 48 = .ok (.aload_n 0, 1) := by decide +kernel
theorem dX8_isTaken_49 : decode cX8_isTaken 49 = .ok (.getfield 47, 3) := by decide +kernel
theorem dX8_isTaken_52 : decode cX8_isTaken 52 = .ok (.iload_n 1, 1) := by decide +kernel
theorem dX8_isTaken_53 : decode cX8_isTaken 53 = .ok (.iaload, 1) := by decide +kernel
theorem dX8_isTaken_54 : decode cX8_isTaken 54 = .ok (.iload_n 2, 1) := by decide +kernel
theorem dX8_isTaken_55 : decode cX8_isTaken 55 = .ok (.iconst 2, 1) := by decide +kernel
theorem dX8_isTaken_56 : decode cX8_isTaken 56 = .ok (.idiv, 1) := by decide +kernel
theorem dX8_isTaken_57 : decode cX8_isTaken 57 = .ok (.iconst 2, 1) := by decide +kernel
theorem dX8_isTaken_58 : decode cX8_isTaken 58 = .ok (.if_icmp .ne 8, 3) := by decide +kernel
theorem dX8_isTaken_61 : decode cX8_isTaken 61 = .ok (.iload 4, 2) := by decide +kernel
theorem dX8_isTaken_63 : decode cX8_isTaken 63 = .ok (.goto 4, 3) := by decide +kernel
theorem dX8_isTaken_66 : decode cX8_isTaken 66 = .ok (.iconst 0, 1) := by decide +kernel
theorem dX8_isTaken_67 : decode cX8_isTaken 67 = .ok (.iadd, 1) := by decide +kernel
theorem dX8_isTaken_68 : decode cX8_isTaken 68 = .ok (.invokevirtual 151, 3) := by decide +kernel
theorem dX8_isTaken_71 : decode cX8_isTaken 71 = .ok (.ireturn, 1) := by decide +kernel
set_option maxRecDepth 20000 in
theorem ggX8_isFree_X8_isTaken : GoodIn wsX8_isFree wsX8_isTaken := goodIn_r _ [6, 7, 8, 9, 10, 11, 5, 12, 13, 14, 15, 16, 17, 18, 19, 20, 21, 22, 23, 24, 25, 26, 27, 28, 29, 30, 31, 32, 33, 34, 35, 36, 37, 38, 39, 40, 41, 42, 43, 44, 45, 46, 47, 48, 49, 50, 51] (by decide +kernel) (by decide +kernel)
set_option maxRecDepth 20000 in
theorem gX8_isFree_X8_isTaken : GoodIn wsX8_isFree (wsV RX8 154 RX8 yX8_isTaken wsX8_isTaken) := goodIn_app (goodIn_of _ (by decide +kernel)) ggX8_isFree_X8_isTaken
theorem dX8_isFree_0 : decode cX8_isFree 0 = .ok (.iconst 0, 1) := by decide +kernel
theorem dX8_isFree_1 : decode cX8_isFree 1 = .ok (.istore 4, 2) := by decide +kernel
theorem dX8_isFree_3 : decode cX8_isFree 3 = .ok (.iconst 0, 1) := by decide +kernel
theorem dX8_isFree_4 : decode cX8_isFree 4 = .ok (.istore 5, 2) := by decide +kernel
theorem dX8_isFree_6 : decode cX8_isFree 6 = .ok (.iload 5, 2) := by decide +kernel
theorem dX8_isFree_8 : decode cX8_isFree 8 = .ok (.iload_n 1, 1) := by decide +kernel
theorem dX8_isFree_9 : decode cX8_isFree 9 = .ok (.if_icmp .ge 21, 3) := by decide +kernel
theorem dX8_isFree_12 : decode cX8_isFree 12 = .ok (.iload 4, 2) := by decide +kernel
theorem dX8_isFree_14 : decode cX8_isFree 14 = .ok (.aload_n 0, 1) := by decide +kernel
theorem dX8_isFree_15 : decode cX8_isFree 15 = .ok (.getfield 29, 3) := by decide +kernel
theorem dX8_isFree_18 : decode cX8_isFree 18 = .ok (.iload 5, 2) := by decide +kernel
theorem dX8_isFree_20 : decode cX8_isFree 20 = .ok (.iaload, 1) := by decide +kernel
theorem dX8_isFree_21 : decode cX8_isFree 21 = .ok (.iadd, 1) := by decide +kernel
theorem dX8_isFree_22 : decode cX8_isFree 22 = .ok (.istore 4, 2) := by decide +kernel
theorem dX8_isFree_24 : decode cX8_isFree 24 = .ok (.iinc 5 1, 3) := by decide +kernel
theorem dX8_isFree_27 : decode cX8_isFree 27 = .ok (.goto (-21), 3) := by decide +kernel
theorem dX8_isFree_30 : decode cX8_isFree 30 = .ok (.aload_n 0, 1) := by decide +kernel
theorem dX8_isFree_31 : decode cX8_isFree 31 = .ok (.getfield 29, 3) := by decide +kernel
theorem dX8_isFree_34 : decode cX8_isFree 34 = .ok (.iload_n 1, 1) := by decide +kernel
theorem dX8_isFree_35 : decode cX8_isFree 35 = .ok (.iaload, 1) := by decide +kernel
theorem dX8_isFree_36 : decode cX8_isFree 36 = .ok (.iconst 3, 1) := by decide +kernel
theorem dX8_isFree_37 : decode cX8_isFree 37 = .ok (.idiv, 1) := by decide +kernel
theorem dX8_isFree_38 : decode cX8_isFree 38 = .ok (.istore 5, 2) := by decide +kernel
theorem dX8_isFree_40 : decode cX8_isFree 40 = .ok (.iconst 1, 1) := by decide +kernel
theorem dX8_isFree_41 : decode cX8_isFree 41 = .ok (.istore 6, 2) := by decide +kernel
theorem dX8_isFree_43 : decode cX8_isFree 43 = .ok (.iconst 1, 1) := by decide +kernel
theorem dX8_isFree_44 : decode cX8_isFree 44 = .ok (.istore 7, 2) := by decide +kernel
theorem dX8_isFree_46 : decode cX8_isFree 46 = .ok (.iload 7, 2) := by decide +kernel
theorem dX8_isFree_48 : decode cX8_isFree 48 = .ok (.iload_n 3, 1) := by decide +kernel
theorem dX8_isFree_49 : decode cX8_isFree 49 = .ok (.if_icmp .gt 53, 3) := by decide +kernel
theorem dX8_isFree_52 : decode cX8_isFree 52 = .ok (.iload 6, 2) := by decide +kernel
theorem dX8_isFree_54 : decode cX8_isFree 54 = .ok (.ifCond .eq 39, 3) := by decide +kernel
theorem dX8_isFree_57 : decode cX8_isFree 57 = .ok (.aload_n 0, 1) := by decide +kernel
theorem dX8_isFree_58 : decode cX8_isFree 58 = .ok (.iload 4, 2) := by decide +kernel
theorem dX8_isFree_60 : decode cX8_isFree 60 = .ok (.iload 5, 2) := by decide +kernel
theorem dX8_isFree_62 : decode cX8_isFree 62 = .ok (.iadd, 1) := by decide +kernel
theorem dX8_isFree_63 : decode cX8_isFree 63 = .ok (.iload_n 2, 1) := by decide +kernel
theorem dX8_isFree_64 : decode cX8_isFree 64 = .ok (.iload 7, 2) := by decide +kernel
theorem dX8_isFree_66 : decode cX8_isFree 66 = .ok (.invokevirtual 154, 3) := by decide +kernel
theorem dX8_isFree_69 : decode cX8_isFree 69 = .ok (.ifCond .ne 24, 3) := by decide +kernel
theorem dX8_isFree_72 : decode cX8_isFree 72 = .ok (.aload_n 0, 1) := by decide +kernel
theorem dX8_isFree_73 : decode cX8_isFree 73 = .ok (.iload 4, 2) := by decide +kernel
theorem dX8_isFree_75 : decode cX8_isFree 75 = .ok (.iconst 2, 1) := by decide +kernel
theorem dX8_isFree_76 : decode cX8_isFree 76 = .ok (.iload 5, 2) := by decide +kernel
theorem dX8_isFree_78 : decode cX8_isFree 78 = .ok (.imul, 1) := by decide +kernel
theorem dX8_isFree_79 : decode cX8_isFree 79 = .ok (.iadd, 1) := by decide +kernel
theorem dX8_isFree_80 : decode cX8_isFree 80 = .ok (.iload_n 2, 1) := by decide +kernel
theorem dX8_isFree_81 : decode cX8_isFree 81 = .ok (.iload 7, 2) := by decide +kernel
theorem dX8_isFree_83 : decode cX8_isFree 83 = .ok (.invokevirtual 154, 3) := by decide +kernel
theorem dX8_isFree_86 : decode cX8_isFree 86 = .ok (.ifCond .ne 7, 3) := by decide +kernel
theorem dX8_isFree_89 : decode cX8_isFree 89 = .ok (.iconst 1, 1) := by decide +kernel
theorem dX8_isFree_90 : decode cX8_isFree 90 = .ok (.goto 4, 3) := by decide +kernel
theorem dX8_isFree_93 : decode cX8_isFree 93 = .ok (.iconst 0, 1) := by decide +kernel
theorem dX8_isFree_94 : decode cX8_isFree 94 = .ok (.istore 6, 2) := by decide +kernel
theorem dX8_isFree_96 : decode cX8_isFree 96 = .ok (.iinc 7 1, 3) := by decide +kernel
theorem dX8_isFree_99 : decode cX8_isFree 99 = .ok (.goto (-53), 3) := by decide +kernel
theorem dX8_isFree_102 : decode cX8_isFree 102 = .ok (.iload 4, 2) := by decide +kernel
theorem dX8_isFree_104 : decode cX8_isFree 104 = .ok (.iload 5, 2) := by decide +kernel
theorem dX8_isFree_106 : decode cX8_isFree 106 = .ok (.iadd, 1) := by decide +kernel
theorem dX8_isFree_107 : decode cX8_isFree 107 = .ok (.istore 7, 2) := by decide +kernel
theorem dX8_isFree_109 : decode cX8_isFree 109 = .ok (.iload 7, 2) := by decide +kernel
theorem dX8_isFree_111 : decode cX8_isFree 111 = .ok (.iload 4, 2) := by decide +kernel
theorem dX8_isFree_113 : decode cX8_isFree 113 = .ok (.iconst 2, 1) := by decide +kernel
theorem dX8_isFree_114 : decode cX8_isFree 114 = .ok (.iload 5, 2) := by decide +kernel
theorem dX8_isFree_116 : decode cX8_isFree 116 = .ok (.imul, 1) := by decide +kernel
theorem dX8_isFree_117 : decode cX8_isFree 117 = .ok (.iadd, 1) := by decide +kernel
theorem dX8_isFree_118 : decode cX8_isFree 118 = .ok (.if_icmp .gt 32, 3) := by decide +kernel
theorem dX8_isFree_121 : decode cX8_isFree 121 = .ok (.iload 6, 2) := by decide +kernel
theorem dX8_isFree_123 : decode cX8_isFree 123 = .ok (.ifCond .eq 18, 3) := by decide +kernel
theorem dX8_isFree_126 : decode cX8_isFree 126 = .ok (.aload_n 0, 1) := by decide +kernel
theorem dX8_isFree_127 : decode cX8_isFree 127 = .ok (.iload 7, 2) := by decide +kernel
theorem dX8_isFree_129 : decode cX8_isFree 129 = .ok (.iload_n 2, 1) := by decide +kernel
theorem dX8_isFree_130 : decode cX8_isFree 130 = .ok (.iload_n 3, 1) := by decide +kernel
theorem dX8_isFree_131 : decode cX8_isFree 131 = .ok (.invokevirtual 154, 3) := by decide +kernel
theorem dX8_isFree_134 : decode cX8_isFree 134 = .ok (.ifCond .ne 7, 3) := by decide +kernel
theorem dX8_isFree_137 : decode cX8_isFree 137 = .ok (.iconst 1, 1) := by decide +kernel
theorem dX8_isFree_138 : decode cX8_isFree 138 = .ok (.goto 4, 3) := by decide +kernel
theorem dX8_isFree_141 : decode cX8_isFree 141 = .ok (.iconst 0, 1) := by decide +kernel
theorem dX8_isFree_142 : decode cX8_isFree 142 = .ok (.istore 6, 2) := by decide +kernel
theorem dX8_isFree_144 : decode cX8_isFree 144 = .ok (.iinc 7 1, 3) := by decide +kernel
theorem dX8_isFree_147 : decode cX8_isFree 147 = .ok (.goto (-38), 3) := by decide +kernel
theorem dX8_isFree_150 : decode cX8_isFree 150 = .ok (.iload 6, 2) := by decide +kernel
theorem dX8_isFree_152 : decode cX8_isFree 152 = .ok (.ireturn, 1) := by decide +kernel
set_option maxRecDepth 20000 in
theorem ggX8_loopFor_X8_room : GoodIn wsX8_loopFor wsX8_room := goodIn_r _ [5, 6, 7, 8, 9, 10, 11, 4, 12, 13, 14, 15, 16, 17, 18, 19, 20, 21, 22, 23, 24, 25, 26, 27, 28, 29, 30, 31, 45, 46, 47, 48, 49, 50, 51, 52, 53, 54, 55, 56, 57, 58, 59, 60, 61, 62, 63, 64, 65, 66, 67, 68, 69, 70, 71, 72, 73, 74, 75, 76, 77, 78] (by decide +kernel) (by decide +kernel)
set_option maxRecDepth 20000 in
theorem gX8_loopFor_X8_room : GoodIn wsX8_loopFor (wsV RX8 148 RX8 yX8_room wsX8_room) := goodIn_app (goodIn_of _ (by decide +kernel)) ggX8_loopFor_X8_room
set_option maxRecDepth 20000 in
theorem ggX8_loopFor_X8_isFree : GoodIn wsX8_loopFor wsX8_isFree := goodIn_r _ [35, 36, 37, 38, 39, 4, 40, 6, 8, 9, 23, 24, 25, 41, 42, 43, 44, 7, 45, 46, 47, 48, 49, 50, 51, 52, 53, 54, 55, 56, 57, 58, 59, 60, 61, 62, 63, 64, 65, 66, 67, 68, 69, 70, 71, 72, 73, 74, 75, 76, 77, 78] (by decide +kernel) (by decide +kernel)
set_option maxRecDepth 20000 in
theorem gX8_loopFor_X8_isFree : GoodIn wsX8_loopFor (wsV RX8 157 RX8 yX8_isFree wsX8_isFree) := goodIn_app (goodIn_of _ (by decide +kernel)) ggX8_loopFor_X8_isFree
theorem dX8_loopFor_0 : decode cX8_loopFor 0 = .ok (.iconst 1, 1) := by decide +kernel
theorem dX8_loopFor_1 : decode cX8_loopFor 1 = .ok (.istore 5, 2) := by decide +kernel
theorem dX8_loopFor_3 : decode cX8_loopFor 3 = .ok (.iload 5, 2) := by decide +kernel
theorem dX8_loopFor_5 : decode cX8_loopFor 5 = .ok (.bipush 20, 2) := by decide +kernel
theorem dX8_loopFor_7 : decode cX8_loopFor 7 = .ok (.if_icmp .gt 37, 3) := by decide +kernel
theorem dX8_loopFor_10 : decode cX8_loopFor 10 = .ok (.aload_n 0, 1) := by decide +kernel
theorem dX8_loopFor_11 : decode cX8_loopFor 11 = .ok (.iload_n 3, 1) := by decide +kernel
theorem dX8_loopFor_12 : decode cX8_loopFor 12 = .ok (.iload 4, 2) := by decide +kernel
theorem dX8_loopFor_14 : decode cX8_loopFor 14 = .ok (.iconst 2, 1) := by decide +kernel
theorem dX8_loopFor_15 : decode cX8_loopFor 15 = .ok (.iload 5, 2) := by decide +kernel
theorem dX8_loopFor_17 : decode cX8_loopFor 17 = .ok (.imul, 1) := by decide +kernel
theorem dX8_loopFor_18 : decode cX8_loopFor 18 = .ok (.invokevirtual 148, 3) := by decide +kernel
theorem dX8_loopFor_21 : decode cX8_loopFor 21 = .ok (.ifCond .lt 17, 3) := by decide +kernel
theorem dX8_loopFor_24 : decode cX8_loopFor 24 = .ok (.aload_n 0, 1) := by decide +kernel
theorem dX8_loopFor_25 : decode cX8_loopFor 25 = .ok (.iload_n 1, 1) := by decide +kernel
theorem dX8_loopFor_26 : decode cX8_loopFor 26 = .ok (.iload_n 2, 1) := by decide +kernel
theorem dX8_loopFor_27 : decode cX8_loopFor 27 = .ok (.iload 5, 2) := by decide +kernel
theorem dX8_loopFor_29 : decode cX8_loopFor 29 = .ok (.invokevirtual 157, 3) := by decide +kernel
theorem dX8_loopFor_32 : decode cX8_loopFor 32 = .ok (.ifCond .eq 6, 3) := by decide +kernel
theorem dX8_loopFor_35 : decode cX8_loopFor 35 = .ok (.iload 5, 2) := by decide +kernel
theorem dX8_loopFor_37 : decode cX8_loopFor 37 = .ok (.ireturn, 1) := by decide +kernel
theorem dX8_loopFor_38 : decode cX8_loopFor 38 = .ok (.iinc 5 1, 3) := by decide +kernel
theorem dX8_loopFor_41 : decode cX8_loopFor 41 = .ok (.goto (-38), 3) := by decide +kernel
theorem dX8_loopFor_44 : decode cX8_loopFor 44 = .ok (.bipush (-9), 2) := by decide +kernel
theorem dX8_loopFor_46 : decode cX8_loopFor 46 = .ok (.ireturn, 1) := by decide +kernel
set_option maxRecDepth 20000 in
theorem ggX8_loop_X8_in : GoodIn wsX8_loop wsX8_in := goodIn_r _ [7] (by decide +kernel) (by decide +kernel)
set_option maxRecDepth 20000 in
theorem gX8_loop_X8_in : GoodIn wsX8_loop (va_wsS RX8 95 yX8_in wsX8_in) := goodIn_app (goodIn_of _ (by decide +kernel)) ggX8_loop_X8_in
set_option maxRecDepth 20000 in
theorem ggX8_loop_X8_isStep : GoodIn wsX8_loop wsX8_isStep := goodIn_r _ [10, 4, 5, 6, 7] (by decide +kernel) (by decide +kernel)
set_option maxRecDepth 20000 in
theorem gX8_loop_X8_isStep : GoodIn wsX8_loop (va_wsS RX8 132 yX8_isStep wsX8_isStep) := goodIn_app (goodIn_of _ (by decide +kernel)) ggX8_loop_X8_isStep
set_option maxRecDepth 20000 in
theorem ggX8_loop_X8_loopFor : GoodIn wsX8_loop wsX8_loopFor := goodIn_r _ [14, 15, 16, 17, 6, 18, 19, 20, 21, 22, 23, 24, 25, 26, 27, 28, 29, 30, 31, 32, 33, 34, 35, 36, 37, 38, 39, 40, 41, 42, 43, 44, 45, 46, 47, 48, 3, 49, 50, 51, 52, 53, 54, 55, 56, 57, 58, 59, 60, 61, 62, 63, 64, 65, 66, 67, 68, 69, 70, 71, 72, 73, 74, 75, 76, 77, 78, 79, 80, 81, 82, 83, 84, 85, 86, 87, 88, 89, 90] (by decide +kernel) (by decide +kernel)
set_option maxRecDepth 20000 in
theorem gX8_loop_X8_loopFor : GoodIn wsX8_loop (wsV RX8 160 RX8 yX8_loopFor wsX8_loopFor) := goodIn_app (goodIn_of _ (by decide +kernel)) ggX8_loop_X8_loopFor
theorem dX8_loop_0 : decode cX8_loop 0 = .ok (.iload_n 1, 1) := by decide +kernel
theorem dX8_loop_1 : decode cX8_loop 1 = .ok (.iconst 0, 1) := by decide +kernel
theorem dX8_loop_2 : decode cX8_loop 2 = .ok (.aload_n 0, 1) := by decide +kernel
theorem dX8_loop_3 : decode cX8_loop 3 = .ok (.getfield 116, 3) := by decide +kernel
theorem dX8_loop_6 : decode cX8_loop 6 = .ok (.iconst 1, 1) := by decide +kernel
theorem dX8_loop_7 : decode cX8_loop 7 = .ok (.isub, 1) := by decide +kernel
theorem dX8_loop_8 : decode cX8_loop 8 = .ok (.invokestatic 95, 3) := by decide +kernel
theorem dX8_loop_11 : decode cX8_loop 11 = .ok (.ifCond .eq 44, 3) := by decide +kernel
theorem dX8_loop_14 : decode cX8_loop 14 = .ok (.iload_n 2, 1) := by decide +kernel
theorem dX8_loop_15 : decode cX8_loop 15 = .ok (.iconst 0, 1) := by decide +kernel
theorem dX8_loop_16 : decode cX8_loop 16 = .ok (.iconst 5, 1) := by decide +kernel
theorem dX8_loop_17 : decode cX8_loop 17 = .ok (.invokestatic 95, 3) := by decide +kernel
theorem dX8_loop_20 : decode cX8_loop 20 = .ok (.ifCond .eq 35, 3) := by decide +kernel
theorem dX8_loop_23 : decode cX8_loop 23 = .ok (.iload_n 2, 1) := by decide +kernel
theorem dX8_loop_24 : decode cX8_loop 24 = .ok (.iconst 2, 1) := by decide +kernel
theorem dX8_loop_25 : decode cX8_loop 25 = .ok (.idiv, 1) := by decide +kernel
theorem dX8_loop_26 : decode cX8_loop 26 = .ok (.aload_n 0, 1) := by decide +kernel
theorem dX8_loop_27 : decode cX8_loop 27 = .ok (.getfield 26, 3) := by decide +kernel
theorem dX8_loop_30 : decode cX8_loop 30 = .ok (.iload_n 1, 1) := by decide +kernel
theorem dX8_loop_31 : decode cX8_loop 31 = .ok (.iaload, 1) := by decide +kernel
theorem dX8_loop_32 : decode cX8_loop 32 = .ok (.iconst 2, 1) := by decide +kernel
theorem dX8_loop_33 : decode cX8_loop 33 = .ok (.idiv, 1) := by decide +kernel
theorem dX8_loop_34 : decode cX8_loop 34 = .ok (.if_icmp .eq 21, 3) := by decide +kernel
theorem dX8_loop_37 : decode cX8_loop 37 = .ok (.iload_n 3, 1) := by decide +kernel
theorem dX8_loop_38 : decode cX8_loop 38 = .ok (.invokestatic 132, 3) := by decide +kernel
theorem dX8_loop_41 : decode cX8_loop 41 = .ok (.ifCond .eq 14, 3) := by decide +kernel
theorem dX8_loop_44 : decode cX8_loop 44 = .ok (.iload 4, 2) := by decide +kernel
theorem dX8_loop_46 : decode cX8_loop 46 = .ok (.iconst 1, 1) := by decide +kernel
theorem dX8_loop_47 : decode cX8_loop 47 = .ok (.bipush 100, 2) := by decide +kernel
theorem dX8_loop_49 : decode cX8_loop 49 = .ok (.invokestatic 95, 3) := by decide +kernel
theorem dX8_loop_52 : decode cX8_loop 52 = .ok (.ifCond .ne 5, 3) := by decide +kernel
theorem dX8_loop_55 : decode cX8_loop 55 = .ok (.iconst (-1), 1) := by decide +kernel
theorem dX8_loop_56 : decode cX8_loop 56 = .ok (.ireturn, 1) := by decide +kernel
theorem dX8_loop_57 : decode cX8_loop 57 = .ok (.aload_n 0, 1) := by decide +kernel
theorem dX8_loop_58 : decode cX8_loop 58 = .ok (.getfield 29, 3) := by decide +kernel
theorem dX8_loop_61 : decode cX8_loop 61 = .ok (.iload_n 1, 1) := by decide +kernel
theorem dX8_loop_62 : decode cX8_loop 62 = .ok (.iaload, 1) := by decide +kernel
theorem dX8_loop_63 : decode cX8_loop 63 = .ok (.iconst 3, 1) := by decide +kernel
theorem dX8_loop_64 : decode cX8_loop 64 = .ok (.if_icmp .ge 8, 3) := by decide +kernel
theorem dX8_loop_67 : decode cX8_loop 67 = .ok (.bipush (-4), 2) := by decide +kernel
theorem dX8_loop_69 : decode cX8_loop 69 = .ok (.goto 12, 3) := by decide +kernel
theorem dX8_loop_72 : decode cX8_loop 72 = .ok (.aload_n 0, 1) := by decide +kernel
theorem dX8_loop_73 : decode cX8_loop 73 = .ok (.iload_n 1, 1) := by decide +kernel
theorem dX8_loop_74 : decode cX8_loop 74 = .ok (.iload_n 2, 1) := by decide +kernel
theorem dX8_loop_75 : decode cX8_loop 75 = .ok (.iload_n 3, 1) := by decide +kernel
theorem dX8_loop_76 : decode cX8_loop 76 = .ok (.iload 4, 2) := by decide +kernel
theorem dX8_loop_78 : decode cX8_loop 78 = .ok (.invokevirtual 160, 3) := by decide +kernel
theorem dX8_loop_81 : decode cX8_loop 81 = .ok (.ireturn, 1) := by decide +kernel
set_option maxRecDepth 20000 in
theorem ggX8_bestLoop_X8_isStep : GoodIn wsX8_bestLoop wsX8_isStep := goodIn_r _ [7, 8, 9, 6, 10] (by decide +kernel) (by decide +kernel)
set_option maxRecDepth 20000 in
theorem gX8_bestLoop_X8_isStep : GoodIn wsX8_bestLoop (va_wsS RX8 132 yX8_isStep wsX8_isStep) := goodIn_app (goodIn_of _ (by decide +kernel)) ggX8_bestLoop_X8_isStep
set_option maxRecDepth 20000 in
theorem ggX8_bestLoop_X8_in : GoodIn wsX8_bestLoop wsX8_in := goodIn_r _ [10] (by decide +kernel) (by decide +kernel)
set_option maxRecDepth 20000 in
theorem gX8_bestLoop_X8_in : GoodIn wsX8_bestLoop (va_wsS RX8 95 yX8_in wsX8_in) := goodIn_app (goodIn_of _ (by decide +kernel)) ggX8_bestLoop_X8_in
set_option maxRecDepth 20000 in
theorem ggX8_bestLoop_X8_loopFor : GoodIn wsX8_bestLoop wsX8_loopFor := goodIn_r _ [14, 15, 16, 17, 6, 18, 19, 20, 21, 22, 23, 24, 25, 26, 27, 28, 29, 30, 31, 32, 33, 34, 35, 36, 37, 38, 39, 40, 41, 42, 43, 44, 45, 46, 47, 48, 3, 49, 50, 51, 52, 53, 54, 55, 56, 62, 63, 64, 65, 66, 67, 68, 69, 70, 71, 72, 73, 74, 75, 76, 77, 78, 79, 80, 81, 82, 83, 84, 85, 86, 87, 88, 89, 90, 91, 92, 93, 94, 95] (by decide +kernel) (by decide +kernel)
set_option maxRecDepth 20000 in
theorem gX8_bestLoop_X8_loopFor : GoodIn wsX8_bestLoop (wsV RX8 160 RX8 yX8_loopFor wsX8_loopFor) := goodIn_app (goodIn_of _ (by decide +kernel)) ggX8_bestLoop_X8_loopFor
set_option maxRecDepth 20000 in
theorem ggX8_bestLoop_X8_tells : GoodIn wsX8_bestLoop wsX8_tells := goodIn_r _ [60, 61, 62, 63, 64, 65, 66, 67, 68, 69, 70, 71, 72, 73, 74, 75, 76, 77, 78, 79, 80, 81, 82, 83, 84, 85, 86, 87, 88, 89, 90, 91, 92, 93, 94, 95] (by decide +kernel) (by decide +kernel)
set_option maxRecDepth 20000 in
theorem gX8_bestLoop_X8_tells : GoodIn wsX8_bestLoop (wsV RX8 125 RX8 yX8_tells wsX8_tells) := goodIn_app (goodIn_of _ (by decide +kernel)) ggX8_bestLoop_X8_tells
theorem dX8_bestLoop_0 : decode cX8_bestLoop 0 = .ok (.iload_n 1, 1) := by decide +kernel
theorem dX8_bestLoop_1 : decode cX8_bestLoop 1 = .ok (.invokestatic 132, 3) := by decide +kernel
theorem dX8_bestLoop_4 : decode cX8_bestLoop 4 = .ok (.ifCond .eq 13, 3) := by decide +kernel
theorem dX8_bestLoop_7 : decode cX8_bestLoop 7 = .ok (.iload_n 2, 1) := by decide +kernel
theorem dX8_bestLoop_8 : decode cX8_bestLoop 8 = .ok (.iconst 1, 1) := by decide +kernel
theorem dX8_bestLoop_9 : decode cX8_bestLoop 9 = .ok (.bipush 100, 2) := by decide +kernel
theorem dX8_bestLoop_11 : decode cX8_bestLoop 11 = .ok (.invokestatic 95, 3) := by decide +kernel
theorem dX8_bestLoop_14 : decode cX8_bestLoop 14 = .ok (.ifCond .ne 5, 3) := by decide +kernel
theorem dX8_bestLoop_17 : decode cX8_bestLoop 17 = .ok (.iconst (-1), 1) := by decide +kernel
theorem dX8_bestLoop_18 : decode cX8_bestLoop 18 = .ok (.ireturn, 1) := by decide +kernel
theorem dX8_bestLoop_19 : decode cX8_bestLoop 19 = .ok (.aload_n 0, 1) := by decide +kernel
theorem dX8_bestLoop_20 : decode cX8_bestLoop 20 = .ok (.getfield 116, 3) := by decide +kernel
theorem dX8_bestLoop_23 : decode cX8_bestLoop 23 = .ok (.ifCond .ne 6, 3) := by decide +kernel
theorem dX8_bestLoop_26 : decode cX8_bestLoop 26 = .ok (.bipush (-4), 2) := by decide +kernel
theorem dX8_bestLoop_28 : decode cX8_bestLoop 28 = .ok (.ireturn, 1) := by decide +kernel
theorem dX8_bestLoop_29 : decode cX8_bestLoop 29 = .ok (.bipush (-9), 2) := by decide +kernel
theorem dX8_bestLoop_31 : decode cX8_bestLoop 31 = .ok (.istore_n 3, 1) := by decide +kernel
theorem dX8_bestLoop_32 : decode cX8_bestLoop 32 = .ok (.iconst 0, 1) := by decide +kernel
theorem dX8_bestLoop_33 : decode cX8_bestLoop 33 = .ok (.istore 4, 2) := by decide +kernel
theorem dX8_bestLoop_35 : decode cX8_bestLoop 35 = .ok (.iconst 0, 1) := by decide +kernel
theorem dX8_bestLoop_36 : decode cX8_bestLoop 36 = .ok (.istore 5, 2) := by decide +kernel
theorem dX8_bestLoop_38 : decode cX8_bestLoop 38 = .ok (.iconst 0, 1) := by decide +kernel
theorem dX8_bestLoop_39 : decode cX8_bestLoop 39 = .ok (.istore 6, 2) := by decide +kernel
theorem dX8_bestLoop_41 : decode cX8_bestLoop 41 = .ok (.iload 6, 2) := by decide +kernel
theorem dX8_bestLoop_43 : decode cX8_bestLoop 43 = .ok (.aload_n 0, 1) := by decide +kernel
theorem dX8_bestLoop_44 : decode cX8_bestLoop 44 = .ok (.getfield 116, 3) := by decide +kernel
theorem dX8_bestLoop_47 : decode cX8_bestLoop 47 = .ok (.if_icmp .ge 100, 3) := by decide +kernel
theorem dX8_bestLoop_50 : decode cX8_bestLoop 50 = .ok (.iconst 0, 1) := by decide +kernel
theorem dX8_bestLoop_51 : decode cX8_bestLoop 51 = .ok (.istore 7, 2) := by decide +kernel
theorem dX8_bestLoop_53 : decode cX8_bestLoop 53 = .ok (.iload 7, 2) := by decide +kernel
theorem dX8_bestLoop_55 : decode cX8_bestLoop 55 = .ok (.bipush 6, 2) := by decide +kernel
theorem dX8_bestLoop_57 : decode cX8_bestLoop 57 = .ok (.if_icmp .ge 84, 3) := by decide +kernel
theorem dX8_bestLoop_60 : decode cX8_bestLoop 60 = .ok (.iload 7, 2) := by decide +kernel
theorem dX8_bestLoop_62 : decode cX8_bestLoop 62 = .ok (.iconst 2, 1) := by decide +kernel
theorem dX8_bestLoop_63 : decode cX8_bestLoop 63 = .ok (.idiv, 1) := by decide +kernel
theorem dX8_bestLoop_64 : decode cX8_bestLoop 64 = .ok (.aload_n 0, 1) := by decide +kernel
theorem dX8_bestLoop_65 : decode cX8_bestLoop 65 = .ok (.getfield 26, 3) := by decide +kernel
theorem dX8_bestLoop_68 : decode cX8_bestLoop 68 = .ok (.iload 6, 2) := by decide +kernel
theorem dX8_bestLoop_70 : decode cX8_bestLoop 70 = .ok (.iaload, 1) := by decide +kernel
theorem dX8_bestLoop_71 : decode cX8_bestLoop 71 = .ok (.iconst 2, 1) := by decide +kernel
theorem dX8_bestLoop_72 : decode cX8_bestLoop 72 = .ok (.idiv, 1) := by decide +kernel
theorem dX8_bestLoop_73 : decode cX8_bestLoop 73 = .ok (.if_icmp .eq 14, 3) := by decide +kernel
theorem dX8_bestLoop_76 : decode cX8_bestLoop 76 = .ok (.aload_n 0, 1) := by decide +kernel
theorem dX8_bestLoop_77 : decode cX8_bestLoop 77 = .ok (.getfield 29, 3) := by decide +kernel
theorem dX8_bestLoop_80 : decode cX8_bestLoop 80 = .ok (.iload 6, 2) := by decide +kernel
theorem dX8_bestLoop_82 : decode cX8_bestLoop 82 = .ok (.iaload, 1) := by decide +kernel
theorem dX8_bestLoop_83 : decode cX8_bestLoop 83 = .ok (.iconst 3, 1) := by decide +kernel
theorem dX8_bestLoop_84 : decode cX8_bestLoop 84 = .ok (.if_icmp .ge 8, 3) := by decide +kernel
theorem dX8_bestLoop_87 : decode cX8_bestLoop 87 = .ok (.bipush (-9), 2) := by decide +kernel
theorem dX8_bestLoop_89 : decode cX8_bestLoop 89 = .ok (.goto 13, 3) := by decide +kernel
theorem dX8_bestLoop_92 : decode cX8_bestLoop 92 = .ok (.aload_n 0, 1) := by decide +kernel
theorem dX8_bestLoop_93 : decode cX8_bestLoop 93 = .ok (.iload 6, 2) := by decide +kernel
theorem dX8_bestLoop_95 : decode cX8_bestLoop 95 = .ok (.iload 7, 2) := by decide +kernel
theorem dX8_bestLoop_97 : decode cX8_bestLoop 97 = .ok (.iload_n 1, 1) := by decide +kernel
theorem dX8_bestLoop_98 : decode cX8_bestLoop 98 = .ok (.iload_n 2, 1) := by decide +kernel
theorem dX8_bestLoop_99 : decode cX8_bestLoop 99 = .ok (.invokevirtual 160, 3) := by decide +kernel
theorem dX8_bestLoop_102 : decode cX8_bestLoop 102 = .ok (.istore 8, 2) := by decide +kernel
theorem dX8_bestLoop_104 : decode cX8_bestLoop 104 = .ok (.iload 8, 2) := by decide +kernel
theorem dX8_bestLoop_106 : decode cX8_bestLoop 106 = .ok (.bipush (-9), 2) := by decide +kernel
theorem dX8_bestLoop_108 : decode cX8_bestLoop 108 = .ok (.if_icmp .eq 27, 3) := by decide +kernel
theorem dX8_bestLoop_111 : decode cX8_bestLoop 111 = .ok (.iload_n 3, 1) := by decide +kernel
theorem dX8_bestLoop_112 : decode cX8_bestLoop 112 = .ok (.bipush (-9), 2) := by decide +kernel
theorem dX8_bestLoop_114 : decode cX8_bestLoop 114 = .ok (.if_icmp .eq 10, 3) := by decide +kernel
theorem dX8_bestLoop_117 : decode cX8_bestLoop 117 = .ok (.iload 8, 2) := by decide +kernel
theorem dX8_bestLoop_119 : decode cX8_bestLoop 119 = .ok (.iload 4, 2) := by decide +kernel
theorem dX8_bestLoop_121 : decode cX8_bestLoop 121 = .ok (.if_icmp .ge 14, 3) := by decide +kernel
theorem dX8_bestLoop_124 : decode cX8_bestLoop 124 = .ok (.iload 6, 2) := by decide +kernel
theorem dX8_bestLoop_126 : decode cX8_bestLoop 126 = .ok (.istore_n 3, 1) := by decide +kernel
theorem dX8_bestLoop_127 : decode cX8_bestLoop 127 = .ok (.iload 8, 2) := by decide +kernel
theorem dX8_bestLoop_129 : decode cX8_bestLoop 129 = .ok (.istore 4, 2) := by decide +kernel
theorem dX8_bestLoop_131 : decode cX8_bestLoop 131 = .ok (.iload 7, 2) := by decide +kernel
theorem dX8_bestLoop_133 : decode cX8_bestLoop 133 = .ok (.istore 5, 2) := by decide +kernel
theorem dX8_bestLoop_135 : decode cX8_bestLoop 135 = .ok (.iinc 7 1, 3) := by decide +kernel
theorem dX8_bestLoop_138 : decode cX8_bestLoop 138 = .ok (.goto (-85), 3) := by decide +kernel
theorem dX8_bestLoop_141 : decode cX8_bestLoop 141 = .ok (.iinc 6 1, 3) := by decide +kernel
theorem dX8_bestLoop_144 : decode cX8_bestLoop 144 = .ok (.goto (-103), 3) := by decide +kernel
theorem dX8_bestLoop_147 : decode cX8_bestLoop 147 = .ok (.iload_n 3, 1) := by decide +kernel
theorem dX8_bestLoop_148 : decode cX8_bestLoop 148 = .ok (.bipush (-9), 2) := by decide +kernel
theorem dX8_bestLoop_150 : decode cX8_bestLoop 150 = .ok (.if_icmp .ne 8, 3) := by decide +kernel
theorem dX8_bestLoop_153 : decode cX8_bestLoop 153 = .ok (.bipush (-9), 2) := by decide +kernel
theorem dX8_bestLoop_155 : decode cX8_bestLoop 155 = .ok (.goto 16, 3) := by decide +kernel
theorem dX8_bestLoop_158 : decode cX8_bestLoop 158 = .ok (.aload_n 0, 1) := by decide +kernel
