theorem dX11_findLeast_55 : decode cX11_findLeast 55 = .ok (.iinc 3 1, 3) := by decide +kernel
theorem dX11_findLeast_58 : decode cX11_findLeast 58 = .ok (.goto (-21), 3) := by decide +kernel
theorem dX11_findLeast_61 : decode cX11_findLeast 61 = .ok (.iconst 5, 1) := by decide +kernel
theorem dX11_findLeast_62 : decode cX11_findLeast 62 = .ok (.istore_n 3, 1) := by decide +kernel
theorem dX11_findLeast_63 : decode cX11_findLeast 63 = .ok (.iload_n 3, 1) := by decide +kernel
theorem dX11_findLeast_64 : decode cX11_findLeast 64 = .ok (.ifCond .lt 107, 3) := by decide +kernel
theorem dX11_findLeast_67 : decode cX11_findLeast 67 = .ok (.iconst 0, 1) := by decide +kernel
theorem dX11_findLeast_68 : decode cX11_findLeast 68 = .ok (.istore 4, 2) := by decide +kernel
theorem dX11_findLeast_70 : decode cX11_findLeast 70 = .ok (.iload 4, 2) := by decide +kernel
theorem dX11_findLeast_72 : decode cX11_findLeast 72 = .ok (.bipush 10, 2) := by decide +kernel
theorem dX11_findLeast_74 : decode cX11_findLeast 74 = .ok (.iload_n 1, 1) := by decide +kernel
theorem dX11_findLeast_75 : decode cX11_findLeast 75 = .ok (.imul, 1) := by decide +kernel
theorem dX11_findLeast_76 : decode cX11_findLeast 76 = .ok (.if_icmp .gt 89, 3) := by decide +kernel
theorem dX11_findLeast_79 : decode cX11_findLeast 79 = .ok (.aload_n 0, 1) := by decide +kernel
theorem dX11_findLeast_80 : decode cX11_findLeast 80 = .ok (.iload_n 3, 1) := by decide +kernel
theorem dX11_findLeast_81 : decode cX11_findLeast 81 = .ok (.iload 4, 2) := by decide +kernel
theorem dX11_findLeast_83 : decode cX11_findLeast 83 = .ok (.invokevirtual 117, 3) := by decide +kernel
theorem dX11_findLeast_86 : decode cX11_findLeast 86 = .ok (.istore 5, 2) := by decide +kernel
theorem dX11_findLeast_88 : decode cX11_findLeast 88 = .ok (.iload 4, 2) := by decide +kernel
theorem dX11_findLeast_90 : decode cX11_findLeast 90 = .ok (.iload 5, 2) := by decide +kernel
theorem dX11_findLeast_92 : decode cX11_findLeast 92 = .ok (.aload_n 0, 1) := by decide +kernel
theorem dX11_findLeast_93 : decode cX11_findLeast 93 = .ok (.iload_n 3, 1) := by decide +kernel
theorem dX11_findLeast_94 : decode cX11_findLeast 94 = .ok (.iconst 0, 1) := by decide +kernel
theorem dX11_findLeast_95 : decode cX11_findLeast 95 = .ok (.invokevirtual 97, 3) := by decide +kernel
theorem dX11_findLeast_98 : decode cX11_findLeast 98 = .ok (.imul, 1) := by decide +kernel
theorem dX11_findLeast_99 : decode cX11_findLeast 99 = .ok (.isub, 1) := by decide +kernel
theorem dX11_findLeast_100 : decode cX11_findLeast 100 = .ok (.istore 6, 2) := by decide +kernel
theorem dX11_findLeast_102 : decode cX11_findLeast 102 = .ok (.aload_n 0, 1) := by decide +kernel
theorem dX11_findLeast_103 : decode cX11_findLeast 103 = .ok (.getfield 22, 3) := by decide +kernel
theorem dX11_findLeast_106 : decode cX11_findLeast 106 = .ok (.sipush 1001, 3) := by decide +kernel
theorem dX11_findLeast_109 : decode cX11_findLeast 109 = .ok (.iload_n 3, 1) := by decide +kernel
theorem dX11_findLeast_110 : decode cX11_findLeast 110 = .ok (.imul, 1) := by decide +kernel
theorem dX11_findLeast_111 : decode cX11_findLeast 111 = .ok (.iload 4, 2) := by decide +kernel
theorem dX11_findLeast_113 : decode cX11_findLeast 113 = .ok (.iadd, 1) := by decide +kernel
theorem dX11_findLeast_114 : decode cX11_findLeast 114 = .ok (.iload 5, 2) := by decide +kernel
theorem dX11_findLeast_116 : decode cX11_findLeast 116 = .ok (.ifCond .ge 8, 3) := by decide +kernel
theorem dX11_findLeast_119 : decode cX11_findLeast 119 = .ok (.bipush (-9), 2) := by decide +kernel
theorem dX11_findLeast_121 : decode cX11_findLeast 121 = .ok (.goto 37, 3) := by decide +kernel
theorem dX11_findLeast_124 : decode cX11_findLeast 124 = .ok (.iload 5, 2) := by decide +kernel
theorem dX11_findLeast_126 : decode cX11_findLeast 126 = .ok (.aload_n 0, 1) := by decide +kernel
theorem dX11_findLeast_127 : decode cX11_findLeast 127 = .ok (.iload_n 3, 1) := by decide +kernel
theorem dX11_findLeast_128 : decode cX11_findLeast 128 = .ok (.iconst 1, 1) := by decide +kernel
theorem dX11_findLeast_129 : decode cX11_findLeast 129 = .ok (.invokevirtual 97, 3) := by decide +kernel
theorem dX11_findLeast_132 : decode cX11_findLeast 132 = .ok (.imul, 1) := by decide +kernel
theorem dX11_findLeast_133 : decode cX11_findLeast 133 = .ok (.aload_n 0, 1) := by decide +kernel
theorem dX11_findLeast_134 : decode cX11_findLeast 134 = .ok (.getfield 22, 3) := by decide +kernel
theorem dX11_findLeast_137 : decode cX11_findLeast 137 = .ok (.sipush 1001, 3) := by decide +kernel
theorem dX11_findLeast_140 : decode cX11_findLeast 140 = .ok (.iload_n 3, 1) := by decide +kernel
theorem dX11_findLeast_141 : decode cX11_findLeast 141 = .ok (.iconst 1, 1) := by decide +kernel
theorem dX11_findLeast_142 : decode cX11_findLeast 142 = .ok (.iadd, 1) := by decide +kernel
theorem dX11_findLeast_143 : decode cX11_findLeast 143 = .ok (.imul, 1) := by decide +kernel
theorem dX11_findLeast_144 : decode cX11_findLeast 144 = .ok (.iload 6, 2) := by decide +kernel
theorem dX11_findLeast_146 : decode cX11_findLeast 146 = .ok (.ifCond .ge 7, 3) := by decide +kernel
theorem dX11_findLeast_149 : decode cX11_findLeast 149 = .ok (.iconst 0, 1) := by decide +kernel
theorem dX11_findLeast_150 : decode cX11_findLeast 150 = .ok (.goto 5, 3) := by decide +kernel
theorem dX11_findLeast_153 : decode cX11_findLeast 153 = .ok (.iload 6, 2) := by decide +kernel
theorem dX11_findLeast_155 : decode cX11_findLeast 155 = .ok (.iadd, 1) := by decide +kernel
theorem dX11_findLeast_156 : decode cX11_findLeast 156 = .ok (.iaload, 1) := by decide +kernel
theorem dX11_findLeast_157 : decode cX11_findLeast 157 = .ok (.iadd, 1) := by decide +kernel
theorem dX11_findLeast_158 : decode cX11_findLeast 158 = .ok (.iastore, 1) := by decide +kernel
theorem dX11_findLeast_159 : decode cX11_findLeast 159 = .ok (.iinc 4 1, 3) := by decide +kernel
theorem dX11_findLeast_162 : decode cX11_findLeast 162 = .ok (.goto (-92), 3) := by decide +kernel
theorem dX11_findLeast_165 : decode cX11_findLeast 165 = .ok (.iinc 3 (-1), 3) := by decide +kernel
theorem dX11_findLeast_168 : decode cX11_findLeast 168 = .ok (.goto (-105), 3) := by decide +kernel
theorem dX11_findLeast_171 : decode cX11_findLeast 171 = .ok (.bipush 10, 2) := by decide +kernel
theorem dX11_findLeast_173 : decode cX11_findLeast 173 = .ok (.iload_n 1, 1) := by decide +kernel
theorem dX11_findLeast_174 : decode cX11_findLeast 174 = .ok (.imul, 1) := by decide +kernel
theorem dX11_findLeast_175 : decode cX11_findLeast 175 = .ok (.istore_n 3, 1) := by decide +kernel
theorem dX11_findLeast_176 : decode cX11_findLeast 176 = .ok (.aload_n 0, 1) := by decide +kernel
theorem dX11_findLeast_177 : decode cX11_findLeast 177 = .ok (.getfield 22, 3) := by decide +kernel
theorem dX11_findLeast_180 : decode cX11_findLeast 180 = .ok (.iload_n 3, 1) := by decide +kernel
theorem dX11_findLeast_181 : decode cX11_findLeast 181 = .ok (.iaload, 1) := by decide +kernel
theorem dX11_findLeast_182 : decode cX11_findLeast 182 = .ok (.ifCond .ge 6, 3) := by decide +kernel
theorem dX11_findLeast_185 : decode cX11_findLeast 185 = .ok (.bipush (-9), 2) := by decide +kernel
theorem dX11_findLeast_187 : decode cX11_findLeast 187 = .ok (.ireturn, 1) := by decide +kernel
theorem dX11_findLeast_188 : decode cX11_findLeast 188 = .ok (.iconst 0, 1) := by decide +kernel
theorem dX11_findLeast_189 : decode cX11_findLeast 189 = .ok (.istore 4, 2) := by decide +kernel
theorem dX11_findLeast_191 : decode cX11_findLeast 191 = .ok (.iload 4, 2) := by decide +kernel
theorem dX11_findLeast_193 : decode cX11_findLeast 193 = .ok (.bipush 6, 2) := by decide +kernel
theorem dX11_findLeast_195 : decode cX11_findLeast 195 = .ok (.if_icmp .ge 64, 3) := by decide +kernel
theorem dX11_findLeast_198 : decode cX11_findLeast 198 = .ok (.aload_n 0, 1) := by decide +kernel
theorem dX11_findLeast_199 : decode cX11_findLeast 199 = .ok (.getfield 25, 3) := by decide +kernel
theorem dX11_findLeast_202 : decode cX11_findLeast 202 = .ok (.iload 4, 2) := by decide +kernel
theorem dX11_findLeast_204 : decode cX11_findLeast 204 = .ok (.aload_n 0, 1) := by decide +kernel
theorem dX11_findLeast_205 : decode cX11_findLeast 205 = .ok (.iload 4, 2) := by decide +kernel
theorem dX11_findLeast_207 : decode cX11_findLeast 207 = .ok (.iload_n 3, 1) := by decide +kernel
theorem dX11_findLeast_208 : decode cX11_findLeast 208 = .ok (.invokevirtual 117, 3) := by decide +kernel
theorem dX11_findLeast_211 : decode cX11_findLeast 211 = .ok (.iastore, 1) := by decide +kernel
theorem dX11_findLeast_212 : decode cX11_findLeast 212 = .ok (.iload_n 3, 1) := by decide +kernel
theorem dX11_findLeast_213 : decode cX11_findLeast 213 = .ok (.aload_n 0, 1) := by decide +kernel
theorem dX11_findLeast_214 : decode cX11_findLeast 214 = .ok (.getfield 25, 3) := by decide +kernel
theorem dX11_findLeast_217 : decode cX11_findLeast 217 = .ok (.iload 4, 2) := by decide +kernel
theorem dX11_findLeast_219 : decode cX11_findLeast 219 = .ok (.iaload, 1) := by decide +kernel
theorem dX11_findLeast_220 : decode cX11_findLeast 220 = .ok (.aload_n 0, 1) := by decide +kernel
theorem dX11_findLeast_221 : decode cX11_findLeast 221 = .ok (.iload 4, 2) := by decide +kernel
theorem dX11_findLeast_223 : decode cX11_findLeast 223 = .ok (.iconst 0, 1) := by decide +kernel
theorem dX11_findLeast_224 : decode cX11_findLeast 224 = .ok (.invokevirtual 97, 3) := by decide +kernel
theorem dX11_findLeast_227 : decode cX11_findLeast 227 = .ok (.imul, 1) := by decide +kernel
theorem dX11_findLeast_228 : decode cX11_findLeast 228 = .ok (.if_icmp .le 23, 3) := by decide +kernel
theorem dX11_findLeast_231 : decode cX11_findLeast 231 = .ok (.iload_n 3, 1) := by decide +kernel
theorem dX11_findLeast_232 : decode cX11_findLeast 232 = .ok (.aload_n 0, 1) := by decide +kernel
theorem dX11_findLeast_233 : decode cX11_findLeast 233 = .ok (.getfield 25, 3) := by decide +kernel
theorem dX11_findLeast_236 : decode cX11_findLeast 236 = .ok (.iload 4, 2) := by decide +kernel
theorem dX11_findLeast_238 : decode cX11_findLeast 238 = .ok (.iaload, 1) := by decide +kernel
theorem dX11_findLeast_239 : decode cX11_findLeast 239 = .ok (.aload_n 0, 1) := by decide +kernel
theorem dX11_findLeast_240 : decode cX11_findLeast 240 = .ok (.iload 4, 2) := by decide +kernel
theorem dX11_findLeast_242 : decode cX11_findLeast 242 = .ok (.iconst 0, 1) := by decide +kernel
theorem dX11_findLeast_243 : decode cX11_findLeast 243 = .ok (.invokevirtual 97, 3) := by decide +kernel
theorem dX11_findLeast_246 : decode cX11_findLeast 246 = .ok (.imul, 1) := by decide +kernel
theorem dX11_findLeast_247 : decode cX11_findLeast 247 = .ok (.isub, 1) := by decide +kernel
theorem dX11_findLeast_248 : decode cX11_findLeast 248 = .ok (.goto 4, 3) := by decide +kernel
theorem dX11_findLeast_251 : decode cX11_findLeast 251 = .ok (.iconst 0, 1) := by decide +kernel
theorem dX11_findLeast_252 : decode cX11_findLeast 252 = .ok (.istore_n 3, 1) := by decide +kernel
theorem dX11_findLeast_253 : decode cX11_findLeast 253 = .ok (.iinc 4 1, 3) := by decide +kernel
theorem dX11_findLeast_256 : decode cX11_findLeast 256 = .ok (.goto (-65), 3) := by decide +kernel
theorem dX11_findLeast_259 : decode cX11_findLeast 259 = .ok (.aload_n 0, 1) := by decide +kernel
theorem dX11_findLeast_260 : decode cX11_findLeast 260 = .ok (.getfield 22, 3) := by decide +kernel
theorem dX11_findLeast_263 : decode cX11_findLeast 263 = .ok (.bipush 10, 2) := by decide +kernel
theorem dX11_findLeast_265 : decode cX11_findLeast 265 = .ok (.iload_n 1, 1) := by decide +kernel
theorem dX11_findLeast_266 : decode cX11_findLeast 266 = .ok (.imul, 1) := by decide +kernel
theorem dX11_findLeast_267 : decode cX11_findLeast 267 = .ok (.iaload, 1) := by decide +kernel
theorem dX11_findLeast_268 : decode cX11_findLeast 268 = .ok (.ireturn, 1) := by decide +kernel
set_option maxRecDepth 20000 in
theorem ggX11_least_X11_isIn : GoodIn wsX11_least wsX11_isIn := goodIn_r _ [5] (by decide +kernel) (by decide +kernel)
set_option maxRecDepth 20000 in
theorem gX11_least_X11_isIn : GoodIn wsX11_least (va_wsS RX11 47 yX11_isIn wsX11_isIn) := goodIn_app (goodIn_of _ (by decide +kernel)) ggX11_least_X11_isIn
set_option maxRecDepth 20000 in
theorem ggX11_least_X11_refuse : GoodIn wsX11_least wsX11_refuse := goodIn_r _ [9, 10, 41, 42, 43, 44, 45, 46, 47, 48, 49, 50, 51, 52, 53, 54, 55, 56, 57, 58, 59] (by decide +kernel) (by decide +kernel)
set_option maxRecDepth 20000 in
theorem gX11_least_X11_refuse : GoodIn wsX11_least (wsV RX11 51 RX11 yX11_refuse wsX11_refuse) := goodIn_app (goodIn_of _ (by decide +kernel)) ggX11_least_X11_refuse
set_option maxRecDepth 20000 in
theorem ggX11_least_X11_findLeast : GoodIn wsX11_least wsX11_findLeast := goodIn_r _ [14, 15, 16, 1, 17, 18, 19, 4, 20, 21, 22, 23, 24, 25, 26, 27, 28, 29, 30, 31, 32, 33, 34, 35, 36, 37, 38, 39, 40, 41, 42, 43, 44, 45, 46, 47, 48, 49, 50, 51, 52, 53, 54, 55, 56, 57, 58, 59] (by decide +kernel) (by decide +kernel)
set_option maxRecDepth 20000 in
theorem gX11_least_X11_findLeast : GoodIn wsX11_least (wsV RX11 120 RX11 yX11_findLeast wsX11_findLeast) := goodIn_app (goodIn_of _ (by decide +kernel)) ggX11_least_X11_findLeast
theorem dX11_least_0 : decode cX11_least 0 = .ok (.iload_n 3, 1) := by decide +kernel
theorem dX11_least_1 : decode cX11_least 1 = .ok (.bipush 7, 2) := by decide +kernel
theorem dX11_least_3 : decode cX11_least 3 = .ok (.invokestatic 47, 3) := by decide +kernel
theorem dX11_least_6 : decode cX11_least 6 = .ok (.ifCond .ne 10, 3) := by decide +kernel
theorem dX11_least_9 : decode cX11_least 9 = .ok (.aload_n 0, 1) := by decide +kernel
theorem dX11_least_10 : decode cX11_least 10 = .ok (.bipush (-2), 2) := by decide +kernel
theorem dX11_least_12 : decode cX11_least 12 = .ok (.invokevirtual 51, 3) := by decide +kernel
theorem dX11_least_15 : decode cX11_least 15 = .ok (.ireturn, 1) := by decide +kernel
theorem dX11_least_16 : decode cX11_least 16 = .ok (.iload_n 1, 1) := by decide +kernel
theorem dX11_least_17 : decode cX11_least 17 = .ok (.ifCond .lt 8, 3) := by decide +kernel
theorem dX11_least_20 : decode cX11_least 20 = .ok (.iload_n 2, 1) := by decide +kernel
theorem dX11_least_21 : decode cX11_least 21 = .ok (.iconst 1, 1) := by decide +kernel
theorem dX11_least_22 : decode cX11_least 22 = .ok (.if_icmp .ge 10, 3) := by decide +kernel
theorem dX11_least_25 : decode cX11_least 25 = .ok (.aload_n 0, 1) := by decide +kernel
theorem dX11_least_26 : decode cX11_least 26 = .ok (.bipush (-4), 2) := by decide +kernel
theorem dX11_least_28 : decode cX11_least 28 = .ok (.invokevirtual 51, 3) := by decide +kernel
theorem dX11_least_31 : decode cX11_least 31 = .ok (.ireturn, 1) := by decide +kernel
theorem dX11_least_32 : decode cX11_least 32 = .ok (.iload_n 1, 1) := by decide +kernel
theorem dX11_least_33 : decode cX11_least 33 = .ok (.bipush 100, 2) := by decide +kernel
theorem dX11_least_35 : decode cX11_least 35 = .ok (.if_icmp .gt 10, 3) := by decide +kernel
theorem dX11_least_38 : decode cX11_least 38 = .ok (.iload_n 2, 1) := by decide +kernel
theorem dX11_least_39 : decode cX11_least 39 = .ok (.sipush 400, 3) := by decide +kernel
theorem dX11_least_42 : decode cX11_least 42 = .ok (.if_icmp .le 10, 3) := by decide +kernel
theorem dX11_least_45 : decode cX11_least 45 = .ok (.aload_n 0, 1) := by decide +kernel
theorem dX11_least_46 : decode cX11_least 46 = .ok (.bipush (-6), 2) := by decide +kernel
theorem dX11_least_48 : decode cX11_least 48 = .ok (.invokevirtual 51, 3) := by decide +kernel
theorem dX11_least_51 : decode cX11_least 51 = .ok (.ireturn, 1) := by decide +kernel
theorem dX11_least_52 : decode cX11_least 52 = .ok (.aload_n 0, 1) := by decide +kernel
theorem dX11_least_53 : decode cX11_least 53 = .ok (.iload_n 1, 1) := by decide +kernel
theorem dX11_least_54 : decode cX11_least 54 = .ok (.iload_n 2, 1) := by decide +kernel
theorem dX11_least_55 : decode cX11_least 55 = .ok (.invokevirtual 120, 3) := by decide +kernel
theorem dX11_least_58 : decode cX11_least 58 = .ok (.istore 4, 2) := by decide +kernel
theorem dX11_least_60 : decode cX11_least 60 = .ok (.iload 4, 2) := by decide +kernel
theorem dX11_least_62 : decode cX11_least 62 = .ok (.ifCond .ge 8, 3) := by decide +kernel
theorem dX11_least_65 : decode cX11_least 65 = .ok (.bipush (-9), 2) := by decide +kernel
theorem dX11_least_67 : decode cX11_least 67 = .ok (.goto 20, 3) := by decide +kernel
theorem dX11_least_70 : decode cX11_least 70 = .ok (.iload_n 3, 1) := by decide +kernel
theorem dX11_least_71 : decode cX11_least 71 = .ok (.bipush 6, 2) := by decide +kernel
theorem dX11_least_73 : decode cX11_least 73 = .ok (.if_icmp .ne 8, 3) := by decide +kernel
theorem dX11_least_76 : decode cX11_least 76 = .ok (.iload 4, 2) := by decide +kernel
theorem dX11_least_78 : decode cX11_least 78 = .ok (.goto 9, 3) := by decide +kernel
theorem dX11_least_81 : decode cX11_least 81 = .ok (.aload_n 0, 1) := by decide +kernel
theorem dX11_least_82 : decode cX11_least 82 = .ok (.getfield 25, 3) := by decide +kernel
theorem dX11_least_85 : decode cX11_least 85 = .ok (.iload_n 3, 1) := by decide +kernel
theorem dX11_least_86 : decode cX11_least 86 = .ok (.iaload, 1) := by decide +kernel
theorem dX11_least_87 : decode cX11_least 87 = .ok (.ireturn, 1) := by decide +kernel
set_option maxRecDepth 20000 in
theorem ggX11_soonestOf_X11_pay : GoodIn wsX11_soonestOf wsX11_pay := goodIn_r _ [6, 7, 19, 20, 21, 22, 23, 24, 25, 26, 27, 28, 29, 30, 31, 32, 33, 34, 35, 36, 37] (by decide +kernel) (by decide +kernel)
set_option maxRecDepth 20000 in
theorem gX11_soonestOf_X11_pay : GoodIn wsX11_soonestOf (wsV RX11 97 RX11 yX11_pay wsX11_pay) := goodIn_app (goodIn_of _ (by decide +kernel)) ggX11_soonestOf_X11_pay
set_option maxRecDepth 20000 in
theorem ggX11_soonestOf_X11_isFeast : GoodIn wsX11_soonestOf wsX11_isFeast := goodIn_r _ [11, 7, 19, 20, 21, 22, 23, 24, 25, 26, 27, 28, 29, 30, 31, 32, 33, 34, 35, 36, 37] (by decide +kernel) (by decide +kernel)
set_option maxRecDepth 20000 in
theorem gX11_soonestOf_X11_isFeast : GoodIn wsX11_soonestOf (wsV RX11 105 RX11 yX11_isFeast wsX11_isFeast) := goodIn_app (goodIn_of _ (by decide +kernel)) ggX11_soonestOf_X11_isFeast
set_option maxRecDepth 20000 in
theorem ggX11_soonestOf_X11_perDay : GoodIn wsX11_soonestOf wsX11_perDay := goodIn_r _ [15, 7, 2, 3, 4, 5, 6, 19, 20, 21, 22, 23, 24, 25, 26, 27, 28, 29, 30, 31, 32, 33, 34, 35, 36, 37] (by decide +kernel) (by decide +kernel)
set_option maxRecDepth 20000 in
theorem gX11_soonestOf_X11_perDay : GoodIn wsX11_soonestOf (wsV RX11 108 RX11 yX11_perDay wsX11_perDay) := goodIn_app (goodIn_of _ (by decide +kernel)) ggX11_soonestOf_X11_perDay
set_option maxRecDepth 20000 in
theorem ggX11_soonestOf_X11_lesser : GoodIn wsX11_soonestOf wsX11_lesser := goodIn_r _ [18] (by decide +kernel) (by decide +kernel)
set_option maxRecDepth 20000 in
theorem gX11_soonestOf_X11_lesser : GoodIn wsX11_soonestOf (va_wsS RX11 111 yX11_lesser wsX11_lesser) := goodIn_app (goodIn_of _ (by decide +kernel)) ggX11_soonestOf_X11_lesser
theorem dX11_soonestOf_0 : decode cX11_soonestOf 0 = .ok (.iload_n 1, 1) := by decide +kernel
theorem dX11_soonestOf_1 : decode cX11_soonestOf 1 = .ok (.ifCond .ne 5, 3) := by decide +kernel
theorem dX11_soonestOf_4 : decode cX11_soonestOf 4 = .ok (.iconst 0, 1) := by decide +kernel
theorem dX11_soonestOf_5 : decode cX11_soonestOf 5 = .ok (.ireturn, 1) := by decide +kernel
theorem dX11_soonestOf_6 : decode cX11_soonestOf 6 = .ok (.iconst 0, 1) := by decide +kernel
theorem dX11_soonestOf_7 : decode cX11_soonestOf 7 = .ok (.istore_n 2, 1) := by decide +kernel
theorem dX11_soonestOf_8 : decode cX11_soonestOf 8 = .ok (.iload_n 2, 1) := by decide +kernel
theorem dX11_soonestOf_9 : decode cX11_soonestOf 9 = .ok (.bipush 6, 2) := by decide +kernel
theorem dX11_soonestOf_11 : decode cX11_soonestOf 11 = .ok (.if_icmp .ge 21, 3) := by decide +kernel
theorem dX11_soonestOf_14 : decode cX11_soonestOf 14 = .ok (.aload_n 0, 1) := by decide +kernel
theorem dX11_soonestOf_15 : decode cX11_soonestOf 15 = .ok (.getfield 31, 3) := by decide +kernel
theorem dX11_soonestOf_18 : decode cX11_soonestOf 18 = .ok (.iload_n 2, 1) := by decide +kernel
theorem dX11_soonestOf_19 : decode cX11_soonestOf 19 = .ok (.aload_n 0, 1) := by decide +kernel
theorem dX11_soonestOf_20 : decode cX11_soonestOf 20 = .ok (.iload_n 2, 1) := by decide +kernel
theorem dX11_soonestOf_21 : decode cX11_soonestOf 21 = .ok (.iconst 3, 1) := by decide +kernel
theorem dX11_soonestOf_22 : decode cX11_soonestOf 22 = .ok (.invokevirtual 97, 3) := by decide +kernel
theorem dX11_soonestOf_25 : decode cX11_soonestOf 25 = .ok (.iastore, 1) := by decide +kernel
theorem dX11_soonestOf_26 : decode cX11_soonestOf 26 = .ok (.iinc 2 1, 3) := by decide +kernel
theorem dX11_soonestOf_29 : decode cX11_soonestOf 29 = .ok (.goto (-21), 3) := by decide +kernel
theorem dX11_soonestOf_32 : decode cX11_soonestOf 32 = .ok (.iconst 0, 1) := by decide +kernel
theorem dX11_soonestOf_33 : decode cX11_soonestOf 33 = .ok (.istore_n 2, 1) := by decide +kernel
theorem dX11_soonestOf_34 : decode cX11_soonestOf 34 = .ok (.iconst 0, 1) := by decide +kernel
theorem dX11_soonestOf_35 : decode cX11_soonestOf 35 = .ok (.istore_n 3, 1) := by decide +kernel
theorem dX11_soonestOf_36 : decode cX11_soonestOf 36 = .ok (.iconst 0, 1) := by decide +kernel
theorem dX11_soonestOf_37 : decode cX11_soonestOf 37 = .ok (.istore 4, 2) := by decide +kernel
theorem dX11_soonestOf_39 : decode cX11_soonestOf 39 = .ok (.iload 4, 2) := by decide +kernel
theorem dX11_soonestOf_41 : decode cX11_soonestOf 41 = .ok (.sipush 400, 3) := by decide +kernel
theorem dX11_soonestOf_44 : decode cX11_soonestOf 44 = .ok (.if_icmp .ge 162, 3) := by decide +kernel
theorem dX11_soonestOf_47 : decode cX11_soonestOf 47 = .ok (.iconst 0, 1) := by decide +kernel
theorem dX11_soonestOf_48 : decode cX11_soonestOf 48 = .ok (.istore 5, 2) := by decide +kernel
theorem dX11_soonestOf_50 : decode cX11_soonestOf 50 = .ok (.iconst 0, 1) := by decide +kernel
theorem dX11_soonestOf_51 : decode cX11_soonestOf 51 = .ok (.istore 6, 2) := by decide +kernel
theorem dX11_soonestOf_53 : decode cX11_soonestOf 53 = .ok (.iload 6, 2) := by decide +kernel
theorem dX11_soonestOf_55 : decode cX11_soonestOf 55 = .ok (.bipush 6, 2) := by decide +kernel
theorem dX11_soonestOf_57 : decode cX11_soonestOf 57 = .ok (.if_icmp .ge 127, 3) := by decide +kernel
theorem dX11_soonestOf_60 : decode cX11_soonestOf 60 = .ok (.iload 6, 2) := by decide +kernel
theorem dX11_soonestOf_62 : decode cX11_soonestOf 62 = .ok (.ifCond .eq 9, 3) := by decide +kernel
theorem dX11_soonestOf_65 : decode cX11_soonestOf 65 = .ok (.iload 6, 2) := by decide +kernel
theorem dX11_soonestOf_67 : decode cX11_soonestOf 67 = .ok (.iconst 5, 1) := by decide +kernel
theorem dX11_soonestOf_68 : decode cX11_soonestOf 68 = .ok (.if_icmp .ne 12, 3) := by decide +kernel
theorem dX11_soonestOf_71 : decode cX11_soonestOf 71 = .ok (.aload_n 0, 1) := by decide +kernel
theorem dX11_soonestOf_72 : decode cX11_soonestOf 72 = .ok (.iload 4, 2) := by decide +kernel
theorem dX11_soonestOf_74 : decode cX11_soonestOf 74 = .ok (.invokevirtual 105, 3) := by decide +kernel
theorem dX11_soonestOf_77 : decode cX11_soonestOf 77 = .ok (.ifCond .ne 13, 3) := by decide +kernel
theorem dX11_soonestOf_80 : decode cX11_soonestOf 80 = .ok (.iload 6, 2) := by decide +kernel
theorem dX11_soonestOf_82 : decode cX11_soonestOf 82 = .ok (.iconst 3, 1) := by decide +kernel
theorem dX11_soonestOf_83 : decode cX11_soonestOf 83 = .ok (.if_icmp .ne 11, 3) := by decide +kernel
theorem dX11_soonestOf_86 : decode cX11_soonestOf 86 = .ok (.iload_n 3, 1) := by decide +kernel
theorem dX11_soonestOf_87 : decode cX11_soonestOf 87 = .ok (.ifCond .eq 7, 3) := by decide +kernel
theorem dX11_soonestOf_90 : decode cX11_soonestOf 90 = .ok (.iconst 1, 1) := by decide +kernel
theorem dX11_soonestOf_91 : decode cX11_soonestOf 91 = .ok (.goto 4, 3) := by decide +kernel
theorem dX11_soonestOf_94 : decode cX11_soonestOf 94 = .ok (.iconst 0, 1) := by decide +kernel
theorem dX11_soonestOf_95 : decode cX11_soonestOf 95 = .ok (.istore 7, 2) := by decide +kernel
theorem dX11_soonestOf_97 : decode cX11_soonestOf 97 = .ok (.iload 7, 2) := by decide +kernel
theorem dX11_soonestOf_99 : decode cX11_soonestOf 99 = .ok (.ifCond .eq 7, 3) := by decide +kernel
theorem dX11_soonestOf_102 : decode cX11_soonestOf 102 = .ok (.iconst 0, 1) := by decide +kernel
theorem dX11_soonestOf_103 : decode cX11_soonestOf 103 = .ok (.goto 19, 3) := by decide +kernel
theorem dX11_soonestOf_106 : decode cX11_soonestOf 106 = .ok (.aload_n 0, 1) := by decide +kernel
theorem dX11_soonestOf_107 : decode cX11_soonestOf 107 = .ok (.getfield 31, 3) := by decide +kernel
theorem dX11_soonestOf_110 : decode cX11_soonestOf 110 = .ok (.iload 6, 2) := by decide +kernel
theorem dX11_soonestOf_112 : decode cX11_soonestOf 112 = .ok (.iaload, 1) := by decide +kernel
theorem dX11_soonestOf_113 : decode cX11_soonestOf 113 = .ok (.aload_n 0, 1) := by decide +kernel
theorem dX11_soonestOf_114 : decode cX11_soonestOf 114 = .ok (.iload 6, 2) := by decide +kernel
theorem dX11_soonestOf_116 : decode cX11_soonestOf 116 = .ok (.invokevirtual 108, 3) := by decide +kernel
theorem dX11_soonestOf_119 : decode cX11_soonestOf 119 = .ok (.invokestatic 111, 3) := by decide +kernel
theorem dX11_soonestOf_122 : decode cX11_soonestOf 122 = .ok (.istore 8, 2) := by decide +kernel
theorem dX11_soonestOf_124 : decode cX11_soonestOf 124 = .ok (.aload_n 0, 1) := by decide +kernel
theorem dX11_soonestOf_125 : decode cX11_soonestOf 125 = .ok (.getfield 31, 3) := by decide +kernel
theorem dX11_soonestOf_128 : decode cX11_soonestOf 128 = .ok (.iload 6, 2) := by decide +kernel
theorem dX11_soonestOf_130 : decode cX11_soonestOf 130 = .ok (.dup2, 1) := by decide +kernel
theorem dX11_soonestOf_131 : decode cX11_soonestOf 131 = .ok (.iaload, 1) := by decide +kernel
theorem dX11_soonestOf_132 : decode cX11_soonestOf 132 = .ok (.iload 8, 2) := by decide +kernel
theorem dX11_soonestOf_134 : decode cX11_soonestOf 134 = .ok (.isub, 1) := by decide +kernel
theorem dX11_soonestOf_135 : decode cX11_soonestOf 135 = .ok (.iastore, 1) := by decide +kernel
theorem dX11_soonestOf_136 : decode cX11_soonestOf 136 = .ok (.iload_n 2, 1) := by decide +kernel
theorem dX11_soonestOf_137 : decode cX11_soonestOf 137 = .ok (.iload 8, 2) := by decide +kernel
theorem dX11_soonestOf_139 : decode cX11_soonestOf 139 = .ok (.aload_n 0, 1) := by decide +kernel
theorem dX11_soonestOf_140 : decode cX11_soonestOf 140 = .ok (.iload 6, 2) := by decide +kernel
theorem dX11_soonestOf_142 : decode cX11_soonestOf 142 = .ok (.iconst 0, 1) := by decide +kernel
theorem dX11_soonestOf_143 : decode cX11_soonestOf 143 = .ok (.invokevirtual 97, 3) := by decide +kernel
theorem dX11_soonestOf_146 : decode cX11_soonestOf 146 = .ok (.imul, 1) := by decide +kernel
theorem dX11_soonestOf_147 : decode cX11_soonestOf 147 = .ok (.iadd, 1) := by decide +kernel
theorem dX11_soonestOf_148 : decode cX11_soonestOf 148 = .ok (.istore_n 2, 1) := by decide +kernel
theorem dX11_soonestOf_149 : decode cX11_soonestOf 149 = .ok (.iload 5, 2) := by decide +kernel
theorem dX11_soonestOf_151 : decode cX11_soonestOf 151 = .ok (.ifCond .ne 20, 3) := by decide +kernel
theorem dX11_soonestOf_154 : decode cX11_soonestOf 154 = .ok (.iload 8, 2) := by decide +kernel
theorem dX11_soonestOf_156 : decode cX11_soonestOf 156 = .ok (.ifCond .le 19, 3) := by decide +kernel
theorem dX11_soonestOf_159 : decode cX11_soonestOf 159 = .ok (.iload 6, 2) := by decide +kernel
theorem dX11_soonestOf_161 : decode cX11_soonestOf 161 = .ok (.iconst 3, 1) := by decide +kernel
theorem dX11_soonestOf_162 : decode cX11_soonestOf 162 = .ok (.if_icmp .eq 9, 3) := by decide +kernel
theorem dX11_soonestOf_165 : decode cX11_soonestOf 165 = .ok (.iload 6, 2) := by decide +kernel
theorem dX11_soonestOf_167 : decode cX11_soonestOf 167 = .ok (.iconst 5, 1) := by decide +kernel
theorem dX11_soonestOf_168 : decode cX11_soonestOf 168 = .ok (.if_icmp .ne 7, 3) := by decide +kernel
theorem dX11_soonestOf_171 : decode cX11_soonestOf 171 = .ok (.iconst 1, 1) := by decide +kernel
theorem dX11_soonestOf_172 : decode cX11_soonestOf 172 = .ok (.goto 4, 3) := by decide +kernel
theorem dX11_soonestOf_175 : decode cX11_soonestOf 175 = .ok (.iconst 0, 1) := by decide +kernel
theorem dX11_soonestOf_176 : decode cX11_soonestOf 176 = .ok (.istore 5, 2) := by decide +kernel
theorem dX11_soonestOf_178 : decode cX11_soonestOf 178 = .ok (.iinc 6 1, 3) := by decide +kernel
theorem dX11_soonestOf_181 : decode cX11_soonestOf 181 = .ok (.goto (-128), 3) := by decide +kernel
theorem dX11_soonestOf_184 : decode cX11_soonestOf 184 = .ok (.iload 5, 2) := by decide +kernel
theorem dX11_soonestOf_186 : decode cX11_soonestOf 186 = .ok (.istore_n 3, 1) := by decide +kernel
theorem dX11_soonestOf_187 : decode cX11_soonestOf 187 = .ok (.iload_n 2, 1) := by decide +kernel
theorem dX11_soonestOf_188 : decode cX11_soonestOf 188 = .ok (.bipush 10, 2) := by decide +kernel
theorem dX11_soonestOf_190 : decode cX11_soonestOf 190 = .ok (.iload_n 1, 1) := by decide +kernel
theorem dX11_soonestOf_191 : decode cX11_soonestOf 191 = .ok (.imul, 1) := by decide +kernel
theorem dX11_soonestOf_192 : decode cX11_soonestOf 192 = .ok (.if_icmp .lt 8, 3) := by decide +kernel
theorem dX11_soonestOf_195 : decode cX11_soonestOf 195 = .ok (.iload 4, 2) := by decide +kernel
theorem dX11_soonestOf_197 : decode cX11_soonestOf 197 = .ok (.iconst 1, 1) := by decide +kernel
theorem dX11_soonestOf_198 : decode cX11_soonestOf 198 = .ok (.iadd, 1) := by decide +kernel
theorem dX11_soonestOf_199 : decode cX11_soonestOf 199 = .ok (.ireturn, 1) := by decide +kernel
theorem dX11_soonestOf_200 : decode cX11_soonestOf 200 = .ok (.iinc 4 1, 3) := by decide +kernel
theorem dX11_soonestOf_203 : decode cX11_soonestOf 203 = .ok (.goto (-164), 3) := by decide +kernel
theorem dX11_soonestOf_206 : decode cX11_soonestOf 206 = .ok (.bipush (-9), 2) := by decide +kernel
theorem dX11_soonestOf_208 : decode cX11_soonestOf 208 = .ok (.ireturn, 1) := by decide +kernel
set_option maxRecDepth 20000 in
theorem ggX11_soonest_X11_within : GoodIn wsX11_soonest wsX11_within := goodIn_r _ [4] (by decide +kernel) (by decide +kernel)
set_option maxRecDepth 20000 in
theorem gX11_soonest_X11_within : GoodIn wsX11_soonest (va_wsS RX11 94 yX11_within wsX11_within) := goodIn_app (goodIn_of _ (by decide +kernel)) ggX11_soonest_X11_within
set_option maxRecDepth 20000 in
theorem ggX11_soonest_X11_refuse : GoodIn wsX11_soonest wsX11_refuse := goodIn_r _ [8, 9, 31, 32, 33, 34, 35, 36, 37, 38, 39, 40, 41, 42, 43, 44, 45, 46, 47, 48, 49] (by decide +kernel) (by decide +kernel)
set_option maxRecDepth 20000 in
theorem gX11_soonest_X11_refuse : GoodIn wsX11_soonest (wsV RX11 51 RX11 yX11_refuse wsX11_refuse) := goodIn_app (goodIn_of _ (by decide +kernel)) ggX11_soonest_X11_refuse
set_option maxRecDepth 20000 in
theorem ggX11_soonest_X11_soonestOf : GoodIn wsX11_soonest wsX11_soonestOf := goodIn_r _ [13, 14, 15, 16, 17, 3, 18, 19, 20, 21, 22, 23, 24, 25, 26, 27, 28, 29, 30, 31, 32, 33, 34, 35, 36, 37, 38, 39, 40, 41, 42, 43, 44, 45, 46, 47, 48, 49] (by decide +kernel) (by decide +kernel)
set_option maxRecDepth 20000 in
theorem gX11_soonest_X11_soonestOf : GoodIn wsX11_soonest (wsV RX11 123 RX11 yX11_soonestOf wsX11_soonestOf) := goodIn_app (goodIn_of _ (by decide +kernel)) ggX11_soonest_X11_soonestOf
theorem dX11_soonest_0 : decode cX11_soonest 0 = .ok (.iload_n 1, 1) := by decide +kernel
theorem dX11_soonest_1 : decode cX11_soonest 1 = .ok (.iconst 0, 1) := by decide +kernel
theorem dX11_soonest_2 : decode cX11_soonest 2 = .ok (.sipush 400, 3) := by decide +kernel
theorem dX11_soonest_5 : decode cX11_soonest 5 = .ok (.invokestatic 94, 3) := by decide +kernel
theorem dX11_soonest_8 : decode cX11_soonest 8 = .ok (.istore_n 2, 1) := by decide +kernel
theorem dX11_soonest_9 : decode cX11_soonest 9 = .ok (.iload_n 2, 1) := by decide +kernel
theorem dX11_soonest_10 : decode cX11_soonest 10 = .ok (.ifCond .eq 11, 3) := by decide +kernel
theorem dX11_soonest_13 : decode cX11_soonest 13 = .ok (.aload_n 0, 1) := by decide +kernel
theorem dX11_soonest_14 : decode cX11_soonest 14 = .ok (.iload_n 2, 1) := by decide +kernel
theorem dX11_soonest_15 : decode cX11_soonest 15 = .ok (.invokevirtual 51, 3) := by decide +kernel
theorem dX11_soonest_18 : decode cX11_soonest 18 = .ok (.goto 8, 3) := by decide +kernel
theorem dX11_soonest_21 : decode cX11_soonest 21 = .ok (.aload_n 0, 1) := by decide +kernel
theorem dX11_soonest_22 : decode cX11_soonest 22 = .ok (.iload_n 1, 1) := by decide +kernel
theorem dX11_soonest_23 : decode cX11_soonest 23 = .ok (.invokevirtual 123, 3) := by decide +kernel
theorem dX11_soonest_26 : decode cX11_soonest 26 = .ok (.ireturn, 1) := by decide +kernel
set_option maxRecDepth 20000 in
theorem ggX11_needed_X11_refuse : GoodIn wsX11_needed wsX11_refuse := goodIn_r _ [6, 7, 28, 29, 30, 31, 32, 33, 34, 35, 36, 37, 38, 39, 40, 41, 42, 43, 44, 45, 46] (by decide +kernel) (by decide +kernel)
set_option maxRecDepth 20000 in
theorem gX11_needed_X11_refuse : GoodIn wsX11_needed (wsV RX11 51 RX11 yX11_refuse wsX11_refuse) := goodIn_app (goodIn_of _ (by decide +kernel)) ggX11_needed_X11_refuse
set_option maxRecDepth 20000 in
theorem ggX11_needed_X11_soonestOf : GoodIn wsX11_needed wsX11_soonestOf := goodIn_r _ [11, 12, 13, 14, 15, 5, 16, 1, 17, 18, 19, 20, 21, 22, 23, 24, 25, 26, 27, 28, 29, 30, 31, 32, 33, 34, 35, 36, 37, 38, 39, 40, 41, 42, 43, 44, 45, 46] (by decide +kernel) (by decide +kernel)
set_option maxRecDepth 20000 in
theorem gX11_needed_X11_soonestOf : GoodIn wsX11_needed (wsV RX11 123 RX11 yX11_soonestOf wsX11_soonestOf) := goodIn_app (goodIn_of _ (by decide +kernel)) ggX11_needed_X11_soonestOf
theorem dX11_needed_0 : decode cX11_needed 0 = .ok (.iload_n 1, 1) := by decide +kernel
theorem dX11_needed_1 : decode cX11_needed 1 = .ok (.ifCond .lt 8, 3) := by decide +kernel
theorem dX11_needed_4 : decode cX11_needed 4 = .ok (.iload_n 2, 1) := by decide +kernel
theorem dX11_needed_5 : decode cX11_needed 5 = .ok (.iconst 1, 1) := by decide +kernel
theorem dX11_needed_6 : decode cX11_needed 6 = .ok (.if_icmp .ge 10, 3) := by decide +kernel
theorem dX11_needed_9 : decode cX11_needed 9 = .ok (.aload_n 0, 1) := by decide +kernel
theorem dX11_needed_10 : decode cX11_needed 10 = .ok (.bipush (-4), 2) := by decide +kernel
theorem dX11_needed_12 : decode cX11_needed 12 = .ok (.invokevirtual 51, 3) := by decide +kernel
theorem dX11_needed_15 : decode cX11_needed 15 = .ok (.ireturn, 1) := by decide +kernel
theorem dX11_needed_16 : decode cX11_needed 16 = .ok (.iload_n 1, 1) := by decide +kernel
theorem dX11_needed_17 : decode cX11_needed 17 = .ok (.sipush 400, 3) := by decide +kernel
theorem dX11_needed_20 : decode cX11_needed 20 = .ok (.if_icmp .gt 10, 3) := by decide +kernel
theorem dX11_needed_23 : decode cX11_needed 23 = .ok (.iload_n 2, 1) := by decide +kernel
theorem dX11_needed_24 : decode cX11_needed 24 = .ok (.sipush 400, 3) := by decide +kernel
theorem dX11_needed_27 : decode cX11_needed 27 = .ok (.if_icmp .le 10, 3) := by decide +kernel
theorem dX11_needed_30 : decode cX11_needed 30 = .ok (.aload_n 0, 1) := by decide +kernel
theorem dX11_needed_31 : decode cX11_needed 31 = .ok (.bipush (-6), 2) := by decide +kernel
theorem dX11_needed_33 : decode cX11_needed 33 = .ok (.invokevirtual 51, 3) := by decide +kernel
theorem dX11_needed_36 : decode cX11_needed 36 = .ok (.ireturn, 1) := by decide +kernel
theorem dX11_needed_37 : decode cX11_needed 37 = .ok (.aload_n 0, 1) := by decide +kernel
theorem dX11_needed_38 : decode cX11_needed 38 = .ok (.getfield 13, 3) := by decide +kernel
theorem dX11_needed_41 : decode cX11_needed 41 = .ok (.sipush 309, 3) := by decide +kernel
theorem dX11_needed_44 : decode cX11_needed 44 = .ok (.iaload, 1) := by decide +kernel
theorem dX11_needed_45 : decode cX11_needed 45 = .ok (.istore_n 3, 1) := by decide +kernel
theorem dX11_needed_46 : decode cX11_needed 46 = .ok (.bipush (-9), 2) := by decide +kernel
theorem dX11_needed_48 : decode cX11_needed 48 = .ok (.istore 4, 2) := by decide +kernel
theorem dX11_needed_50 : decode cX11_needed 50 = .ok (.iconst 0, 1) := by decide +kernel
theorem dX11_needed_51 : decode cX11_needed 51 = .ok (.istore 5, 2) := by decide +kernel
theorem dX11_needed_53 : decode cX11_needed 53 = .ok (.iload 5, 2) := by decide +kernel
theorem dX11_needed_55 : decode cX11_needed 55 = .ok (.bipush 100, 2) := by decide +kernel
theorem dX11_needed_57 : decode cX11_needed 57 = .ok (.if_icmp .ge 51, 3) := by decide +kernel
theorem dX11_needed_60 : decode cX11_needed 60 = .ok (.iload 4, 2) := by decide +kernel
theorem dX11_needed_62 : decode cX11_needed 62 = .ok (.ifCond .ge 46, 3) := by decide +kernel
theorem dX11_needed_65 : decode cX11_needed 65 = .ok (.aload_n 0, 1) := by decide +kernel
theorem dX11_needed_66 : decode cX11_needed 66 = .ok (.getfield 13, 3) := by decide +kernel
theorem dX11_needed_69 : decode cX11_needed 69 = .ok (.sipush 309, 3) := by decide +kernel
theorem dX11_needed_72 : decode cX11_needed 72 = .ok (.iload 5, 2) := by decide +kernel
theorem dX11_needed_74 : decode cX11_needed 74 = .ok (.iastore, 1) := by decide +kernel
theorem dX11_needed_75 : decode cX11_needed 75 = .ok (.aload_n 0, 1) := by decide +kernel
theorem dX11_needed_76 : decode cX11_needed 76 = .ok (.iload_n 1, 1) := by decide +kernel
theorem dX11_needed_77 : decode cX11_needed 77 = .ok (.invokevirtual 123, 3) := by decide +kernel
theorem dX11_needed_80 : decode cX11_needed 80 = .ok (.istore 6, 2) := by decide +kernel
theorem dX11_needed_82 : decode cX11_needed 82 = .ok (.iload 6, 2) := by decide +kernel
theorem dX11_needed_84 : decode cX11_needed 84 = .ok (.ifCond .lt 14, 3) := by decide +kernel
theorem dX11_needed_87 : decode cX11_needed 87 = .ok (.iload 6, 2) := by decide +kernel
theorem dX11_needed_89 : decode cX11_needed 89 = .ok (.iload_n 2, 1) := by decide +kernel
theorem dX11_needed_90 : decode cX11_needed 90 = .ok (.if_icmp .gt 8, 3) := by decide +kernel
theorem dX11_needed_93 : decode cX11_needed 93 = .ok (.iload 5, 2) := by decide +kernel
theorem dX11_needed_95 : decode cX11_needed 95 = .ok (.goto 5, 3) := by decide +kernel
theorem dX11_needed_98 : decode cX11_needed 98 = .ok (.bipush (-9), 2) := by decide +kernel
theorem dX11_needed_100 : decode cX11_needed 100 = .ok (.istore 4, 2) := by decide +kernel
theorem dX11_needed_102 : decode cX11_needed 102 = .ok (.iinc 5 1, 3) := by decide +kernel
theorem dX11_needed_105 : decode cX11_needed 105 = .ok (.goto (-52), 3) := by decide +kernel
theorem dX11_needed_108 : decode cX11_needed 108 = .ok (.aload_n 0, 1) := by decide +kernel
theorem dX11_needed_109 : decode cX11_needed 109 = .ok (.getfield 13, 3) := by decide +kernel
theorem dX11_needed_112 : decode cX11_needed 112 = .ok (.sipush 309, 3) := by decide +kernel
theorem dX11_needed_115 : decode cX11_needed 115 = .ok (.iload_n 3, 1) := by decide +kernel
theorem dX11_needed_116 : decode cX11_needed 116 = .ok (.iastore, 1) := by decide +kernel
theorem dX11_needed_117 : decode cX11_needed 117 = .ok (.iload 4, 2) := by decide +kernel
theorem dX11_needed_119 : decode cX11_needed 119 = .ok (.ireturn, 1) := by decide +kernel
set_option maxRecDepth 20000 in
theorem ggX11_over_X11_isIn : GoodIn wsX11_over wsX11_isIn := goodIn_r _ [5] (by decide +kernel) (by decide +kernel)
set_option maxRecDepth 20000 in
theorem gX11_over_X11_isIn : GoodIn wsX11_over (va_wsS RX11 47 yX11_isIn wsX11_isIn) := goodIn_app (goodIn_of _ (by decide +kernel)) ggX11_over_X11_isIn
set_option maxRecDepth 20000 in
theorem ggX11_over_X11_refuse : GoodIn wsX11_over wsX11_refuse := goodIn_r _ [9, 10, 11, 12, 13, 14, 15, 16, 17, 18, 19, 20, 21, 22, 23, 24, 25, 26, 27, 28, 29] (by decide +kernel) (by decide +kernel)
set_option maxRecDepth 20000 in
theorem gX11_over_X11_refuse : GoodIn wsX11_over (wsV RX11 51 RX11 yX11_refuse wsX11_refuse) := goodIn_app (goodIn_of _ (by decide +kernel)) ggX11_over_X11_refuse
theorem dX11_over_0 : decode cX11_over 0 = .ok (.iload_n 1, 1) := by decide +kernel
theorem dX11_over_1 : decode cX11_over 1 = .ok (.bipush 6, 2) := by decide +kernel
theorem dX11_over_3 : decode cX11_over 3 = .ok (.invokestatic 47, 3) := by decide +kernel
theorem dX11_over_6 : decode cX11_over 6 = .ok (.ifCond .eq 17, 3) := by decide +kernel
theorem dX11_over_9 : decode cX11_over 9 = .ok (.iload_n 3, 1) := by decide +kernel
theorem dX11_over_10 : decode cX11_over 10 = .ok (.bipush 6, 2) := by decide +kernel
theorem dX11_over_12 : decode cX11_over 12 = .ok (.invokestatic 47, 3) := by decide +kernel
theorem dX11_over_15 : decode cX11_over 15 = .ok (.ifCond .eq 8, 3) := by decide +kernel
theorem dX11_over_18 : decode cX11_over 18 = .ok (.iload_n 1, 1) := by decide +kernel
theorem dX11_over_19 : decode cX11_over 19 = .ok (.iload_n 3, 1) := by decide +kernel
theorem dX11_over_20 : decode cX11_over 20 = .ok (.if_icmp .ne 9, 3) := by decide +kernel
theorem dX11_over_23 : decode cX11_over 23 = .ok (.aload_n 0, 1) := by decide +kernel
theorem dX11_over_24 : decode cX11_over 24 = .ok (.iconst (-1), 1) := by decide +kernel
theorem dX11_over_25 : decode cX11_over 25 = .ok (.invokevirtual 51, 3) := by decide +kernel
theorem dX11_over_28 : decode cX11_over 28 = .ok (.ireturn, 1) := by decide +kernel
theorem dX11_over_29 : decode cX11_over 29 = .ok (.iload_n 2, 1) := by decide +kernel
theorem dX11_over_30 : decode cX11_over 30 = .ok (.iconst 1, 1) := by decide +kernel
theorem dX11_over_31 : decode cX11_over 31 = .ok (.if_icmp .lt 9, 3) := by decide +kernel
theorem dX11_over_34 : decode cX11_over 34 = .ok (.iload 4, 2) := by decide +kernel
theorem dX11_over_36 : decode cX11_over 36 = .ok (.iconst 1, 1) := by decide +kernel
theorem dX11_over_37 : decode cX11_over 37 = .ok (.if_icmp .ge 10, 3) := by decide +kernel
theorem dX11_over_40 : decode cX11_over 40 = .ok (.aload_n 0, 1) := by decide +kernel
theorem dX11_over_41 : decode cX11_over 41 = .ok (.bipush (-4), 2) := by decide +kernel
theorem dX11_over_43 : decode cX11_over 43 = .ok (.invokevirtual 51, 3) := by decide +kernel
theorem dX11_over_46 : decode cX11_over 46 = .ok (.ireturn, 1) := by decide +kernel
theorem dX11_over_47 : decode cX11_over 47 = .ok (.iload_n 2, 1) := by decide +kernel
theorem dX11_over_48 : decode cX11_over 48 = .ok (.bipush 30, 2) := by decide +kernel
theorem dX11_over_50 : decode cX11_over 50 = .ok (.if_icmp .gt 23, 3) := by decide +kernel
theorem dX11_over_53 : decode cX11_over 53 = .ok (.iload 4, 2) := by decide +kernel
theorem dX11_over_55 : decode cX11_over 55 = .ok (.bipush 30, 2) := by decide +kernel
theorem dX11_over_57 : decode cX11_over 57 = .ok (.if_icmp .gt 16, 3) := by decide +kernel
theorem dX11_over_60 : decode cX11_over 60 = .ok (.aload_n 0, 1) := by decide +kernel
theorem dX11_over_61 : decode cX11_over 61 = .ok (.getfield 13, 3) := by decide +kernel
theorem dX11_over_64 : decode cX11_over 64 = .ok (.sipush 307, 3) := by decide +kernel
theorem dX11_over_67 : decode cX11_over 67 = .ok (.iaload, 1) := by decide +kernel
theorem dX11_over_68 : decode cX11_over 68 = .ok (.bipush 12, 2) := by decide +kernel
theorem dX11_over_70 : decode cX11_over 70 = .ok (.if_icmp .ne 10, 3) := by decide +kernel
theorem dX11_over_73 : decode cX11_over 73 = .ok (.aload_n 0, 1) := by decide +kernel
theorem dX11_over_74 : decode cX11_over 74 = .ok (.bipush (-6), 2) := by decide +kernel
theorem dX11_over_76 : decode cX11_over 76 = .ok (.invokevirtual 51, 3) := by decide +kernel
theorem dX11_over_79 : decode cX11_over 79 = .ok (.ireturn, 1) := by decide +kernel
theorem dX11_over_80 : decode cX11_over 80 = .ok (.sipush 258, 3) := by decide +kernel
theorem dX11_over_83 : decode cX11_over 83 = .ok (.iconst 4, 1) := by decide +kernel
theorem dX11_over_84 : decode cX11_over 84 = .ok (.aload_n 0, 1) := by decide +kernel
theorem dX11_over_85 : decode cX11_over 85 = .ok (.getfield 13, 3) := by decide +kernel
theorem dX11_over_88 : decode cX11_over 88 = .ok (.sipush 307, 3) := by decide +kernel
theorem dX11_over_91 : decode cX11_over 91 = .ok (.iaload, 1) := by decide +kernel
theorem dX11_over_92 : decode cX11_over 92 = .ok (.imul, 1) := by decide +kernel
theorem dX11_over_93 : decode cX11_over 93 = .ok (.iadd, 1) := by decide +kernel
theorem dX11_over_94 : decode cX11_over 94 = .ok (.istore 5, 2) := by decide +kernel
theorem dX11_over_96 : decode cX11_over 96 = .ok (.aload_n 0, 1) := by decide +kernel
theorem dX11_over_97 : decode cX11_over 97 = .ok (.getfield 13, 3) := by decide +kernel
theorem dX11_over_100 : decode cX11_over 100 = .ok (.iload 5, 2) := by decide +kernel
theorem dX11_over_102 : decode cX11_over 102 = .ok (.iload_n 1, 1) := by decide +kernel
theorem dX11_over_103 : decode cX11_over 103 = .ok (.iastore, 1) := by decide +kernel
theorem dX11_over_104 : decode cX11_over 104 = .ok (.aload_n 0, 1) := by decide +kernel
theorem dX11_over_105 : decode cX11_over 105 = .ok (.getfield 13, 3) := by decide +kernel
theorem dX11_over_108 : decode cX11_over 108 = .ok (.iload 5, 2) := by decide +kernel
theorem dX11_over_110 : decode cX11_over 110 = .ok (.iconst 1, 1) := by decide +kernel
theorem dX11_over_111 : decode cX11_over 111 = .ok (.iadd, 1) := by decide +kernel
theorem dX11_over_112 : decode cX11_over 112 = .ok (.iload_n 2, 1) := by decide +kernel
theorem dX11_over_113 : decode cX11_over 113 = .ok (.iastore, 1) := by decide +kernel
theorem dX11_over_114 : decode cX11_over 114 = .ok (.aload_n 0, 1) := by decide +kernel
theorem dX11_over_115 : decode cX11_over 115 = .ok (.getfield 13, 3) := by decide +kernel
theorem dX11_over_118 : decode cX11_over 118 = .ok (.iload 5, 2) := by decide +kernel
theorem dX11_over_120 : decode cX11_over 120 = .ok (.iconst 2, 1) := by decide +kernel
theorem dX11_over_121 : decode cX11_over 121 = .ok (.iadd, 1) := by decide +kernel
theorem dX11_over_122 : decode cX11_over 122 = .ok (.iload_n 3, 1) := by decide +kernel
theorem dX11_over_123 : decode cX11_over 123 = .ok (.iastore, 1) := by decide +kernel
theorem dX11_over_124 : decode cX11_over 124 = .ok (.aload_n 0, 1) := by decide +kernel
theorem dX11_over_125 : decode cX11_over 125 = .ok (.getfield 13, 3) := by decide +kernel
theorem dX11_over_128 : decode cX11_over 128 = .ok (.iload 5, 2) := by decide +kernel
theorem dX11_over_130 : decode cX11_over 130 = .ok (.iconst 3, 1) := by decide +kernel
theorem dX11_over_131 : decode cX11_over 131 = .ok (.iadd, 1) := by decide +kernel
theorem dX11_over_132 : decode cX11_over 132 = .ok (.iload 4, 2) := by decide +kernel
theorem dX11_over_134 : decode cX11_over 134 = .ok (.iastore, 1) := by decide +kernel
theorem dX11_over_135 : decode cX11_over 135 = .ok (.aload_n 0, 1) := by decide +kernel
theorem dX11_over_136 : decode cX11_over 136 = .ok (.getfield 13, 3) := by decide +kernel
theorem dX11_over_139 : decode cX11_over 139 = .ok (.sipush 307, 3) := by decide +kernel
theorem dX11_over_142 : decode cX11_over 142 = .ok (.dup2, 1) := by decide +kernel
theorem dX11_over_143 : decode cX11_over 143 = .ok (.iaload, 1) := by decide +kernel
theorem dX11_over_144 : decode cX11_over 144 = .ok (.iconst 1, 1) := by decide +kernel
theorem dX11_over_145 : decode cX11_over 145 = .ok (.iadd, 1) := by decide +kernel
theorem dX11_over_146 : decode cX11_over 146 = .ok (.iastore, 1) := by decide +kernel
theorem dX11_over_147 : decode cX11_over 147 = .ok (.aload_n 0, 1) := by decide +kernel
theorem dX11_over_148 : decode cX11_over 148 = .ok (.getfield 13, 3) := by decide +kernel
theorem dX11_over_151 : decode cX11_over 151 = .ok (.sipush 307, 3) := by decide +kernel
theorem dX11_over_154 : decode cX11_over 154 = .ok (.iaload, 1) := by decide +kernel
theorem dX11_over_155 : decode cX11_over 155 = .ok (.ireturn, 1) := by decide +kernel
theorem dX11_overOf_0 : decode cX11_overOf 0 = .ok (.aload_n 0, 1) := by decide +kernel
theorem dX11_overOf_1 : decode cX11_overOf 1 = .ok (.getfield 13, 3) := by decide +kernel
theorem dX11_overOf_4 : decode cX11_overOf 4 = .ok (.sipush 258, 3) := by decide +kernel
theorem dX11_overOf_7 : decode cX11_overOf 7 = .ok (.iconst 4, 1) := by decide +kernel
theorem dX11_overOf_8 : decode cX11_overOf 8 = .ok (.iload_n 1, 1) := by decide +kernel
theorem dX11_overOf_9 : decode cX11_overOf 9 = .ok (.imul, 1) := by decide +kernel
theorem dX11_overOf_10 : decode cX11_overOf 10 = .ok (.iadd, 1) := by decide +kernel
theorem dX11_overOf_11 : decode cX11_overOf 11 = .ok (.iload_n 2, 1) := by decide +kernel
theorem dX11_overOf_12 : decode cX11_overOf 12 = .ok (.iadd, 1) := by decide +kernel
theorem dX11_overOf_13 : decode cX11_overOf 13 = .ok (.iaload, 1) := by decide +kernel
theorem dX11_overOf_14 : decode cX11_overOf 14 = .ok (.ireturn, 1) := by decide +kernel
set_option maxRecDepth 20000 in
theorem ggX11_goes_X11_overOf : GoodIn wsX11_goes wsX11_overOf := goodIn_r _ [8, 3, 12, 13, 14, 15, 16, 17, 18, 19, 20, 21, 22, 23, 24, 25, 26, 27, 28, 29, 30] (by decide +kernel) (by decide +kernel)
set_option maxRecDepth 20000 in
theorem gX11_goes_X11_overOf : GoodIn wsX11_goes (wsV RX11 133 RX11 yX11_overOf wsX11_overOf) := goodIn_app (goodIn_of _ (by decide +kernel)) ggX11_goes_X11_overOf
set_option maxRecDepth 20000 in
theorem ggX11_goes_X11_goes : GoodIn wsX11_goes wsX11_goes := goodIn_r _ [0, 1, 2, 3, 4, 5, 6, 7, 8, 9, 10, 11, 12, 13, 14, 15, 16, 17, 18, 19, 20, 21, 22, 23, 24, 25, 26, 27, 28, 29, 30] (by decide +kernel) (by decide +kernel)
set_option maxRecDepth 20000 in
theorem gX11_goes_X11_goes : GoodIn wsX11_goes (wsV RX11 136 RX11 yX11_goes wsX11_goes) := goodIn_app (goodIn_of _ (by decide +kernel)) ggX11_goes_X11_goes
theorem dX11_goes_0 : decode cX11_goes 0 = .ok (.iload_n 1, 1) := by decide +kernel
theorem dX11_goes_1 : decode cX11_goes 1 = .ok (.iload_n 2, 1) := by decide +kernel
theorem dX11_goes_2 : decode cX11_goes 2 = .ok (.if_icmp .ne 43, 3) := by decide +kernel
theorem dX11_goes_5 : decode cX11_goes 5 = .ok (.aload_n 0, 1) := by decide +kernel
theorem dX11_goes_6 : decode cX11_goes 6 = .ok (.getfield 126, 3) := by decide +kernel
theorem dX11_goes_9 : decode cX11_goes 9 = .ok (.lconst 0, 1) := by decide +kernel
theorem dX11_goes_10 : decode cX11_goes 10 = .ok (.lcmp, 1) := by decide +kernel
theorem dX11_goes_11 : decode cX11_goes 11 = .ok (.ifCond .eq 21, 3) := by decide +kernel
theorem dX11_goes_14 : decode cX11_goes 14 = .ok (.lload 4, 2) := by decide +kernel
theorem dX11_goes_16 : decode cX11_goes 16 = .ok (.aload_n 0, 1) := by decide +kernel
theorem dX11_goes_17 : decode cX11_goes 17 = .ok (.getfield 126, 3) := by decide +kernel
theorem dX11_goes_20 : decode cX11_goes 20 = .ok (.lmul, 1) := by decide +kernel
theorem dX11_goes_21 : decode cX11_goes 21 = .ok (.aload_n 0, 1) := by decide +kernel
theorem dX11_goes_22 : decode cX11_goes 22 = .ok (.getfield 130, 3) := by decide +kernel
theorem dX11_goes_25 : decode cX11_goes 25 = .ok (.lload 6, 2) := by decide +kernel
theorem dX11_goes_27 : decode cX11_goes 27 = .ok (.lmul, 1) := by decide +kernel
theorem dX11_goes_28 : decode cX11_goes 28 = .ok (.lcmp, 1) := by decide +kernel
theorem dX11_goes_29 : decode cX11_goes 29 = .ok (.ifCond .ge 15, 3) := by decide +kernel
theorem dX11_goes_32 : decode cX11_goes 32 = .ok (.aload_n 0, 1) := by decide +kernel
theorem dX11_goes_33 : decode cX11_goes 33 = .ok (.lload 4, 2) := by decide +kernel
theorem dX11_goes_35 : decode cX11_goes 35 = .ok (.putfield 130, 3) := by decide +kernel
theorem dX11_goes_38 : decode cX11_goes 38 = .ok (.aload_n 0, 1) := by decide +kernel
theorem dX11_goes_39 : decode cX11_goes 39 = .ok (.lload 6, 2) := by decide +kernel
theorem dX11_goes_41 : decode cX11_goes 41 = .ok (.putfield 126, 3) := by decide +kernel
theorem dX11_goes_44 : decode cX11_goes 44 = .ok (.return_, 1) := by decide +kernel
theorem dX11_goes_45 : decode cX11_goes 45 = .ok (.iconst 0, 1) := by decide +kernel
theorem dX11_goes_46 : decode cX11_goes 46 = .ok (.istore 8, 2) := by decide +kernel
theorem dX11_goes_48 : decode cX11_goes 48 = .ok (.iload 8, 2) := by decide +kernel
theorem dX11_goes_50 : decode cX11_goes 50 = .ok (.aload_n 0, 1) := by decide +kernel
theorem dX11_goes_51 : decode cX11_goes 51 = .ok (.getfield 13, 3) := by decide +kernel
theorem dX11_goes_54 : decode cX11_goes 54 = .ok (.sipush 307, 3) := by decide +kernel
theorem dX11_goes_57 : decode cX11_goes 57 = .ok (.iaload, 1) := by decide +kernel
theorem dX11_goes_58 : decode cX11_goes 58 = .ok (.if_icmp .ge 79, 3) := by decide +kernel
theorem dX11_goes_61 : decode cX11_goes 61 = .ok (.aload_n 0, 1) := by decide +kernel
theorem dX11_goes_62 : decode cX11_goes 62 = .ok (.iload 8, 2) := by decide +kernel
theorem dX11_goes_64 : decode cX11_goes 64 = .ok (.iconst 0, 1) := by decide +kernel
theorem dX11_goes_65 : decode cX11_goes 65 = .ok (.invokevirtual 133, 3) := by decide +kernel
theorem dX11_goes_68 : decode cX11_goes 68 = .ok (.iload_n 1, 1) := by decide +kernel
theorem dX11_goes_69 : decode cX11_goes 69 = .ok (.if_icmp .ne 62, 3) := by decide +kernel
theorem dX11_goes_72 : decode cX11_goes 72 = .ok (.iload_n 3, 1) := by decide +kernel
theorem dX11_goes_73 : decode cX11_goes 73 = .ok (.aload_n 0, 1) := by decide +kernel
theorem dX11_goes_74 : decode cX11_goes 74 = .ok (.iload 8, 2) := by decide +kernel
theorem dX11_goes_76 : decode cX11_goes 76 = .ok (.iconst 2, 1) := by decide +kernel
theorem dX11_goes_77 : decode cX11_goes 77 = .ok (.invokevirtual 133, 3) := by decide +kernel
theorem dX11_goes_80 : decode cX11_goes 80 = .ok (.ishr, 1) := by decide +kernel
theorem dX11_goes_81 : decode cX11_goes 81 = .ok (.iconst 1, 1) := by decide +kernel
theorem dX11_goes_82 : decode cX11_goes 82 = .ok (.iand, 1) := by decide +kernel
theorem dX11_goes_83 : decode cX11_goes 83 = .ok (.ifCond .ne 48, 3) := by decide +kernel
theorem dX11_goes_86 : decode cX11_goes 86 = .ok (.aload_n 0, 1) := by decide +kernel
theorem dX11_goes_87 : decode cX11_goes 87 = .ok (.aload_n 0, 1) := by decide +kernel
theorem dX11_goes_88 : decode cX11_goes 88 = .ok (.iload 8, 2) := by decide +kernel
theorem dX11_goes_90 : decode cX11_goes 90 = .ok (.iconst 2, 1) := by decide +kernel
theorem dX11_goes_91 : decode cX11_goes 91 = .ok (.invokevirtual 133, 3) := by decide +kernel
theorem dX11_goes_94 : decode cX11_goes 94 = .ok (.iload_n 2, 1) := by decide +kernel
theorem dX11_goes_95 : decode cX11_goes 95 = .ok (.iload_n 3, 1) := by decide +kernel
theorem dX11_goes_96 : decode cX11_goes 96 = .ok (.iconst 1, 1) := by decide +kernel
theorem dX11_goes_97 : decode cX11_goes 97 = .ok (.aload_n 0, 1) := by decide +kernel
theorem dX11_goes_98 : decode cX11_goes 98 = .ok (.iload 8, 2) := by decide +kernel
theorem dX11_goes_100 : decode cX11_goes 100 = .ok (.iconst 2, 1) := by decide +kernel
theorem dX11_goes_101 : decode cX11_goes 101 = .ok (.invokevirtual 133, 3) := by decide +kernel
theorem dX11_goes_104 : decode cX11_goes 104 = .ok (.ishl, 1) := by decide +kernel
theorem dX11_goes_105 : decode cX11_goes 105 = .ok (.ior, 1) := by decide +kernel
theorem dX11_goes_106 : decode cX11_goes 106 = .ok (.lload 4, 2) := by decide +kernel
theorem dX11_goes_108 : decode cX11_goes 108 = .ok (.aload_n 0, 1) := by decide +kernel
theorem dX11_goes_109 : decode cX11_goes 109 = .ok (.iload 8, 2) := by decide +kernel
theorem dX11_goes_111 : decode cX11_goes 111 = .ok (.iconst 3, 1) := by decide +kernel
theorem dX11_goes_112 : decode cX11_goes 112 = .ok (.invokevirtual 133, 3) := by decide +kernel
theorem dX11_goes_115 : decode cX11_goes 115 = .ok (.i2l, 1) := by decide +kernel
theorem dX11_goes_116 : decode cX11_goes 116 = .ok (.lmul, 1) := by decide +kernel
theorem dX11_goes_117 : decode cX11_goes 117 = .ok (.lload 6, 2) := by decide +kernel
theorem dX11_goes_119 : decode cX11_goes 119 = .ok (.aload_n 0, 1) := by decide +kernel
theorem dX11_goes_120 : decode cX11_goes 120 = .ok (.iload 8, 2) := by decide +kernel
theorem dX11_goes_122 : decode cX11_goes 122 = .ok (.iconst 1, 1) := by decide +kernel
theorem dX11_goes_123 : decode cX11_goes 123 = .ok (.invokevirtual 133, 3) := by decide +kernel
theorem dX11_goes_126 : decode cX11_goes 126 = .ok (.i2l, 1) := by decide +kernel
theorem dX11_goes_127 : decode cX11_goes 127 = .ok (.lmul, 1) := by decide +kernel
theorem dX11_goes_128 : decode cX11_goes 128 = .ok (.invokevirtual 136, 3) := by decide +kernel
theorem dX11_goes_131 : decode cX11_goes 131 = .ok (.iinc 8 1, 3) := by decide +kernel
theorem dX11_goes_134 : decode cX11_goes 134 = .ok (.goto (-86), 3) := by decide +kernel
theorem dX11_goes_137 : decode cX11_goes 137 = .ok (.return_, 1) := by decide +kernel
set_option maxRecDepth 20000 in
theorem ggX11_byPutting_X11_isIn : GoodIn wsX11_byPutting wsX11_isIn := goodIn_r _ [6] (by decide +kernel) (by decide +kernel)
set_option maxRecDepth 20000 in
theorem gX11_byPutting_X11_isIn : GoodIn wsX11_byPutting (va_wsS RX11 47 yX11_isIn wsX11_isIn) := goodIn_app (goodIn_of _ (by decide +kernel)) ggX11_byPutting_X11_isIn
set_option maxRecDepth 20000 in
theorem ggX11_byPutting_X11_refuse : GoodIn wsX11_byPutting wsX11_refuse := goodIn_r _ [10, 11, 21, 22, 23, 24, 25, 26, 27, 28, 29, 30, 31, 32, 33, 34, 35, 36, 37, 38, 39] (by decide +kernel) (by decide +kernel)
set_option maxRecDepth 20000 in
theorem gX11_byPutting_X11_refuse : GoodIn wsX11_byPutting (wsV RX11 51 RX11 yX11_refuse wsX11_refuse) := goodIn_app (goodIn_of _ (by decide +kernel)) ggX11_byPutting_X11_refuse
set_option maxRecDepth 20000 in
theorem ggX11_byPutting_X11_goes : GoodIn wsX11_byPutting wsX11_goes := goodIn_r _ [15, 2, 1, 16, 17, 18, 19, 5, 20, 12, 13, 14, 21, 22, 23, 24, 25, 26, 27, 28, 29, 30, 31, 32, 33, 34, 35, 36, 37, 38, 39] (by decide +kernel) (by decide +kernel)
set_option maxRecDepth 20000 in
theorem gX11_byPutting_X11_goes : GoodIn wsX11_byPutting (wsV RX11 136 RX11 yX11_goes wsX11_goes) := goodIn_app (goodIn_of _ (by decide +kernel)) ggX11_byPutting_X11_goes
theorem dX11_byPutting_0 : decode cX11_byPutting 0 = .ok (.iload_n 1, 1) := by decide +kernel
theorem dX11_byPutting_1 : decode cX11_byPutting 1 = .ok (.bipush 6, 2) := by decide +kernel
theorem dX11_byPutting_3 : decode cX11_byPutting 3 = .ok (.invokestatic 47, 3) := by decide +kernel
theorem dX11_byPutting_6 : decode cX11_byPutting 6 = .ok (.ifCond .ne 9, 3) := by decide +kernel
theorem dX11_byPutting_9 : decode cX11_byPutting 9 = .ok (.aload_n 0, 1) := by decide +kernel
theorem dX11_byPutting_10 : decode cX11_byPutting 10 = .ok (.iconst (-1), 1) := by decide +kernel
theorem dX11_byPutting_11 : decode cX11_byPutting 11 = .ok (.invokevirtual 51, 3) := by decide +kernel
theorem dX11_byPutting_14 : decode cX11_byPutting 14 = .ok (.ireturn, 1) := by decide +kernel
theorem dX11_byPutting_15 : decode cX11_byPutting 15 = .ok (.iload_n 2, 1) := by decide +kernel
theorem dX11_byPutting_16 : decode cX11_byPutting 16 = .ok (.iconst 2, 1) := by decide +kernel
theorem dX11_byPutting_17 : decode cX11_byPutting 17 = .ok (.invokestatic 47, 3) := by decide +kernel
theorem dX11_byPutting_20 : decode cX11_byPutting 20 = .ok (.ifCond .ne 10, 3) := by decide +kernel
theorem dX11_byPutting_23 : decode cX11_byPutting 23 = .ok (.aload_n 0, 1) := by decide +kernel
theorem dX11_byPutting_24 : decode cX11_byPutting 24 = .ok (.bipush (-2), 2) := by decide +kernel
theorem dX11_byPutting_26 : decode cX11_byPutting 26 = .ok (.invokevirtual 51, 3) := by decide +kernel
theorem dX11_byPutting_29 : decode cX11_byPutting 29 = .ok (.ireturn, 1) := by decide +kernel
theorem dX11_byPutting_30 : decode cX11_byPutting 30 = .ok (.aload_n 0, 1) := by decide +kernel
theorem dX11_byPutting_31 : decode cX11_byPutting 31 = .ok (.lconst 0, 1) := by decide +kernel
theorem dX11_byPutting_32 : decode cX11_byPutting 32 = .ok (.putfield 130, 3) := by decide +kernel
theorem dX11_byPutting_35 : decode cX11_byPutting 35 = .ok (.aload_n 0, 1) := by decide +kernel
theorem dX11_byPutting_36 : decode cX11_byPutting 36 = .ok (.lconst 0, 1) := by decide +kernel
theorem dX11_byPutting_37 : decode cX11_byPutting 37 = .ok (.putfield 126, 3) := by decide +kernel
theorem dX11_byPutting_40 : decode cX11_byPutting 40 = .ok (.aload_n 0, 1) := by decide +kernel
theorem dX11_byPutting_41 : decode cX11_byPutting 41 = .ok (.iconst 0, 1) := by decide +kernel
theorem dX11_byPutting_42 : decode cX11_byPutting 42 = .ok (.iload_n 1, 1) := by decide +kernel
theorem dX11_byPutting_43 : decode cX11_byPutting 43 = .ok (.iconst 1, 1) := by decide +kernel
theorem dX11_byPutting_44 : decode cX11_byPutting 44 = .ok (.lconst 1, 1) := by decide +kernel
theorem dX11_byPutting_45 : decode cX11_byPutting 45 = .ok (.lconst 1, 1) := by decide +kernel
theorem dX11_byPutting_46 : decode cX11_byPutting 46 = .ok (.invokevirtual 136, 3) := by decide +kernel
theorem dX11_byPutting_49 : decode cX11_byPutting 49 = .ok (.aload_n 0, 1) := by decide +kernel
theorem dX11_byPutting_50 : decode cX11_byPutting 50 = .ok (.getfield 126, 3) := by decide +kernel
theorem dX11_byPutting_53 : decode cX11_byPutting 53 = .ok (.lconst 0, 1) := by decide +kernel
theorem dX11_byPutting_54 : decode cX11_byPutting 54 = .ok (.lcmp, 1) := by decide +kernel
theorem dX11_byPutting_55 : decode cX11_byPutting 55 = .ok (.ifCond .ne 6, 3) := by decide +kernel
theorem dX11_byPutting_58 : decode cX11_byPutting 58 = .ok (.bipush (-9), 2) := by decide +kernel
theorem dX11_byPutting_60 : decode cX11_byPutting 60 = .ok (.ireturn, 1) := by decide +kernel
theorem dX11_byPutting_61 : decode cX11_byPutting 61 = .ok (.aload_n 0, 1) := by decide +kernel
theorem dX11_byPutting_62 : decode cX11_byPutting 62 = .ok (.getfield 130, 3) := by decide +kernel
theorem dX11_byPutting_65 : decode cX11_byPutting 65 = .ok (.lstore_n 3, 1) := by decide +kernel
theorem dX11_byPutting_66 : decode cX11_byPutting 66 = .ok (.aload_n 0, 1) := by decide +kernel
theorem dX11_byPutting_67 : decode cX11_byPutting 67 = .ok (.getfield 126, 3) := by decide +kernel
theorem dX11_byPutting_70 : decode cX11_byPutting 70 = .ok (.lstore 5, 2) := by decide +kernel
theorem dX11_byPutting_72 : decode cX11_byPutting 72 = .ok (.lload 5, 2) := by decide +kernel
theorem dX11_byPutting_74 : decode cX11_byPutting 74 = .ok (.lconst 0, 1) := by decide +kernel
theorem dX11_byPutting_75 : decode cX11_byPutting 75 = .ok (.lcmp, 1) := by decide +kernel
theorem dX11_byPutting_76 : decode cX11_byPutting 76 = .ok (.ifCond .eq 19, 3) := by decide +kernel
theorem dX11_byPutting_79 : decode cX11_byPutting 79 = .ok (.lload_n 3, 1) := by decide +kernel
theorem dX11_byPutting_80 : decode cX11_byPutting 80 = .ok (.lload 5, 2) := by decide +kernel
theorem dX11_byPutting_82 : decode cX11_byPutting 82 = .ok (.lrem, 1) := by decide +kernel
theorem dX11_byPutting_83 : decode cX11_byPutting 83 = .ok (.lstore 7, 2) := by decide +kernel
theorem dX11_byPutting_85 : decode cX11_byPutting 85 = .ok (.lload 5, 2) := by decide +kernel
theorem dX11_byPutting_87 : decode cX11_byPutting 87 = .ok (.lstore_n 3, 1) := by decide +kernel
theorem dX11_byPutting_88 : decode cX11_byPutting 88 = .ok (.lload 7, 2) := by decide +kernel
theorem dX11_byPutting_90 : decode cX11_byPutting 90 = .ok (.lstore 5, 2) := by decide +kernel
theorem dX11_byPutting_92 : decode cX11_byPutting 92 = .ok (.goto (-20), 3) := by decide +kernel
theorem dX11_byPutting_95 : decode cX11_byPutting 95 = .ok (.iload_n 2, 1) := by decide +kernel
theorem dX11_byPutting_96 : decode cX11_byPutting 96 = .ok (.ifCond .ne 12, 3) := by decide +kernel
theorem dX11_byPutting_99 : decode cX11_byPutting 99 = .ok (.aload_n 0, 1) := by decide +kernel
theorem dX11_byPutting_100 : decode cX11_byPutting 100 = .ok (.getfield 130, 3) := by decide +kernel
theorem dX11_byPutting_103 : decode cX11_byPutting 103 = .ok (.lload_n 3, 1) := by decide +kernel
theorem dX11_byPutting_104 : decode cX11_byPutting 104 = .ok (.ldiv, 1) := by decide +kernel
theorem dX11_byPutting_105 : decode cX11_byPutting 105 = .ok (.goto 9, 3) := by decide +kernel
theorem dX11_byPutting_108 : decode cX11_byPutting 108 = .ok (.aload_n 0, 1) := by decide +kernel
theorem dX11_byPutting_109 : decode cX11_byPutting 109 = .ok (.getfield 126, 3) := by decide +kernel
theorem dX11_byPutting_112 : decode cX11_byPutting 112 = .ok (.lload_n 3, 1) := by decide +kernel
theorem dX11_byPutting_113 : decode cX11_byPutting 113 = .ok (.ldiv, 1) := by decide +kernel
theorem dX11_byPutting_114 : decode cX11_byPutting 114 = .ok (.l2i, 1) := by decide +kernel
theorem dX11_byPutting_115 : decode cX11_byPutting 115 = .ok (.ireturn, 1) := by decide +kernel
set_option maxRecDepth 20000 in
theorem ggX11_rounds_X11_overOf : GoodIn wsX11_rounds wsX11_overOf := goodIn_r _ [8, 1, 12, 13, 14, 15, 16, 17, 18, 19, 20, 21, 22, 23, 24, 25, 26, 27, 28, 29, 30] (by decide +kernel) (by decide +kernel)
set_option maxRecDepth 20000 in
theorem gX11_rounds_X11_overOf : GoodIn wsX11_rounds (wsV RX11 133 RX11 yX11_overOf wsX11_overOf) := goodIn_app (goodIn_of _ (by decide +kernel)) ggX11_rounds_X11_overOf
set_option maxRecDepth 20000 in
theorem ggX11_rounds_X11_rounds : GoodIn wsX11_rounds wsX11_rounds := goodIn_r _ [0, 1, 2, 3, 4, 5, 6, 7, 8, 9, 10, 11, 12, 13, 14, 15, 16, 17, 18, 19, 20, 21, 22, 23, 24, 25, 26, 27, 28, 29, 30] (by decide +kernel) (by decide +kernel)
set_option maxRecDepth 20000 in
theorem gX11_rounds_X11_rounds : GoodIn wsX11_rounds (wsV RX11 143 RX11 yX11_rounds wsX11_rounds) := goodIn_app (goodIn_of _ (by decide +kernel)) ggX11_rounds_X11_rounds
theorem dX11_rounds_0 : decode cX11_rounds 0 = .ok (.iconst 0, 1) := by decide +kernel
theorem dX11_rounds_1 : decode cX11_rounds 1 = .ok (.istore 9, 2) := by decide +kernel
theorem dX11_rounds_3 : decode cX11_rounds 3 = .ok (.iload 9, 2) := by decide +kernel
theorem dX11_rounds_5 : decode cX11_rounds 5 = .ok (.aload_n 0, 1) := by decide +kernel
theorem dX11_rounds_6 : decode cX11_rounds 6 = .ok (.getfield 13, 3) := by decide +kernel
theorem dX11_rounds_9 : decode cX11_rounds 9 = .ok (.sipush 307, 3) := by decide +kernel
theorem dX11_rounds_12 : decode cX11_rounds 12 = .ok (.iaload, 1) := by decide +kernel
theorem dX11_rounds_13 : decode cX11_rounds 13 = .ok (.if_icmp .ge 147, 3) := by decide +kernel
theorem dX11_rounds_16 : decode cX11_rounds 16 = .ok (.aload_n 0, 1) := by decide +kernel
theorem dX11_rounds_17 : decode cX11_rounds 17 = .ok (.iload 9, 2) := by decide +kernel
theorem dX11_rounds_19 : decode cX11_rounds 19 = .ok (.iconst 0, 1) := by decide +kernel
theorem dX11_rounds_20 : decode cX11_rounds 20 = .ok (.invokevirtual 133, 3) := by decide +kernel
theorem dX11_rounds_23 : decode cX11_rounds 23 = .ok (.iload_n 1, 1) := by decide +kernel
theorem dX11_rounds_24 : decode cX11_rounds 24 = .ok (.if_icmp .eq 6, 3) := by decide +kernel
theorem dX11_rounds_27 : decode cX11_rounds 27 = .ok (.goto 127, 3) := by decide +kernel
theorem dX11_rounds_30 : decode cX11_rounds 30 = .ok (.aload_n 0, 1) := by decide +kernel
theorem dX11_rounds_31 : decode cX11_rounds 31 = .ok (.iload 9, 2) := by decide +kernel
theorem dX11_rounds_33 : decode cX11_rounds 33 = .ok (.iconst 2, 1) := by decide +kernel
theorem dX11_rounds_34 : decode cX11_rounds 34 = .ok (.invokevirtual 133, 3) := by decide +kernel
theorem dX11_rounds_37 : decode cX11_rounds 37 = .ok (.istore 10, 2) := by decide +kernel
theorem dX11_rounds_39 : decode cX11_rounds 39 = .ok (.lload 5, 2) := by decide +kernel
theorem dX11_rounds_41 : decode cX11_rounds 41 = .ok (.aload_n 0, 1) := by decide +kernel
theorem dX11_rounds_42 : decode cX11_rounds 42 = .ok (.iload 9, 2) := by decide +kernel
theorem dX11_rounds_44 : decode cX11_rounds 44 = .ok (.iconst 3, 1) := by decide +kernel
theorem dX11_rounds_45 : decode cX11_rounds 45 = .ok (.invokevirtual 133, 3) := by decide +kernel
theorem dX11_rounds_48 : decode cX11_rounds 48 = .ok (.i2l, 1) := by decide +kernel
theorem dX11_rounds_49 : decode cX11_rounds 49 = .ok (.lmul, 1) := by decide +kernel
theorem dX11_rounds_50 : decode cX11_rounds 50 = .ok (.lstore 11, 2) := by decide +kernel
theorem dX11_rounds_52 : decode cX11_rounds 52 = .ok (.lload 7, 2) := by decide +kernel
theorem dX11_rounds_54 : decode cX11_rounds 54 = .ok (.aload_n 0, 1) := by decide +kernel
theorem dX11_rounds_55 : decode cX11_rounds 55 = .ok (.iload 9, 2) := by decide +kernel
theorem dX11_rounds_57 : decode cX11_rounds 57 = .ok (.iconst 1, 1) := by decide +kernel
theorem dX11_rounds_58 : decode cX11_rounds 58 = .ok (.invokevirtual 133, 3) := by decide +kernel
theorem dX11_rounds_61 : decode cX11_rounds 61 = .ok (.i2l, 1) := by decide +kernel
theorem dX11_rounds_62 : decode cX11_rounds 62 = .ok (.lmul, 1) := by decide +kernel
theorem dX11_rounds_63 : decode cX11_rounds 63 = .ok (.lstore 13, 2) := by decide +kernel
theorem dX11_rounds_65 : decode cX11_rounds 65 = .ok (.iload 10, 2) := by decide +kernel
theorem dX11_rounds_67 : decode cX11_rounds 67 = .ok (.iload_n 2, 1) := by decide +kernel
theorem dX11_rounds_68 : decode cX11_rounds 68 = .ok (.if_icmp .ne 47, 3) := by decide +kernel
theorem dX11_rounds_71 : decode cX11_rounds 71 = .ok (.lload 11, 2) := by decide +kernel
theorem dX11_rounds_73 : decode cX11_rounds 73 = .ok (.lload 13, 2) := by decide +kernel
theorem dX11_rounds_75 : decode cX11_rounds 75 = .ok (.lcmp, 1) := by decide +kernel
theorem dX11_rounds_76 : decode cX11_rounds 76 = .ok (.ifCond .ge 39, 3) := by decide +kernel
theorem dX11_rounds_79 : decode cX11_rounds 79 = .ok (.aload_n 0, 1) := by decide +kernel
theorem dX11_rounds_80 : decode cX11_rounds 80 = .ok (.getfield 140, 3) := by decide +kernel
theorem dX11_rounds_83 : decode cX11_rounds 83 = .ok (.sipush 4096, 3) := by decide +kernel
theorem dX11_rounds_86 : decode cX11_rounds 86 = .ok (.if_icmp .ge 29, 3) := by decide +kernel
theorem dX11_rounds_89 : decode cX11_rounds 89 = .ok (.aload_n 0, 1) := by decide +kernel
theorem dX11_rounds_90 : decode cX11_rounds 90 = .ok (.getfield 34, 3) := by decide +kernel
theorem dX11_rounds_93 : decode cX11_rounds 93 = .ok (.aload_n 0, 1) := by decide +kernel
theorem dX11_rounds_94 : decode cX11_rounds 94 = .ok (.getfield 140, 3) := by decide +kernel
theorem dX11_rounds_97 : decode cX11_rounds 97 = .ok (.iload 4, 2) := by decide +kernel
theorem dX11_rounds_99 : decode cX11_rounds 99 = .ok (.iconst 1, 1) := by decide +kernel
theorem dX11_rounds_100 : decode cX11_rounds 100 = .ok (.iload 9, 2) := by decide +kernel
theorem dX11_rounds_102 : decode cX11_rounds 102 = .ok (.ishl, 1) := by decide +kernel
theorem dX11_rounds_103 : decode cX11_rounds 103 = .ok (.ior, 1) := by decide +kernel
theorem dX11_rounds_104 : decode cX11_rounds 104 = .ok (.iastore, 1) := by decide +kernel
theorem dX11_rounds_105 : decode cX11_rounds 105 = .ok (.aload_n 0, 1) := by decide +kernel
theorem dX11_rounds_106 : decode cX11_rounds 106 = .ok (.dup, 1) := by decide +kernel
theorem dX11_rounds_107 : decode cX11_rounds 107 = .ok (.getfield 140, 3) := by decide +kernel
theorem dX11_rounds_110 : decode cX11_rounds 110 = .ok (.iconst 1, 1) := by decide +kernel
theorem dX11_rounds_111 : decode cX11_rounds 111 = .ok (.iadd, 1) := by decide +kernel
theorem dX11_rounds_112 : decode cX11_rounds 112 = .ok (.putfield 140, 3) := by decide +kernel
theorem dX11_rounds_115 : decode cX11_rounds 115 = .ok (.iload 10, 2) := by decide +kernel
theorem dX11_rounds_117 : decode cX11_rounds 117 = .ok (.iload_n 2, 1) := by decide +kernel
theorem dX11_rounds_118 : decode cX11_rounds 118 = .ok (.if_icmp .le 36, 3) := by decide +kernel
theorem dX11_rounds_121 : decode cX11_rounds 121 = .ok (.iload_n 3, 1) := by decide +kernel
theorem dX11_rounds_122 : decode cX11_rounds 122 = .ok (.iload 10, 2) := by decide +kernel
theorem dX11_rounds_124 : decode cX11_rounds 124 = .ok (.ishr, 1) := by decide +kernel
theorem dX11_rounds_125 : decode cX11_rounds 125 = .ok (.iconst 1, 1) := by decide +kernel
theorem dX11_rounds_126 : decode cX11_rounds 126 = .ok (.iand, 1) := by decide +kernel
theorem dX11_rounds_127 : decode cX11_rounds 127 = .ok (.ifCond .ne 27, 3) := by decide +kernel
theorem dX11_rounds_130 : decode cX11_rounds 130 = .ok (.aload_n 0, 1) := by decide +kernel
theorem dX11_rounds_131 : decode cX11_rounds 131 = .ok (.iload 10, 2) := by decide +kernel
theorem dX11_rounds_133 : decode cX11_rounds 133 = .ok (.iload_n 2, 1) := by decide +kernel
theorem dX11_rounds_134 : decode cX11_rounds 134 = .ok (.iload_n 3, 1) := by decide +kernel
theorem dX11_rounds_135 : decode cX11_rounds 135 = .ok (.iconst 1, 1) := by decide +kernel
theorem dX11_rounds_136 : decode cX11_rounds 136 = .ok (.iload 10, 2) := by decide +kernel
theorem dX11_rounds_138 : decode cX11_rounds 138 = .ok (.ishl, 1) := by decide +kernel
theorem dX11_rounds_139 : decode cX11_rounds 139 = .ok (.ior, 1) := by decide +kernel
theorem dX11_rounds_140 : decode cX11_rounds 140 = .ok (.iload 4, 2) := by decide +kernel
theorem dX11_rounds_142 : decode cX11_rounds 142 = .ok (.iconst 1, 1) := by decide +kernel
theorem dX11_rounds_143 : decode cX11_rounds 143 = .ok (.iload 9, 2) := by decide +kernel
theorem dX11_rounds_145 : decode cX11_rounds 145 = .ok (.ishl, 1) := by decide +kernel
theorem dX11_rounds_146 : decode cX11_rounds 146 = .ok (.ior, 1) := by decide +kernel
theorem dX11_rounds_147 : decode cX11_rounds 147 = .ok (.lload 11, 2) := by decide +kernel
theorem dX11_rounds_149 : decode cX11_rounds 149 = .ok (.lload 13, 2) := by decide +kernel
theorem dX11_rounds_151 : decode cX11_rounds 151 = .ok (.invokevirtual 143, 3) := by decide +kernel
theorem dX11_rounds_154 : decode cX11_rounds 154 = .ok (.iinc 9 1, 3) := by decide +kernel
theorem dX11_rounds_157 : decode cX11_rounds 157 = .ok (.goto (-154), 3) := by decide +kernel
theorem dX11_rounds_160 : decode cX11_rounds 160 = .ok (.return_, 1) := by decide +kernel
set_option maxRecDepth 20000 in
theorem ggX11_findRings_X11_rounds : GoodIn wsX11_findRings wsX11_rounds := goodIn_r _ [6, 7, 1, 8, 9, 10, 11, 5, 12, 2, 3, 4, 13, 14, 15, 16, 17, 18, 19, 20, 21, 22, 23, 24, 25, 26, 27, 28, 29, 30, 31] (by decide +kernel) (by decide +kernel)
set_option maxRecDepth 20000 in
theorem gX11_findRings_X11_rounds : GoodIn wsX11_findRings (wsV RX11 143 RX11 yX11_rounds wsX11_rounds) := goodIn_app (goodIn_of _ (by decide +kernel)) ggX11_findRings_X11_rounds
theorem dX11_findRings_0 : decode cX11_findRings 0 = .ok (.aload_n 0, 1) := by decide +kernel
theorem dX11_findRings_1 : decode cX11_findRings 1 = .ok (.iconst 0, 1) := by decide +kernel
theorem dX11_findRings_2 : decode cX11_findRings 2 = .ok (.putfield 140, 3) := by decide +kernel
theorem dX11_findRings_5 : decode cX11_findRings 5 = .ok (.iconst 0, 1) := by decide +kernel
theorem dX11_findRings_6 : decode cX11_findRings 6 = .ok (.istore_n 1, 1) := by decide +kernel
theorem dX11_findRings_7 : decode cX11_findRings 7 = .ok (.iload_n 1, 1) := by decide +kernel
theorem dX11_findRings_8 : decode cX11_findRings 8 = .ok (.bipush 6, 2) := by decide +kernel
theorem dX11_findRings_10 : decode cX11_findRings 10 = .ok (.if_icmp .ge 21, 3) := by decide +kernel
theorem dX11_findRings_13 : decode cX11_findRings 13 = .ok (.aload_n 0, 1) := by decide +kernel
theorem dX11_findRings_14 : decode cX11_findRings 14 = .ok (.iload_n 1, 1) := by decide +kernel
theorem dX11_findRings_15 : decode cX11_findRings 15 = .ok (.iload_n 1, 1) := by decide +kernel
theorem dX11_findRings_16 : decode cX11_findRings 16 = .ok (.iconst 1, 1) := by decide +kernel
theorem dX11_findRings_17 : decode cX11_findRings 17 = .ok (.iload_n 1, 1) := by decide +kernel
theorem dX11_findRings_18 : decode cX11_findRings 18 = .ok (.ishl, 1) := by decide +kernel
theorem dX11_findRings_19 : decode cX11_findRings 19 = .ok (.iconst 0, 1) := by decide +kernel
theorem dX11_findRings_20 : decode cX11_findRings 20 = .ok (.lconst 1, 1) := by decide +kernel
theorem dX11_findRings_21 : decode cX11_findRings 21 = .ok (.lconst 1, 1) := by decide +kernel
theorem dX11_findRings_22 : decode cX11_findRings 22 = .ok (.invokevirtual 143, 3) := by decide +kernel
theorem dX11_findRings_25 : decode cX11_findRings 25 = .ok (.iinc 1 1, 3) := by decide +kernel
theorem dX11_findRings_28 : decode cX11_findRings 28 = .ok (.goto (-21), 3) := by decide +kernel
theorem dX11_findRings_31 : decode cX11_findRings 31 = .ok (.return_, 1) := by decide +kernel
set_option maxRecDepth 20000 in
theorem ggX11_ring_X11_findRings : GoodIn wsX11_ring wsX11_findRings := goodIn_r _ [7, 1, 8, 9, 10, 6, 11, 12, 2, 13, 14, 15, 16, 20, 21, 22, 23, 24, 25, 26, 27, 28, 29, 30, 31, 32, 33, 34, 35, 36, 37, 38] (by decide +kernel) (by decide +kernel)
set_option maxRecDepth 20000 in
theorem gX11_ring_X11_findRings : GoodIn wsX11_ring (wsV RX11 147 RX11 yX11_findRings wsX11_findRings) := goodIn_app (goodIn_of _ (by decide +kernel)) ggX11_ring_X11_findRings
set_option maxRecDepth 20000 in
theorem ggX11_ring_X11_bits : GoodIn wsX11_ring wsX11_bits := goodIn_r _ [19] (by decide +kernel) (by decide +kernel)
set_option maxRecDepth 20000 in
theorem gX11_ring_X11_bits : GoodIn wsX11_ring (va_wsS RX11 102 yX11_bits wsX11_bits) := goodIn_app (goodIn_of _ (by decide +kernel)) ggX11_ring_X11_bits
theorem dX11_ring_0 : decode cX11_ring 0 = .ok (.aload_n 0, 1) := by decide +kernel
theorem dX11_ring_1 : decode cX11_ring 1 = .ok (.invokevirtual 147, 3) := by decide +kernel
theorem dX11_ring_4 : decode cX11_ring 4 = .ok (.bipush (-9), 2) := by decide +kernel
theorem dX11_ring_6 : decode cX11_ring 6 = .ok (.istore_n 1, 1) := by decide +kernel
theorem dX11_ring_7 : decode cX11_ring 7 = .ok (.iconst 0, 1) := by decide +kernel
theorem dX11_ring_8 : decode cX11_ring 8 = .ok (.istore_n 2, 1) := by decide +kernel
theorem dX11_ring_9 : decode cX11_ring 9 = .ok (.iload_n 2, 1) := by decide +kernel
theorem dX11_ring_10 : decode cX11_ring 10 = .ok (.aload_n 0, 1) := by decide +kernel
theorem dX11_ring_11 : decode cX11_ring 11 = .ok (.getfield 140, 3) := by decide +kernel
theorem dX11_ring_14 : decode cX11_ring 14 = .ok (.if_icmp .ge 40, 3) := by decide +kernel
theorem dX11_ring_17 : decode cX11_ring 17 = .ok (.iload_n 1, 1) := by decide +kernel
theorem dX11_ring_18 : decode cX11_ring 18 = .ok (.ifCond .lt 16, 3) := by decide +kernel
theorem dX11_ring_21 : decode cX11_ring 21 = .ok (.aload_n 0, 1) := by decide +kernel
theorem dX11_ring_22 : decode cX11_ring 22 = .ok (.getfield 34, 3) := by decide +kernel
theorem dX11_ring_25 : decode cX11_ring 25 = .ok (.iload_n 2, 1) := by decide +kernel
theorem dX11_ring_26 : decode cX11_ring 26 = .ok (.iaload, 1) := by decide +kernel
theorem dX11_ring_27 : decode cX11_ring 27 = .ok (.invokestatic 102, 3) := by decide +kernel
theorem dX11_ring_30 : decode cX11_ring 30 = .ok (.iload_n 1, 1) := by decide +kernel
theorem dX11_ring_31 : decode cX11_ring 31 = .ok (.if_icmp .ge 15, 3) := by decide +kernel
theorem dX11_ring_34 : decode cX11_ring 34 = .ok (.aload_n 0, 1) := by decide +kernel
theorem dX11_ring_35 : decode cX11_ring 35 = .ok (.getfield 34, 3) := by decide +kernel
theorem dX11_ring_38 : decode cX11_ring 38 = .ok (.iload_n 2, 1) := by decide +kernel
theorem dX11_ring_39 : decode cX11_ring 39 = .ok (.iaload, 1) := by decide +kernel
theorem dX11_ring_40 : decode cX11_ring 40 = .ok (.invokestatic 102, 3) := by decide +kernel
theorem dX11_ring_43 : decode cX11_ring 43 = .ok (.goto 4, 3) := by decide +kernel
theorem dX11_ring_46 : decode cX11_ring 46 = .ok (.iload_n 1, 1) := by decide +kernel
theorem dX11_ring_47 : decode cX11_ring 47 = .ok (.istore_n 1, 1) := by decide +kernel
theorem dX11_ring_48 : decode cX11_ring 48 = .ok (.iinc 2 1, 3) := by decide +kernel
theorem dX11_ring_51 : decode cX11_ring 51 = .ok (.goto (-42), 3) := by decide +kernel
theorem dX11_ring_54 : decode cX11_ring 54 = .ok (.iload_n 1, 1) := by decide +kernel
theorem dX11_ring_55 : decode cX11_ring 55 = .ok (.ireturn, 1) := by decide +kernel
theorem dX11_isStopped_0 : decode cX11_isStopped 0 = .ok (.iconst 0, 1) := by decide +kernel
theorem dX11_isStopped_1 : decode cX11_isStopped 1 = .ok (.istore_n 2, 1) := by decide +kernel
theorem dX11_isStopped_2 : decode cX11_isStopped 2 = .ok (.iload_n 2, 1) := by decide +kernel
theorem dX11_isStopped_3 : decode cX11_isStopped 3 = .ok (.aload_n 0, 1) := by decide +kernel
theorem dX11_isStopped_4 : decode cX11_isStopped 4 = .ok (.getfield 140, 3) := by decide +kernel
theorem dX11_isStopped_7 : decode cX11_isStopped 7 = .ok (.if_icmp .ge 22, 3) := by decide +kernel
theorem dX11_isStopped_10 : decode cX11_isStopped 10 = .ok (.aload_n 0, 1) := by decide +kernel
theorem dX11_isStopped_11 : decode cX11_isStopped 11 = .ok (.getfield 34, 3) := by decide +kernel
theorem dX11_isStopped_14 : decode cX11_isStopped 14 = .ok (.iload_n 2, 1) := by decide +kernel
theorem dX11_isStopped_15 : decode cX11_isStopped 15 = .ok (.iaload, 1) := by decide +kernel
theorem dX11_isStopped_16 : decode cX11_isStopped 16 = .ok (.iload_n 1, 1) := by decide +kernel
theorem dX11_isStopped_17 : decode cX11_isStopped 17 = .ok (.iand, 1) := by decide +kernel
theorem dX11_isStopped_18 : decode cX11_isStopped 18 = .ok (.ifCond .ne 5, 3) := by decide +kernel
theorem dX11_isStopped_21 : decode cX11_isStopped 21 = .ok (.iconst 0, 1) := by decide +kernel
theorem dX11_isStopped_22 : decode cX11_isStopped 22 = .ok (.ireturn, 1) := by decide +kernel
theorem dX11_isStopped_23 : decode cX11_isStopped 23 = .ok (.iinc 2 1, 3) := by decide +kernel
theorem dX11_isStopped_26 : decode cX11_isStopped 26 = .ok (.goto (-24), 3) := by decide +kernel
theorem dX11_isStopped_29 : decode cX11_isStopped 29 = .ok (.iconst 1, 1) := by decide +kernel
theorem dX11_isStopped_30 : decode cX11_isStopped 30 = .ok (.ireturn, 1) := by decide +kernel
set_option maxRecDepth 20000 in
theorem ggX11_stops_X11_findRings : GoodIn wsX11_stops wsX11_findRings := goodIn_r _ [6, 7, 8, 9, 10, 5, 11, 1, 12, 13, 14, 15, 16, 24, 25, 26, 27, 28, 29, 30, 31, 32, 33, 34, 35, 36, 37, 38, 39, 40, 41, 42] (by decide +kernel) (by decide +kernel)
set_option maxRecDepth 20000 in
theorem gX11_stops_X11_findRings : GoodIn wsX11_stops (wsV RX11 147 RX11 yX11_findRings wsX11_findRings) := goodIn_app (goodIn_of _ (by decide +kernel)) ggX11_stops_X11_findRings
set_option maxRecDepth 20000 in
theorem ggX11_stops_X11_bits : GoodIn wsX11_stops wsX11_bits := goodIn_r _ [19] (by decide +kernel) (by decide +kernel)
set_option maxRecDepth 20000 in
theorem gX11_stops_X11_bits : GoodIn wsX11_stops (va_wsS RX11 102 yX11_bits wsX11_bits) := goodIn_app (goodIn_of _ (by decide +kernel)) ggX11_stops_X11_bits
set_option maxRecDepth 20000 in
theorem ggX11_stops_X11_isStopped : GoodIn wsX11_stops wsX11_isStopped := goodIn_r _ [23, 7, 12, 24, 25, 26, 27, 28, 29, 30, 31, 32, 33, 34, 35, 36, 37, 38, 39, 40, 41, 42] (by decide +kernel) (by decide +kernel)
set_option maxRecDepth 20000 in
theorem gX11_stops_X11_isStopped : GoodIn wsX11_stops (wsV RX11 150 RX11 yX11_isStopped wsX11_isStopped) := goodIn_app (goodIn_of _ (by decide +kernel)) ggX11_stops_X11_isStopped
theorem dX11_stops_0 : decode cX11_stops 0 = .ok (.aload_n 0, 1) := by decide +kernel
theorem dX11_stops_1 : decode cX11_stops 1 = .ok (.invokevirtual 147, 3) := by decide +kernel
theorem dX11_stops_4 : decode cX11_stops 4 = .ok (.iconst 1, 1) := by decide +kernel
theorem dX11_stops_5 : decode cX11_stops 5 = .ok (.aload_n 0, 1) := by decide +kernel
theorem dX11_stops_6 : decode cX11_stops 6 = .ok (.getfield 13, 3) := by decide +kernel
theorem dX11_stops_9 : decode cX11_stops 9 = .ok (.sipush 307, 3) := by decide +kernel
theorem dX11_stops_12 : decode cX11_stops 12 = .ok (.iaload, 1) := by decide +kernel
theorem dX11_stops_13 : decode cX11_stops 13 = .ok (.ishl, 1) := by decide +kernel
theorem dX11_stops_14 : decode cX11_stops 14 = .ok (.iconst 1, 1) := by decide +kernel
theorem dX11_stops_15 : decode cX11_stops 15 = .ok (.isub, 1) := by decide +kernel
theorem dX11_stops_16 : decode cX11_stops 16 = .ok (.istore_n 1, 1) := by decide +kernel
theorem dX11_stops_17 : decode cX11_stops 17 = .ok (.iconst 0, 1) := by decide +kernel
theorem dX11_stops_18 : decode cX11_stops 18 = .ok (.istore_n 2, 1) := by decide +kernel
theorem dX11_stops_19 : decode cX11_stops 19 = .ok (.iload_n 2, 1) := by decide +kernel
theorem dX11_stops_20 : decode cX11_stops 20 = .ok (.iconst 1, 1) := by decide +kernel
theorem dX11_stops_21 : decode cX11_stops 21 = .ok (.aload_n 0, 1) := by decide +kernel
theorem dX11_stops_22 : decode cX11_stops 22 = .ok (.getfield 13, 3) := by decide +kernel
theorem dX11_stops_25 : decode cX11_stops 25 = .ok (.sipush 307, 3) := by decide +kernel
theorem dX11_stops_28 : decode cX11_stops 28 = .ok (.iaload, 1) := by decide +kernel
theorem dX11_stops_29 : decode cX11_stops 29 = .ok (.ishl, 1) := by decide +kernel
theorem dX11_stops_30 : decode cX11_stops 30 = .ok (.if_icmp .ge 30, 3) := by decide +kernel
theorem dX11_stops_33 : decode cX11_stops 33 = .ok (.iload_n 2, 1) := by decide +kernel
theorem dX11_stops_34 : decode cX11_stops 34 = .ok (.invokestatic 102, 3) := by decide +kernel
theorem dX11_stops_37 : decode cX11_stops 37 = .ok (.iload_n 1, 1) := by decide +kernel
theorem dX11_stops_38 : decode cX11_stops 38 = .ok (.invokestatic 102, 3) := by decide +kernel
theorem dX11_stops_41 : decode cX11_stops 41 = .ok (.if_icmp .ge 13, 3) := by decide +kernel
theorem dX11_stops_44 : decode cX11_stops 44 = .ok (.aload_n 0, 1) := by decide +kernel
theorem dX11_stops_45 : decode cX11_stops 45 = .ok (.iload_n 2, 1) := by decide +kernel
theorem dX11_stops_46 : decode cX11_stops 46 = .ok (.invokevirtual 150, 3) := by decide +kernel
theorem dX11_stops_49 : decode cX11_stops 49 = .ok (.ifCond .eq 5, 3) := by decide +kernel
theorem dX11_stops_52 : decode cX11_stops 52 = .ok (.iload_n 2, 1) := by decide +kernel
theorem dX11_stops_53 : decode cX11_stops 53 = .ok (.istore_n 1, 1) := by decide +kernel
theorem dX11_stops_54 : decode cX11_stops 54 = .ok (.iinc 2 1, 3) := by decide +kernel
theorem dX11_stops_57 : decode cX11_stops 57 = .ok (.goto (-38), 3) := by decide +kernel
theorem dX11_stops_60 : decode cX11_stops 60 = .ok (.iload_n 1, 1) := by decide +kernel
theorem dX11_stops_61 : decode cX11_stops 61 = .ok (.ireturn, 1) := by decide +kernel
set_option maxRecDepth 20000 in
theorem ggX11_put_X11_within : GoodIn wsX11_put wsX11_within := goodIn_r _ [6] (by decide +kernel) (by decide +kernel)
set_option maxRecDepth 20000 in
theorem gX11_put_X11_within : GoodIn wsX11_put (va_wsS RX11 94 yX11_within wsX11_within) := goodIn_app (goodIn_of _ (by decide +kernel)) ggX11_put_X11_within
set_option maxRecDepth 20000 in
theorem ggX11_put_X11_refuse : GoodIn wsX11_put wsX11_refuse := goodIn_r _ [10, 11, 12, 13, 14, 15, 16, 17, 18, 19, 20, 21, 22, 23, 24, 25, 26, 27, 28, 29, 30] (by decide +kernel) (by decide +kernel)
set_option maxRecDepth 20000 in
theorem gX11_put_X11_refuse : GoodIn wsX11_put (wsV RX11 51 RX11 yX11_refuse wsX11_refuse) := goodIn_app (goodIn_of _ (by decide +kernel)) ggX11_put_X11_refuse
theorem dX11_put_0 : decode cX11_put 0 = .ok (.iload_n 1, 1) := by decide +kernel
theorem dX11_put_1 : decode cX11_put 1 = .ok (.bipush (-128), 2) := by decide +kernel
theorem dX11_put_3 : decode cX11_put 3 = .ok (.bipush 127, 2) := by decide +kernel
theorem dX11_put_5 : decode cX11_put 5 = .ok (.invokestatic 94, 3) := by decide +kernel
theorem dX11_put_8 : decode cX11_put 8 = .ok (.istore_n 2, 1) := by decide +kernel
theorem dX11_put_9 : decode cX11_put 9 = .ok (.iload_n 2, 1) := by decide +kernel
theorem dX11_put_10 : decode cX11_put 10 = .ok (.ifCond .ne 15, 3) := by decide +kernel
theorem dX11_put_13 : decode cX11_put 13 = .ok (.aload_n 0, 1) := by decide +kernel
theorem dX11_put_14 : decode cX11_put 14 = .ok (.getfield 153, 3) := by decide +kernel
theorem dX11_put_17 : decode cX11_put 17 = .ok (.bipush 100, 2) := by decide +kernel
theorem dX11_put_19 : decode cX11_put 19 = .ok (.if_icmp .ne 6, 3) := by decide +kernel
theorem dX11_put_22 : decode cX11_put 22 = .ok (.bipush (-6), 2) := by decide +kernel
theorem dX11_put_24 : decode cX11_put 24 = .ok (.istore_n 2, 1) := by decide +kernel
theorem dX11_put_25 : decode cX11_put 25 = .ok (.iload_n 2, 1) := by decide +kernel
theorem dX11_put_26 : decode cX11_put 26 = .ok (.ifCond .eq 9, 3) := by decide +kernel
theorem dX11_put_29 : decode cX11_put 29 = .ok (.aload_n 0, 1) := by decide +kernel
theorem dX11_put_30 : decode cX11_put 30 = .ok (.iload_n 2, 1) := by decide +kernel
theorem dX11_put_31 : decode cX11_put 31 = .ok (.invokevirtual 51, 3) := by decide +kernel
theorem dX11_put_34 : decode cX11_put 34 = .ok (.ireturn, 1) := by decide +kernel
theorem dX11_put_35 : decode cX11_put 35 = .ok (.aload_n 0, 1) := by decide +kernel
theorem dX11_put_36 : decode cX11_put 36 = .ok (.getfield 37, 3) := by decide +kernel
theorem dX11_put_39 : decode cX11_put 39 = .ok (.aload_n 0, 1) := by decide +kernel
theorem dX11_put_40 : decode cX11_put 40 = .ok (.getfield 153, 3) := by decide +kernel
theorem dX11_put_43 : decode cX11_put 43 = .ok (.iload_n 1, 1) := by decide +kernel
theorem dX11_put_44 : decode cX11_put 44 = .ok (.iastore, 1) := by decide +kernel
theorem dX11_put_45 : decode cX11_put 45 = .ok (.aload_n 0, 1) := by decide +kernel
theorem dX11_put_46 : decode cX11_put 46 = .ok (.dup, 1) := by decide +kernel
theorem dX11_put_47 : decode cX11_put 47 = .ok (.getfield 153, 3) := by decide +kernel
theorem dX11_put_50 : decode cX11_put 50 = .ok (.iconst 1, 1) := by decide +kernel
theorem dX11_put_51 : decode cX11_put 51 = .ok (.iadd, 1) := by decide +kernel
theorem dX11_put_52 : decode cX11_put 52 = .ok (.putfield 153, 3) := by decide +kernel
theorem dX11_put_55 : decode cX11_put 55 = .ok (.aload_n 0, 1) := by decide +kernel
theorem dX11_put_56 : decode cX11_put 56 = .ok (.getfield 153, 3) := by decide +kernel
theorem dX11_put_59 : decode cX11_put 59 = .ok (.ireturn, 1) := by decide +kernel
set_option maxRecDepth 20000 in
theorem ggX11_wrongAt_X11_pay : GoodIn wsX11_wrongAt wsX11_pay := goodIn_r _ [10, 11, 23, 24, 25, 26, 27, 28, 29, 30, 31, 32, 33, 34, 35, 36, 37, 38, 39, 40, 41] (by decide +kernel) (by decide +kernel)
set_option maxRecDepth 20000 in
theorem gX11_wrongAt_X11_pay : GoodIn wsX11_wrongAt (wsV RX11 97 RX11 yX11_pay wsX11_pay) := goodIn_app (goodIn_of _ (by decide +kernel)) ggX11_wrongAt_X11_pay
set_option maxRecDepth 20000 in
theorem ggX11_wrongAt_X11_isIn : GoodIn wsX11_wrongAt wsX11_isIn := goodIn_r _ [14] (by decide +kernel) (by decide +kernel)
set_option maxRecDepth 20000 in
theorem gX11_wrongAt_X11_isIn : GoodIn wsX11_wrongAt (va_wsS RX11 47 yX11_isIn wsX11_isIn) := goodIn_app (goodIn_of _ (by decide +kernel)) ggX11_wrongAt_X11_isIn
set_option maxRecDepth 20000 in
theorem ggX11_wrongAt_X11_perDay : GoodIn wsX11_wrongAt wsX11_perDay := goodIn_r _ [18, 11, 6, 7, 8, 9, 10, 23, 24, 25, 26, 27, 28, 29, 30, 31, 32, 33, 34, 35, 36, 37, 38, 39, 40, 41] (by decide +kernel) (by decide +kernel)
set_option maxRecDepth 20000 in
theorem gX11_wrongAt_X11_perDay : GoodIn wsX11_wrongAt (wsV RX11 108 RX11 yX11_perDay wsX11_perDay) := goodIn_app (goodIn_of _ (by decide +kernel)) ggX11_wrongAt_X11_perDay
set_option maxRecDepth 20000 in
theorem ggX11_wrongAt_X11_isFeast : GoodIn wsX11_wrongAt wsX11_isFeast := goodIn_r _ [22, 11, 23, 24, 25, 26, 27, 28, 29, 30, 31, 32, 33, 34, 35, 36, 37, 38, 39, 40, 41] (by decide +kernel) (by decide +kernel)
set_option maxRecDepth 20000 in
theorem gX11_wrongAt_X11_isFeast : GoodIn wsX11_wrongAt (wsV RX11 105 RX11 yX11_isFeast wsX11_isFeast) := goodIn_app (goodIn_of _ (by decide +kernel)) ggX11_wrongAt_X11_isFeast
theorem dX11_wrongAt_0 : decode cX11_wrongAt 0 = .ok (.iconst 0, 1) := by decide +kernel
theorem dX11_wrongAt_1 : decode cX11_wrongAt 1 = .ok (.istore_n 1, 1) := by decide +kernel
theorem dX11_wrongAt_2 : decode cX11_wrongAt 2 = .ok (.iload_n 1, 1) := by decide +kernel
theorem dX11_wrongAt_3 : decode cX11_wrongAt 3 = .ok (.bipush 6, 2) := by decide +kernel
theorem dX11_wrongAt_5 : decode cX11_wrongAt 5 = .ok (.if_icmp .ge 28, 3) := by decide +kernel
theorem dX11_wrongAt_8 : decode cX11_wrongAt 8 = .ok (.aload_n 0, 1) := by decide +kernel
theorem dX11_wrongAt_9 : decode cX11_wrongAt 9 = .ok (.getfield 31, 3) := by decide +kernel
theorem dX11_wrongAt_12 : decode cX11_wrongAt 12 = .ok (.iload_n 1, 1) := by decide +kernel
theorem dX11_wrongAt_13 : decode cX11_wrongAt 13 = .ok (.aload_n 0, 1) := by decide +kernel
theorem dX11_wrongAt_14 : decode cX11_wrongAt 14 = .ok (.iload_n 1, 1) := by decide +kernel
theorem dX11_wrongAt_15 : decode cX11_wrongAt 15 = .ok (.iconst 3, 1) := by decide +kernel
theorem dX11_wrongAt_16 : decode cX11_wrongAt 16 = .ok (.invokevirtual 97, 3) := by decide +kernel
theorem dX11_wrongAt_19 : decode cX11_wrongAt 19 = .ok (.iastore, 1) := by decide +kernel
theorem dX11_wrongAt_20 : decode cX11_wrongAt 20 = .ok (.aload_n 0, 1) := by decide +kernel
theorem dX11_wrongAt_21 : decode cX11_wrongAt 21 = .ok (.getfield 40, 3) := by decide +kernel
theorem dX11_wrongAt_24 : decode cX11_wrongAt 24 = .ok (.iload_n 1, 1) := by decide +kernel
theorem dX11_wrongAt_25 : decode cX11_wrongAt 25 = .ok (.iconst 0, 1) := by decide +kernel
theorem dX11_wrongAt_26 : decode cX11_wrongAt 26 = .ok (.iastore, 1) := by decide +kernel
theorem dX11_wrongAt_27 : decode cX11_wrongAt 27 = .ok (.iinc 1 1, 3) := by decide +kernel
theorem dX11_wrongAt_30 : decode cX11_wrongAt 30 = .ok (.goto (-28), 3) := by decide +kernel
theorem dX11_wrongAt_33 : decode cX11_wrongAt 33 = .ok (.aload_n 0, 1) := by decide +kernel
theorem dX11_wrongAt_34 : decode cX11_wrongAt 34 = .ok (.iconst 0, 1) := by decide +kernel
theorem dX11_wrongAt_35 : decode cX11_wrongAt 35 = .ok (.putfield 156, 3) := by decide +kernel
theorem dX11_wrongAt_38 : decode cX11_wrongAt 38 = .ok (.iconst 0, 1) := by decide +kernel
theorem dX11_wrongAt_39 : decode cX11_wrongAt 39 = .ok (.istore_n 1, 1) := by decide +kernel
theorem dX11_wrongAt_40 : decode cX11_wrongAt 40 = .ok (.iconst 0, 1) := by decide +kernel
theorem dX11_wrongAt_41 : decode cX11_wrongAt 41 = .ok (.istore_n 2, 1) := by decide +kernel
theorem dX11_wrongAt_42 : decode cX11_wrongAt 42 = .ok (.iconst 0, 1) := by decide +kernel
theorem dX11_wrongAt_43 : decode cX11_wrongAt 43 = .ok (.istore_n 3, 1) := by decide +kernel
theorem dX11_wrongAt_44 : decode cX11_wrongAt 44 = .ok (.iload_n 3, 1) := by decide +kernel
theorem dX11_wrongAt_45 : decode cX11_wrongAt 45 = .ok (.aload_n 0, 1) := by decide +kernel
theorem dX11_wrongAt_46 : decode cX11_wrongAt 46 = .ok (.getfield 153, 3) := by decide +kernel
theorem dX11_wrongAt_49 : decode cX11_wrongAt 49 = .ok (.if_icmp .ge 183, 3) := by decide +kernel
theorem dX11_wrongAt_52 : decode cX11_wrongAt 52 = .ok (.aload_n 0, 1) := by decide +kernel
theorem dX11_wrongAt_53 : decode cX11_wrongAt 53 = .ok (.getfield 37, 3) := by decide +kernel
theorem dX11_wrongAt_56 : decode cX11_wrongAt 56 = .ok (.iload_n 3, 1) := by decide +kernel
theorem dX11_wrongAt_57 : decode cX11_wrongAt 57 = .ok (.iaload, 1) := by decide +kernel
theorem dX11_wrongAt_58 : decode cX11_wrongAt 58 = .ok (.istore 4, 2) := by decide +kernel
theorem dX11_wrongAt_60 : decode cX11_wrongAt 60 = .ok (.iload 4, 2) := by decide +kernel
theorem dX11_wrongAt_62 : decode cX11_wrongAt 62 = .ok (.bipush 9, 2) := by decide +kernel
theorem dX11_wrongAt_64 : decode cX11_wrongAt 64 = .ok (.if_icmp .ne 57, 3) := by decide +kernel
theorem dX11_wrongAt_67 : decode cX11_wrongAt 67 = .ok (.aload_n 0, 1) := by decide +kernel
theorem dX11_wrongAt_68 : decode cX11_wrongAt 68 = .ok (.getfield 40, 3) := by decide +kernel
theorem dX11_wrongAt_71 : decode cX11_wrongAt 71 = .ok (.iconst 3, 1) := by decide +kernel
theorem dX11_wrongAt_72 : decode cX11_wrongAt 72 = .ok (.iaload, 1) := by decide +kernel
theorem dX11_wrongAt_73 : decode cX11_wrongAt 73 = .ok (.ifCond .gt 12, 3) := by decide +kernel
theorem dX11_wrongAt_76 : decode cX11_wrongAt 76 = .ok (.aload_n 0, 1) := by decide +kernel
theorem dX11_wrongAt_77 : decode cX11_wrongAt 77 = .ok (.getfield 40, 3) := by decide +kernel
theorem dX11_wrongAt_80 : decode cX11_wrongAt 80 = .ok (.iconst 5, 1) := by decide +kernel
theorem dX11_wrongAt_81 : decode cX11_wrongAt 81 = .ok (.iaload, 1) := by decide +kernel
theorem dX11_wrongAt_82 : decode cX11_wrongAt 82 = .ok (.ifCond .le 7, 3) := by decide +kernel
theorem dX11_wrongAt_85 : decode cX11_wrongAt 85 = .ok (.iconst 1, 1) := by decide +kernel
theorem dX11_wrongAt_86 : decode cX11_wrongAt 86 = .ok (.goto 4, 3) := by decide +kernel
theorem dX11_wrongAt_89 : decode cX11_wrongAt 89 = .ok (.iconst 0, 1) := by decide +kernel
theorem dX11_wrongAt_90 : decode cX11_wrongAt 90 = .ok (.istore_n 2, 1) := by decide +kernel
theorem dX11_wrongAt_91 : decode cX11_wrongAt 91 = .ok (.iinc 1 1, 3) := by decide +kernel
theorem dX11_wrongAt_94 : decode cX11_wrongAt 94 = .ok (.iconst 0, 1) := by decide +kernel
theorem dX11_wrongAt_95 : decode cX11_wrongAt 95 = .ok (.istore 5, 2) := by decide +kernel
theorem dX11_wrongAt_97 : decode cX11_wrongAt 97 = .ok (.iload 5, 2) := by decide +kernel
theorem dX11_wrongAt_99 : decode cX11_wrongAt 99 = .ok (.bipush 6, 2) := by decide +kernel
theorem dX11_wrongAt_101 : decode cX11_wrongAt 101 = .ok (.if_icmp .ge 17, 3) := by decide +kernel
theorem dX11_wrongAt_104 : decode cX11_wrongAt 104 = .ok (.aload_n 0, 1) := by decide +kernel
theorem dX11_wrongAt_105 : decode cX11_wrongAt 105 = .ok (.getfield 40, 3) := by decide +kernel
theorem dX11_wrongAt_108 : decode cX11_wrongAt 108 = .ok (.iload 5, 2) := by decide +kernel
theorem dX11_wrongAt_110 : decode cX11_wrongAt 110 = .ok (.iconst 0, 1) := by decide +kernel
theorem dX11_wrongAt_111 : decode cX11_wrongAt 111 = .ok (.iastore, 1) := by decide +kernel
theorem dX11_wrongAt_112 : decode cX11_wrongAt 112 = .ok (.iinc 5 1, 3) := by decide +kernel
theorem dX11_wrongAt_115 : decode cX11_wrongAt 115 = .ok (.goto (-18), 3) := by decide +kernel
theorem dX11_wrongAt_118 : decode cX11_wrongAt 118 = .ok (.goto 108, 3) := by decide +kernel
theorem dX11_wrongAt_121 : decode cX11_wrongAt 121 = .ok (.iload 4, 2) := by decide +kernel
theorem dX11_wrongAt_123 : decode cX11_wrongAt 123 = .ok (.bipush 6, 2) := by decide +kernel
theorem dX11_wrongAt_125 : decode cX11_wrongAt 125 = .ok (.invokestatic 47, 3) := by decide +kernel
theorem dX11_wrongAt_128 : decode cX11_wrongAt 128 = .ok (.ifCond .eq 58, 3) := by decide +kernel
theorem dX11_wrongAt_131 : decode cX11_wrongAt 131 = .ok (.aload_n 0, 1) := by decide +kernel
theorem dX11_wrongAt_132 : decode cX11_wrongAt 132 = .ok (.getfield 40, 3) := by decide +kernel
theorem dX11_wrongAt_135 : decode cX11_wrongAt 135 = .ok (.iload 4, 2) := by decide +kernel
theorem dX11_wrongAt_137 : decode cX11_wrongAt 137 = .ok (.iaload, 1) := by decide +kernel
theorem dX11_wrongAt_138 : decode cX11_wrongAt 138 = .ok (.aload_n 0, 1) := by decide +kernel
theorem dX11_wrongAt_139 : decode cX11_wrongAt 139 = .ok (.iload 4, 2) := by decide +kernel
theorem dX11_wrongAt_141 : decode cX11_wrongAt 141 = .ok (.invokevirtual 108, 3) := by decide +kernel
theorem dX11_wrongAt_144 : decode cX11_wrongAt 144 = .ok (.if_icmp .eq 42, 3) := by decide +kernel
theorem dX11_wrongAt_147 : decode cX11_wrongAt 147 = .ok (.aload_n 0, 1) := by decide +kernel
theorem dX11_wrongAt_148 : decode cX11_wrongAt 148 = .ok (.getfield 31, 3) := by decide +kernel
theorem dX11_wrongAt_151 : decode cX11_wrongAt 151 = .ok (.iload 4, 2) := by decide +kernel
theorem dX11_wrongAt_153 : decode cX11_wrongAt 153 = .ok (.iaload, 1) := by decide +kernel
theorem dX11_wrongAt_154 : decode cX11_wrongAt 154 = .ok (.ifCond .eq 32, 3) := by decide +kernel
theorem dX11_wrongAt_157 : decode cX11_wrongAt 157 = .ok (.iload 4, 2) := by decide +kernel
theorem dX11_wrongAt_159 : decode cX11_wrongAt 159 = .ok (.ifCond .eq 9, 3) := by decide +kernel
theorem dX11_wrongAt_162 : decode cX11_wrongAt 162 = .ok (.iload 4, 2) := by decide +kernel
theorem dX11_wrongAt_164 : decode cX11_wrongAt 164 = .ok (.iconst 5, 1) := by decide +kernel
theorem dX11_wrongAt_165 : decode cX11_wrongAt 165 = .ok (.if_icmp .ne 11, 3) := by decide +kernel
theorem dX11_wrongAt_168 : decode cX11_wrongAt 168 = .ok (.aload_n 0, 1) := by decide +kernel
theorem dX11_wrongAt_169 : decode cX11_wrongAt 169 = .ok (.iload_n 1, 1) := by decide +kernel
theorem dX11_wrongAt_170 : decode cX11_wrongAt 170 = .ok (.invokevirtual 105, 3) := by decide +kernel
theorem dX11_wrongAt_173 : decode cX11_wrongAt 173 = .ok (.ifCond .ne 13, 3) := by decide +kernel
theorem dX11_wrongAt_176 : decode cX11_wrongAt 176 = .ok (.iload 4, 2) := by decide +kernel
theorem dX11_wrongAt_178 : decode cX11_wrongAt 178 = .ok (.iconst 3, 1) := by decide +kernel
theorem dX11_wrongAt_179 : decode cX11_wrongAt 179 = .ok (.if_icmp .ne 9, 3) := by decide +kernel
theorem dX11_wrongAt_182 : decode cX11_wrongAt 182 = .ok (.iload_n 2, 1) := by decide +kernel
theorem dX11_wrongAt_183 : decode cX11_wrongAt 183 = .ok (.ifCond .eq 5, 3) := by decide +kernel
theorem dX11_wrongAt_186 : decode cX11_wrongAt 186 = .ok (.iload_n 3, 1) := by decide +kernel
theorem dX11_wrongAt_187 : decode cX11_wrongAt 187 = .ok (.ireturn, 1) := by decide +kernel
theorem dX11_wrongAt_188 : decode cX11_wrongAt 188 = .ok (.aload_n 0, 1) := by decide +kernel
theorem dX11_wrongAt_189 : decode cX11_wrongAt 189 = .ok (.getfield 40, 3) := by decide +kernel
theorem dX11_wrongAt_192 : decode cX11_wrongAt 192 = .ok (.iload 4, 2) := by decide +kernel
theorem dX11_wrongAt_194 : decode cX11_wrongAt 194 = .ok (.dup2, 1) := by decide +kernel
theorem dX11_wrongAt_195 : decode cX11_wrongAt 195 = .ok (.iaload, 1) := by decide +kernel
theorem dX11_wrongAt_196 : decode cX11_wrongAt 196 = .ok (.iconst 1, 1) := by decide +kernel
theorem dX11_wrongAt_197 : decode cX11_wrongAt 197 = .ok (.iadd, 1) := by decide +kernel
theorem dX11_wrongAt_198 : decode cX11_wrongAt 198 = .ok (.iastore, 1) := by decide +kernel
theorem dX11_wrongAt_199 : decode cX11_wrongAt 199 = .ok (.aload_n 0, 1) := by decide +kernel
theorem dX11_wrongAt_200 : decode cX11_wrongAt 200 = .ok (.getfield 31, 3) := by decide +kernel
theorem dX11_wrongAt_203 : decode cX11_wrongAt 203 = .ok (.iload 4, 2) := by decide +kernel
theorem dX11_wrongAt_205 : decode cX11_wrongAt 205 = .ok (.dup2, 1) := by decide +kernel
theorem dX11_wrongAt_206 : decode cX11_wrongAt 206 = .ok (.iaload, 1) := by decide +kernel
theorem dX11_wrongAt_207 : decode cX11_wrongAt 207 = .ok (.iconst 1, 1) := by decide +kernel
theorem dX11_wrongAt_208 : decode cX11_wrongAt 208 = .ok (.isub, 1) := by decide +kernel
theorem dX11_wrongAt_209 : decode cX11_wrongAt 209 = .ok (.iastore, 1) := by decide +kernel
theorem dX11_wrongAt_210 : decode cX11_wrongAt 210 = .ok (.aload_n 0, 1) := by decide +kernel
theorem dX11_wrongAt_211 : decode cX11_wrongAt 211 = .ok (.dup, 1) := by decide +kernel
theorem dX11_wrongAt_212 : decode cX11_wrongAt 212 = .ok (.getfield 156, 3) := by decide +kernel
theorem dX11_wrongAt_215 : decode cX11_wrongAt 215 = .ok (.aload_n 0, 1) := by decide +kernel
theorem dX11_wrongAt_216 : decode cX11_wrongAt 216 = .ok (.iload 4, 2) := by decide +kernel
theorem dX11_wrongAt_218 : decode cX11_wrongAt 218 = .ok (.iconst 0, 1) := by decide +kernel
theorem dX11_wrongAt_219 : decode cX11_wrongAt 219 = .ok (.invokevirtual 97, 3) := by decide +kernel
theorem dX11_wrongAt_222 : decode cX11_wrongAt 222 = .ok (.iadd, 1) := by decide +kernel
theorem dX11_wrongAt_223 : decode cX11_wrongAt 223 = .ok (.putfield 156, 3) := by decide +kernel
theorem dX11_wrongAt_226 : decode cX11_wrongAt 226 = .ok (.iinc 3 1, 3) := by decide +kernel
theorem dX11_wrongAt_229 : decode cX11_wrongAt 229 = .ok (.goto (-185), 3) := by decide +kernel
theorem dX11_wrongAt_232 : decode cX11_wrongAt 232 = .ok (.bipush (-9), 2) := by decide +kernel
theorem dX11_wrongAt_234 : decode cX11_wrongAt 234 = .ok (.ireturn, 1) := by decide +kernel
set_option maxRecDepth 20000 in
theorem ggX11_judge_X11_wrongAt : GoodIn wsX11_judge wsX11_wrongAt := goodIn_r _ [6, 7, 8, 9, 1, 10, 11, 12, 13, 5, 14, 15, 16, 17, 18, 19, 20, 21, 22, 23, 24, 25, 26, 27, 28, 29, 30, 31, 32, 33, 34, 35, 36, 37, 38, 39, 40, 41, 42, 43, 44, 45] (by decide +kernel) (by decide +kernel)
set_option maxRecDepth 20000 in
theorem gX11_judge_X11_wrongAt : GoodIn wsX11_judge (wsV RX11 159 RX11 yX11_wrongAt wsX11_wrongAt) := goodIn_app (goodIn_of _ (by decide +kernel)) ggX11_judge_X11_wrongAt
theorem dX11_judge_0 : decode cX11_judge 0 = .ok (.aload_n 0, 1) := by decide +kernel
theorem dX11_judge_1 : decode cX11_judge 1 = .ok (.invokevirtual 159, 3) := by decide +kernel
theorem dX11_judge_4 : decode cX11_judge 4 = .ok (.istore_n 1, 1) := by decide +kernel
theorem dX11_judge_5 : decode cX11_judge 5 = .ok (.aload_n 0, 1) := by decide +kernel
theorem dX11_judge_6 : decode cX11_judge 6 = .ok (.iconst 0, 1) := by decide +kernel
theorem dX11_judge_7 : decode cX11_judge 7 = .ok (.putfield 153, 3) := by decide +kernel
theorem dX11_judge_10 : decode cX11_judge 10 = .ok (.iload_n 1, 1) := by decide +kernel
theorem dX11_judge_11 : decode cX11_judge 11 = .ok (.ireturn, 1) := by decide +kernel
set_option maxRecDepth 20000 in
theorem ggX11_paid_X11_wrongAt : GoodIn wsX11_paid wsX11_wrongAt := goodIn_r _ [6, 7, 8, 1, 9, 10, 11, 12, 13, 5, 14, 15, 16, 17, 18, 19, 20, 21, 22, 23, 24, 25, 26, 27, 28, 29, 30, 31, 32, 33, 34, 35, 36, 37, 38, 39, 40, 41, 42, 43, 44, 45] (by decide +kernel) (by decide +kernel)
set_option maxRecDepth 20000 in
theorem gX11_paid_X11_wrongAt : GoodIn wsX11_paid (wsV RX11 159 RX11 yX11_wrongAt wsX11_wrongAt) := goodIn_app (goodIn_of _ (by decide +kernel)) ggX11_paid_X11_wrongAt
theorem dX11_paid_0 : decode cX11_paid 0 = .ok (.aload_n 0, 1) := by decide +kernel
theorem dX11_paid_1 : decode cX11_paid 1 = .ok (.invokevirtual 159, 3) := by decide +kernel
theorem dX11_paid_4 : decode cX11_paid 4 = .ok (.ifCond .lt 8, 3) := by decide +kernel
theorem dX11_paid_7 : decode cX11_paid 7 = .ok (.bipush (-9), 2) := by decide +kernel
theorem dX11_paid_9 : decode cX11_paid 9 = .ok (.goto 7, 3) := by decide +kernel
theorem dX11_paid_12 : decode cX11_paid 12 = .ok (.aload_n 0, 1) := by decide +kernel
theorem dX11_paid_13 : decode cX11_paid 13 = .ok (.getfield 156, 3) := by decide +kernel
theorem dX11_paid_16 : decode cX11_paid 16 = .ok (.ireturn, 1) := by decide +kernel
set_option maxRecDepth 20000 in
theorem ggX11_beside_X11_togetherBy : GoodIn wsX11_beside wsX11_togetherBy := goodIn_r _ [5, 6, 7, 8, 9, 4, 10, 11, 12, 13, 14, 15, 16, 17, 18, 19, 20, 21, 22, 23, 24, 25, 26, 27, 28, 29, 30, 31, 32, 33, 34, 35, 36, 37] (by decide +kernel) (by decide +kernel)
set_option maxRecDepth 20000 in
theorem gX11_beside_X11_togetherBy : GoodIn wsX11_beside (wsV RX11 91 RX11 yX11_togetherBy wsX11_togetherBy) := goodIn_app (goodIn_of _ (by decide +kernel)) ggX11_beside_X11_togetherBy
theorem dX11_beside_0 : decode cX11_beside 0 = .ok (.iconst 0, 1) := by decide +kernel
theorem dX11_beside_1 : decode cX11_beside 1 = .ok (.istore_n 2, 1) := by decide +kernel
theorem dX11_beside_2 : decode cX11_beside 2 = .ok (.iconst 1, 1) := by decide +kernel
theorem dX11_beside_3 : decode cX11_beside 3 = .ok (.istore_n 3, 1) := by decide +kernel
theorem dX11_beside_4 : decode cX11_beside 4 = .ok (.iload_n 3, 1) := by decide +kernel
theorem dX11_beside_5 : decode cX11_beside 5 = .ok (.bipush 6, 2) := by decide +kernel
theorem dX11_beside_7 : decode cX11_beside 7 = .ok (.if_icmp .ge 55, 3) := by decide +kernel
theorem dX11_beside_10 : decode cX11_beside 10 = .ok (.aload_n 0, 1) := by decide +kernel
theorem dX11_beside_11 : decode cX11_beside 11 = .ok (.iload_n 3, 1) := by decide +kernel
theorem dX11_beside_12 : decode cX11_beside 12 = .ok (.invokevirtual 91, 3) := by decide +kernel
theorem dX11_beside_15 : decode cX11_beside 15 = .ok (.istore 4, 2) := by decide +kernel
theorem dX11_beside_17 : decode cX11_beside 17 = .ok (.aload_n 0, 1) := by decide +kernel
theorem dX11_beside_18 : decode cX11_beside 18 = .ok (.iload_n 2, 1) := by decide +kernel
theorem dX11_beside_19 : decode cX11_beside 19 = .ok (.invokevirtual 91, 3) := by decide +kernel
theorem dX11_beside_22 : decode cX11_beside 22 = .ok (.istore 5, 2) := by decide +kernel
theorem dX11_beside_24 : decode cX11_beside 24 = .ok (.iload_n 1, 1) := by decide +kernel
theorem dX11_beside_25 : decode cX11_beside 25 = .ok (.ifCond .eq 18, 3) := by decide +kernel
theorem dX11_beside_28 : decode cX11_beside 28 = .ok (.iload 4, 2) := by decide +kernel
theorem dX11_beside_30 : decode cX11_beside 30 = .ok (.iload 5, 2) := by decide +kernel
theorem dX11_beside_32 : decode cX11_beside 32 = .ok (.if_icmp .le 7, 3) := by decide +kernel
theorem dX11_beside_35 : decode cX11_beside 35 = .ok (.iload_n 3, 1) := by decide +kernel
theorem dX11_beside_36 : decode cX11_beside 36 = .ok (.goto 19, 3) := by decide +kernel
theorem dX11_beside_39 : decode cX11_beside 39 = .ok (.iload_n 2, 1) := by decide +kernel
theorem dX11_beside_40 : decode cX11_beside 40 = .ok (.goto 15, 3) := by decide +kernel
theorem dX11_beside_43 : decode cX11_beside 43 = .ok (.iload 4, 2) := by decide +kernel
theorem dX11_beside_45 : decode cX11_beside 45 = .ok (.iload 5, 2) := by decide +kernel
theorem dX11_beside_47 : decode cX11_beside 47 = .ok (.if_icmp .ge 7, 3) := by decide +kernel
theorem dX11_beside_50 : decode cX11_beside 50 = .ok (.iload_n 3, 1) := by decide +kernel
theorem dX11_beside_51 : decode cX11_beside 51 = .ok (.goto 4, 3) := by decide +kernel
theorem dX11_beside_54 : decode cX11_beside 54 = .ok (.iload_n 2, 1) := by decide +kernel
theorem dX11_beside_55 : decode cX11_beside 55 = .ok (.istore_n 2, 1) := by decide +kernel
theorem dX11_beside_56 : decode cX11_beside 56 = .ok (.iinc 3 1, 3) := by decide +kernel
theorem dX11_beside_59 : decode cX11_beside 59 = .ok (.goto (-55), 3) := by decide +kernel
theorem dX11_beside_62 : decode cX11_beside 62 = .ok (.iload_n 2, 1) := by decide +kernel
theorem dX11_beside_63 : decode cX11_beside 63 = .ok (.ireturn, 1) := by decide +kernel
set_option maxRecDepth 20000 in
theorem ggX11_part_X11_isBook : GoodIn wsX11_part wsX11_isBook := goodIn_r _ [4, 5, 6, 3, 7] (by decide +kernel) (by decide +kernel)
set_option maxRecDepth 20000 in
theorem gX11_part_X11_isBook : GoodIn wsX11_part (va_wsS RX11 71 yX11_isBook wsX11_isBook) := goodIn_app (goodIn_of _ (by decide +kernel)) ggX11_part_X11_isBook
set_option maxRecDepth 20000 in
theorem ggX11_part_X11_refuse : GoodIn wsX11_part wsX11_refuse := goodIn_r _ [11, 12, 26, 27, 28, 29, 30, 31, 32, 33, 34, 35, 36, 37, 38, 39, 40, 41, 42, 43, 44] (by decide +kernel) (by decide +kernel)
set_option maxRecDepth 20000 in
theorem gX11_part_X11_refuse : GoodIn wsX11_part (wsV RX11 51 RX11 yX11_refuse wsX11_refuse) := goodIn_app (goodIn_of _ (by decide +kernel)) ggX11_part_X11_refuse
set_option maxRecDepth 20000 in
theorem ggX11_part_X11_owesOf : GoodIn wsX11_part wsX11_owesOf := goodIn_r _ [16, 17, 18, 19, 3, 20, 21, 22, 23, 24, 25, 26, 27, 28, 29, 30, 31, 32, 33, 34, 35, 36, 37, 38, 39, 40, 41, 42, 43, 44] (by decide +kernel) (by decide +kernel)
set_option maxRecDepth 20000 in
theorem gX11_part_X11_owesOf : GoodIn wsX11_part (wsV RX11 88 RX11 yX11_owesOf wsX11_owesOf) := goodIn_app (goodIn_of _ (by decide +kernel)) ggX11_part_X11_owesOf
theorem dX11_part_0 : decode cX11_part 0 = .ok (.iload_n 1, 1) := by decide +kernel
theorem dX11_part_1 : decode cX11_part 1 = .ok (.invokestatic 71, 3) := by decide +kernel
theorem dX11_part_4 : decode cX11_part 4 = .ok (.ifCond .eq 15, 3) := by decide +kernel
theorem dX11_part_7 : decode cX11_part 7 = .ok (.iload_n 2, 1) := by decide +kernel
theorem dX11_part_8 : decode cX11_part 8 = .ok (.invokestatic 71, 3) := by decide +kernel
theorem dX11_part_11 : decode cX11_part 11 = .ok (.ifCond .eq 8, 3) := by decide +kernel
theorem dX11_part_14 : decode cX11_part 14 = .ok (.iload_n 1, 1) := by decide +kernel
theorem dX11_part_15 : decode cX11_part 15 = .ok (.iload_n 2, 1) := by decide +kernel
theorem dX11_part_16 : decode cX11_part 16 = .ok (.if_icmp .ne 9, 3) := by decide +kernel
theorem dX11_part_19 : decode cX11_part 19 = .ok (.aload_n 0, 1) := by decide +kernel
theorem dX11_part_20 : decode cX11_part 20 = .ok (.iconst (-1), 1) := by decide +kernel
theorem dX11_part_21 : decode cX11_part 21 = .ok (.invokevirtual 51, 3) := by decide +kernel
theorem dX11_part_24 : decode cX11_part 24 = .ok (.ireturn, 1) := by decide +kernel
theorem dX11_part_25 : decode cX11_part 25 = .ok (.iconst 0, 1) := by decide +kernel
theorem dX11_part_26 : decode cX11_part 26 = .ok (.istore_n 3, 1) := by decide +kernel
theorem dX11_part_27 : decode cX11_part 27 = .ok (.iload_n 3, 1) := by decide +kernel
theorem dX11_part_28 : decode cX11_part 28 = .ok (.bipush 8, 2) := by decide +kernel
theorem dX11_part_30 : decode cX11_part 30 = .ok (.if_icmp .ge 52, 3) := by decide +kernel
theorem dX11_part_33 : decode cX11_part 33 = .ok (.iconst 0, 1) := by decide +kernel
theorem dX11_part_34 : decode cX11_part 34 = .ok (.istore 4, 2) := by decide +kernel
theorem dX11_part_36 : decode cX11_part 36 = .ok (.iload 4, 2) := by decide +kernel
theorem dX11_part_38 : decode cX11_part 38 = .ok (.bipush 16, 2) := by decide +kernel
theorem dX11_part_40 : decode cX11_part 40 = .ok (.if_icmp .ge 36, 3) := by decide +kernel
theorem dX11_part_43 : decode cX11_part 43 = .ok (.aload_n 0, 1) := by decide +kernel
theorem dX11_part_44 : decode cX11_part 44 = .ok (.iload_n 1, 1) := by decide +kernel
theorem dX11_part_45 : decode cX11_part 45 = .ok (.iload_n 3, 1) := by decide +kernel
theorem dX11_part_46 : decode cX11_part 46 = .ok (.iload 4, 2) := by decide +kernel
theorem dX11_part_48 : decode cX11_part 48 = .ok (.invokevirtual 88, 3) := by decide +kernel
theorem dX11_part_51 : decode cX11_part 51 = .ok (.aload_n 0, 1) := by decide +kernel
theorem dX11_part_52 : decode cX11_part 52 = .ok (.iload_n 2, 1) := by decide +kernel
theorem dX11_part_53 : decode cX11_part 53 = .ok (.iload_n 3, 1) := by decide +kernel
theorem dX11_part_54 : decode cX11_part 54 = .ok (.iload 4, 2) := by decide +kernel
theorem dX11_part_56 : decode cX11_part 56 = .ok (.invokevirtual 88, 3) := by decide +kernel
theorem dX11_part_59 : decode cX11_part 59 = .ok (.if_icmp .eq 11, 3) := by decide +kernel
theorem dX11_part_62 : decode cX11_part 62 = .ok (.bipush 16, 2) := by decide +kernel
theorem dX11_part_64 : decode cX11_part 64 = .ok (.iload_n 3, 1) := by decide +kernel
theorem dX11_part_65 : decode cX11_part 65 = .ok (.imul, 1) := by decide +kernel
theorem dX11_part_66 : decode cX11_part 66 = .ok (.iload 4, 2) := by decide +kernel
theorem dX11_part_68 : decode cX11_part 68 = .ok (.iadd, 1) := by decide +kernel
theorem dX11_part_69 : decode cX11_part 69 = .ok (.ireturn, 1) := by decide +kernel
theorem dX11_part_70 : decode cX11_part 70 = .ok (.iinc 4 1, 3) := by decide +kernel
theorem dX11_part_73 : decode cX11_part 73 = .ok (.goto (-37), 3) := by decide +kernel
theorem dX11_part_76 : decode cX11_part 76 = .ok (.iinc 3 1, 3) := by decide +kernel
theorem dX11_part_79 : decode cX11_part 79 = .ok (.goto (-52), 3) := by decide +kernel
theorem dX11_part_82 : decode cX11_part 82 = .ok (.bipush (-9), 2) := by decide +kernel
theorem dX11_part_84 : decode cX11_part 84 = .ok (.ireturn, 1) := by decide +kernel
set_option maxRecDepth 20000 in
theorem ggX11_has_X11_get : GoodIn wsX11_has wsX11_get := goodIn_r _ [6, 1, 7, 8, 9, 10, 11, 12, 13, 14, 15, 16, 17, 18, 19, 20, 21, 22, 23, 24, 25] (by decide +kernel) (by decide +kernel)
set_option maxRecDepth 20000 in
theorem gX11_has_X11_get : GoodIn wsX11_has (wsV RX11 78 RX11 yX11_get wsX11_get) := goodIn_app (goodIn_of _ (by decide +kernel)) ggX11_has_X11_get
theorem dX11_has_0 : decode cX11_has 0 = .ok (.iconst 0, 1) := by decide +kernel
theorem dX11_has_1 : decode cX11_has 1 = .ok (.istore 4, 2) := by decide +kernel
theorem dX11_has_3 : decode cX11_has 3 = .ok (.iload 4, 2) := by decide +kernel
theorem dX11_has_5 : decode cX11_has 5 = .ok (.aload_n 0, 1) := by decide +kernel
theorem dX11_has_6 : decode cX11_has 6 = .ok (.getfield 13, 3) := by decide +kernel
theorem dX11_has_9 : decode cX11_has 9 = .ok (.sipush 180, 3) := by decide +kernel
theorem dX11_has_12 : decode cX11_has 12 = .ok (.iload_n 1, 1) := by decide +kernel
theorem dX11_has_13 : decode cX11_has 13 = .ok (.iadd, 1) := by decide +kernel
theorem dX11_has_14 : decode cX11_has 14 = .ok (.iaload, 1) := by decide +kernel
theorem dX11_has_15 : decode cX11_has 15 = .ok (.if_icmp .ge 65, 3) := by decide +kernel
theorem dX11_has_18 : decode cX11_has 18 = .ok (.aload_n 0, 1) := by decide +kernel
theorem dX11_has_19 : decode cX11_has 19 = .ok (.iload_n 1, 1) := by decide +kernel
theorem dX11_has_20 : decode cX11_has 20 = .ok (.iload 4, 2) := by decide +kernel
theorem dX11_has_22 : decode cX11_has 22 = .ok (.iconst 0, 1) := by decide +kernel
theorem dX11_has_23 : decode cX11_has 23 = .ok (.invokevirtual 78, 3) := by decide +kernel
theorem dX11_has_26 : decode cX11_has 26 = .ok (.aload_n 0, 1) := by decide +kernel
theorem dX11_has_27 : decode cX11_has 27 = .ok (.iload_n 2, 1) := by decide +kernel
theorem dX11_has_28 : decode cX11_has 28 = .ok (.iload_n 3, 1) := by decide +kernel
theorem dX11_has_29 : decode cX11_has 29 = .ok (.iconst 0, 1) := by decide +kernel
theorem dX11_has_30 : decode cX11_has 30 = .ok (.invokevirtual 78, 3) := by decide +kernel
theorem dX11_has_33 : decode cX11_has 33 = .ok (.if_icmp .ne 41, 3) := by decide +kernel
theorem dX11_has_36 : decode cX11_has 36 = .ok (.aload_n 0, 1) := by decide +kernel
theorem dX11_has_37 : decode cX11_has 37 = .ok (.iload_n 1, 1) := by decide +kernel
theorem dX11_has_38 : decode cX11_has 38 = .ok (.iload 4, 2) := by decide +kernel
theorem dX11_has_40 : decode cX11_has 40 = .ok (.iconst 1, 1) := by decide +kernel
theorem dX11_has_41 : decode cX11_has 41 = .ok (.invokevirtual 78, 3) := by decide +kernel
theorem dX11_has_44 : decode cX11_has 44 = .ok (.aload_n 0, 1) := by decide +kernel
theorem dX11_has_45 : decode cX11_has 45 = .ok (.iload_n 2, 1) := by decide +kernel
theorem dX11_has_46 : decode cX11_has 46 = .ok (.iload_n 3, 1) := by decide +kernel
theorem dX11_has_47 : decode cX11_has 47 = .ok (.iconst 1, 1) := by decide +kernel
theorem dX11_has_48 : decode cX11_has 48 = .ok (.invokevirtual 78, 3) := by decide +kernel
theorem dX11_has_51 : decode cX11_has 51 = .ok (.if_icmp .ne 23, 3) := by decide +kernel
theorem dX11_has_54 : decode cX11_has 54 = .ok (.aload_n 0, 1) := by decide +kernel
theorem dX11_has_55 : decode cX11_has 55 = .ok (.iload_n 1, 1) := by decide +kernel
theorem dX11_has_56 : decode cX11_has 56 = .ok (.iload 4, 2) := by decide +kernel
theorem dX11_has_58 : decode cX11_has 58 = .ok (.iconst 2, 1) := by decide +kernel
theorem dX11_has_59 : decode cX11_has 59 = .ok (.invokevirtual 78, 3) := by decide +kernel
theorem dX11_has_62 : decode cX11_has 62 = .ok (.aload_n 0, 1) := by decide +kernel
theorem dX11_has_63 : decode cX11_has 63 = .ok (.iload_n 2, 1) := by decide +kernel
theorem dX11_has_64 : decode cX11_has 64 = .ok (.iload_n 3, 1) := by decide +kernel
theorem dX11_has_65 : decode cX11_has 65 = .ok (.iconst 2, 1) := by decide +kernel
theorem dX11_has_66 : decode cX11_has 66 = .ok (.invokevirtual 78, 3) := by decide +kernel
theorem dX11_has_69 : decode cX11_has 69 = .ok (.if_icmp .ne 5, 3) := by decide +kernel
theorem dX11_has_72 : decode cX11_has 72 = .ok (.iconst 1, 1) := by decide +kernel
theorem dX11_has_73 : decode cX11_has 73 = .ok (.ireturn, 1) := by decide +kernel
theorem dX11_has_74 : decode cX11_has 74 = .ok (.iinc 4 1, 3) := by decide +kernel
theorem dX11_has_77 : decode cX11_has 77 = .ok (.goto (-74), 3) := by decide +kernel
theorem dX11_has_80 : decode cX11_has 80 = .ok (.iconst 0, 1) := by decide +kernel
theorem dX11_has_81 : decode cX11_has 81 = .ok (.ireturn, 1) := by decide +kernel
set_option maxRecDepth 20000 in
theorem ggX11_kin_X11_isBook : GoodIn wsX11_kin wsX11_isBook := goodIn_r _ [5, 6, 7, 4, 8] (by decide +kernel) (by decide +kernel)
set_option maxRecDepth 20000 in
theorem gX11_kin_X11_isBook : GoodIn wsX11_kin (va_wsS RX11 71 yX11_isBook wsX11_isBook) := goodIn_app (goodIn_of _ (by decide +kernel)) ggX11_kin_X11_isBook
set_option maxRecDepth 20000 in
theorem ggX11_kin_X11_refuse : GoodIn wsX11_kin wsX11_refuse := goodIn_r _ [12, 13, 22, 23, 24, 25, 26, 27, 28, 29, 30, 31, 32, 33, 34, 35, 36, 37, 38, 39, 40] (by decide +kernel) (by decide +kernel)
set_option maxRecDepth 20000 in
theorem gX11_kin_X11_refuse : GoodIn wsX11_kin (wsV RX11 51 RX11 yX11_refuse wsX11_refuse) := goodIn_app (goodIn_of _ (by decide +kernel)) ggX11_kin_X11_refuse
set_option maxRecDepth 20000 in
theorem ggX11_kin_X11_has : GoodIn wsX11_kin wsX11_has := goodIn_r _ [17, 1, 18, 19, 20, 4, 21, 22, 23, 24, 25, 26, 27, 28, 29, 30, 31, 32, 33, 34, 35, 36, 37, 38, 39, 40] (by decide +kernel) (by decide +kernel)
set_option maxRecDepth 20000 in
theorem gX11_kin_X11_has : GoodIn wsX11_kin (wsV RX11 162 RX11 yX11_has wsX11_has) := goodIn_app (goodIn_of _ (by decide +kernel)) ggX11_kin_X11_has
theorem dX11_kin_0 : decode cX11_kin 0 = .ok (.iload_n 1, 1) := by decide +kernel
theorem dX11_kin_1 : decode cX11_kin 1 = .ok (.invokestatic 71, 3) := by decide +kernel
theorem dX11_kin_4 : decode cX11_kin 4 = .ok (.ifCond .ne 9, 3) := by decide +kernel
theorem dX11_kin_7 : decode cX11_kin 7 = .ok (.aload_n 0, 1) := by decide +kernel
theorem dX11_kin_8 : decode cX11_kin 8 = .ok (.iconst (-1), 1) := by decide +kernel
theorem dX11_kin_9 : decode cX11_kin 9 = .ok (.invokevirtual 51, 3) := by decide +kernel
theorem dX11_kin_12 : decode cX11_kin 12 = .ok (.ireturn, 1) := by decide +kernel
theorem dX11_kin_13 : decode cX11_kin 13 = .ok (.bipush (-9), 2) := by decide +kernel
theorem dX11_kin_15 : decode cX11_kin 15 = .ok (.istore_n 2, 1) := by decide +kernel
theorem dX11_kin_16 : decode cX11_kin 16 = .ok (.iconst 0, 1) := by decide +kernel
theorem dX11_kin_17 : decode cX11_kin 17 = .ok (.istore_n 3, 1) := by decide +kernel
theorem dX11_kin_18 : decode cX11_kin 18 = .ok (.iconst 0, 1) := by decide +kernel
theorem dX11_kin_19 : decode cX11_kin 19 = .ok (.istore 4, 2) := by decide +kernel
theorem dX11_kin_21 : decode cX11_kin 21 = .ok (.iload 4, 2) := by decide +kernel
theorem dX11_kin_23 : decode cX11_kin 23 = .ok (.bipush 6, 2) := by decide +kernel
theorem dX11_kin_25 : decode cX11_kin 25 = .ok (.if_icmp .ge 79, 3) := by decide +kernel
theorem dX11_kin_28 : decode cX11_kin 28 = .ok (.iconst 0, 1) := by decide +kernel
theorem dX11_kin_29 : decode cX11_kin 29 = .ok (.istore 5, 2) := by decide +kernel
theorem dX11_kin_31 : decode cX11_kin 31 = .ok (.iconst 0, 1) := by decide +kernel
theorem dX11_kin_32 : decode cX11_kin 32 = .ok (.istore 6, 2) := by decide +kernel
theorem dX11_kin_34 : decode cX11_kin 34 = .ok (.iload 6, 2) := by decide +kernel
theorem dX11_kin_36 : decode cX11_kin 36 = .ok (.aload_n 0, 1) := by decide +kernel
theorem dX11_kin_37 : decode cX11_kin 37 = .ok (.getfield 13, 3) := by decide +kernel
theorem dX11_kin_40 : decode cX11_kin 40 = .ok (.sipush 180, 3) := by decide +kernel
theorem dX11_kin_43 : decode cX11_kin 43 = .ok (.iload_n 1, 1) := by decide +kernel
theorem dX11_kin_44 : decode cX11_kin 44 = .ok (.iadd, 1) := by decide +kernel
theorem dX11_kin_45 : decode cX11_kin 45 = .ok (.iaload, 1) := by decide +kernel
theorem dX11_kin_46 : decode cX11_kin 46 = .ok (.if_icmp .ge 37, 3) := by decide +kernel
theorem dX11_kin_49 : decode cX11_kin 49 = .ok (.iload 4, 2) := by decide +kernel
theorem dX11_kin_51 : decode cX11_kin 51 = .ok (.iload_n 1, 1) := by decide +kernel
theorem dX11_kin_52 : decode cX11_kin 52 = .ok (.if_icmp .eq 31, 3) := by decide +kernel
theorem dX11_kin_55 : decode cX11_kin 55 = .ok (.iload 5, 2) := by decide +kernel
theorem dX11_kin_57 : decode cX11_kin 57 = .ok (.aload_n 0, 1) := by decide +kernel
theorem dX11_kin_58 : decode cX11_kin 58 = .ok (.iload 4, 2) := by decide +kernel
theorem dX11_kin_60 : decode cX11_kin 60 = .ok (.iload_n 1, 1) := by decide +kernel
theorem dX11_kin_61 : decode cX11_kin 61 = .ok (.iload 6, 2) := by decide +kernel
theorem dX11_kin_63 : decode cX11_kin 63 = .ok (.invokevirtual 162, 3) := by decide +kernel
theorem dX11_kin_66 : decode cX11_kin 66 = .ok (.ifCond .eq 7, 3) := by decide +kernel
theorem dX11_kin_69 : decode cX11_kin 69 = .ok (.iconst 1, 1) := by decide +kernel
theorem dX11_kin_70 : decode cX11_kin 70 = .ok (.goto 4, 3) := by decide +kernel
theorem dX11_kin_73 : decode cX11_kin 73 = .ok (.iconst 0, 1) := by decide +kernel
theorem dX11_kin_74 : decode cX11_kin 74 = .ok (.iadd, 1) := by decide +kernel
theorem dX11_kin_75 : decode cX11_kin 75 = .ok (.istore 5, 2) := by decide +kernel
theorem dX11_kin_77 : decode cX11_kin 77 = .ok (.iinc 6 1, 3) := by decide +kernel
theorem dX11_kin_80 : decode cX11_kin 80 = .ok (.goto (-46), 3) := by decide +kernel
theorem dX11_kin_83 : decode cX11_kin 83 = .ok (.iload 5, 2) := by decide +kernel
theorem dX11_kin_85 : decode cX11_kin 85 = .ok (.iload_n 3, 1) := by decide +kernel
theorem dX11_kin_86 : decode cX11_kin 86 = .ok (.if_icmp .gt 6, 3) := by decide +kernel
theorem dX11_kin_89 : decode cX11_kin 89 = .ok (.goto 9, 3) := by decide +kernel
theorem dX11_kin_92 : decode cX11_kin 92 = .ok (.iload 4, 2) := by decide +kernel
theorem dX11_kin_94 : decode cX11_kin 94 = .ok (.istore_n 2, 1) := by decide +kernel
theorem dX11_kin_95 : decode cX11_kin 95 = .ok (.iload 5, 2) := by decide +kernel
theorem dX11_kin_97 : decode cX11_kin 97 = .ok (.istore_n 3, 1) := by decide +kernel
theorem dX11_kin_98 : decode cX11_kin 98 = .ok (.iinc 4 1, 3) := by decide +kernel
theorem dX11_kin_101 : decode cX11_kin 101 = .ok (.goto (-80), 3) := by decide +kernel
theorem dX11_kin_104 : decode cX11_kin 104 = .ok (.iload_n 2, 1) := by decide +kernel
theorem dX11_kin_105 : decode cX11_kin 105 = .ok (.ireturn, 1) := by decide +kernel
theorem dX11_image_0 : decode cX11_image 0 = .ok (.iconst 0, 1) := by decide +kernel
theorem dX11_image_1 : decode cX11_image 1 = .ok (.istore_n 1, 1) := by decide +kernel
theorem dX11_image_2 : decode cX11_image 2 = .ok (.iload_n 1, 1) := by decide +kernel
theorem dX11_image_3 : decode cX11_image 3 = .ok (.sipush 310, 3) := by decide +kernel
theorem dX11_image_6 : decode cX11_image 6 = .ok (.if_icmp .ge 21, 3) := by decide +kernel
theorem dX11_image_9 : decode cX11_image 9 = .ok (.aload_n 0, 1) := by decide +kernel
theorem dX11_image_10 : decode cX11_image 10 = .ok (.getfield 16, 3) := by decide +kernel
theorem dX11_image_13 : decode cX11_image 13 = .ok (.iload_n 1, 1) := by decide +kernel
theorem dX11_image_14 : decode cX11_image 14 = .ok (.aload_n 0, 1) := by decide +kernel
theorem dX11_image_15 : decode cX11_image 15 = .ok (.getfield 13, 3) := by decide +kernel
theorem dX11_image_18 : decode cX11_image 18 = .ok (.iload_n 1, 1) := by decide +kernel
theorem dX11_image_19 : decode cX11_image 19 = .ok (.iaload, 1) := by decide +kernel
theorem dX11_image_20 : decode cX11_image 20 = .ok (.iastore, 1) := by decide +kernel
theorem dX11_image_21 : decode cX11_image 21 = .ok (.iinc 1 1, 3) := by decide +kernel
theorem dX11_image_24 : decode cX11_image 24 = .ok (.goto (-22), 3) := by decide +kernel
theorem dX11_image_27 : decode cX11_image 27 = .ok (.aload_n 0, 1) := by decide +kernel
theorem dX11_image_28 : decode cX11_image 28 = .ok (.iconst 1, 1) := by decide +kernel
theorem dX11_image_29 : decode cX11_image 29 = .ok (.putfield 166, 3) := by decide +kernel
theorem dX11_image_32 : decode cX11_image 32 = .ok (.aload_n 0, 1) := by decide +kernel
theorem dX11_image_33 : decode cX11_image 33 = .ok (.getfield 13, 3) := by decide +kernel
theorem dX11_image_36 : decode cX11_image 36 = .ok (.sipush 306, 3) := by decide +kernel
theorem dX11_image_39 : decode cX11_image 39 = .ok (.iaload, 1) := by decide +kernel
theorem dX11_image_40 : decode cX11_image 40 = .ok (.ireturn, 1) := by decide +kernel
set_option maxRecDepth 20000 in
theorem ggX11_on_X11_refuse : GoodIn wsX11_on wsX11_refuse := goodIn_r _ [8, 9, 10, 11, 12, 13, 14, 15, 16, 17, 18, 19, 20, 21, 22, 23, 24, 25, 26, 27, 28] (by decide +kernel) (by decide +kernel)
set_option maxRecDepth 20000 in
theorem gX11_on_X11_refuse : GoodIn wsX11_on (wsV RX11 51 RX11 yX11_refuse wsX11_refuse) := goodIn_app (goodIn_of _ (by decide +kernel)) ggX11_on_X11_refuse
theorem dX11_on_0 : decode cX11_on 0 = .ok (.aload_n 0, 1) := by decide +kernel
theorem dX11_on_1 : decode cX11_on 1 = .ok (.getfield 166, 3) := by decide +kernel
theorem dX11_on_4 : decode cX11_on 4 = .ok (.ifCond .ne 10, 3) := by decide +kernel
theorem dX11_on_7 : decode cX11_on 7 = .ok (.aload_n 0, 1) := by decide +kernel
theorem dX11_on_8 : decode cX11_on 8 = .ok (.bipush (-3), 2) := by decide +kernel
theorem dX11_on_10 : decode cX11_on 10 = .ok (.invokevirtual 51, 3) := by decide +kernel
theorem dX11_on_13 : decode cX11_on 13 = .ok (.ireturn, 1) := by decide +kernel
theorem dX11_on_14 : decode cX11_on 14 = .ok (.iconst 0, 1) := by decide +kernel
theorem dX11_on_15 : decode cX11_on 15 = .ok (.istore_n 1, 1) := by decide +kernel
theorem dX11_on_16 : decode cX11_on 16 = .ok (.iload_n 1, 1) := by decide +kernel
theorem dX11_on_17 : decode cX11_on 17 = .ok (.sipush 310, 3) := by decide +kernel
theorem dX11_on_20 : decode cX11_on 20 = .ok (.if_icmp .ge 21, 3) := by decide +kernel
theorem dX11_on_23 : decode cX11_on 23 = .ok (.aload_n 0, 1) := by decide +kernel
theorem dX11_on_24 : decode cX11_on 24 = .ok (.getfield 13, 3) := by decide +kernel
theorem dX11_on_27 : decode cX11_on 27 = .ok (.iload_n 1, 1) := by decide +kernel
theorem dX11_on_28 : decode cX11_on 28 = .ok (.aload_n 0, 1) := by decide +kernel
theorem dX11_on_29 : decode cX11_on 29 = .ok (.getfield 16, 3) := by decide +kernel
theorem dX11_on_32 : decode cX11_on 32 = .ok (.iload_n 1, 1) := by decide +kernel
theorem dX11_on_33 : decode cX11_on 33 = .ok (.iaload, 1) := by decide +kernel
theorem dX11_on_34 : decode cX11_on 34 = .ok (.iastore, 1) := by decide +kernel
theorem dX11_on_35 : decode cX11_on 35 = .ok (.iinc 1 1, 3) := by decide +kernel
theorem dX11_on_38 : decode cX11_on 38 = .ok (.goto (-22), 3) := by decide +kernel
theorem dX11_on_41 : decode cX11_on 41 = .ok (.aload_n 0, 1) := by decide +kernel
theorem dX11_on_42 : decode cX11_on 42 = .ok (.getfield 13, 3) := by decide +kernel
theorem dX11_on_45 : decode cX11_on 45 = .ok (.sipush 306, 3) := by decide +kernel
theorem dX11_on_48 : decode cX11_on 48 = .ok (.iaload, 1) := by decide +kernel
theorem dX11_on_49 : decode cX11_on 49 = .ok (.ireturn, 1) := by decide +kernel
set_option maxRecDepth 20000 in
theorem ggX11_count_X11_bits : GoodIn wsX11_count wsX11_bits := goodIn_r _ [8] (by decide +kernel) (by decide +kernel)
set_option maxRecDepth 20000 in
theorem gX11_count_X11_bits : GoodIn wsX11_count (va_wsS RX11 102 yX11_bits wsX11_bits) := goodIn_app (goodIn_of _ (by decide +kernel)) ggX11_count_X11_bits
theorem dX11_count_0 : decode cX11_count 0 = .ok (.iload_n 1, 1) := by decide +kernel
theorem dX11_count_1 : decode cX11_count 1 = .ok (.bipush 10, 2) := by decide +kernel
theorem dX11_count_3 : decode cX11_count 3 = .ok (.if_icmp .le 19, 3) := by decide +kernel
theorem dX11_count_6 : decode cX11_count 6 = .ok (.iload_n 1, 1) := by decide +kernel
theorem dX11_count_7 : decode cX11_count 7 = .ok (.bipush 17, 2) := by decide +kernel
theorem dX11_count_9 : decode cX11_count 9 = .ok (.if_icmp .ge 13, 3) := by decide +kernel
theorem dX11_count_12 : decode cX11_count 12 = .ok (.aload_n 0, 1) := by decide +kernel
theorem dX11_count_13 : decode cX11_count 13 = .ok (.getfield 7, 3) := by decide +kernel
theorem dX11_count_16 : decode cX11_count 16 = .ok (.iload_n 1, 1) := by decide +kernel
theorem dX11_count_17 : decode cX11_count 17 = .ok (.bipush 10, 2) := by decide +kernel
theorem dX11_count_19 : decode cX11_count 19 = .ok (.isub, 1) := by decide +kernel
theorem dX11_count_20 : decode cX11_count 20 = .ok (.iaload, 1) := by decide +kernel
theorem dX11_count_21 : decode cX11_count 21 = .ok (.ireturn, 1) := by decide +kernel
theorem dX11_count_22 : decode cX11_count 22 = .ok (.iconst 0, 1) := by decide +kernel
theorem dX11_count_23 : decode cX11_count 23 = .ok (.istore_n 2, 1) := by decide +kernel
theorem dX11_count_24 : decode cX11_count 24 = .ok (.iload_n 1, 1) := by decide +kernel
theorem dX11_count_25 : decode cX11_count 25 = .ok (.tableswitch 108 0 5 #[39, 68, 77, 86, 91, 96], 39) := by decide +kernel
theorem dX11_count_64 : decode cX11_count 64 = .ok (.iconst 0, 1) := by decide +kernel
theorem dX11_count_65 : decode cX11_count 65 = .ok (.istore_n 3, 1) := by decide +kernel
theorem dX11_count_66 : decode cX11_count 66 = .ok (.iload_n 3, 1) := by decide +kernel
theorem dX11_count_67 : decode cX11_count 67 = .ok (.bipush 6, 2) := by decide +kernel
theorem dX11_count_69 : decode cX11_count 69 = .ok (.if_icmp .ge 22, 3) := by decide +kernel
theorem dX11_count_72 : decode cX11_count 72 = .ok (.iload_n 2, 1) := by decide +kernel
theorem dX11_count_73 : decode cX11_count 73 = .ok (.aload_n 0, 1) := by decide +kernel
theorem dX11_count_74 : decode cX11_count 74 = .ok (.getfield 13, 3) := by decide +kernel
theorem dX11_count_77 : decode cX11_count 77 = .ok (.sipush 180, 3) := by decide +kernel
theorem dX11_count_80 : decode cX11_count 80 = .ok (.iload_n 3, 1) := by decide +kernel
theorem dX11_count_81 : decode cX11_count 81 = .ok (.iadd, 1) := by decide +kernel
theorem dX11_count_82 : decode cX11_count 82 = .ok (.iaload, 1) := by decide +kernel
theorem dX11_count_83 : decode cX11_count 83 = .ok (.iadd, 1) := by decide +kernel
theorem dX11_count_84 : decode cX11_count 84 = .ok (.istore_n 2, 1) := by decide +kernel
theorem dX11_count_85 : decode cX11_count 85 = .ok (.iinc 3 1, 3) := by decide +kernel
theorem dX11_count_88 : decode cX11_count 88 = .ok (.goto (-22), 3) := by decide +kernel
theorem dX11_count_91 : decode cX11_count 91 = .ok (.iload_n 2, 1) := by decide +kernel
theorem dX11_count_92 : decode cX11_count 92 = .ok (.ireturn, 1) := by decide +kernel
theorem dX11_count_93 : decode cX11_count 93 = .ok (.aload_n 0, 1) := by decide +kernel
theorem dX11_count_94 : decode cX11_count 94 = .ok (.getfield 13, 3) := by decide +kernel
theorem dX11_count_97 : decode cX11_count 97 = .ok (.sipush 306, 3) := by decide +kernel
theorem dX11_count_100 : decode cX11_count 100 = .ok (.iaload, 1) := by decide +kernel
theorem dX11_count_101 : decode cX11_count 101 = .ok (.ireturn, 1) := by decide +kernel
theorem dX11_count_102 : decode cX11_count 102 = .ok (.aload_n 0, 1) := by decide +kernel
theorem dX11_count_103 : decode cX11_count 103 = .ok (.getfield 13, 3) := by decide +kernel
theorem dX11_count_106 : decode cX11_count 106 = .ok (.sipush 307, 3) := by decide +kernel
theorem dX11_count_109 : decode cX11_count 109 = .ok (.iaload, 1) := by decide +kernel
theorem dX11_count_110 : decode cX11_count 110 = .ok (.ireturn, 1) := by decide +kernel
theorem dX11_count_111 : decode cX11_count 111 = .ok (.aload_n 0, 1) := by decide +kernel
theorem dX11_count_112 : decode cX11_count 112 = .ok (.getfield 55, 3) := by decide +kernel
theorem dX11_count_115 : decode cX11_count 115 = .ok (.ireturn, 1) := by decide +kernel
theorem dX11_count_116 : decode cX11_count 116 = .ok (.aload_n 0, 1) := by decide +kernel
theorem dX11_count_117 : decode cX11_count 117 = .ok (.getfield 153, 3) := by decide +kernel
theorem dX11_count_120 : decode cX11_count 120 = .ok (.ireturn, 1) := by decide +kernel
theorem dX11_count_121 : decode cX11_count 121 = .ok (.aload_n 0, 1) := by decide +kernel
theorem dX11_count_122 : decode cX11_count 122 = .ok (.getfield 13, 3) := by decide +kernel
theorem dX11_count_125 : decode cX11_count 125 = .ok (.sipush 308, 3) := by decide +kernel
theorem dX11_count_128 : decode cX11_count 128 = .ok (.iaload, 1) := by decide +kernel
theorem dX11_count_129 : decode cX11_count 129 = .ok (.invokestatic 102, 3) := by decide +kernel
theorem dX11_count_132 : decode cX11_count 132 = .ok (.ireturn, 1) := by decide +kernel
theorem dX11_count_133 : decode cX11_count 133 = .ok (.bipush (-9), 2) := by decide +kernel
theorem dX11_count_135 : decode cX11_count 135 = .ok (.ireturn, 1) := by decide +kernel
theorem dJ6_bitCount_0f7a4_0 : decode cJ6_bitCount_0f7a4 0 = .ok (.iload_n 0, 1) := by decide +kernel
theorem dJ6_bitCount_0f7a4_1 : decode cJ6_bitCount_0f7a4 1 = .ok (.iload_n 0, 1) := by decide +kernel
theorem dJ6_bitCount_0f7a4_2 : decode cJ6_bitCount_0f7a4 2 = .ok (.iconst 1, 1) := by decide +kernel
theorem dJ6_bitCount_0f7a4_3 : decode cJ6_bitCount_0f7a4 3 = .ok (.iushr, 1) := by decide +kernel
theorem dJ6_bitCount_0f7a4_4 : decode cJ6_bitCount_0f7a4 4 = .ok (.ldc_w 265, 3) := by decide +kernel
theorem dJ6_bitCount_0f7a4_7 : decode cJ6_bitCount_0f7a4 7 = .ok (.iand, 1) := by decide +kernel
theorem dJ6_bitCount_0f7a4_8 : decode cJ6_bitCount_0f7a4 8 = .ok (.isub, 1) := by decide +kernel
theorem dJ6_bitCount_0f7a4_9 : decode cJ6_bitCount_0f7a4 9 = .ok (.istore_n 0, 1) := by decide +kernel
theorem dJ6_bitCount_0f7a4_10 : decode cJ6_bitCount_0f7a4 10 = .ok (.iload_n 0, 1) := by decide +kernel
theorem dJ6_bitCount_0f7a4_11 : decode cJ6_bitCount_0f7a4 11 = .ok (.ldc_w 266, 3) := by decide +kernel
theorem dJ6_bitCount_0f7a4_14 : decode cJ6_bitCount_0f7a4 14 = .ok (.iand, 1) := by decide +kernel
theorem dJ6_bitCount_0f7a4_15 : decode cJ6_bitCount_0f7a4 15 = .ok (.iload_n 0, 1) := by decide +kernel
theorem dJ6_bitCount_0f7a4_16 : decode cJ6_bitCount_0f7a4 16 = .ok (.iconst 2, 1) := by decide +kernel
theorem dJ6_bitCount_0f7a4_17 : decode cJ6_bitCount_0f7a4 17 = .ok (.iushr, 1) := by decide +kernel
theorem dJ6_bitCount_0f7a4_18 : decode cJ6_bitCount_0f7a4 18 = .ok (.ldc_w 266, 3) := by decide +kernel
theorem dJ6_bitCount_0f7a4_21 : decode cJ6_bitCount_0f7a4 21 = .ok (.iand, 1) := by decide +kernel
theorem dJ6_bitCount_0f7a4_22 : decode cJ6_bitCount_0f7a4 22 = .ok (.iadd, 1) := by decide +kernel
theorem dJ6_bitCount_0f7a4_23 : decode cJ6_bitCount_0f7a4 23 = .ok (.istore_n 0, 1) := by decide +kernel
theorem dJ6_bitCount_0f7a4_24 : decode cJ6_bitCount_0f7a4 24 = .ok (.iload_n 0, 1) := by decide +kernel
theorem dJ6_bitCount_0f7a4_25 : decode cJ6_bitCount_0f7a4 25 = .ok (.iload_n 0, 1) := by decide +kernel
theorem dJ6_bitCount_0f7a4_26 : decode cJ6_bitCount_0f7a4 26 = .ok (.iconst 4, 1) := by decide +kernel
theorem dJ6_bitCount_0f7a4_27 : decode cJ6_bitCount_0f7a4 27 = .ok (.iushr, 1) := by decide +kernel
theorem dJ6_bitCount_0f7a4_28 : decode cJ6_bitCount_0f7a4 28 = .ok (.iadd, 1) := by decide +kernel
theorem dJ6_bitCount_0f7a4_29 : decode cJ6_bitCount_0f7a4 29 = .ok (.ldc_w 267, 3) := by decide +kernel
theorem dJ6_bitCount_0f7a4_32 : decode cJ6_bitCount_0f7a4 32 = .ok (.iand, 1) := by decide +kernel
theorem dJ6_bitCount_0f7a4_33 : decode cJ6_bitCount_0f7a4 33 = .ok (.istore_n 0, 1) := by decide +kernel
theorem dJ6_bitCount_0f7a4_34 : decode cJ6_bitCount_0f7a4 34 = .ok (.iload_n 0, 1) := by decide +kernel
theorem dJ6_bitCount_0f7a4_35 : decode cJ6_bitCount_0f7a4 35 = .ok (.iload_n 0, 1) := by decide +kernel
theorem dJ6_bitCount_0f7a4_36 : decode cJ6_bitCount_0f7a4 36 = .ok (.bipush 8, 2) := by decide +kernel
theorem dJ6_bitCount_0f7a4_38 : decode cJ6_bitCount_0f7a4 38 = .ok (.iushr, 1) := by decide +kernel
theorem dJ6_bitCount_0f7a4_39 : decode cJ6_bitCount_0f7a4 39 = .ok (.iadd, 1) := by decide +kernel
theorem dJ6_bitCount_0f7a4_40 : decode cJ6_bitCount_0f7a4 40 = .ok (.istore_n 0, 1) := by decide +kernel
theorem dJ6_bitCount_0f7a4_41 : decode cJ6_bitCount_0f7a4 41 = .ok (.iload_n 0, 1) := by decide +kernel
theorem dJ6_bitCount_0f7a4_42 : decode cJ6_bitCount_0f7a4 42 = .ok (.iload_n 0, 1) := by decide +kernel
theorem dJ6_bitCount_0f7a4_43 : decode cJ6_bitCount_0f7a4 43 = .ok (.bipush 16, 2) := by decide +kernel
theorem dJ6_bitCount_0f7a4_45 : decode cJ6_bitCount_0f7a4 45 = .ok (.iushr, 1) := by decide +kernel
theorem dJ6_bitCount_0f7a4_46 : decode cJ6_bitCount_0f7a4 46 = .ok (.iadd, 1) := by decide +kernel
theorem dJ6_bitCount_0f7a4_47 : decode cJ6_bitCount_0f7a4 47 = .ok (.istore_n 0, 1) := by decide +kernel
theorem dJ6_bitCount_0f7a4_48 : decode cJ6_bitCount_0f7a4 48 = .ok (.iload_n 0, 1) := by decide +kernel
theorem dJ6_bitCount_0f7a4_49 : decode cJ6_bitCount_0f7a4 49 = .ok (.bipush 63, 2) := by decide +kernel
theorem dJ6_bitCount_0f7a4_51 : decode cJ6_bitCount_0f7a4 51 = .ok (.iand, 1) := by decide +kernel
theorem dJ6_bitCount_0f7a4_52 : decode cJ6_bitCount_0f7a4 52 = .ok (.ireturn, 1) := by decide +kernel
theorem dJ9_max_7cf53_0 : decode cJ9_max_7cf53 0 = .ok (.iload_n 0, 1) := by decide +kernel
theorem dJ9_max_7cf53_1 : decode cJ9_max_7cf53 1 = .ok (.iload_n 1, 1) := by decide +kernel
theorem dJ9_max_7cf53_2 : decode cJ9_max_7cf53 2 = .ok (.if_icmp .lt 7, 3) := by decide +kernel
theorem dJ9_max_7cf53_5 : decode cJ9_max_7cf53 5 = .ok (.iload_n 0, 1) := by decide +kernel
theorem dJ9_max_7cf53_6 : decode cJ9_max_7cf53 6 = .ok (.goto 4, 3) := by decide +kernel
theorem dJ9_max_7cf53_9 : decode cJ9_max_7cf53 9 = .ok (.iload_n 1, 1) := by decide +kernel
theorem dJ9_max_7cf53_10 : decode cJ9_max_7cf53 10 = .ok (.ireturn, 1) := by decide +kernel
theorem dJ9_min_7cf53_0 : decode cJ9_min_7cf53 0 = .ok (.iload_n 0, 1) := by decide +kernel
theorem dJ9_min_7cf53_1 : decode cJ9_min_7cf53 1 = .ok (.iload_n 1, 1) := by decide +kernel
theorem dJ9_min_7cf53_2 : decode cJ9_min_7cf53 2 = .ok (.if_icmp .gt 7, 3) := by decide +kernel
theorem dJ9_min_7cf53_5 : decode cJ9_min_7cf53 5 = .ok (.iload_n 0, 1) := by decide +kernel
theorem dJ9_min_7cf53_6 : decode cJ9_min_7cf53 6 = .ok (.goto 4, 3) := by decide +kernel
theorem dJ9_min_7cf53_9 : decode cJ9_min_7cf53 9 = .ok (.iload_n 1, 1) := by decide +kernel
theorem dJ9_min_7cf53_10 : decode cJ9_min_7cf53 10 = .ok (.ireturn, 1) := by decide +kernel
theorem dJ7_rangeCheck_23922_0 : decode cJ7_rangeCheck_23922 0 = .ok (.iload_n 1, 1) := by decide +kernel
theorem dJ7_rangeCheck_23922_1 : decode cJ7_rangeCheck_23922 1 = .ok (.iload_n 2, 1) := by decide +kernel
theorem dJ7_rangeCheck_23922_2 : decode cJ7_rangeCheck_23922 2 = .ok (.if_icmp .le 44, 3) := by decide +kernel
theorem dJ7_rangeCheck_23922_5 : decode cJ7_rangeCheck_23922 5 = .ok (.new 43, 3) := by decide +kernel
theorem dJ7_rangeCheck_23922_8 : decode cJ7_rangeCheck_23922 8 = .ok (.dup, 1) := by decide +kernel
theorem dJ7_rangeCheck_23922_9 : decode cJ7_rangeCheck_23922 9 = .ok (.new 45, 3) := by decide +kernel
theorem dJ7_rangeCheck_23922_12 : decode cJ7_rangeCheck_23922 12 = .ok (.dup, 1) := by decide +kernel
theorem dJ7_rangeCheck_23922_13 : decode cJ7_rangeCheck_23922 13 = .ok (.invokespecial 47, 3) := by decide +kernel
theorem dJ7_rangeCheck_23922_16 : decode cJ7_rangeCheck_23922 16 = .ok (.ldc 48, 2) := by decide +kernel
theorem dJ7_rangeCheck_23922_18 : decode cJ7_rangeCheck_23922 18 = .ok (.invokevirtual 50, 3) := by decide +kernel
theorem dJ7_rangeCheck_23922_21 : decode cJ7_rangeCheck_23922 21 = .ok (.iload_n 1, 1) := by decide +kernel
theorem dJ7_rangeCheck_23922_22 : decode cJ7_rangeCheck_23922 22 = .ok (.invokevirtual 54, 3) := by decide +kernel
theorem dJ7_rangeCheck_23922_25 : decode cJ7_rangeCheck_23922 25 = .ok (.ldc 57, 2) := by decide +kernel
theorem dJ7_rangeCheck_23922_27 : decode cJ7_rangeCheck_23922 27 = .ok (.invokevirtual 50, 3) := by decide +kernel
theorem dJ7_rangeCheck_23922_30 : decode cJ7_rangeCheck_23922 30 = .ok (.iload_n 2, 1) := by decide +kernel
theorem dJ7_rangeCheck_23922_31 : decode cJ7_rangeCheck_23922 31 = .ok (.invokevirtual 54, 3) := by decide +kernel
theorem dJ7_rangeCheck_23922_34 : decode cJ7_rangeCheck_23922 34 = .ok (.ldc 59, 2) := by decide +kernel
theorem dJ7_rangeCheck_23922_36 : decode cJ7_rangeCheck_23922 36 = .ok (.invokevirtual 50, 3) := by decide +kernel
theorem dJ7_rangeCheck_23922_39 : decode cJ7_rangeCheck_23922 39 = .ok (.invokevirtual 61, 3) := by decide +kernel
theorem dJ7_rangeCheck_23922_42 : decode cJ7_rangeCheck_23922 42 = .ok (.invokespecial 65, 3) := by decide +kernel
theorem dJ7_rangeCheck_23922_45 : decode cJ7_rangeCheck_23922 45 = .ok (.athrow, 1) := by decide +kernel
theorem dJ7_rangeCheck_23922_46 : decode cJ7_rangeCheck_23922 46 = .ok (.iload_n 1, 1) := by decide +kernel
theorem dJ7_rangeCheck_23922_47 : decode cJ7_rangeCheck_23922 47 = .ok (.ifCond .ge 12, 3) := by decide +kernel
theorem dJ7_rangeCheck_23922_50 : decode cJ7_rangeCheck_23922 50 = .ok (.new 68, 3) := by decide +kernel
theorem dJ7_rangeCheck_23922_53 : decode cJ7_rangeCheck_23922 53 = .ok (.dup, 1) := by decide +kernel
theorem dJ7_rangeCheck_23922_54 : decode cJ7_rangeCheck_23922 54 = .ok (.iload_n 1, 1) := by decide +kernel
theorem dJ7_rangeCheck_23922_55 : decode cJ7_rangeCheck_23922 55 = .ok (.invokespecial 70, 3) := by decide +kernel
theorem dJ7_rangeCheck_23922_58 : decode cJ7_rangeCheck_23922 58 = .ok (.athrow, 1) := by decide +kernel
theorem dJ7_rangeCheck_23922_59 : decode cJ7_rangeCheck_23922 59 = .ok (.iload_n 2, 1) := by decide +kernel
theorem dJ7_rangeCheck_23922_60 : decode cJ7_rangeCheck_23922 60 = .ok (.iload_n 0, 1) := by decide +kernel
theorem dJ7_rangeCheck_23922_61 : decode cJ7_rangeCheck_23922 61 = .ok (.if_icmp .le 12, 3) := by decide +kernel
theorem dJ7_rangeCheck_23922_64 : decode cJ7_rangeCheck_23922 64 = .ok (.new 68, 3) := by decide +kernel
theorem dJ7_rangeCheck_23922_67 : decode cJ7_rangeCheck_23922 67 = .ok (.dup, 1) := by decide +kernel
theorem dJ7_rangeCheck_23922_68 : decode cJ7_rangeCheck_23922 68 = .ok (.iload_n 2, 1) := by decide +kernel
theorem dJ7_rangeCheck_23922_69 : decode cJ7_rangeCheck_23922 69 = .ok (.invokespecial 70, 3) := by decide +kernel
theorem dJ7_rangeCheck_23922_72 : decode cJ7_rangeCheck_23922 72 = .ok (.athrow, 1) := by decide +kernel
theorem dJ7_rangeCheck_23922_73 : decode cJ7_rangeCheck_23922 73 = .ok (.return_, 1) := by decide +kernel
theorem dJ7_fill_d0a16_0 : decode cJ7_fill_d0a16 0 = .ok (.iconst 0, 1) := by decide +kernel
theorem dJ7_fill_d0a16_1 : decode cJ7_fill_d0a16 1 = .ok (.istore_n 3, 1) := by decide +kernel
theorem dJ7_fill_d0a16_2 : decode cJ7_fill_d0a16 2 = .ok (.aload_n 0, 1) := by decide +kernel
theorem dJ7_fill_d0a16_3 : decode cJ7_fill_d0a16 3 = .ok (.arraylength, 1) := by decide +kernel
theorem dJ7_fill_d0a16_4 : decode cJ7_fill_d0a16 4 = .ok (.istore 4, 2) := by decide +kernel
theorem dJ7_fill_d0a16_6 : decode cJ7_fill_d0a16 6 = .ok (.iload_n 3, 1) := by decide +kernel
theorem dJ7_fill_d0a16_7 : decode cJ7_fill_d0a16 7 = .ok (.iload 4, 2) := by decide +kernel
theorem dJ7_fill_d0a16_9 : decode cJ7_fill_d0a16 9 = .ok (.if_icmp .ge 13, 3) := by decide +kernel
theorem dJ7_fill_d0a16_12 : decode cJ7_fill_d0a16 12 = .ok (.aload_n 0, 1) := by decide +kernel
theorem dJ7_fill_d0a16_13 : decode cJ7_fill_d0a16 13 = .ok (.iload_n 3, 1) := by decide +kernel
theorem dJ7_fill_d0a16_14 : decode cJ7_fill_d0a16 14 = .ok (.lload_n 1, 1) := by decide +kernel
theorem dJ7_fill_d0a16_15 : decode cJ7_fill_d0a16 15 = .ok (.lastore, 1) := by decide +kernel
theorem dJ7_fill_d0a16_16 : decode cJ7_fill_d0a16 16 = .ok (.iinc 3 1, 3) := by decide +kernel
theorem dJ7_fill_d0a16_19 : decode cJ7_fill_d0a16 19 = .ok (.goto (-13), 3) := by decide +kernel
theorem dJ7_fill_d0a16_22 : decode cJ7_fill_d0a16 22 = .ok (.return_, 1) := by decide +kernel
theorem dJ7_fill_53178_0 : decode cJ7_fill_53178 0 = .ok (.iconst 0, 1) := by decide +kernel
theorem dJ7_fill_53178_1 : decode cJ7_fill_53178 1 = .ok (.istore_n 2, 1) := by decide +kernel
theorem dJ7_fill_53178_2 : decode cJ7_fill_53178 2 = .ok (.aload_n 0, 1) := by decide +kernel
theorem dJ7_fill_53178_3 : decode cJ7_fill_53178 3 = .ok (.arraylength, 1) := by decide +kernel
theorem dJ7_fill_53178_4 : decode cJ7_fill_53178 4 = .ok (.istore_n 3, 1) := by decide +kernel
theorem dJ7_fill_53178_5 : decode cJ7_fill_53178 5 = .ok (.iload_n 2, 1) := by decide +kernel
theorem dJ7_fill_53178_6 : decode cJ7_fill_53178 6 = .ok (.iload_n 3, 1) := by decide +kernel
theorem dJ7_fill_53178_7 : decode cJ7_fill_53178 7 = .ok (.if_icmp .ge 13, 3) := by decide +kernel
theorem dJ7_fill_53178_10 : decode cJ7_fill_53178 10 = .ok (.aload_n 0, 1) := by decide +kernel
theorem dJ7_fill_53178_11 : decode cJ7_fill_53178 11 = .ok (.iload_n 2, 1) := by decide +kernel
theorem dJ7_fill_53178_12 : decode cJ7_fill_53178 12 = .ok (.iload_n 1, 1) := by decide +kernel
theorem dJ7_fill_53178_13 : decode cJ7_fill_53178 13 = .ok (.iastore, 1) := by decide +kernel
theorem dJ7_fill_53178_14 : decode cJ7_fill_53178 14 = .ok (.iinc 2 1, 3) := by decide +kernel
theorem dJ7_fill_53178_17 : decode cJ7_fill_53178 17 = .ok (.goto (-12), 3) := by decide +kernel
theorem dJ7_fill_53178_20 : decode cJ7_fill_53178 20 = .ok (.return_, 1) := by decide +kernel
set_option maxRecDepth 20000 in
theorem ggJ7_fill_fda19_J7_rangeCheck_23922 : GoodIn wsJ7_fill_fda19 wsJ7_rangeCheck_23922 := goodIn_r _ [4] (by decide +kernel) (by decide +kernel)
set_option maxRecDepth 20000 in
theorem gJ7_fill_fda19_J7_rangeCheck_23922 : GoodIn wsJ7_fill_fda19 (va_wsS RJ7 13 yJ7_rangeCheck_23922 wsJ7_rangeCheck_23922) := goodIn_app (goodIn_of _ (by decide +kernel)) ggJ7_fill_fda19_J7_rangeCheck_23922
theorem dJ7_fill_fda19_0 : decode cJ7_fill_fda19 0 = .ok (.aload_n 0, 1) := by decide +kernel
theorem dJ7_fill_fda19_1 : decode cJ7_fill_fda19 1 = .ok (.arraylength, 1) := by decide +kernel
theorem dJ7_fill_fda19_2 : decode cJ7_fill_fda19 2 = .ok (.iload_n 1, 1) := by decide +kernel
theorem dJ7_fill_fda19_3 : decode cJ7_fill_fda19 3 = .ok (.iload_n 2, 1) := by decide +kernel
theorem dJ7_fill_fda19_4 : decode cJ7_fill_fda19 4 = .ok (.invokestatic 13, 3) := by decide +kernel
theorem dJ7_fill_fda19_7 : decode cJ7_fill_fda19 7 = .ok (.iload_n 1, 1) := by decide +kernel
theorem dJ7_fill_fda19_8 : decode cJ7_fill_fda19 8 = .ok (.istore 4, 2) := by decide +kernel
theorem dJ7_fill_fda19_10 : decode cJ7_fill_fda19 10 = .ok (.iload 4, 2) := by decide +kernel
theorem dJ7_fill_fda19_12 : decode cJ7_fill_fda19 12 = .ok (.iload_n 2, 1) := by decide +kernel
theorem dJ7_fill_fda19_13 : decode cJ7_fill_fda19 13 = .ok (.if_icmp .ge 14, 3) := by decide +kernel
theorem dJ7_fill_fda19_16 : decode cJ7_fill_fda19 16 = .ok (.aload_n 0, 1) := by decide +kernel
theorem dJ7_fill_fda19_17 : decode cJ7_fill_fda19 17 = .ok (.iload 4, 2) := by decide +kernel
theorem dJ7_fill_fda19_19 : decode cJ7_fill_fda19 19 = .ok (.iload_n 3, 1) := by decide +kernel
theorem dJ7_fill_fda19_20 : decode cJ7_fill_fda19 20 = .ok (.iastore, 1) := by decide +kernel
theorem dJ7_fill_fda19_21 : decode cJ7_fill_fda19 21 = .ok (.iinc 4 1, 3) := by decide +kernel
theorem dJ7_fill_fda19_24 : decode cJ7_fill_fda19 24 = .ok (.goto (-14), 3) := by decide +kernel
theorem dJ7_fill_fda19_27 : decode cJ7_fill_fda19 27 = .ok (.return_, 1) := by decide +kernel
