theorem dX5_goThrough_35 : decode cX5_goThrough 35 = .ok (.getfield 18, 3) := by decide +kernel
theorem dX5_goThrough_38 : decode cX5_goThrough 38 = .ok (.iconst 0, 1) := by decide +kernel
theorem dX5_goThrough_39 : decode cX5_goThrough 39 = .ok (.iconst 0, 1) := by decide +kernel
theorem dX5_goThrough_40 : decode cX5_goThrough 40 = .ok (.iastore, 1) := by decide +kernel
theorem dX5_goThrough_41 : decode cX5_goThrough 41 = .ok (.aload_n 1, 1) := by decide +kernel
theorem dX5_goThrough_42 : decode cX5_goThrough 42 = .ok (.getfield 55, 3) := by decide +kernel
theorem dX5_goThrough_45 : decode cX5_goThrough 45 = .ok (.aload_n 0, 1) := by decide +kernel
theorem dX5_goThrough_46 : decode cX5_goThrough 46 = .ok (.getfield 24, 3) := by decide +kernel
theorem dX5_goThrough_49 : decode cX5_goThrough 49 = .ok (.invokevirtual 59, 3) := by decide +kernel
theorem dX5_goThrough_52 : decode cX5_goThrough 52 = .ok (.ifCond .eq 5, 3) := by decide +kernel
theorem dX5_goThrough_55 : decode cX5_goThrough 55 = .ok (.iconst 0, 1) := by decide +kernel
theorem dX5_goThrough_56 : decode cX5_goThrough 56 = .ok (.ireturn, 1) := by decide +kernel
theorem dX5_goThrough_57 : decode cX5_goThrough 57 = .ok (.iconst 0, 1) := by decide +kernel
theorem dX5_goThrough_58 : decode cX5_goThrough 58 = .ok (.istore 5, 2) := by decide +kernel
theorem dX5_goThrough_60 : decode cX5_goThrough 60 = .ok (.iload 5, 2) := by decide +kernel
theorem dX5_goThrough_62 : decode cX5_goThrough 62 = .ok (.iconst 5, 1) := by decide +kernel
theorem dX5_goThrough_63 : decode cX5_goThrough 63 = .ok (.iload 4, 2) := by decide +kernel
theorem dX5_goThrough_65 : decode cX5_goThrough 65 = .ok (.imul, 1) := by decide +kernel
theorem dX5_goThrough_66 : decode cX5_goThrough 66 = .ok (.if_icmp .gt 210, 3) := by decide +kernel
theorem dX5_goThrough_69 : decode cX5_goThrough 69 = .ok (.aload_n 0, 1) := by decide +kernel
theorem dX5_goThrough_70 : decode cX5_goThrough 70 = .ok (.getfield 18, 3) := by decide +kernel
theorem dX5_goThrough_73 : decode cX5_goThrough 73 = .ok (.aload_n 0, 1) := by decide +kernel
theorem dX5_goThrough_74 : decode cX5_goThrough 74 = .ok (.getfield 45, 3) := by decide +kernel
theorem dX5_goThrough_77 : decode cX5_goThrough 77 = .ok (.iaload, 1) := by decide +kernel
theorem dX5_goThrough_78 : decode cX5_goThrough 78 = .ok (.istore 6, 2) := by decide +kernel
theorem dX5_goThrough_80 : decode cX5_goThrough 80 = .ok (.iload 6, 2) := by decide +kernel
theorem dX5_goThrough_82 : decode cX5_goThrough 82 = .ok (.iconst 3, 1) := by decide +kernel
theorem dX5_goThrough_83 : decode cX5_goThrough 83 = .ok (.if_icmp .le 23, 3) := by decide +kernel
theorem dX5_goThrough_86 : decode cX5_goThrough 86 = .ok (.aload_n 0, 1) := by decide +kernel
theorem dX5_goThrough_87 : decode cX5_goThrough 87 = .ok (.getfield 45, 3) := by decide +kernel
theorem dX5_goThrough_90 : decode cX5_goThrough 90 = .ok (.ifCond .ne 8, 3) := by decide +kernel
theorem dX5_goThrough_93 : decode cX5_goThrough 93 = .ok (.aload_n 0, 1) := by decide +kernel
theorem dX5_goThrough_94 : decode cX5_goThrough 94 = .ok (.getfield 52, 3) := by decide +kernel
theorem dX5_goThrough_97 : decode cX5_goThrough 97 = .ok (.ireturn, 1) := by decide +kernel
theorem dX5_goThrough_98 : decode cX5_goThrough 98 = .ok (.aload_n 0, 1) := by decide +kernel
theorem dX5_goThrough_99 : decode cX5_goThrough 99 = .ok (.aload_n 1, 1) := by decide +kernel
theorem dX5_goThrough_100 : decode cX5_goThrough 100 = .ok (.invokevirtual 65, 3) := by decide +kernel
theorem dX5_goThrough_103 : decode cX5_goThrough 103 = .ok (.goto 167, 3) := by decide +kernel
theorem dX5_goThrough_106 : decode cX5_goThrough 106 = .ok (.aload_n 0, 1) := by decide +kernel
theorem dX5_goThrough_107 : decode cX5_goThrough 107 = .ok (.getfield 18, 3) := by decide +kernel
theorem dX5_goThrough_110 : decode cX5_goThrough 110 = .ok (.aload_n 0, 1) := by decide +kernel
theorem dX5_goThrough_111 : decode cX5_goThrough 111 = .ok (.getfield 45, 3) := by decide +kernel
theorem dX5_goThrough_114 : decode cX5_goThrough 114 = .ok (.dup2, 1) := by decide +kernel
theorem dX5_goThrough_115 : decode cX5_goThrough 115 = .ok (.iaload, 1) := by decide +kernel
theorem dX5_goThrough_116 : decode cX5_goThrough 116 = .ok (.iconst 1, 1) := by decide +kernel
theorem dX5_goThrough_117 : decode cX5_goThrough 117 = .ok (.iadd, 1) := by decide +kernel
theorem dX5_goThrough_118 : decode cX5_goThrough 118 = .ok (.iastore, 1) := by decide +kernel
theorem dX5_goThrough_119 : decode cX5_goThrough 119 = .ok (.aload_n 0, 1) := by decide +kernel
theorem dX5_goThrough_120 : decode cX5_goThrough 120 = .ok (.getfield 45, 3) := by decide +kernel
theorem dX5_goThrough_123 : decode cX5_goThrough 123 = .ok (.ifCond .le 25, 3) := by decide +kernel
theorem dX5_goThrough_126 : decode cX5_goThrough 126 = .ok (.iload 6, 2) := by decide +kernel
theorem dX5_goThrough_128 : decode cX5_goThrough 128 = .ok (.aload_n 0, 1) := by decide +kernel
theorem dX5_goThrough_129 : decode cX5_goThrough 129 = .ok (.getfield 9, 3) := by decide +kernel
theorem dX5_goThrough_132 : decode cX5_goThrough 132 = .ok (.aload_n 0, 1) := by decide +kernel
theorem dX5_goThrough_133 : decode cX5_goThrough 133 = .ok (.getfield 45, 3) := by decide +kernel
theorem dX5_goThrough_136 : decode cX5_goThrough 136 = .ok (.iconst 1, 1) := by decide +kernel
theorem dX5_goThrough_137 : decode cX5_goThrough 137 = .ok (.isub, 1) := by decide +kernel
theorem dX5_goThrough_138 : decode cX5_goThrough 138 = .ok (.iaload, 1) := by decide +kernel
theorem dX5_goThrough_139 : decode cX5_goThrough 139 = .ok (.invokestatic 69, 3) := by decide +kernel
theorem dX5_goThrough_142 : decode cX5_goThrough 142 = .ok (.if_icmp .ne 6, 3) := by decide +kernel
theorem dX5_goThrough_145 : decode cX5_goThrough 145 = .ok (.goto 125, 3) := by decide +kernel
theorem dX5_goThrough_148 : decode cX5_goThrough 148 = .ok (.aload_n 0, 1) := by decide +kernel
theorem dX5_goThrough_149 : decode cX5_goThrough 149 = .ok (.getfield 24, 3) := by decide +kernel
theorem dX5_goThrough_152 : decode cX5_goThrough 152 = .ok (.aload_n 1, 1) := by decide +kernel
theorem dX5_goThrough_153 : decode cX5_goThrough 153 = .ok (.getfield 73, 3) := by decide +kernel
theorem dX5_goThrough_156 : decode cX5_goThrough 156 = .ok (.iload 6, 2) := by decide +kernel
theorem dX5_goThrough_158 : decode cX5_goThrough 158 = .ok (.invokevirtual 77, 3) := by decide +kernel
theorem dX5_goThrough_161 : decode cX5_goThrough 161 = .ok (.istore 7, 2) := by decide +kernel
theorem dX5_goThrough_163 : decode cX5_goThrough 163 = .ok (.iload 7, 2) := by decide +kernel
theorem dX5_goThrough_165 : decode cX5_goThrough 165 = .ok (.ifCond .ne 6, 3) := by decide +kernel
theorem dX5_goThrough_168 : decode cX5_goThrough 168 = .ok (.goto 102, 3) := by decide +kernel
theorem dX5_goThrough_171 : decode cX5_goThrough 171 = .ok (.aload_n 0, 1) := by decide +kernel
theorem dX5_goThrough_172 : decode cX5_goThrough 172 = .ok (.getfield 28, 3) := by decide +kernel
theorem dX5_goThrough_175 : decode cX5_goThrough 175 = .ok (.iload 4, 2) := by decide +kernel
theorem dX5_goThrough_177 : decode cX5_goThrough 177 = .ok (.if_icmp .lt 6, 3) := by decide +kernel
theorem dX5_goThrough_180 : decode cX5_goThrough 180 = .ok (.bipush (-2), 2) := by decide +kernel
theorem dX5_goThrough_182 : decode cX5_goThrough 182 = .ok (.ireturn, 1) := by decide +kernel
theorem dX5_goThrough_183 : decode cX5_goThrough 183 = .ok (.aload_n 0, 1) := by decide +kernel
theorem dX5_goThrough_184 : decode cX5_goThrough 184 = .ok (.dup, 1) := by decide +kernel
theorem dX5_goThrough_185 : decode cX5_goThrough 185 = .ok (.getfield 28, 3) := by decide +kernel
theorem dX5_goThrough_188 : decode cX5_goThrough 188 = .ok (.iconst 1, 1) := by decide +kernel
theorem dX5_goThrough_189 : decode cX5_goThrough 189 = .ok (.iadd, 1) := by decide +kernel
theorem dX5_goThrough_190 : decode cX5_goThrough 190 = .ok (.putfield 28, 3) := by decide +kernel
theorem dX5_goThrough_193 : decode cX5_goThrough 193 = .ok (.aload_n 0, 1) := by decide +kernel
theorem dX5_goThrough_194 : decode cX5_goThrough 194 = .ok (.iload 6, 2) := by decide +kernel
theorem dX5_goThrough_196 : decode cX5_goThrough 196 = .ok (.aload_n 0, 1) := by decide +kernel
theorem dX5_goThrough_197 : decode cX5_goThrough 197 = .ok (.getfield 15, 3) := by decide +kernel
theorem dX5_goThrough_200 : decode cX5_goThrough 200 = .ok (.aload_n 0, 1) := by decide +kernel
theorem dX5_goThrough_201 : decode cX5_goThrough 201 = .ok (.getfield 45, 3) := by decide +kernel
theorem dX5_goThrough_204 : decode cX5_goThrough 204 = .ok (.iaload, 1) := by decide +kernel
theorem dX5_goThrough_205 : decode cX5_goThrough 205 = .ok (.aload_n 1, 1) := by decide +kernel
theorem dX5_goThrough_206 : decode cX5_goThrough 206 = .ok (.getfield 55, 3) := by decide +kernel
theorem dX5_goThrough_209 : decode cX5_goThrough 209 = .ok (.getfield 81, 3) := by decide +kernel
theorem dX5_goThrough_212 : decode cX5_goThrough 212 = .ok (.iload 7, 2) := by decide +kernel
theorem dX5_goThrough_214 : decode cX5_goThrough 214 = .ok (.iaload, 1) := by decide +kernel
theorem dX5_goThrough_215 : decode cX5_goThrough 215 = .ok (.iadd, 1) := by decide +kernel
theorem dX5_goThrough_216 : decode cX5_goThrough 216 = .ok (.invokevirtual 84, 3) := by decide +kernel
theorem dX5_goThrough_219 : decode cX5_goThrough 219 = .ok (.aload_n 0, 1) := by decide +kernel
theorem dX5_goThrough_220 : decode cX5_goThrough 220 = .ok (.iload_n 3, 1) := by decide +kernel
theorem dX5_goThrough_221 : decode cX5_goThrough 221 = .ok (.aload_n 0, 1) := by decide +kernel
theorem dX5_goThrough_222 : decode cX5_goThrough 222 = .ok (.getfield 15, 3) := by decide +kernel
theorem dX5_goThrough_225 : decode cX5_goThrough 225 = .ok (.aload_n 0, 1) := by decide +kernel
theorem dX5_goThrough_226 : decode cX5_goThrough 226 = .ok (.getfield 45, 3) := by decide +kernel
theorem dX5_goThrough_229 : decode cX5_goThrough 229 = .ok (.iaload, 1) := by decide +kernel
theorem dX5_goThrough_230 : decode cX5_goThrough 230 = .ok (.aload_n 1, 1) := by decide +kernel
theorem dX5_goThrough_231 : decode cX5_goThrough 231 = .ok (.aload_n 0, 1) := by decide +kernel
theorem dX5_goThrough_232 : decode cX5_goThrough 232 = .ok (.getfield 24, 3) := by decide +kernel
theorem dX5_goThrough_235 : decode cX5_goThrough 235 = .ok (.iload_n 2, 1) := by decide +kernel
theorem dX5_goThrough_236 : decode cX5_goThrough 236 = .ok (.invokevirtual 35, 3) := by decide +kernel
theorem dX5_goThrough_239 : decode cX5_goThrough 239 = .ok (.iadd, 1) := by decide +kernel
theorem dX5_goThrough_240 : decode cX5_goThrough 240 = .ok (.invokevirtual 88, 3) := by decide +kernel
theorem dX5_goThrough_243 : decode cX5_goThrough 243 = .ok (.ifCond .eq 11, 3) := by decide +kernel
theorem dX5_goThrough_246 : decode cX5_goThrough 246 = .ok (.aload_n 0, 1) := by decide +kernel
theorem dX5_goThrough_247 : decode cX5_goThrough 247 = .ok (.aload_n 1, 1) := by decide +kernel
theorem dX5_goThrough_248 : decode cX5_goThrough 248 = .ok (.invokevirtual 65, 3) := by decide +kernel
theorem dX5_goThrough_251 : decode cX5_goThrough 251 = .ok (.goto 19, 3) := by decide +kernel
theorem dX5_goThrough_254 : decode cX5_goThrough 254 = .ok (.aload_n 1, 1) := by decide +kernel
theorem dX5_goThrough_255 : decode cX5_goThrough 255 = .ok (.getfield 55, 3) := by decide +kernel
theorem dX5_goThrough_258 : decode cX5_goThrough 258 = .ok (.aload_n 0, 1) := by decide +kernel
theorem dX5_goThrough_259 : decode cX5_goThrough 259 = .ok (.getfield 24, 3) := by decide +kernel
theorem dX5_goThrough_262 : decode cX5_goThrough 262 = .ok (.invokevirtual 59, 3) := by decide +kernel
theorem dX5_goThrough_265 : decode cX5_goThrough 265 = .ok (.ifCond .eq 5, 3) := by decide +kernel
theorem dX5_goThrough_268 : decode cX5_goThrough 268 = .ok (.iconst 0, 1) := by decide +kernel
theorem dX5_goThrough_269 : decode cX5_goThrough 269 = .ok (.ireturn, 1) := by decide +kernel
theorem dX5_goThrough_270 : decode cX5_goThrough 270 = .ok (.iinc 5 1, 3) := by decide +kernel
theorem dX5_goThrough_273 : decode cX5_goThrough 273 = .ok (.goto (-213), 3) := by decide +kernel
theorem dX5_goThrough_276 : decode cX5_goThrough 276 = .ok (.bipush (-2), 2) := by decide +kernel
theorem dX5_goThrough_278 : decode cX5_goThrough 278 = .ok (.ireturn, 1) := by decide +kernel
theorem dX5_goOn_0 : decode cX5_goOn 0 = .ok (.aload_n 0, 1) := by decide +kernel
theorem dX5_goOn_1 : decode cX5_goOn 1 = .ok (.getfield 9, 3) := by decide +kernel
theorem dX5_goOn_4 : decode cX5_goOn 4 = .ok (.aload_n 0, 1) := by decide +kernel
theorem dX5_goOn_5 : decode cX5_goOn 5 = .ok (.getfield 45, 3) := by decide +kernel
theorem dX5_goOn_8 : decode cX5_goOn 8 = .ok (.iload_n 1, 1) := by decide +kernel
theorem dX5_goOn_9 : decode cX5_goOn 9 = .ok (.iastore, 1) := by decide +kernel
theorem dX5_goOn_10 : decode cX5_goOn 10 = .ok (.aload_n 0, 1) := by decide +kernel
theorem dX5_goOn_11 : decode cX5_goOn 11 = .ok (.dup, 1) := by decide +kernel
theorem dX5_goOn_12 : decode cX5_goOn 12 = .ok (.getfield 45, 3) := by decide +kernel
theorem dX5_goOn_15 : decode cX5_goOn 15 = .ok (.iconst 1, 1) := by decide +kernel
theorem dX5_goOn_16 : decode cX5_goOn 16 = .ok (.iadd, 1) := by decide +kernel
theorem dX5_goOn_17 : decode cX5_goOn 17 = .ok (.putfield 45, 3) := by decide +kernel
theorem dX5_goOn_20 : decode cX5_goOn 20 = .ok (.aload_n 0, 1) := by decide +kernel
theorem dX5_goOn_21 : decode cX5_goOn 21 = .ok (.getfield 15, 3) := by decide +kernel
theorem dX5_goOn_24 : decode cX5_goOn 24 = .ok (.aload_n 0, 1) := by decide +kernel
theorem dX5_goOn_25 : decode cX5_goOn 25 = .ok (.getfield 45, 3) := by decide +kernel
theorem dX5_goOn_28 : decode cX5_goOn 28 = .ok (.iload_n 2, 1) := by decide +kernel
theorem dX5_goOn_29 : decode cX5_goOn 29 = .ok (.iastore, 1) := by decide +kernel
theorem dX5_goOn_30 : decode cX5_goOn 30 = .ok (.aload_n 0, 1) := by decide +kernel
theorem dX5_goOn_31 : decode cX5_goOn 31 = .ok (.getfield 18, 3) := by decide +kernel
theorem dX5_goOn_34 : decode cX5_goOn 34 = .ok (.aload_n 0, 1) := by decide +kernel
theorem dX5_goOn_35 : decode cX5_goOn 35 = .ok (.getfield 45, 3) := by decide +kernel
theorem dX5_goOn_38 : decode cX5_goOn 38 = .ok (.iconst 0, 1) := by decide +kernel
theorem dX5_goOn_39 : decode cX5_goOn 39 = .ok (.iastore, 1) := by decide +kernel
theorem dX5_goOn_40 : decode cX5_goOn 40 = .ok (.return_, 1) := by decide +kernel
set_option maxRecDepth 20000 in
theorem ggX5_goBack_X11_opposite : GoodIn wsX5_goBack wsX11_opposite := goodIn_r _ [7] (by decide +kernel) (by decide +kernel)
set_option maxRecDepth 20000 in
theorem gX5_goBack_X11_opposite_n69 : GoodIn wsX5_goBack (wsX11_opposite) := ggX5_goBack_X11_opposite
set_option maxRecDepth 20000 in
theorem ggX5_goBack_X7_shift : GoodIn wsX5_goBack wsX7_shift := goodIn_r _ [12, 13, 14, 15, 16, 17, 18, 19, 20, 21, 22, 23, 24, 11, 25, 26, 27, 28, 29, 30, 31, 32, 33, 50, 51, 52, 53, 54, 55, 56, 57, 58, 59, 60, 61, 62, 63, 64] (by decide +kernel) (by decide +kernel)
set_option maxRecDepth 20000 in
theorem gX5_goBack_X7_shift : GoodIn wsX5_goBack (wsV RX5 77 RX7 yX7_shift wsX7_shift) := goodIn_app (goodIn_of _ (by decide +kernel)) ggX5_goBack_X7_shift
theorem dX5_goBack_0 : decode cX5_goBack 0 = .ok (.aload_n 0, 1) := by decide +kernel
theorem dX5_goBack_1 : decode cX5_goBack 1 = .ok (.dup, 1) := by decide +kernel
theorem dX5_goBack_2 : decode cX5_goBack 2 = .ok (.getfield 45, 3) := by decide +kernel
theorem dX5_goBack_5 : decode cX5_goBack 5 = .ok (.iconst 1, 1) := by decide +kernel
theorem dX5_goBack_6 : decode cX5_goBack 6 = .ok (.isub, 1) := by decide +kernel
theorem dX5_goBack_7 : decode cX5_goBack 7 = .ok (.putfield 45, 3) := by decide +kernel
theorem dX5_goBack_10 : decode cX5_goBack 10 = .ok (.aload_n 0, 1) := by decide +kernel
theorem dX5_goBack_11 : decode cX5_goBack 11 = .ok (.getfield 24, 3) := by decide +kernel
theorem dX5_goBack_14 : decode cX5_goBack 14 = .ok (.aload_n 1, 1) := by decide +kernel
theorem dX5_goBack_15 : decode cX5_goBack 15 = .ok (.getfield 73, 3) := by decide +kernel
theorem dX5_goBack_18 : decode cX5_goBack 18 = .ok (.aload_n 0, 1) := by decide +kernel
theorem dX5_goBack_19 : decode cX5_goBack 19 = .ok (.getfield 9, 3) := by decide +kernel
theorem dX5_goBack_22 : decode cX5_goBack 22 = .ok (.aload_n 0, 1) := by decide +kernel
theorem dX5_goBack_23 : decode cX5_goBack 23 = .ok (.getfield 45, 3) := by decide +kernel
theorem dX5_goBack_26 : decode cX5_goBack 26 = .ok (.iaload, 1) := by decide +kernel
theorem dX5_goBack_27 : decode cX5_goBack 27 = .ok (.invokestatic 69, 3) := by decide +kernel
theorem dX5_goBack_30 : decode cX5_goBack 30 = .ok (.invokevirtual 77, 3) := by decide +kernel
theorem dX5_goBack_33 : decode cX5_goBack 33 = .ok (.pop, 1) := by decide +kernel
theorem dX5_goBack_34 : decode cX5_goBack 34 = .ok (.return_, 1) := by decide +kernel
theorem dX5_endsBy_0 : decode cX5_endsBy 0 = .ok (.iload_n 2, 1) := by decide +kernel
theorem dX5_endsBy_1 : decode cX5_endsBy 1 = .ok (.iload_n 1, 1) := by decide +kernel
theorem dX5_endsBy_2 : decode cX5_endsBy 2 = .ok (.if_icmp .gt 5, 3) := by decide +kernel
theorem dX5_endsBy_5 : decode cX5_endsBy 5 = .ok (.iconst 0, 1) := by decide +kernel
theorem dX5_endsBy_6 : decode cX5_endsBy 6 = .ok (.ireturn, 1) := by decide +kernel
theorem dX5_endsBy_7 : decode cX5_endsBy 7 = .ok (.aload_n 0, 1) := by decide +kernel
theorem dX5_endsBy_8 : decode cX5_endsBy 8 = .ok (.getfield 52, 3) := by decide +kernel
theorem dX5_endsBy_11 : decode cX5_endsBy 11 = .ok (.iconst (-1), 1) := by decide +kernel
theorem dX5_endsBy_12 : decode cX5_endsBy 12 = .ok (.if_icmp .eq 11, 3) := by decide +kernel
theorem dX5_endsBy_15 : decode cX5_endsBy 15 = .ok (.iload_n 2, 1) := by decide +kernel
theorem dX5_endsBy_16 : decode cX5_endsBy 16 = .ok (.aload_n 0, 1) := by decide +kernel
theorem dX5_endsBy_17 : decode cX5_endsBy 17 = .ok (.getfield 52, 3) := by decide +kernel
theorem dX5_endsBy_20 : decode cX5_endsBy 20 = .ok (.if_icmp .ge 8, 3) := by decide +kernel
theorem dX5_endsBy_23 : decode cX5_endsBy 23 = .ok (.aload_n 0, 1) := by decide +kernel
theorem dX5_endsBy_24 : decode cX5_endsBy 24 = .ok (.iload_n 2, 1) := by decide +kernel
theorem dX5_endsBy_25 : decode cX5_endsBy 25 = .ok (.putfield 52, 3) := by decide +kernel
theorem dX5_endsBy_28 : decode cX5_endsBy 28 = .ok (.iconst 1, 1) := by decide +kernel
theorem dX5_endsBy_29 : decode cX5_endsBy 29 = .ok (.ireturn, 1) := by decide +kernel
theorem dX5_copyWay_0 : decode cX5_copyWay 0 = .ok (.aload_n 0, 1) := by decide +kernel
theorem dX5_copyWay_1 : decode cX5_copyWay 1 = .ok (.getfield 45, 3) := by decide +kernel
theorem dX5_copyWay_4 : decode cX5_copyWay 4 = .ok (.aload_n 1, 1) := by decide +kernel
theorem dX5_copyWay_5 : decode cX5_copyWay 5 = .ok (.arraylength, 1) := by decide +kernel
theorem dX5_copyWay_6 : decode cX5_copyWay 6 = .ok (.invokestatic 92, 3) := by decide +kernel
theorem dX5_copyWay_9 : decode cX5_copyWay 9 = .ok (.istore_n 2, 1) := by decide +kernel
theorem dX5_copyWay_10 : decode cX5_copyWay 10 = .ok (.aload_n 0, 1) := by decide +kernel
theorem dX5_copyWay_11 : decode cX5_copyWay 11 = .ok (.getfield 9, 3) := by decide +kernel
theorem dX5_copyWay_14 : decode cX5_copyWay 14 = .ok (.iconst 0, 1) := by decide +kernel
theorem dX5_copyWay_15 : decode cX5_copyWay 15 = .ok (.aload_n 1, 1) := by decide +kernel
theorem dX5_copyWay_16 : decode cX5_copyWay 16 = .ok (.iconst 0, 1) := by decide +kernel
theorem dX5_copyWay_17 : decode cX5_copyWay 17 = .ok (.iload_n 2, 1) := by decide +kernel
theorem dX5_copyWay_18 : decode cX5_copyWay 18 = .ok (.invokestatic 98, 3) := by decide +kernel
theorem dX5_copyWay_21 : decode cX5_copyWay 21 = .ok (.iload_n 2, 1) := by decide +kernel
theorem dX5_copyWay_22 : decode cX5_copyWay 22 = .ok (.ireturn, 1) := by decide +kernel
set_option maxRecDepth 20000 in
theorem ggX6_init_J7_fill_53178 : GoodIn wsX6_init wsJ7_fill_53178 := goodIn_r _ [13] (by decide +kernel) (by decide +kernel)
set_option maxRecDepth 20000 in
theorem gX6_init_J7_fill_53178 : GoodIn wsX6_init (va_wsS RX6 22 yJ7_fill_53178 wsJ7_fill_53178) := goodIn_app (goodIn_of _ (by decide +kernel)) ggX6_init_J7_fill_53178
theorem dX6_init_0 : decode cX6_init 0 = .ok (.aload_n 0, 1) := by decide +kernel
theorem dX6_init_1 : decode cX6_init 1 = .ok (.invokespecial 3, 3) := by decide +kernel
theorem dX6_init_4 : decode cX6_init 4 = .ok (.aload_n 0, 1) := by decide +kernel
theorem dX6_init_5 : decode cX6_init 5 = .ok (.iload_n 1, 1) := by decide +kernel
theorem dX6_init_6 : decode cX6_init 6 = .ok (.newarray .long, 2) := by decide +kernel
theorem dX6_init_8 : decode cX6_init 8 = .ok (.putfield 9, 3) := by decide +kernel
theorem dX6_init_11 : decode cX6_init 11 = .ok (.aload_n 0, 1) := by decide +kernel
theorem dX6_init_12 : decode cX6_init 12 = .ok (.iload_n 1, 1) := by decide +kernel
theorem dX6_init_13 : decode cX6_init 13 = .ok (.newarray .int, 2) := by decide +kernel
theorem dX6_init_15 : decode cX6_init 15 = .ok (.putfield 15, 3) := by decide +kernel
theorem dX6_init_18 : decode cX6_init 18 = .ok (.aload_n 0, 1) := by decide +kernel
theorem dX6_init_19 : decode cX6_init 19 = .ok (.iconst 1, 1) := by decide +kernel
theorem dX6_init_20 : decode cX6_init 20 = .ok (.iload_n 2, 1) := by decide +kernel
theorem dX6_init_21 : decode cX6_init 21 = .ok (.ishl, 1) := by decide +kernel
theorem dX6_init_22 : decode cX6_init 22 = .ok (.newarray .int, 2) := by decide +kernel
theorem dX6_init_24 : decode cX6_init 24 = .ok (.putfield 19, 3) := by decide +kernel
theorem dX6_init_27 : decode cX6_init 27 = .ok (.aload_n 0, 1) := by decide +kernel
theorem dX6_init_28 : decode cX6_init 28 = .ok (.getfield 19, 3) := by decide +kernel
theorem dX6_init_31 : decode cX6_init 31 = .ok (.iconst (-1), 1) := by decide +kernel
theorem dX6_init_32 : decode cX6_init 32 = .ok (.invokestatic 22, 3) := by decide +kernel
theorem dX6_init_35 : decode cX6_init 35 = .ok (.aload_n 0, 1) := by decide +kernel
theorem dX6_init_36 : decode cX6_init 36 = .ok (.iload_n 2, 1) := by decide +kernel
theorem dX6_init_37 : decode cX6_init 37 = .ok (.putfield 28, 3) := by decide +kernel
theorem dX6_init_40 : decode cX6_init 40 = .ok (.return_, 1) := by decide +kernel
theorem dX6_clear_0 : decode cX6_clear 0 = .ok (.iconst 0, 1) := by decide +kernel
theorem dX6_clear_1 : decode cX6_clear 1 = .ok (.istore_n 1, 1) := by decide +kernel
theorem dX6_clear_2 : decode cX6_clear 2 = .ok (.iload_n 1, 1) := by decide +kernel
theorem dX6_clear_3 : decode cX6_clear 3 = .ok (.aload_n 0, 1) := by decide +kernel
theorem dX6_clear_4 : decode cX6_clear 4 = .ok (.getfield 32, 3) := by decide +kernel
theorem dX6_clear_7 : decode cX6_clear 7 = .ok (.if_icmp .ge 21, 3) := by decide +kernel
theorem dX6_clear_10 : decode cX6_clear 10 = .ok (.aload_n 0, 1) := by decide +kernel
theorem dX6_clear_11 : decode cX6_clear 11 = .ok (.getfield 19, 3) := by decide +kernel
theorem dX6_clear_14 : decode cX6_clear 14 = .ok (.aload_n 0, 1) := by decide +kernel
theorem dX6_clear_15 : decode cX6_clear 15 = .ok (.getfield 15, 3) := by decide +kernel
theorem dX6_clear_18 : decode cX6_clear 18 = .ok (.iload_n 1, 1) := by decide +kernel
theorem dX6_clear_19 : decode cX6_clear 19 = .ok (.iaload, 1) := by decide +kernel
theorem dX6_clear_20 : decode cX6_clear 20 = .ok (.iconst (-1), 1) := by decide +kernel
theorem dX6_clear_21 : decode cX6_clear 21 = .ok (.iastore, 1) := by decide +kernel
theorem dX6_clear_22 : decode cX6_clear 22 = .ok (.iinc 1 1, 3) := by decide +kernel
theorem dX6_clear_25 : decode cX6_clear 25 = .ok (.goto (-23), 3) := by decide +kernel
theorem dX6_clear_28 : decode cX6_clear 28 = .ok (.aload_n 0, 1) := by decide +kernel
theorem dX6_clear_29 : decode cX6_clear 29 = .ok (.iconst 0, 1) := by decide +kernel
theorem dX6_clear_30 : decode cX6_clear 30 = .ok (.putfield 32, 3) := by decide +kernel
theorem dX6_clear_33 : decode cX6_clear 33 = .ok (.return_, 1) := by decide +kernel
set_option maxRecDepth 20000 in
theorem ggX6_enter_X6_append : GoodIn wsX6_enter wsX6_append := goodIn_r _ [9, 10, 4, 11, 3, 12, 13, 14, 15, 16] (by decide +kernel) (by decide +kernel)
set_option maxRecDepth 20000 in
theorem gX6_enter_X6_append : GoodIn wsX6_enter (wsV RX6 37 RX6 yX6_append wsX6_append) := goodIn_app (goodIn_of _ (by decide +kernel)) ggX6_enter_X6_append
theorem dX6_enter_0 : decode cX6_enter 0 = .ok (.lload_n 1, 1) := by decide +kernel
theorem dX6_enter_1 : decode cX6_enter 1 = .ok (.ldc2_w 35, 3) := by decide +kernel
theorem dX6_enter_4 : decode cX6_enter 4 = .ok (.lmul, 1) := by decide +kernel
theorem dX6_enter_5 : decode cX6_enter 5 = .ok (.bipush 64, 2) := by decide +kernel
theorem dX6_enter_7 : decode cX6_enter 7 = .ok (.aload_n 0, 1) := by decide +kernel
theorem dX6_enter_8 : decode cX6_enter 8 = .ok (.getfield 28, 3) := by decide +kernel
theorem dX6_enter_11 : decode cX6_enter 11 = .ok (.isub, 1) := by decide +kernel
theorem dX6_enter_12 : decode cX6_enter 12 = .ok (.lushr, 1) := by decide +kernel
theorem dX6_enter_13 : decode cX6_enter 13 = .ok (.l2i, 1) := by decide +kernel
theorem dX6_enter_14 : decode cX6_enter 14 = .ok (.istore_n 3, 1) := by decide +kernel
theorem dX6_enter_15 : decode cX6_enter 15 = .ok (.iconst 0, 1) := by decide +kernel
theorem dX6_enter_16 : decode cX6_enter 16 = .ok (.istore 4, 2) := by decide +kernel
theorem dX6_enter_18 : decode cX6_enter 18 = .ok (.iload 4, 2) := by decide +kernel
theorem dX6_enter_20 : decode cX6_enter 20 = .ok (.aload_n 0, 1) := by decide +kernel
theorem dX6_enter_21 : decode cX6_enter 21 = .ok (.getfield 19, 3) := by decide +kernel
theorem dX6_enter_24 : decode cX6_enter 24 = .ok (.arraylength, 1) := by decide +kernel
theorem dX6_enter_25 : decode cX6_enter 25 = .ok (.if_icmp .ge 57, 3) := by decide +kernel
theorem dX6_enter_28 : decode cX6_enter 28 = .ok (.aload_n 0, 1) := by decide +kernel
theorem dX6_enter_29 : decode cX6_enter 29 = .ok (.getfield 19, 3) := by decide +kernel
theorem dX6_enter_32 : decode cX6_enter 32 = .ok (.iload_n 3, 1) := by decide +kernel
theorem dX6_enter_33 : decode cX6_enter 33 = .ok (.iaload, 1) := by decide +kernel
theorem dX6_enter_34 : decode cX6_enter 34 = .ok (.istore 5, 2) := by decide +kernel
theorem dX6_enter_36 : decode cX6_enter 36 = .ok (.iload 5, 2) := by decide +kernel
theorem dX6_enter_38 : decode cX6_enter 38 = .ok (.iconst (-1), 1) := by decide +kernel
theorem dX6_enter_39 : decode cX6_enter 39 = .ok (.if_icmp .ne 10, 3) := by decide +kernel
theorem dX6_enter_42 : decode cX6_enter 42 = .ok (.aload_n 0, 1) := by decide +kernel
theorem dX6_enter_43 : decode cX6_enter 43 = .ok (.lload_n 1, 1) := by decide +kernel
theorem dX6_enter_44 : decode cX6_enter 44 = .ok (.iload_n 3, 1) := by decide +kernel
theorem dX6_enter_45 : decode cX6_enter 45 = .ok (.invokevirtual 37, 3) := by decide +kernel
theorem dX6_enter_48 : decode cX6_enter 48 = .ok (.ireturn, 1) := by decide +kernel
theorem dX6_enter_49 : decode cX6_enter 49 = .ok (.aload_n 0, 1) := by decide +kernel
theorem dX6_enter_50 : decode cX6_enter 50 = .ok (.getfield 9, 3) := by decide +kernel
theorem dX6_enter_53 : decode cX6_enter 53 = .ok (.iload 5, 2) := by decide +kernel
theorem dX6_enter_55 : decode cX6_enter 55 = .ok (.laload, 1) := by decide +kernel
theorem dX6_enter_56 : decode cX6_enter 56 = .ok (.lload_n 1, 1) := by decide +kernel
theorem dX6_enter_57 : decode cX6_enter 57 = .ok (.lcmp, 1) := by decide +kernel
theorem dX6_enter_58 : decode cX6_enter 58 = .ok (.ifCond .ne 6, 3) := by decide +kernel
theorem dX6_enter_61 : decode cX6_enter 61 = .ok (.iload 5, 2) := by decide +kernel
theorem dX6_enter_63 : decode cX6_enter 63 = .ok (.ireturn, 1) := by decide +kernel
theorem dX6_enter_64 : decode cX6_enter 64 = .ok (.iload_n 3, 1) := by decide +kernel
theorem dX6_enter_65 : decode cX6_enter 65 = .ok (.iconst 1, 1) := by decide +kernel
theorem dX6_enter_66 : decode cX6_enter 66 = .ok (.iadd, 1) := by decide +kernel
theorem dX6_enter_67 : decode cX6_enter 67 = .ok (.aload_n 0, 1) := by decide +kernel
theorem dX6_enter_68 : decode cX6_enter 68 = .ok (.getfield 19, 3) := by decide +kernel
theorem dX6_enter_71 : decode cX6_enter 71 = .ok (.arraylength, 1) := by decide +kernel
theorem dX6_enter_72 : decode cX6_enter 72 = .ok (.iconst 1, 1) := by decide +kernel
theorem dX6_enter_73 : decode cX6_enter 73 = .ok (.isub, 1) := by decide +kernel
theorem dX6_enter_74 : decode cX6_enter 74 = .ok (.iand, 1) := by decide +kernel
theorem dX6_enter_75 : decode cX6_enter 75 = .ok (.istore_n 3, 1) := by decide +kernel
theorem dX6_enter_76 : decode cX6_enter 76 = .ok (.iinc 4 1, 3) := by decide +kernel
theorem dX6_enter_79 : decode cX6_enter 79 = .ok (.goto (-61), 3) := by decide +kernel
theorem dX6_enter_82 : decode cX6_enter 82 = .ok (.iconst (-1), 1) := by decide +kernel
theorem dX6_enter_83 : decode cX6_enter 83 = .ok (.ireturn, 1) := by decide +kernel
theorem dX6_append_0 : decode cX6_append 0 = .ok (.aload_n 0, 1) := by decide +kernel
theorem dX6_append_1 : decode cX6_append 1 = .ok (.getfield 32, 3) := by decide +kernel
theorem dX6_append_4 : decode cX6_append 4 = .ok (.aload_n 0, 1) := by decide +kernel
theorem dX6_append_5 : decode cX6_append 5 = .ok (.getfield 9, 3) := by decide +kernel
theorem dX6_append_8 : decode cX6_append 8 = .ok (.arraylength, 1) := by decide +kernel
theorem dX6_append_9 : decode cX6_append 9 = .ok (.if_icmp .ne 5, 3) := by decide +kernel
theorem dX6_append_12 : decode cX6_append 12 = .ok (.iconst (-1), 1) := by decide +kernel
theorem dX6_append_13 : decode cX6_append 13 = .ok (.ireturn, 1) := by decide +kernel
theorem dX6_append_14 : decode cX6_append 14 = .ok (.aload_n 0, 1) := by decide +kernel
theorem dX6_append_15 : decode cX6_append 15 = .ok (.getfield 9, 3) := by decide +kernel
theorem dX6_append_18 : decode cX6_append 18 = .ok (.aload_n 0, 1) := by decide +kernel
theorem dX6_append_19 : decode cX6_append 19 = .ok (.getfield 32, 3) := by decide +kernel
theorem dX6_append_22 : decode cX6_append 22 = .ok (.lload_n 1, 1) := by decide +kernel
theorem dX6_append_23 : decode cX6_append 23 = .ok (.lastore, 1) := by decide +kernel
theorem dX6_append_24 : decode cX6_append 24 = .ok (.aload_n 0, 1) := by decide +kernel
theorem dX6_append_25 : decode cX6_append 25 = .ok (.getfield 15, 3) := by decide +kernel
theorem dX6_append_28 : decode cX6_append 28 = .ok (.aload_n 0, 1) := by decide +kernel
theorem dX6_append_29 : decode cX6_append 29 = .ok (.getfield 32, 3) := by decide +kernel
theorem dX6_append_32 : decode cX6_append 32 = .ok (.iload_n 3, 1) := by decide +kernel
theorem dX6_append_33 : decode cX6_append 33 = .ok (.iastore, 1) := by decide +kernel
theorem dX6_append_34 : decode cX6_append 34 = .ok (.aload_n 0, 1) := by decide +kernel
theorem dX6_append_35 : decode cX6_append 35 = .ok (.getfield 19, 3) := by decide +kernel
theorem dX6_append_38 : decode cX6_append 38 = .ok (.iload_n 3, 1) := by decide +kernel
theorem dX6_append_39 : decode cX6_append 39 = .ok (.aload_n 0, 1) := by decide +kernel
theorem dX6_append_40 : decode cX6_append 40 = .ok (.getfield 32, 3) := by decide +kernel
theorem dX6_append_43 : decode cX6_append 43 = .ok (.iastore, 1) := by decide +kernel
theorem dX6_append_44 : decode cX6_append 44 = .ok (.aload_n 0, 1) := by decide +kernel
theorem dX6_append_45 : decode cX6_append 45 = .ok (.dup, 1) := by decide +kernel
theorem dX6_append_46 : decode cX6_append 46 = .ok (.getfield 32, 3) := by decide +kernel
theorem dX6_append_49 : decode cX6_append 49 = .ok (.iconst 1, 1) := by decide +kernel
theorem dX6_append_50 : decode cX6_append 50 = .ok (.iadd, 1) := by decide +kernel
theorem dX6_append_51 : decode cX6_append 51 = .ok (.putfield 32, 3) := by decide +kernel
theorem dX6_append_54 : decode cX6_append 54 = .ok (.aload_n 0, 1) := by decide +kernel
theorem dX6_append_55 : decode cX6_append 55 = .ok (.getfield 32, 3) := by decide +kernel
theorem dX6_append_58 : decode cX6_append 58 = .ok (.iconst 1, 1) := by decide +kernel
theorem dX6_append_59 : decode cX6_append 59 = .ok (.isub, 1) := by decide +kernel
theorem dX6_append_60 : decode cX6_append 60 = .ok (.ireturn, 1) := by decide +kernel
theorem dX7_init_0 : decode cX7_init 0 = .ok (.aload_n 0, 1) := by decide +kernel
theorem dX7_init_1 : decode cX7_init 1 = .ok (.invokespecial 3, 3) := by decide +kernel
theorem dX7_init_4 : decode cX7_init 4 = .ok (.aload_n 0, 1) := by decide +kernel
theorem dX7_init_5 : decode cX7_init 5 = .ok (.bipush 16, 2) := by decide +kernel
theorem dX7_init_7 : decode cX7_init 7 = .ok (.newarray .int, 2) := by decide +kernel
theorem dX7_init_9 : decode cX7_init 9 = .ok (.putfield 9, 3) := by decide +kernel
theorem dX7_init_12 : decode cX7_init 12 = .ok (.aload_n 0, 1) := by decide +kernel
theorem dX7_init_13 : decode cX7_init 13 = .ok (.bipush 16, 2) := by decide +kernel
theorem dX7_init_15 : decode cX7_init 15 = .ok (.newarray .int, 2) := by decide +kernel
theorem dX7_init_17 : decode cX7_init 17 = .ok (.putfield 15, 3) := by decide +kernel
theorem dX7_init_20 : decode cX7_init 20 = .ok (.return_, 1) := by decide +kernel
theorem dX7_arrangements_0 : decode cX7_arrangements 0 = .ok (.lconst 1, 1) := by decide +kernel
theorem dX7_arrangements_1 : decode cX7_arrangements 1 = .ok (.lstore_n 1, 1) := by decide +kernel
theorem dX7_arrangements_2 : decode cX7_arrangements 2 = .ok (.iconst 2, 1) := by decide +kernel
theorem dX7_arrangements_3 : decode cX7_arrangements 3 = .ok (.istore_n 3, 1) := by decide +kernel
theorem dX7_arrangements_4 : decode cX7_arrangements 4 = .ok (.iload_n 3, 1) := by decide +kernel
theorem dX7_arrangements_5 : decode cX7_arrangements 5 = .ok (.iload_n 0, 1) := by decide +kernel
theorem dX7_arrangements_6 : decode cX7_arrangements 6 = .ok (.if_icmp .gt 14, 3) := by decide +kernel
theorem dX7_arrangements_9 : decode cX7_arrangements 9 = .ok (.lload_n 1, 1) := by decide +kernel
theorem dX7_arrangements_10 : decode cX7_arrangements 10 = .ok (.iload_n 3, 1) := by decide +kernel
theorem dX7_arrangements_11 : decode cX7_arrangements 11 = .ok (.i2l, 1) := by decide +kernel
theorem dX7_arrangements_12 : decode cX7_arrangements 12 = .ok (.lmul, 1) := by decide +kernel
theorem dX7_arrangements_13 : decode cX7_arrangements 13 = .ok (.lstore_n 1, 1) := by decide +kernel
theorem dX7_arrangements_14 : decode cX7_arrangements 14 = .ok (.iinc 3 1, 3) := by decide +kernel
theorem dX7_arrangements_17 : decode cX7_arrangements 17 = .ok (.goto (-13), 3) := by decide +kernel
theorem dX7_arrangements_20 : decode cX7_arrangements 20 = .ok (.lload_n 1, 1) := by decide +kernel
theorem dX7_arrangements_21 : decode cX7_arrangements 21 = .ok (.lreturn, 1) := by decide +kernel
theorem dX7_bitsAt_0 : decode cX7_bitsAt 0 = .ok (.iconst 4, 1) := by decide +kernel
theorem dX7_bitsAt_1 : decode cX7_bitsAt 1 = .ok (.bipush 15, 2) := by decide +kernel
theorem dX7_bitsAt_3 : decode cX7_bitsAt 3 = .ok (.iload_n 0, 1) := by decide +kernel
theorem dX7_bitsAt_4 : decode cX7_bitsAt 4 = .ok (.isub, 1) := by decide +kernel
theorem dX7_bitsAt_5 : decode cX7_bitsAt 5 = .ok (.imul, 1) := by decide +kernel
theorem dX7_bitsAt_6 : decode cX7_bitsAt 6 = .ok (.ireturn, 1) := by decide +kernel
theorem dX7_valueOf_0 : decode cX7_valueOf 0 = .ok (.iload_n 1, 1) := by decide +kernel
theorem dX7_valueOf_1 : decode cX7_valueOf 1 = .ok (.ifCond .ne 12, 3) := by decide +kernel
theorem dX7_valueOf_4 : decode cX7_valueOf 4 = .ok (.aload_n 0, 1) := by decide +kernel
theorem dX7_valueOf_5 : decode cX7_valueOf 5 = .ok (.getfield 18, 3) := by decide +kernel
theorem dX7_valueOf_8 : decode cX7_valueOf 8 = .ok (.iconst 1, 1) := by decide +kernel
theorem dX7_valueOf_9 : decode cX7_valueOf 9 = .ok (.isub, 1) := by decide +kernel
theorem dX7_valueOf_10 : decode cX7_valueOf 10 = .ok (.goto 6, 3) := by decide +kernel
theorem dX7_valueOf_13 : decode cX7_valueOf 13 = .ok (.iload_n 1, 1) := by decide +kernel
theorem dX7_valueOf_14 : decode cX7_valueOf 14 = .ok (.iconst 1, 1) := by decide +kernel
theorem dX7_valueOf_15 : decode cX7_valueOf 15 = .ok (.isub, 1) := by decide +kernel
theorem dX7_valueOf_16 : decode cX7_valueOf 16 = .ok (.ireturn, 1) := by decide +kernel
theorem dX7_tileOf_0 : decode cX7_tileOf 0 = .ok (.iload_n 1, 1) := by decide +kernel
theorem dX7_tileOf_1 : decode cX7_tileOf 1 = .ok (.aload_n 0, 1) := by decide +kernel
theorem dX7_tileOf_2 : decode cX7_tileOf 2 = .ok (.getfield 18, 3) := by decide +kernel
theorem dX7_tileOf_5 : decode cX7_tileOf 5 = .ok (.iconst 1, 1) := by decide +kernel
theorem dX7_tileOf_6 : decode cX7_tileOf 6 = .ok (.isub, 1) := by decide +kernel
theorem dX7_tileOf_7 : decode cX7_tileOf 7 = .ok (.if_icmp .ne 7, 3) := by decide +kernel
theorem dX7_tileOf_10 : decode cX7_tileOf 10 = .ok (.iconst 0, 1) := by decide +kernel
theorem dX7_tileOf_11 : decode cX7_tileOf 11 = .ok (.goto 6, 3) := by decide +kernel
theorem dX7_tileOf_14 : decode cX7_tileOf 14 = .ok (.iload_n 1, 1) := by decide +kernel
theorem dX7_tileOf_15 : decode cX7_tileOf 15 = .ok (.iconst 1, 1) := by decide +kernel
theorem dX7_tileOf_16 : decode cX7_tileOf 16 = .ok (.iadd, 1) := by decide +kernel
theorem dX7_tileOf_17 : decode cX7_tileOf 17 = .ok (.ireturn, 1) := by decide +kernel
set_option maxRecDepth 20000 in
theorem ggX7_order_X7_tileOf : GoodIn wsX7_order wsX7_tileOf := goodIn_r _ [6, 1, 25, 26, 27, 28] (by decide +kernel) (by decide +kernel)
set_option maxRecDepth 20000 in
theorem gX7_order_X7_tileOf : GoodIn wsX7_order (wsV RX7 22 RX7 yX7_tileOf wsX7_tileOf) := goodIn_app (goodIn_of _ (by decide +kernel)) ggX7_order_X7_tileOf
set_option maxRecDepth 20000 in
theorem ggX7_order_X7_put : GoodIn wsX7_order wsX7_put := goodIn_r _ [10, 11, 12, 25, 26, 27, 28] (by decide +kernel) (by decide +kernel)
set_option maxRecDepth 20000 in
theorem gX7_order_X7_put : GoodIn wsX7_order (wsV RX7 26 RX7 yX7_put wsX7_put) := goodIn_app (goodIn_of _ (by decide +kernel)) ggX7_order_X7_put
set_option maxRecDepth 20000 in
theorem ggX7_order_X7_pack : GoodIn wsX7_order wsX7_pack := goodIn_r _ [16, 17, 1, 11, 18, 19, 20, 5, 21, 22, 23, 24, 25, 26, 27, 28] (by decide +kernel) (by decide +kernel)
set_option maxRecDepth 20000 in
theorem gX7_order_X7_pack : GoodIn wsX7_order (wsV RX7 30 RX7 yX7_pack wsX7_pack) := goodIn_app (goodIn_of _ (by decide +kernel)) ggX7_order_X7_pack
theorem dX7_order_0 : decode cX7_order 0 = .ok (.aload_n 0, 1) := by decide +kernel
theorem dX7_order_1 : decode cX7_order 1 = .ok (.iload_n 1, 1) := by decide +kernel
theorem dX7_order_2 : decode cX7_order 2 = .ok (.putfield 18, 3) := by decide +kernel
theorem dX7_order_5 : decode cX7_order 5 = .ok (.iconst 0, 1) := by decide +kernel
theorem dX7_order_6 : decode cX7_order 6 = .ok (.istore_n 2, 1) := by decide +kernel
theorem dX7_order_7 : decode cX7_order 7 = .ok (.iload_n 2, 1) := by decide +kernel
theorem dX7_order_8 : decode cX7_order 8 = .ok (.aload_n 0, 1) := by decide +kernel
theorem dX7_order_9 : decode cX7_order 9 = .ok (.getfield 18, 3) := by decide +kernel
theorem dX7_order_12 : decode cX7_order 12 = .ok (.if_icmp .ge 19, 3) := by decide +kernel
theorem dX7_order_15 : decode cX7_order 15 = .ok (.aload_n 0, 1) := by decide +kernel
theorem dX7_order_16 : decode cX7_order 16 = .ok (.aload_n 0, 1) := by decide +kernel
theorem dX7_order_17 : decode cX7_order 17 = .ok (.iload_n 2, 1) := by decide +kernel
theorem dX7_order_18 : decode cX7_order 18 = .ok (.invokevirtual 22, 3) := by decide +kernel
theorem dX7_order_21 : decode cX7_order 21 = .ok (.iload_n 2, 1) := by decide +kernel
theorem dX7_order_22 : decode cX7_order 22 = .ok (.invokevirtual 26, 3) := by decide +kernel
theorem dX7_order_25 : decode cX7_order 25 = .ok (.iinc 2 1, 3) := by decide +kernel
theorem dX7_order_28 : decode cX7_order 28 = .ok (.goto (-21), 3) := by decide +kernel
theorem dX7_order_31 : decode cX7_order 31 = .ok (.aload_n 0, 1) := by decide +kernel
theorem dX7_order_32 : decode cX7_order 32 = .ok (.invokevirtual 30, 3) := by decide +kernel
theorem dX7_order_35 : decode cX7_order 35 = .ok (.return_, 1) := by decide +kernel
theorem dX7_put_0 : decode cX7_put 0 = .ok (.aload_n 0, 1) := by decide +kernel
theorem dX7_put_1 : decode cX7_put 1 = .ok (.getfield 9, 3) := by decide +kernel
theorem dX7_put_4 : decode cX7_put 4 = .ok (.iload_n 2, 1) := by decide +kernel
theorem dX7_put_5 : decode cX7_put 5 = .ok (.iload_n 1, 1) := by decide +kernel
theorem dX7_put_6 : decode cX7_put 6 = .ok (.iastore, 1) := by decide +kernel
theorem dX7_put_7 : decode cX7_put 7 = .ok (.aload_n 0, 1) := by decide +kernel
theorem dX7_put_8 : decode cX7_put 8 = .ok (.getfield 15, 3) := by decide +kernel
theorem dX7_put_11 : decode cX7_put 11 = .ok (.iload_n 1, 1) := by decide +kernel
theorem dX7_put_12 : decode cX7_put 12 = .ok (.iload_n 2, 1) := by decide +kernel
theorem dX7_put_13 : decode cX7_put 13 = .ok (.iastore, 1) := by decide +kernel
theorem dX7_put_14 : decode cX7_put 14 = .ok (.return_, 1) := by decide +kernel
set_option maxRecDepth 20000 in
theorem ggX7_pack_X7_valueOf : GoodIn wsX7_pack wsX7_valueOf := goodIn_r _ [8, 2, 12, 13, 14, 15] (by decide +kernel) (by decide +kernel)
set_option maxRecDepth 20000 in
theorem gX7_pack_X7_valueOf : GoodIn wsX7_pack (wsV RX7 37 RX7 yX7_valueOf wsX7_valueOf) := goodIn_app (goodIn_of _ (by decide +kernel)) ggX7_pack_X7_valueOf
set_option maxRecDepth 20000 in
theorem ggX7_pack_X7_bitsAt : GoodIn wsX7_pack wsX7_bitsAt := goodIn_r _ [11] (by decide +kernel) (by decide +kernel)
set_option maxRecDepth 20000 in
theorem gX7_pack_X7_bitsAt : GoodIn wsX7_pack (va_wsS RX7 40 yX7_bitsAt wsX7_bitsAt) := goodIn_app (goodIn_of _ (by decide +kernel)) ggX7_pack_X7_bitsAt
theorem dX7_pack_0 : decode cX7_pack 0 = .ok (.aload_n 0, 1) := by decide +kernel
theorem dX7_pack_1 : decode cX7_pack 1 = .ok (.lconst 0, 1) := by decide +kernel
theorem dX7_pack_2 : decode cX7_pack 2 = .ok (.putfield 33, 3) := by decide +kernel
theorem dX7_pack_5 : decode cX7_pack 5 = .ok (.iconst 0, 1) := by decide +kernel
theorem dX7_pack_6 : decode cX7_pack 6 = .ok (.istore_n 1, 1) := by decide +kernel
theorem dX7_pack_7 : decode cX7_pack 7 = .ok (.iload_n 1, 1) := by decide +kernel
theorem dX7_pack_8 : decode cX7_pack 8 = .ok (.aload_n 0, 1) := by decide +kernel
theorem dX7_pack_9 : decode cX7_pack 9 = .ok (.getfield 18, 3) := by decide +kernel
theorem dX7_pack_12 : decode cX7_pack 12 = .ok (.if_icmp .ge 34, 3) := by decide +kernel
theorem dX7_pack_15 : decode cX7_pack 15 = .ok (.aload_n 0, 1) := by decide +kernel
theorem dX7_pack_16 : decode cX7_pack 16 = .ok (.dup, 1) := by decide +kernel
theorem dX7_pack_17 : decode cX7_pack 17 = .ok (.getfield 33, 3) := by decide +kernel
theorem dX7_pack_20 : decode cX7_pack 20 = .ok (.aload_n 0, 1) := by decide +kernel
theorem dX7_pack_21 : decode cX7_pack 21 = .ok (.aload_n 0, 1) := by decide +kernel
theorem dX7_pack_22 : decode cX7_pack 22 = .ok (.getfield 9, 3) := by decide +kernel
theorem dX7_pack_25 : decode cX7_pack 25 = .ok (.iload_n 1, 1) := by decide +kernel
theorem dX7_pack_26 : decode cX7_pack 26 = .ok (.iaload, 1) := by decide +kernel
theorem dX7_pack_27 : decode cX7_pack 27 = .ok (.invokevirtual 37, 3) := by decide +kernel
theorem dX7_pack_30 : decode cX7_pack 30 = .ok (.i2l, 1) := by decide +kernel
theorem dX7_pack_31 : decode cX7_pack 31 = .ok (.iload_n 1, 1) := by decide +kernel
theorem dX7_pack_32 : decode cX7_pack 32 = .ok (.invokestatic 40, 3) := by decide +kernel
theorem dX7_pack_35 : decode cX7_pack 35 = .ok (.lshl, 1) := by decide +kernel
theorem dX7_pack_36 : decode cX7_pack 36 = .ok (.lor, 1) := by decide +kernel
theorem dX7_pack_37 : decode cX7_pack 37 = .ok (.putfield 33, 3) := by decide +kernel
theorem dX7_pack_40 : decode cX7_pack 40 = .ok (.iinc 1 1, 3) := by decide +kernel
theorem dX7_pack_43 : decode cX7_pack 43 = .ok (.goto (-36), 3) := by decide +kernel
theorem dX7_pack_46 : decode cX7_pack 46 = .ok (.return_, 1) := by decide +kernel
set_option maxRecDepth 20000 in
theorem ggX7_unpack_X7_bitsAt : GoodIn wsX7_unpack wsX7_bitsAt := goodIn_r _ [6] (by decide +kernel) (by decide +kernel)
set_option maxRecDepth 20000 in
theorem gX7_unpack_X7_bitsAt : GoodIn wsX7_unpack (va_wsS RX7 40 yX7_bitsAt wsX7_bitsAt) := goodIn_app (goodIn_of _ (by decide +kernel)) ggX7_unpack_X7_bitsAt
set_option maxRecDepth 20000 in
theorem ggX7_unpack_X7_tileOf : GoodIn wsX7_unpack wsX7_tileOf := goodIn_r _ [10, 1, 17, 18, 19, 20] (by decide +kernel) (by decide +kernel)
set_option maxRecDepth 20000 in
theorem gX7_unpack_X7_tileOf : GoodIn wsX7_unpack (wsV RX7 22 RX7 yX7_tileOf wsX7_tileOf) := goodIn_app (goodIn_of _ (by decide +kernel)) ggX7_unpack_X7_tileOf
set_option maxRecDepth 20000 in
theorem ggX7_unpack_X7_put : GoodIn wsX7_unpack wsX7_put := goodIn_r _ [14, 15, 16, 17, 18, 19, 20] (by decide +kernel) (by decide +kernel)
set_option maxRecDepth 20000 in
theorem gX7_unpack_X7_put : GoodIn wsX7_unpack (wsV RX7 26 RX7 yX7_put wsX7_put) := goodIn_app (goodIn_of _ (by decide +kernel)) ggX7_unpack_X7_put
theorem dX7_unpack_0 : decode cX7_unpack 0 = .ok (.aload_n 0, 1) := by decide +kernel
theorem dX7_unpack_1 : decode cX7_unpack 1 = .ok (.iload_n 3, 1) := by decide +kernel
theorem dX7_unpack_2 : decode cX7_unpack 2 = .ok (.putfield 18, 3) := by decide +kernel
theorem dX7_unpack_5 : decode cX7_unpack 5 = .ok (.aload_n 0, 1) := by decide +kernel
theorem dX7_unpack_6 : decode cX7_unpack 6 = .ok (.lload_n 1, 1) := by decide +kernel
theorem dX7_unpack_7 : decode cX7_unpack 7 = .ok (.putfield 33, 3) := by decide +kernel
theorem dX7_unpack_10 : decode cX7_unpack 10 = .ok (.iconst 0, 1) := by decide +kernel
theorem dX7_unpack_11 : decode cX7_unpack 11 = .ok (.istore 4, 2) := by decide +kernel
theorem dX7_unpack_13 : decode cX7_unpack 13 = .ok (.iload 4, 2) := by decide +kernel
theorem dX7_unpack_15 : decode cX7_unpack 15 = .ok (.aload_n 0, 1) := by decide +kernel
theorem dX7_unpack_16 : decode cX7_unpack 16 = .ok (.getfield 18, 3) := by decide +kernel
theorem dX7_unpack_19 : decode cX7_unpack 19 = .ok (.if_icmp .ge 30, 3) := by decide +kernel
theorem dX7_unpack_22 : decode cX7_unpack 22 = .ok (.aload_n 0, 1) := by decide +kernel
theorem dX7_unpack_23 : decode cX7_unpack 23 = .ok (.aload_n 0, 1) := by decide +kernel
theorem dX7_unpack_24 : decode cX7_unpack 24 = .ok (.lload_n 1, 1) := by decide +kernel
theorem dX7_unpack_25 : decode cX7_unpack 25 = .ok (.iload 4, 2) := by decide +kernel
theorem dX7_unpack_27 : decode cX7_unpack 27 = .ok (.invokestatic 40, 3) := by decide +kernel
theorem dX7_unpack_30 : decode cX7_unpack 30 = .ok (.lushr, 1) := by decide +kernel
theorem dX7_unpack_31 : decode cX7_unpack 31 = .ok (.l2i, 1) := by decide +kernel
theorem dX7_unpack_32 : decode cX7_unpack 32 = .ok (.bipush 15, 2) := by decide +kernel
theorem dX7_unpack_34 : decode cX7_unpack 34 = .ok (.iand, 1) := by decide +kernel
theorem dX7_unpack_35 : decode cX7_unpack 35 = .ok (.invokevirtual 22, 3) := by decide +kernel
theorem dX7_unpack_38 : decode cX7_unpack 38 = .ok (.iload 4, 2) := by decide +kernel
theorem dX7_unpack_40 : decode cX7_unpack 40 = .ok (.invokevirtual 26, 3) := by decide +kernel
theorem dX7_unpack_43 : decode cX7_unpack 43 = .ok (.iinc 4 1, 3) := by decide +kernel
theorem dX7_unpack_46 : decode cX7_unpack 46 = .ok (.goto (-33), 3) := by decide +kernel
theorem dX7_unpack_49 : decode cX7_unpack 49 = .ok (.return_, 1) := by decide +kernel
theorem dX7_copy_0 : decode cX7_copy 0 = .ok (.aload_n 0, 1) := by decide +kernel
theorem dX7_copy_1 : decode cX7_copy 1 = .ok (.aload_n 1, 1) := by decide +kernel
theorem dX7_copy_2 : decode cX7_copy 2 = .ok (.getfield 18, 3) := by decide +kernel
theorem dX7_copy_5 : decode cX7_copy 5 = .ok (.putfield 18, 3) := by decide +kernel
theorem dX7_copy_8 : decode cX7_copy 8 = .ok (.aload_n 0, 1) := by decide +kernel
theorem dX7_copy_9 : decode cX7_copy 9 = .ok (.aload_n 1, 1) := by decide +kernel
theorem dX7_copy_10 : decode cX7_copy 10 = .ok (.getfield 33, 3) := by decide +kernel
theorem dX7_copy_13 : decode cX7_copy 13 = .ok (.putfield 33, 3) := by decide +kernel
theorem dX7_copy_16 : decode cX7_copy 16 = .ok (.aload_n 1, 1) := by decide +kernel
theorem dX7_copy_17 : decode cX7_copy 17 = .ok (.getfield 9, 3) := by decide +kernel
theorem dX7_copy_20 : decode cX7_copy 20 = .ok (.iconst 0, 1) := by decide +kernel
theorem dX7_copy_21 : decode cX7_copy 21 = .ok (.aload_n 0, 1) := by decide +kernel
theorem dX7_copy_22 : decode cX7_copy 22 = .ok (.getfield 9, 3) := by decide +kernel
theorem dX7_copy_25 : decode cX7_copy 25 = .ok (.iconst 0, 1) := by decide +kernel
theorem dX7_copy_26 : decode cX7_copy 26 = .ok (.bipush 16, 2) := by decide +kernel
theorem dX7_copy_28 : decode cX7_copy 28 = .ok (.invokestatic 43, 3) := by decide +kernel
theorem dX7_copy_31 : decode cX7_copy 31 = .ok (.aload_n 1, 1) := by decide +kernel
theorem dX7_copy_32 : decode cX7_copy 32 = .ok (.getfield 15, 3) := by decide +kernel
theorem dX7_copy_35 : decode cX7_copy 35 = .ok (.iconst 0, 1) := by decide +kernel
theorem dX7_copy_36 : decode cX7_copy 36 = .ok (.aload_n 0, 1) := by decide +kernel
theorem dX7_copy_37 : decode cX7_copy 37 = .ok (.getfield 15, 3) := by decide +kernel
theorem dX7_copy_40 : decode cX7_copy 40 = .ok (.iconst 0, 1) := by decide +kernel
theorem dX7_copy_41 : decode cX7_copy 41 = .ok (.bipush 16, 2) := by decide +kernel
theorem dX7_copy_43 : decode cX7_copy 43 = .ok (.invokestatic 43, 3) := by decide +kernel
theorem dX7_copy_46 : decode cX7_copy 46 = .ok (.return_, 1) := by decide +kernel
theorem dX7_isSame_0 : decode cX7_isSame 0 = .ok (.aload_n 0, 1) := by decide +kernel
theorem dX7_isSame_1 : decode cX7_isSame 1 = .ok (.getfield 18, 3) := by decide +kernel
theorem dX7_isSame_4 : decode cX7_isSame 4 = .ok (.aload_n 1, 1) := by decide +kernel
theorem dX7_isSame_5 : decode cX7_isSame 5 = .ok (.getfield 18, 3) := by decide +kernel
theorem dX7_isSame_8 : decode cX7_isSame 8 = .ok (.if_icmp .ne 15, 3) := by decide +kernel
theorem dX7_isSame_11 : decode cX7_isSame 11 = .ok (.aload_n 0, 1) := by decide +kernel
theorem dX7_isSame_12 : decode cX7_isSame 12 = .ok (.getfield 33, 3) := by decide +kernel
theorem dX7_isSame_15 : decode cX7_isSame 15 = .ok (.aload_n 1, 1) := by decide +kernel
theorem dX7_isSame_16 : decode cX7_isSame 16 = .ok (.getfield 33, 3) := by decide +kernel
theorem dX7_isSame_19 : decode cX7_isSame 19 = .ok (.lcmp, 1) := by decide +kernel
theorem dX7_isSame_20 : decode cX7_isSame 20 = .ok (.ifCond .eq 5, 3) := by decide +kernel
theorem dX7_isSame_23 : decode cX7_isSame 23 = .ok (.iconst 0, 1) := by decide +kernel
theorem dX7_isSame_24 : decode cX7_isSame 24 = .ok (.ireturn, 1) := by decide +kernel
theorem dX7_isSame_25 : decode cX7_isSame 25 = .ok (.iconst 0, 1) := by decide +kernel
theorem dX7_isSame_26 : decode cX7_isSame 26 = .ok (.istore_n 2, 1) := by decide +kernel
theorem dX7_isSame_27 : decode cX7_isSame 27 = .ok (.iload_n 2, 1) := by decide +kernel
theorem dX7_isSame_28 : decode cX7_isSame 28 = .ok (.aload_n 0, 1) := by decide +kernel
theorem dX7_isSame_29 : decode cX7_isSame 29 = .ok (.getfield 18, 3) := by decide +kernel
theorem dX7_isSame_32 : decode cX7_isSame 32 = .ok (.if_icmp .ge 43, 3) := by decide +kernel
theorem dX7_isSame_35 : decode cX7_isSame 35 = .ok (.aload_n 0, 1) := by decide +kernel
theorem dX7_isSame_36 : decode cX7_isSame 36 = .ok (.getfield 9, 3) := by decide +kernel
theorem dX7_isSame_39 : decode cX7_isSame 39 = .ok (.iload_n 2, 1) := by decide +kernel
theorem dX7_isSame_40 : decode cX7_isSame 40 = .ok (.iaload, 1) := by decide +kernel
theorem dX7_isSame_41 : decode cX7_isSame 41 = .ok (.istore_n 3, 1) := by decide +kernel
theorem dX7_isSame_42 : decode cX7_isSame 42 = .ok (.iload_n 3, 1) := by decide +kernel
theorem dX7_isSame_43 : decode cX7_isSame 43 = .ok (.aload_n 1, 1) := by decide +kernel
theorem dX7_isSame_44 : decode cX7_isSame 44 = .ok (.getfield 9, 3) := by decide +kernel
theorem dX7_isSame_47 : decode cX7_isSame 47 = .ok (.iload_n 2, 1) := by decide +kernel
theorem dX7_isSame_48 : decode cX7_isSame 48 = .ok (.iaload, 1) := by decide +kernel
theorem dX7_isSame_49 : decode cX7_isSame 49 = .ok (.if_icmp .ne 18, 3) := by decide +kernel
theorem dX7_isSame_52 : decode cX7_isSame 52 = .ok (.aload_n 0, 1) := by decide +kernel
theorem dX7_isSame_53 : decode cX7_isSame 53 = .ok (.getfield 15, 3) := by decide +kernel
theorem dX7_isSame_56 : decode cX7_isSame 56 = .ok (.iload_n 3, 1) := by decide +kernel
theorem dX7_isSame_57 : decode cX7_isSame 57 = .ok (.iaload, 1) := by decide +kernel
theorem dX7_isSame_58 : decode cX7_isSame 58 = .ok (.aload_n 1, 1) := by decide +kernel
theorem dX7_isSame_59 : decode cX7_isSame 59 = .ok (.getfield 15, 3) := by decide +kernel
theorem dX7_isSame_62 : decode cX7_isSame 62 = .ok (.iload_n 3, 1) := by decide +kernel
theorem dX7_isSame_63 : decode cX7_isSame 63 = .ok (.iaload, 1) := by decide +kernel
theorem dX7_isSame_64 : decode cX7_isSame 64 = .ok (.if_icmp .eq 5, 3) := by decide +kernel
theorem dX7_isSame_67 : decode cX7_isSame 67 = .ok (.iconst 0, 1) := by decide +kernel
theorem dX7_isSame_68 : decode cX7_isSame 68 = .ok (.ireturn, 1) := by decide +kernel
theorem dX7_isSame_69 : decode cX7_isSame 69 = .ok (.iinc 2 1, 3) := by decide +kernel
theorem dX7_isSame_72 : decode cX7_isSame 72 = .ok (.goto (-45), 3) := by decide +kernel
theorem dX7_isSame_75 : decode cX7_isSame 75 = .ok (.iconst 1, 1) := by decide +kernel
theorem dX7_isSame_76 : decode cX7_isSame 76 = .ok (.ireturn, 1) := by decide +kernel
set_option maxRecDepth 20000 in
theorem ggX7_shift_X4_besideOf : GoodIn wsX7_shift wsX4_besideOf := goodIn_r _ [8, 9, 27, 28, 29, 30, 31, 32, 33, 34, 35, 36, 37] (by decide +kernel) (by decide +kernel)
set_option maxRecDepth 20000 in
theorem gX7_shift_X4_besideOf : GoodIn wsX7_shift (wsV RX7 49 RX4 yX4_besideOf wsX4_besideOf) := goodIn_app (goodIn_of _ (by decide +kernel)) ggX7_shift_X4_besideOf
set_option maxRecDepth 20000 in
theorem ggX7_shift_X7_put : GoodIn wsX7_shift wsX7_put := goodIn_r _ [14, 2, 1, 23, 24, 25, 26] (by decide +kernel) (by decide +kernel)
set_option maxRecDepth 20000 in
theorem gX7_shift_X7_put : GoodIn wsX7_shift (wsV RX7 26 RX7 yX7_put wsX7_put) := goodIn_app (goodIn_of _ (by decide +kernel)) ggX7_shift_X7_put
set_option maxRecDepth 20000 in
theorem ggX7_shift_X7_valueOf : GoodIn wsX7_shift wsX7_valueOf := goodIn_r _ [18, 19, 23, 24, 25, 26] (by decide +kernel) (by decide +kernel)
set_option maxRecDepth 20000 in
theorem gX7_shift_X7_valueOf : GoodIn wsX7_shift (wsV RX7 37 RX7 yX7_valueOf wsX7_valueOf) := goodIn_app (goodIn_of _ (by decide +kernel)) ggX7_shift_X7_valueOf
set_option maxRecDepth 20000 in
theorem ggX7_shift_X7_bitsAt : GoodIn wsX7_shift wsX7_bitsAt := goodIn_r _ [22] (by decide +kernel) (by decide +kernel)
set_option maxRecDepth 20000 in
theorem gX7_shift_X7_bitsAt : GoodIn wsX7_shift (va_wsS RX7 40 yX7_bitsAt wsX7_bitsAt) := goodIn_app (goodIn_of _ (by decide +kernel)) ggX7_shift_X7_bitsAt
theorem dX7_shift_0 : decode cX7_shift 0 = .ok (.aload_n 0, 1) := by decide +kernel
theorem dX7_shift_1 : decode cX7_shift 1 = .ok (.getfield 15, 3) := by decide +kernel
theorem dX7_shift_4 : decode cX7_shift 4 = .ok (.iconst 0, 1) := by decide +kernel
theorem dX7_shift_5 : decode cX7_shift 5 = .ok (.iaload, 1) := by decide +kernel
theorem dX7_shift_6 : decode cX7_shift 6 = .ok (.istore_n 3, 1) := by decide +kernel
theorem dX7_shift_7 : decode cX7_shift 7 = .ok (.aload_n 1, 1) := by decide +kernel
theorem dX7_shift_8 : decode cX7_shift 8 = .ok (.iload_n 3, 1) := by decide +kernel
theorem dX7_shift_9 : decode cX7_shift 9 = .ok (.iload_n 2, 1) := by decide +kernel
theorem dX7_shift_10 : decode cX7_shift 10 = .ok (.invokevirtual 49, 3) := by decide +kernel
theorem dX7_shift_13 : decode cX7_shift 13 = .ok (.istore 4, 2) := by decide +kernel
theorem dX7_shift_15 : decode cX7_shift 15 = .ok (.iload 4, 2) := by decide +kernel
theorem dX7_shift_17 : decode cX7_shift 17 = .ok (.iconst (-1), 1) := by decide +kernel
theorem dX7_shift_18 : decode cX7_shift 18 = .ok (.if_icmp .ne 5, 3) := by decide +kernel
theorem dX7_shift_21 : decode cX7_shift 21 = .ok (.iconst 0, 1) := by decide +kernel
theorem dX7_shift_22 : decode cX7_shift 22 = .ok (.ireturn, 1) := by decide +kernel
theorem dX7_shift_23 : decode cX7_shift 23 = .ok (.aload_n 0, 1) := by decide +kernel
theorem dX7_shift_24 : decode cX7_shift 24 = .ok (.getfield 9, 3) := by decide +kernel
theorem dX7_shift_27 : decode cX7_shift 27 = .ok (.iload 4, 2) := by decide +kernel
theorem dX7_shift_29 : decode cX7_shift 29 = .ok (.iaload, 1) := by decide +kernel
theorem dX7_shift_30 : decode cX7_shift 30 = .ok (.istore 5, 2) := by decide +kernel
theorem dX7_shift_32 : decode cX7_shift 32 = .ok (.aload_n 0, 1) := by decide +kernel
theorem dX7_shift_33 : decode cX7_shift 33 = .ok (.iload 5, 2) := by decide +kernel
theorem dX7_shift_35 : decode cX7_shift 35 = .ok (.iload_n 3, 1) := by decide +kernel
theorem dX7_shift_36 : decode cX7_shift 36 = .ok (.invokevirtual 26, 3) := by decide +kernel
theorem dX7_shift_39 : decode cX7_shift 39 = .ok (.aload_n 0, 1) := by decide +kernel
theorem dX7_shift_40 : decode cX7_shift 40 = .ok (.iconst 0, 1) := by decide +kernel
theorem dX7_shift_41 : decode cX7_shift 41 = .ok (.iload 4, 2) := by decide +kernel
theorem dX7_shift_43 : decode cX7_shift 43 = .ok (.invokevirtual 26, 3) := by decide +kernel
theorem dX7_shift_46 : decode cX7_shift 46 = .ok (.aload_n 0, 1) := by decide +kernel
theorem dX7_shift_47 : decode cX7_shift 47 = .ok (.iload 5, 2) := by decide +kernel
theorem dX7_shift_49 : decode cX7_shift 49 = .ok (.invokevirtual 37, 3) := by decide +kernel
theorem dX7_shift_52 : decode cX7_shift 52 = .ok (.aload_n 0, 1) := by decide +kernel
theorem dX7_shift_53 : decode cX7_shift 53 = .ok (.iconst 0, 1) := by decide +kernel
theorem dX7_shift_54 : decode cX7_shift 54 = .ok (.invokevirtual 37, 3) := by decide +kernel
theorem dX7_shift_57 : decode cX7_shift 57 = .ok (.ixor, 1) := by decide +kernel
theorem dX7_shift_58 : decode cX7_shift 58 = .ok (.i2l, 1) := by decide +kernel
theorem dX7_shift_59 : decode cX7_shift 59 = .ok (.lstore 6, 2) := by decide +kernel
theorem dX7_shift_61 : decode cX7_shift 61 = .ok (.aload_n 0, 1) := by decide +kernel
theorem dX7_shift_62 : decode cX7_shift 62 = .ok (.dup, 1) := by decide +kernel
theorem dX7_shift_63 : decode cX7_shift 63 = .ok (.getfield 33, 3) := by decide +kernel
theorem dX7_shift_66 : decode cX7_shift 66 = .ok (.lload 6, 2) := by decide +kernel
theorem dX7_shift_68 : decode cX7_shift 68 = .ok (.iload_n 3, 1) := by decide +kernel
theorem dX7_shift_69 : decode cX7_shift 69 = .ok (.invokestatic 40, 3) := by decide +kernel
theorem dX7_shift_72 : decode cX7_shift 72 = .ok (.lshl, 1) := by decide +kernel
theorem dX7_shift_73 : decode cX7_shift 73 = .ok (.lload 6, 2) := by decide +kernel
theorem dX7_shift_75 : decode cX7_shift 75 = .ok (.iload 4, 2) := by decide +kernel
theorem dX7_shift_77 : decode cX7_shift 77 = .ok (.invokestatic 40, 3) := by decide +kernel
theorem dX7_shift_80 : decode cX7_shift 80 = .ok (.lshl, 1) := by decide +kernel
theorem dX7_shift_81 : decode cX7_shift 81 = .ok (.lxor, 1) := by decide +kernel
theorem dX7_shift_82 : decode cX7_shift 82 = .ok (.lxor, 1) := by decide +kernel
theorem dX7_shift_83 : decode cX7_shift 83 = .ok (.putfield 33, 3) := by decide +kernel
theorem dX7_shift_86 : decode cX7_shift 86 = .ok (.iload 5, 2) := by decide +kernel
theorem dX7_shift_88 : decode cX7_shift 88 = .ok (.ireturn, 1) := by decide +kernel
set_option maxRecDepth 20000 in
theorem ggX7_toRank_X7_valueOf : GoodIn wsX7_toRank wsX7_valueOf := goodIn_r _ [7, 1, 15, 16, 17, 18] (by decide +kernel) (by decide +kernel)
set_option maxRecDepth 20000 in
theorem gX7_toRank_X7_valueOf : GoodIn wsX7_toRank (wsV RX7 37 RX7 yX7_valueOf wsX7_valueOf) := goodIn_app (goodIn_of _ (by decide +kernel)) ggX7_toRank_X7_valueOf
set_option maxRecDepth 20000 in
theorem ggX7_toRank_J6_bitCount_0f7a4 : GoodIn wsX7_toRank wsJ6_bitCount_0f7a4 := goodIn_r _ [11, 12, 13, 14] (by decide +kernel) (by decide +kernel)
set_option maxRecDepth 20000 in
theorem gX7_toRank_J6_bitCount_0f7a4 : GoodIn wsX7_toRank (va_wsS RX7 55 yJ6_bitCount_0f7a4 wsJ6_bitCount_0f7a4) := goodIn_app (goodIn_of _ (by decide +kernel)) ggX7_toRank_J6_bitCount_0f7a4
theorem dX7_toRank_0 : decode cX7_toRank 0 = .ok (.lconst 0, 1) := by decide +kernel
theorem dX7_toRank_1 : decode cX7_toRank 1 = .ok (.lstore_n 1, 1) := by decide +kernel
theorem dX7_toRank_2 : decode cX7_toRank 2 = .ok (.iconst 1, 1) := by decide +kernel
theorem dX7_toRank_3 : decode cX7_toRank 3 = .ok (.aload_n 0, 1) := by decide +kernel
theorem dX7_toRank_4 : decode cX7_toRank 4 = .ok (.getfield 18, 3) := by decide +kernel
theorem dX7_toRank_7 : decode cX7_toRank 7 = .ok (.ishl, 1) := by decide +kernel
theorem dX7_toRank_8 : decode cX7_toRank 8 = .ok (.iconst 1, 1) := by decide +kernel
theorem dX7_toRank_9 : decode cX7_toRank 9 = .ok (.isub, 1) := by decide +kernel
theorem dX7_toRank_10 : decode cX7_toRank 10 = .ok (.istore_n 3, 1) := by decide +kernel
theorem dX7_toRank_11 : decode cX7_toRank 11 = .ok (.iconst 0, 1) := by decide +kernel
theorem dX7_toRank_12 : decode cX7_toRank 12 = .ok (.istore 4, 2) := by decide +kernel
theorem dX7_toRank_14 : decode cX7_toRank 14 = .ok (.iload 4, 2) := by decide +kernel
theorem dX7_toRank_16 : decode cX7_toRank 16 = .ok (.aload_n 0, 1) := by decide +kernel
theorem dX7_toRank_17 : decode cX7_toRank 17 = .ok (.getfield 18, 3) := by decide +kernel
theorem dX7_toRank_20 : decode cX7_toRank 20 = .ok (.if_icmp .ge 53, 3) := by decide +kernel
theorem dX7_toRank_23 : decode cX7_toRank 23 = .ok (.iconst 1, 1) := by decide +kernel
theorem dX7_toRank_24 : decode cX7_toRank 24 = .ok (.aload_n 0, 1) := by decide +kernel
theorem dX7_toRank_25 : decode cX7_toRank 25 = .ok (.aload_n 0, 1) := by decide +kernel
theorem dX7_toRank_26 : decode cX7_toRank 26 = .ok (.getfield 9, 3) := by decide +kernel
theorem dX7_toRank_29 : decode cX7_toRank 29 = .ok (.iload 4, 2) := by decide +kernel
theorem dX7_toRank_31 : decode cX7_toRank 31 = .ok (.iaload, 1) := by decide +kernel
theorem dX7_toRank_32 : decode cX7_toRank 32 = .ok (.invokevirtual 37, 3) := by decide +kernel
theorem dX7_toRank_35 : decode cX7_toRank 35 = .ok (.ishl, 1) := by decide +kernel
theorem dX7_toRank_36 : decode cX7_toRank 36 = .ok (.istore 5, 2) := by decide +kernel
theorem dX7_toRank_38 : decode cX7_toRank 38 = .ok (.iload_n 3, 1) := by decide +kernel
theorem dX7_toRank_39 : decode cX7_toRank 39 = .ok (.iload 5, 2) := by decide +kernel
theorem dX7_toRank_41 : decode cX7_toRank 41 = .ok (.iconst (-1), 1) := by decide +kernel
theorem dX7_toRank_42 : decode cX7_toRank 42 = .ok (.ixor, 1) := by decide +kernel
theorem dX7_toRank_43 : decode cX7_toRank 43 = .ok (.iand, 1) := by decide +kernel
theorem dX7_toRank_44 : decode cX7_toRank 44 = .ok (.istore_n 3, 1) := by decide +kernel
theorem dX7_toRank_45 : decode cX7_toRank 45 = .ok (.lload_n 1, 1) := by decide +kernel
theorem dX7_toRank_46 : decode cX7_toRank 46 = .ok (.aload_n 0, 1) := by decide +kernel
theorem dX7_toRank_47 : decode cX7_toRank 47 = .ok (.getfield 18, 3) := by decide +kernel
theorem dX7_toRank_50 : decode cX7_toRank 50 = .ok (.iload 4, 2) := by decide +kernel
theorem dX7_toRank_52 : decode cX7_toRank 52 = .ok (.isub, 1) := by decide +kernel
theorem dX7_toRank_53 : decode cX7_toRank 53 = .ok (.i2l, 1) := by decide +kernel
theorem dX7_toRank_54 : decode cX7_toRank 54 = .ok (.lmul, 1) := by decide +kernel
theorem dX7_toRank_55 : decode cX7_toRank 55 = .ok (.iload_n 3, 1) := by decide +kernel
theorem dX7_toRank_56 : decode cX7_toRank 56 = .ok (.iload 5, 2) := by decide +kernel
theorem dX7_toRank_58 : decode cX7_toRank 58 = .ok (.iconst 1, 1) := by decide +kernel
theorem dX7_toRank_59 : decode cX7_toRank 59 = .ok (.isub, 1) := by decide +kernel
theorem dX7_toRank_60 : decode cX7_toRank 60 = .ok (.iand, 1) := by decide +kernel
theorem dX7_toRank_61 : decode cX7_toRank 61 = .ok (.invokestatic 55, 3) := by decide +kernel
theorem dX7_toRank_64 : decode cX7_toRank 64 = .ok (.i2l, 1) := by decide +kernel
theorem dX7_toRank_65 : decode cX7_toRank 65 = .ok (.ladd, 1) := by decide +kernel
theorem dX7_toRank_66 : decode cX7_toRank 66 = .ok (.lstore_n 1, 1) := by decide +kernel
theorem dX7_toRank_67 : decode cX7_toRank 67 = .ok (.iinc 4 1, 3) := by decide +kernel
theorem dX7_toRank_70 : decode cX7_toRank 70 = .ok (.goto (-56), 3) := by decide +kernel
theorem dX7_toRank_73 : decode cX7_toRank 73 = .ok (.lload_n 1, 1) := by decide +kernel
theorem dX7_toRank_74 : decode cX7_toRank 74 = .ok (.lreturn, 1) := by decide +kernel
set_option maxRecDepth 20000 in
theorem ggX7_fromRank_X7_bitWithIndex : GoodIn wsX7_fromRank wsX7_bitWithIndex := goodIn_r _ [6] (by decide +kernel) (by decide +kernel)
set_option maxRecDepth 20000 in
theorem gX7_fromRank_X7_bitWithIndex : GoodIn wsX7_fromRank (va_wsS RX7 60 yX7_bitWithIndex wsX7_bitWithIndex) := goodIn_app (goodIn_of _ (by decide +kernel)) ggX7_fromRank_X7_bitWithIndex
set_option maxRecDepth 20000 in
theorem ggX7_fromRank_J6_bitCount_0f7a4 : GoodIn wsX7_fromRank wsJ6_bitCount_0f7a4 := goodIn_r _ [10, 11, 12, 13] (by decide +kernel) (by decide +kernel)
set_option maxRecDepth 20000 in
theorem gX7_fromRank_J6_bitCount_0f7a4 : GoodIn wsX7_fromRank (va_wsS RX7 55 yJ6_bitCount_0f7a4 wsJ6_bitCount_0f7a4) := goodIn_app (goodIn_of _ (by decide +kernel)) ggX7_fromRank_J6_bitCount_0f7a4
set_option maxRecDepth 20000 in
theorem ggX7_fromRank_X7_tileOf : GoodIn wsX7_fromRank wsX7_tileOf := goodIn_r _ [17, 1, 35, 36, 37, 38] (by decide +kernel) (by decide +kernel)
set_option maxRecDepth 20000 in
theorem gX7_fromRank_X7_tileOf : GoodIn wsX7_fromRank (wsV RX7 22 RX7 yX7_tileOf wsX7_tileOf) := goodIn_app (goodIn_of _ (by decide +kernel)) ggX7_fromRank_X7_tileOf
set_option maxRecDepth 20000 in
theorem ggX7_fromRank_X7_put : GoodIn wsX7_fromRank wsX7_put := goodIn_r _ [21, 2, 22, 35, 36, 37, 38] (by decide +kernel) (by decide +kernel)
set_option maxRecDepth 20000 in
theorem gX7_fromRank_X7_put : GoodIn wsX7_fromRank (wsV RX7 26 RX7 yX7_put wsX7_put) := goodIn_app (goodIn_of _ (by decide +kernel)) ggX7_fromRank_X7_put
set_option maxRecDepth 20000 in
theorem ggX7_fromRank_X7_pack : GoodIn wsX7_fromRank wsX7_pack := goodIn_r _ [26, 27, 1, 2, 28, 29, 30, 5, 31, 32, 33, 34, 35, 36, 37, 38] (by decide +kernel) (by decide +kernel)
set_option maxRecDepth 20000 in
theorem gX7_fromRank_X7_pack : GoodIn wsX7_fromRank (wsV RX7 30 RX7 yX7_pack wsX7_pack) := goodIn_app (goodIn_of _ (by decide +kernel)) ggX7_fromRank_X7_pack
theorem dX7_fromRank_0 : decode cX7_fromRank 0 = .ok (.aload_n 0, 1) := by decide +kernel
theorem dX7_fromRank_1 : decode cX7_fromRank 1 = .ok (.iload_n 3, 1) := by decide +kernel
theorem dX7_fromRank_2 : decode cX7_fromRank 2 = .ok (.putfield 18, 3) := by decide +kernel
theorem dX7_fromRank_5 : decode cX7_fromRank 5 = .ok (.lload_n 1, 1) := by decide +kernel
theorem dX7_fromRank_6 : decode cX7_fromRank 6 = .ok (.lstore 4, 2) := by decide +kernel
theorem dX7_fromRank_8 : decode cX7_fromRank 8 = .ok (.aload_n 0, 1) := by decide +kernel
theorem dX7_fromRank_9 : decode cX7_fromRank 9 = .ok (.getfield 18, 3) := by decide +kernel
theorem dX7_fromRank_12 : decode cX7_fromRank 12 = .ok (.iconst 1, 1) := by decide +kernel
theorem dX7_fromRank_13 : decode cX7_fromRank 13 = .ok (.isub, 1) := by decide +kernel
theorem dX7_fromRank_14 : decode cX7_fromRank 14 = .ok (.istore 6, 2) := by decide +kernel
theorem dX7_fromRank_16 : decode cX7_fromRank 16 = .ok (.iload 6, 2) := by decide +kernel
theorem dX7_fromRank_18 : decode cX7_fromRank 18 = .ok (.ifCond .lt 40, 3) := by decide +kernel
theorem dX7_fromRank_21 : decode cX7_fromRank 21 = .ok (.aload_n 0, 1) := by decide +kernel
theorem dX7_fromRank_22 : decode cX7_fromRank 22 = .ok (.getfield 18, 3) := by decide +kernel
theorem dX7_fromRank_25 : decode cX7_fromRank 25 = .ok (.iload 6, 2) := by decide +kernel
theorem dX7_fromRank_27 : decode cX7_fromRank 27 = .ok (.isub, 1) := by decide +kernel
theorem dX7_fromRank_28 : decode cX7_fromRank 28 = .ok (.istore 7, 2) := by decide +kernel
theorem dX7_fromRank_30 : decode cX7_fromRank 30 = .ok (.aload_n 0, 1) := by decide +kernel
theorem dX7_fromRank_31 : decode cX7_fromRank 31 = .ok (.getfield 9, 3) := by decide +kernel
theorem dX7_fromRank_34 : decode cX7_fromRank 34 = .ok (.iload 6, 2) := by decide +kernel
theorem dX7_fromRank_36 : decode cX7_fromRank 36 = .ok (.lload 4, 2) := by decide +kernel
theorem dX7_fromRank_38 : decode cX7_fromRank 38 = .ok (.iload 7, 2) := by decide +kernel
theorem dX7_fromRank_40 : decode cX7_fromRank 40 = .ok (.i2l, 1) := by decide +kernel
theorem dX7_fromRank_41 : decode cX7_fromRank 41 = .ok (.lrem, 1) := by decide +kernel
theorem dX7_fromRank_42 : decode cX7_fromRank 42 = .ok (.l2i, 1) := by decide +kernel
theorem dX7_fromRank_43 : decode cX7_fromRank 43 = .ok (.iastore, 1) := by decide +kernel
theorem dX7_fromRank_44 : decode cX7_fromRank 44 = .ok (.lload 4, 2) := by decide +kernel
theorem dX7_fromRank_46 : decode cX7_fromRank 46 = .ok (.iload 7, 2) := by decide +kernel
theorem dX7_fromRank_48 : decode cX7_fromRank 48 = .ok (.i2l, 1) := by decide +kernel
theorem dX7_fromRank_49 : decode cX7_fromRank 49 = .ok (.ldiv, 1) := by decide +kernel
theorem dX7_fromRank_50 : decode cX7_fromRank 50 = .ok (.lstore 4, 2) := by decide +kernel
theorem dX7_fromRank_52 : decode cX7_fromRank 52 = .ok (.iinc 6 (-1), 3) := by decide +kernel
theorem dX7_fromRank_55 : decode cX7_fromRank 55 = .ok (.goto (-39), 3) := by decide +kernel
theorem dX7_fromRank_58 : decode cX7_fromRank 58 = .ok (.iconst 1, 1) := by decide +kernel
theorem dX7_fromRank_59 : decode cX7_fromRank 59 = .ok (.aload_n 0, 1) := by decide +kernel
theorem dX7_fromRank_60 : decode cX7_fromRank 60 = .ok (.getfield 18, 3) := by decide +kernel
theorem dX7_fromRank_63 : decode cX7_fromRank 63 = .ok (.ishl, 1) := by decide +kernel
theorem dX7_fromRank_64 : decode cX7_fromRank 64 = .ok (.iconst 1, 1) := by decide +kernel
theorem dX7_fromRank_65 : decode cX7_fromRank 65 = .ok (.isub, 1) := by decide +kernel
theorem dX7_fromRank_66 : decode cX7_fromRank 66 = .ok (.istore 6, 2) := by decide +kernel
theorem dX7_fromRank_68 : decode cX7_fromRank 68 = .ok (.iconst 0, 1) := by decide +kernel
theorem dX7_fromRank_69 : decode cX7_fromRank 69 = .ok (.istore 7, 2) := by decide +kernel
theorem dX7_fromRank_71 : decode cX7_fromRank 71 = .ok (.iload 7, 2) := by decide +kernel
theorem dX7_fromRank_73 : decode cX7_fromRank 73 = .ok (.aload_n 0, 1) := by decide +kernel
theorem dX7_fromRank_74 : decode cX7_fromRank 74 = .ok (.getfield 18, 3) := by decide +kernel
theorem dX7_fromRank_77 : decode cX7_fromRank 77 = .ok (.if_icmp .ge 49, 3) := by decide +kernel
theorem dX7_fromRank_80 : decode cX7_fromRank 80 = .ok (.iload 6, 2) := by decide +kernel
theorem dX7_fromRank_82 : decode cX7_fromRank 82 = .ok (.aload_n 0, 1) := by decide +kernel
theorem dX7_fromRank_83 : decode cX7_fromRank 83 = .ok (.getfield 9, 3) := by decide +kernel
theorem dX7_fromRank_86 : decode cX7_fromRank 86 = .ok (.iload 7, 2) := by decide +kernel
theorem dX7_fromRank_88 : decode cX7_fromRank 88 = .ok (.iaload, 1) := by decide +kernel
theorem dX7_fromRank_89 : decode cX7_fromRank 89 = .ok (.invokestatic 60, 3) := by decide +kernel
theorem dX7_fromRank_92 : decode cX7_fromRank 92 = .ok (.istore 8, 2) := by decide +kernel
theorem dX7_fromRank_94 : decode cX7_fromRank 94 = .ok (.iload 6, 2) := by decide +kernel
theorem dX7_fromRank_96 : decode cX7_fromRank 96 = .ok (.iload 8, 2) := by decide +kernel
theorem dX7_fromRank_98 : decode cX7_fromRank 98 = .ok (.iconst (-1), 1) := by decide +kernel
theorem dX7_fromRank_99 : decode cX7_fromRank 99 = .ok (.ixor, 1) := by decide +kernel
theorem dX7_fromRank_100 : decode cX7_fromRank 100 = .ok (.iand, 1) := by decide +kernel
theorem dX7_fromRank_101 : decode cX7_fromRank 101 = .ok (.istore 6, 2) := by decide +kernel
theorem dX7_fromRank_103 : decode cX7_fromRank 103 = .ok (.aload_n 0, 1) := by decide +kernel
theorem dX7_fromRank_104 : decode cX7_fromRank 104 = .ok (.aload_n 0, 1) := by decide +kernel
theorem dX7_fromRank_105 : decode cX7_fromRank 105 = .ok (.iload 8, 2) := by decide +kernel
theorem dX7_fromRank_107 : decode cX7_fromRank 107 = .ok (.iconst 1, 1) := by decide +kernel
theorem dX7_fromRank_108 : decode cX7_fromRank 108 = .ok (.isub, 1) := by decide +kernel
theorem dX7_fromRank_109 : decode cX7_fromRank 109 = .ok (.invokestatic 55, 3) := by decide +kernel
theorem dX7_fromRank_112 : decode cX7_fromRank 112 = .ok (.invokevirtual 22, 3) := by decide +kernel
theorem dX7_fromRank_115 : decode cX7_fromRank 115 = .ok (.iload 7, 2) := by decide +kernel
theorem dX7_fromRank_117 : decode cX7_fromRank 117 = .ok (.invokevirtual 26, 3) := by decide +kernel
theorem dX7_fromRank_120 : decode cX7_fromRank 120 = .ok (.iinc 7 1, 3) := by decide +kernel
theorem dX7_fromRank_123 : decode cX7_fromRank 123 = .ok (.goto (-52), 3) := by decide +kernel
theorem dX7_fromRank_126 : decode cX7_fromRank 126 = .ok (.aload_n 0, 1) := by decide +kernel
theorem dX7_fromRank_127 : decode cX7_fromRank 127 = .ok (.invokevirtual 30, 3) := by decide +kernel
theorem dX7_fromRank_130 : decode cX7_fromRank 130 = .ok (.return_, 1) := by decide +kernel
theorem dX7_bitWithIndex_0 : decode cX7_bitWithIndex 0 = .ok (.iload_n 0, 1) := by decide +kernel
theorem dX7_bitWithIndex_1 : decode cX7_bitWithIndex 1 = .ok (.istore_n 2, 1) := by decide +kernel
theorem dX7_bitWithIndex_2 : decode cX7_bitWithIndex 2 = .ok (.iconst 0, 1) := by decide +kernel
theorem dX7_bitWithIndex_3 : decode cX7_bitWithIndex 3 = .ok (.istore_n 3, 1) := by decide +kernel
theorem dX7_bitWithIndex_4 : decode cX7_bitWithIndex 4 = .ok (.iload_n 3, 1) := by decide +kernel
theorem dX7_bitWithIndex_5 : decode cX7_bitWithIndex 5 = .ok (.iload_n 1, 1) := by decide +kernel
theorem dX7_bitWithIndex_6 : decode cX7_bitWithIndex 6 = .ok (.if_icmp .ge 15, 3) := by decide +kernel
theorem dX7_bitWithIndex_9 : decode cX7_bitWithIndex 9 = .ok (.iload_n 2, 1) := by decide +kernel
theorem dX7_bitWithIndex_10 : decode cX7_bitWithIndex 10 = .ok (.iload_n 2, 1) := by decide +kernel
theorem dX7_bitWithIndex_11 : decode cX7_bitWithIndex 11 = .ok (.iconst 1, 1) := by decide +kernel
theorem dX7_bitWithIndex_12 : decode cX7_bitWithIndex 12 = .ok (.isub, 1) := by decide +kernel
theorem dX7_bitWithIndex_13 : decode cX7_bitWithIndex 13 = .ok (.iand, 1) := by decide +kernel
theorem dX7_bitWithIndex_14 : decode cX7_bitWithIndex 14 = .ok (.istore_n 2, 1) := by decide +kernel
theorem dX7_bitWithIndex_15 : decode cX7_bitWithIndex 15 = .ok (.iinc 3 1, 3) := by decide +kernel
theorem dX7_bitWithIndex_18 : decode cX7_bitWithIndex 18 = .ok (.goto (-14), 3) := by decide +kernel
theorem dX7_bitWithIndex_21 : decode cX7_bitWithIndex 21 = .ok (.iload_n 2, 1) := by decide +kernel
theorem dX7_bitWithIndex_22 : decode cX7_bitWithIndex 22 = .ok (.iload_n 2, 1) := by decide +kernel
theorem dX7_bitWithIndex_23 : decode cX7_bitWithIndex 23 = .ok (.ineg, 1) := by decide +kernel
theorem dX7_bitWithIndex_24 : decode cX7_bitWithIndex 24 = .ok (.iand, 1) := by decide +kernel
theorem dX7_bitWithIndex_25 : decode cX7_bitWithIndex 25 = .ok (.ireturn, 1) := by decide +kernel
set_option maxRecDepth 20000 in
theorem ggX7_disorder_X7_valueOf : GoodIn wsX7_disorder wsX7_valueOf := goodIn_r _ [7, 1, 15, 16, 17, 18] (by decide +kernel) (by decide +kernel)
set_option maxRecDepth 20000 in
theorem gX7_disorder_X7_valueOf : GoodIn wsX7_disorder (wsV RX7 37 RX7 yX7_valueOf wsX7_valueOf) := goodIn_app (goodIn_of _ (by decide +kernel)) ggX7_disorder_X7_valueOf
set_option maxRecDepth 20000 in
theorem ggX7_disorder_J6_bitCount_0f7a4 : GoodIn wsX7_disorder wsJ6_bitCount_0f7a4 := goodIn_r _ [11, 12, 13, 14] (by decide +kernel) (by decide +kernel)
set_option maxRecDepth 20000 in
theorem gX7_disorder_J6_bitCount_0f7a4 : GoodIn wsX7_disorder (va_wsS RX7 55 yJ6_bitCount_0f7a4 wsJ6_bitCount_0f7a4) := goodIn_app (goodIn_of _ (by decide +kernel)) ggX7_disorder_J6_bitCount_0f7a4
theorem dX7_disorder_0 : decode cX7_disorder 0 = .ok (.iconst 0, 1) := by decide +kernel
theorem dX7_disorder_1 : decode cX7_disorder 1 = .ok (.istore_n 1, 1) := by decide +kernel
theorem dX7_disorder_2 : decode cX7_disorder 2 = .ok (.iconst 0, 1) := by decide +kernel
theorem dX7_disorder_3 : decode cX7_disorder 3 = .ok (.istore_n 2, 1) := by decide +kernel
theorem dX7_disorder_4 : decode cX7_disorder 4 = .ok (.iconst 0, 1) := by decide +kernel
theorem dX7_disorder_5 : decode cX7_disorder 5 = .ok (.istore_n 3, 1) := by decide +kernel
theorem dX7_disorder_6 : decode cX7_disorder 6 = .ok (.iload_n 3, 1) := by decide +kernel
theorem dX7_disorder_7 : decode cX7_disorder 7 = .ok (.aload_n 0, 1) := by decide +kernel
theorem dX7_disorder_8 : decode cX7_disorder 8 = .ok (.getfield 18, 3) := by decide +kernel
theorem dX7_disorder_11 : decode cX7_disorder 11 = .ok (.if_icmp .ge 38, 3) := by decide +kernel
theorem dX7_disorder_14 : decode cX7_disorder 14 = .ok (.aload_n 0, 1) := by decide +kernel
theorem dX7_disorder_15 : decode cX7_disorder 15 = .ok (.aload_n 0, 1) := by decide +kernel
theorem dX7_disorder_16 : decode cX7_disorder 16 = .ok (.getfield 9, 3) := by decide +kernel
theorem dX7_disorder_19 : decode cX7_disorder 19 = .ok (.iload_n 3, 1) := by decide +kernel
theorem dX7_disorder_20 : decode cX7_disorder 20 = .ok (.iaload, 1) := by decide +kernel
theorem dX7_disorder_21 : decode cX7_disorder 21 = .ok (.invokevirtual 37, 3) := by decide +kernel
theorem dX7_disorder_24 : decode cX7_disorder 24 = .ok (.istore 4, 2) := by decide +kernel
theorem dX7_disorder_26 : decode cX7_disorder 26 = .ok (.iload_n 1, 1) := by decide +kernel
theorem dX7_disorder_27 : decode cX7_disorder 27 = .ok (.iload_n 2, 1) := by decide +kernel
theorem dX7_disorder_28 : decode cX7_disorder 28 = .ok (.iload 4, 2) := by decide +kernel
theorem dX7_disorder_30 : decode cX7_disorder 30 = .ok (.iushr, 1) := by decide +kernel
theorem dX7_disorder_31 : decode cX7_disorder 31 = .ok (.invokestatic 55, 3) := by decide +kernel
theorem dX7_disorder_34 : decode cX7_disorder 34 = .ok (.iadd, 1) := by decide +kernel
theorem dX7_disorder_35 : decode cX7_disorder 35 = .ok (.istore_n 1, 1) := by decide +kernel
theorem dX7_disorder_36 : decode cX7_disorder 36 = .ok (.iload_n 2, 1) := by decide +kernel
theorem dX7_disorder_37 : decode cX7_disorder 37 = .ok (.iconst 1, 1) := by decide +kernel
theorem dX7_disorder_38 : decode cX7_disorder 38 = .ok (.iload 4, 2) := by decide +kernel
theorem dX7_disorder_40 : decode cX7_disorder 40 = .ok (.ishl, 1) := by decide +kernel
theorem dX7_disorder_41 : decode cX7_disorder 41 = .ok (.ior, 1) := by decide +kernel
theorem dX7_disorder_42 : decode cX7_disorder 42 = .ok (.istore_n 2, 1) := by decide +kernel
theorem dX7_disorder_43 : decode cX7_disorder 43 = .ok (.iinc 3 1, 3) := by decide +kernel
theorem dX7_disorder_46 : decode cX7_disorder 46 = .ok (.goto (-40), 3) := by decide +kernel
theorem dX7_disorder_49 : decode cX7_disorder 49 = .ok (.iload_n 1, 1) := by decide +kernel
theorem dX7_disorder_50 : decode cX7_disorder 50 = .ok (.ireturn, 1) := by decide +kernel
theorem dX8_init_0 : decode cX8_init 0 = .ok (.aload_n 0, 1) := by decide +kernel
theorem dX8_init_1 : decode cX8_init 1 = .ok (.invokespecial 3, 3) := by decide +kernel
theorem dX8_init_4 : decode cX8_init 4 = .ok (.aload_n 0, 1) := by decide +kernel
theorem dX8_init_5 : decode cX8_init 5 = .ok (.iconst 3, 1) := by decide +kernel
theorem dX8_init_6 : decode cX8_init 6 = .ok (.newarray .int, 2) := by decide +kernel
theorem dX8_init_8 : decode cX8_init 8 = .ok (.putfield 9, 3) := by decide +kernel
theorem dX8_init_11 : decode cX8_init 11 = .ok (.aload_n 0, 1) := by decide +kernel
theorem dX8_init_12 : decode cX8_init 12 = .ok (.sipush 6561, 3) := by decide +kernel
theorem dX8_init_15 : decode cX8_init 15 = .ok (.newarray .int, 2) := by decide +kernel
theorem dX8_init_17 : decode cX8_init 17 = .ok (.putfield 15, 3) := by decide +kernel
theorem dX8_init_20 : decode cX8_init 20 = .ok (.aload_n 0, 1) := by decide +kernel
theorem dX8_init_21 : decode cX8_init 21 = .ok (.iconst 3, 1) := by decide +kernel
theorem dX8_init_22 : decode cX8_init 22 = .ok (.newarray .int, 2) := by decide +kernel
theorem dX8_init_24 : decode cX8_init 24 = .ok (.putfield 18, 3) := by decide +kernel
theorem dX8_init_27 : decode cX8_init 27 = .ok (.return_, 1) := by decide +kernel
theorem dX8_choose_0 : decode cX8_choose 0 = .ok (.aload_n 0, 1) := by decide +kernel
theorem dX8_choose_1 : decode cX8_choose 1 = .ok (.iload_n 1, 1) := by decide +kernel
theorem dX8_choose_2 : decode cX8_choose 2 = .ok (.putfield 21, 3) := by decide +kernel
theorem dX8_choose_5 : decode cX8_choose 5 = .ok (.aload_n 0, 1) := by decide +kernel
theorem dX8_choose_6 : decode cX8_choose 6 = .ok (.iload_n 2, 1) := by decide +kernel
theorem dX8_choose_7 : decode cX8_choose 7 = .ok (.putfield 25, 3) := by decide +kernel
theorem dX8_choose_10 : decode cX8_choose 10 = .ok (.aload_n 0, 1) := by decide +kernel
theorem dX8_choose_11 : decode cX8_choose 11 = .ok (.iconst 0, 1) := by decide +kernel
theorem dX8_choose_12 : decode cX8_choose 12 = .ok (.putfield 28, 3) := by decide +kernel
theorem dX8_choose_15 : decode cX8_choose 15 = .ok (.aload_n 0, 1) := by decide +kernel
theorem dX8_choose_16 : decode cX8_choose 16 = .ok (.bipush 9, 2) := by decide +kernel
theorem dX8_choose_18 : decode cX8_choose 18 = .ok (.putfield 31, 3) := by decide +kernel
theorem dX8_choose_21 : decode cX8_choose 21 = .ok (.iconst 1, 1) := by decide +kernel
theorem dX8_choose_22 : decode cX8_choose 22 = .ok (.istore_n 3, 1) := by decide +kernel
theorem dX8_choose_23 : decode cX8_choose 23 = .ok (.iload_n 3, 1) := by decide +kernel
theorem dX8_choose_24 : decode cX8_choose 24 = .ok (.iload_n 2, 1) := by decide +kernel
theorem dX8_choose_25 : decode cX8_choose 25 = .ok (.if_icmp .ge 59, 3) := by decide +kernel
theorem dX8_choose_28 : decode cX8_choose 28 = .ok (.aload_n 0, 1) := by decide +kernel
theorem dX8_choose_29 : decode cX8_choose 29 = .ok (.getfield 28, 3) := by decide +kernel
theorem dX8_choose_32 : decode cX8_choose 32 = .ok (.iconst 3, 1) := by decide +kernel
theorem dX8_choose_33 : decode cX8_choose 33 = .ok (.if_icmp .ge 51, 3) := by decide +kernel
theorem dX8_choose_36 : decode cX8_choose 36 = .ok (.iload_n 1, 1) := by decide +kernel
theorem dX8_choose_37 : decode cX8_choose 37 = .ok (.iload_n 3, 1) := by decide +kernel
theorem dX8_choose_38 : decode cX8_choose 38 = .ok (.ishr, 1) := by decide +kernel
theorem dX8_choose_39 : decode cX8_choose 39 = .ok (.iconst 1, 1) := by decide +kernel
theorem dX8_choose_40 : decode cX8_choose 40 = .ok (.iand, 1) := by decide +kernel
theorem dX8_choose_41 : decode cX8_choose 41 = .ok (.ifCond .ne 6, 3) := by decide +kernel
theorem dX8_choose_44 : decode cX8_choose 44 = .ok (.goto 34, 3) := by decide +kernel
theorem dX8_choose_47 : decode cX8_choose 47 = .ok (.aload_n 0, 1) := by decide +kernel
theorem dX8_choose_48 : decode cX8_choose 48 = .ok (.getfield 9, 3) := by decide +kernel
theorem dX8_choose_51 : decode cX8_choose 51 = .ok (.aload_n 0, 1) := by decide +kernel
theorem dX8_choose_52 : decode cX8_choose 52 = .ok (.getfield 28, 3) := by decide +kernel
theorem dX8_choose_55 : decode cX8_choose 55 = .ok (.iload_n 3, 1) := by decide +kernel
theorem dX8_choose_56 : decode cX8_choose 56 = .ok (.iastore, 1) := by decide +kernel
theorem dX8_choose_57 : decode cX8_choose 57 = .ok (.aload_n 0, 1) := by decide +kernel
theorem dX8_choose_58 : decode cX8_choose 58 = .ok (.dup, 1) := by decide +kernel
theorem dX8_choose_59 : decode cX8_choose 59 = .ok (.getfield 28, 3) := by decide +kernel
theorem dX8_choose_62 : decode cX8_choose 62 = .ok (.iconst 1, 1) := by decide +kernel
theorem dX8_choose_63 : decode cX8_choose 63 = .ok (.iadd, 1) := by decide +kernel
theorem dX8_choose_64 : decode cX8_choose 64 = .ok (.putfield 28, 3) := by decide +kernel
theorem dX8_choose_67 : decode cX8_choose 67 = .ok (.aload_n 0, 1) := by decide +kernel
theorem dX8_choose_68 : decode cX8_choose 68 = .ok (.dup, 1) := by decide +kernel
theorem dX8_choose_69 : decode cX8_choose 69 = .ok (.getfield 31, 3) := by decide +kernel
theorem dX8_choose_72 : decode cX8_choose 72 = .ok (.bipush 9, 2) := by decide +kernel
theorem dX8_choose_74 : decode cX8_choose 74 = .ok (.imul, 1) := by decide +kernel
theorem dX8_choose_75 : decode cX8_choose 75 = .ok (.putfield 31, 3) := by decide +kernel
theorem dX8_choose_78 : decode cX8_choose 78 = .ok (.iinc 3 1, 3) := by decide +kernel
theorem dX8_choose_81 : decode cX8_choose 81 = .ok (.goto (-58), 3) := by decide +kernel
theorem dX8_choose_84 : decode cX8_choose 84 = .ok (.return_, 1) := by decide +kernel
theorem dX8_costOf_0 : decode cX8_costOf 0 = .ok (.aload_n 1, 1) := by decide +kernel
theorem dX8_costOf_1 : decode cX8_costOf 1 = .ok (.getfield 34, 3) := by decide +kernel
theorem dX8_costOf_4 : decode cX8_costOf 4 = .ok (.iconst 0, 1) := by decide +kernel
theorem dX8_costOf_5 : decode cX8_costOf 5 = .ok (.iaload, 1) := by decide +kernel
theorem dX8_costOf_6 : decode cX8_costOf 6 = .ok (.istore_n 2, 1) := by decide +kernel
theorem dX8_costOf_7 : decode cX8_costOf 7 = .ok (.iconst 0, 1) := by decide +kernel
theorem dX8_costOf_8 : decode cX8_costOf 8 = .ok (.istore_n 3, 1) := by decide +kernel
theorem dX8_costOf_9 : decode cX8_costOf 9 = .ok (.iload_n 3, 1) := by decide +kernel
theorem dX8_costOf_10 : decode cX8_costOf 10 = .ok (.aload_n 0, 1) := by decide +kernel
theorem dX8_costOf_11 : decode cX8_costOf 11 = .ok (.getfield 28, 3) := by decide +kernel
theorem dX8_costOf_14 : decode cX8_costOf 14 = .ok (.if_icmp .ge 26, 3) := by decide +kernel
theorem dX8_costOf_17 : decode cX8_costOf 17 = .ok (.iload_n 2, 1) := by decide +kernel
theorem dX8_costOf_18 : decode cX8_costOf 18 = .ok (.bipush 9, 2) := by decide +kernel
theorem dX8_costOf_20 : decode cX8_costOf 20 = .ok (.imul, 1) := by decide +kernel
theorem dX8_costOf_21 : decode cX8_costOf 21 = .ok (.aload_n 1, 1) := by decide +kernel
theorem dX8_costOf_22 : decode cX8_costOf 22 = .ok (.getfield 34, 3) := by decide +kernel
theorem dX8_costOf_25 : decode cX8_costOf 25 = .ok (.aload_n 0, 1) := by decide +kernel
theorem dX8_costOf_26 : decode cX8_costOf 26 = .ok (.getfield 9, 3) := by decide +kernel
theorem dX8_costOf_29 : decode cX8_costOf 29 = .ok (.iload_n 3, 1) := by decide +kernel
theorem dX8_costOf_30 : decode cX8_costOf 30 = .ok (.iaload, 1) := by decide +kernel
theorem dX8_costOf_31 : decode cX8_costOf 31 = .ok (.iaload, 1) := by decide +kernel
theorem dX8_costOf_32 : decode cX8_costOf 32 = .ok (.iadd, 1) := by decide +kernel
theorem dX8_costOf_33 : decode cX8_costOf 33 = .ok (.istore_n 2, 1) := by decide +kernel
theorem dX8_costOf_34 : decode cX8_costOf 34 = .ok (.iinc 3 1, 3) := by decide +kernel
theorem dX8_costOf_37 : decode cX8_costOf 37 = .ok (.goto (-28), 3) := by decide +kernel
theorem dX8_costOf_40 : decode cX8_costOf 40 = .ok (.aload_n 0, 1) := by decide +kernel
theorem dX8_costOf_41 : decode cX8_costOf 41 = .ok (.getfield 15, 3) := by decide +kernel
theorem dX8_costOf_44 : decode cX8_costOf 44 = .ok (.iload_n 2, 1) := by decide +kernel
theorem dX8_costOf_45 : decode cX8_costOf 45 = .ok (.iaload, 1) := by decide +kernel
theorem dX8_costOf_46 : decode cX8_costOf 46 = .ok (.iconst (-1), 1) := by decide +kernel
theorem dX8_costOf_47 : decode cX8_costOf 47 = .ok (.if_icmp .ne 7, 3) := by decide +kernel
theorem dX8_costOf_50 : decode cX8_costOf 50 = .ok (.iconst 0, 1) := by decide +kernel
theorem dX8_costOf_51 : decode cX8_costOf 51 = .ok (.goto 9, 3) := by decide +kernel
theorem dX8_costOf_54 : decode cX8_costOf 54 = .ok (.aload_n 0, 1) := by decide +kernel
theorem dX8_costOf_55 : decode cX8_costOf 55 = .ok (.getfield 15, 3) := by decide +kernel
theorem dX8_costOf_58 : decode cX8_costOf 58 = .ok (.iload_n 2, 1) := by decide +kernel
theorem dX8_costOf_59 : decode cX8_costOf 59 = .ok (.iaload, 1) := by decide +kernel
theorem dX8_costOf_60 : decode cX8_costOf 60 = .ok (.ireturn, 1) := by decide +kernel
set_option maxRecDepth 20000 in
theorem ggX8_fill_J7_fill_53178 : GoodIn wsX8_fill wsJ7_fill_53178 := goodIn_r _ [7] (by decide +kernel) (by decide +kernel)
set_option maxRecDepth 20000 in
theorem gX8_fill_J7_fill_53178 : GoodIn wsX8_fill (va_wsS RX8 39 yJ7_fill_53178 wsJ7_fill_53178) := goodIn_app (goodIn_of _ (by decide +kernel)) ggX8_fill_J7_fill_53178
set_option maxRecDepth 20000 in
theorem ggX8_fill_X0_clear : GoodIn wsX8_fill wsX0_clear := goodIn_r _ [12, 13, 14, 15, 81, 82, 83, 84, 85] (by decide +kernel) (by decide +kernel)
set_option maxRecDepth 20000 in
theorem gX8_fill_X0_clear : GoodIn wsX8_fill (wsV RX8 45 RX0 yX0_clear wsX0_clear) := goodIn_app (goodIn_of _ (by decide +kernel)) ggX8_fill_X0_clear
set_option maxRecDepth 20000 in
theorem ggX8_fill_X8_sendHome : GoodIn wsX8_fill wsX8_sendHome := goodIn_r _ [20, 21, 22, 23, 24, 74, 75, 76, 77, 78, 79, 80, 86, 87, 88, 89] (by decide +kernel) (by decide +kernel)
set_option maxRecDepth 20000 in
theorem gX8_fill_X8_sendHome : GoodIn wsX8_fill (wsV RX8 50 RX8 yX8_sendHome wsX8_sendHome) := goodIn_app (goodIn_of _ (by decide +kernel)) ggX8_fill_X8_sendHome
set_option maxRecDepth 20000 in
theorem ggX8_fill_X8_entryFor : GoodIn wsX8_fill wsX8_entryFor := goodIn_r _ [28, 21, 22, 74, 75, 76, 77, 78, 79, 80] (by decide +kernel) (by decide +kernel)
set_option maxRecDepth 20000 in
theorem gX8_fill_X8_entryFor : GoodIn wsX8_fill (wsV RX8 54 RX8 yX8_entryFor wsX8_entryFor) := goodIn_app (goodIn_of _ (by decide +kernel)) ggX8_fill_X8_entryFor
set_option maxRecDepth 20000 in
theorem ggX8_fill_X8_offer : GoodIn wsX8_fill wsX8_offer := goodIn_r _ [32, 1, 33, 34, 35, 11, 36, 37, 38, 14, 13, 15, 39, 40, 41, 42, 43, 44, 45, 46, 74, 75, 76, 77, 78, 79, 80, 81, 82, 83, 84, 85] (by decide +kernel) (by decide +kernel)
set_option maxRecDepth 20000 in
theorem gX8_fill_X8_offer : GoodIn wsX8_fill (wsV RX8 58 RX8 yX8_offer wsX8_offer) := goodIn_app (goodIn_of _ (by decide +kernel)) ggX8_fill_X8_offer
set_option maxRecDepth 20000 in
theorem ggX8_fill_X0_take : GoodIn wsX8_fill wsX0_take := goodIn_r _ [50, 13, 15, 14, 51, 52, 53, 11, 54, 39, 40, 41, 42, 37, 38, 43, 44, 45, 46, 81, 82, 83, 84, 85] (by decide +kernel) (by decide +kernel)
set_option maxRecDepth 20000 in
theorem gX8_fill_X0_take : GoodIn wsX8_fill (wsV RX8 62 RX0 yX0_take wsX0_take) := goodIn_app (goodIn_of _ (by decide +kernel)) ggX8_fill_X0_take
set_option maxRecDepth 20000 in
theorem ggX8_fill_X8_spread : GoodIn wsX8_fill wsX8_spread := goodIn_r _ [58, 1, 22, 59, 24, 60, 61, 62, 19, 63, 21, 64, 65, 66, 67, 68, 69, 70, 71, 72, 73, 25, 26, 27, 28, 29, 30, 31, 32, 33, 34, 35, 11, 36, 37, 38, 14, 13, 15, 39, 40, 41, 42, 43, 44, 45, 46, 74, 75, 76, 77, 78, 79, 80, 86, 87, 88, 89, 90, 91, 92, 93, 94, 95, 96, 97, 98, 99, 100, 81, 82, 83, 84, 85] (by decide +kernel) (by decide +kernel)
set_option maxRecDepth 20000 in
theorem gX8_fill_X8_spread : GoodIn wsX8_fill (wsV RX8 66 RX8 yX8_spread wsX8_spread) := goodIn_app (goodIn_of _ (by decide +kernel)) ggX8_fill_X8_spread
theorem dX8_fill_0 : decode cX8_fill 0 = .ok (.aload_n 0, 1) := by decide +kernel
theorem dX8_fill_1 : decode cX8_fill 1 = .ok (.getfield 15, 3) := by decide +kernel
theorem dX8_fill_4 : decode cX8_fill 4 = .ok (.iconst (-1), 1) := by decide +kernel
theorem dX8_fill_5 : decode cX8_fill 5 = .ok (.invokestatic 39, 3) := by decide +kernel
theorem dX8_fill_8 : decode cX8_fill 8 = .ok (.aload_n 3, 1) := by decide +kernel
theorem dX8_fill_9 : decode cX8_fill 9 = .ok (.invokevirtual 45, 3) := by decide +kernel
theorem dX8_fill_12 : decode cX8_fill 12 = .ok (.iconst 0, 1) := by decide +kernel
theorem dX8_fill_13 : decode cX8_fill 13 = .ok (.istore 4, 2) := by decide +kernel
theorem dX8_fill_15 : decode cX8_fill 15 = .ok (.iload 4, 2) := by decide +kernel
theorem dX8_fill_17 : decode cX8_fill 17 = .ok (.aload_n 0, 1) := by decide +kernel
theorem dX8_fill_18 : decode cX8_fill 18 = .ok (.getfield 25, 3) := by decide +kernel
theorem dX8_fill_21 : decode cX8_fill 21 = .ok (.if_icmp .ge 34, 3) := by decide +kernel
theorem dX8_fill_24 : decode cX8_fill 24 = .ok (.aload_n 0, 1) := by decide +kernel
theorem dX8_fill_25 : decode cX8_fill 25 = .ok (.aload_n 2, 1) := by decide +kernel
theorem dX8_fill_26 : decode cX8_fill 26 = .ok (.iload 4, 2) := by decide +kernel
theorem dX8_fill_28 : decode cX8_fill 28 = .ok (.invokevirtual 50, 3) := by decide +kernel
theorem dX8_fill_31 : decode cX8_fill 31 = .ok (.ifCond .ne 6, 3) := by decide +kernel
theorem dX8_fill_34 : decode cX8_fill 34 = .ok (.goto 15, 3) := by decide +kernel
theorem dX8_fill_37 : decode cX8_fill 37 = .ok (.aload_n 0, 1) := by decide +kernel
theorem dX8_fill_38 : decode cX8_fill 38 = .ok (.aload_n 3, 1) := by decide +kernel
theorem dX8_fill_39 : decode cX8_fill 39 = .ok (.aload_n 0, 1) := by decide +kernel
theorem dX8_fill_40 : decode cX8_fill 40 = .ok (.iload 4, 2) := by decide +kernel
theorem dX8_fill_42 : decode cX8_fill 42 = .ok (.invokevirtual 54, 3) := by decide +kernel
theorem dX8_fill_45 : decode cX8_fill 45 = .ok (.iconst 0, 1) := by decide +kernel
theorem dX8_fill_46 : decode cX8_fill 46 = .ok (.invokevirtual 58, 3) := by decide +kernel
theorem dX8_fill_49 : decode cX8_fill 49 = .ok (.iinc 4 1, 3) := by decide +kernel
theorem dX8_fill_52 : decode cX8_fill 52 = .ok (.goto (-37), 3) := by decide +kernel
theorem dX8_fill_55 : decode cX8_fill 55 = .ok (.iconst 0, 1) := by decide +kernel
theorem dX8_fill_56 : decode cX8_fill 56 = .ok (.istore 4, 2) := by decide +kernel
theorem dX8_fill_58 : decode cX8_fill 58 = .ok (.iload 4, 2) := by decide +kernel
theorem dX8_fill_60 : decode cX8_fill 60 = .ok (.aload_n 0, 1) := by decide +kernel
theorem dX8_fill_61 : decode cX8_fill 61 = .ok (.getfield 31, 3) := by decide +kernel
theorem dX8_fill_64 : decode cX8_fill 64 = .ok (.if_icmp .ge 33, 3) := by decide +kernel
theorem dX8_fill_67 : decode cX8_fill 67 = .ok (.aload_n 3, 1) := by decide +kernel
theorem dX8_fill_68 : decode cX8_fill 68 = .ok (.invokevirtual 62, 3) := by decide +kernel
theorem dX8_fill_71 : decode cX8_fill 71 = .ok (.istore 5, 2) := by decide +kernel
theorem dX8_fill_73 : decode cX8_fill 73 = .ok (.iload 5, 2) := by decide +kernel
theorem dX8_fill_75 : decode cX8_fill 75 = .ok (.iconst (-1), 1) := by decide +kernel
theorem dX8_fill_76 : decode cX8_fill 76 = .ok (.if_icmp .ne 6, 3) := by decide +kernel
theorem dX8_fill_79 : decode cX8_fill 79 = .ok (.iload 4, 2) := by decide +kernel
theorem dX8_fill_81 : decode cX8_fill 81 = .ok (.ireturn, 1) := by decide +kernel
theorem dX8_fill_82 : decode cX8_fill 82 = .ok (.aload_n 0, 1) := by decide +kernel
theorem dX8_fill_83 : decode cX8_fill 83 = .ok (.aload_n 1, 1) := by decide +kernel
theorem dX8_fill_84 : decode cX8_fill 84 = .ok (.aload_n 2, 1) := by decide +kernel
theorem dX8_fill_85 : decode cX8_fill 85 = .ok (.aload_n 3, 1) := by decide +kernel
theorem dX8_fill_86 : decode cX8_fill 86 = .ok (.iload 5, 2) := by decide +kernel
theorem dX8_fill_88 : decode cX8_fill 88 = .ok (.invokevirtual 66, 3) := by decide +kernel
theorem dX8_fill_91 : decode cX8_fill 91 = .ok (.iinc 4 1, 3) := by decide +kernel
theorem dX8_fill_94 : decode cX8_fill 94 = .ok (.goto (-36), 3) := by decide +kernel
theorem dX8_fill_97 : decode cX8_fill 97 = .ok (.aload_n 0, 1) := by decide +kernel
theorem dX8_fill_98 : decode cX8_fill 98 = .ok (.getfield 31, 3) := by decide +kernel
theorem dX8_fill_101 : decode cX8_fill 101 = .ok (.ireturn, 1) := by decide +kernel
theorem dX8_sendHome_0 : decode cX8_sendHome 0 = .ok (.iconst 0, 1) := by decide +kernel
theorem dX8_sendHome_1 : decode cX8_sendHome 1 = .ok (.istore_n 3, 1) := by decide +kernel
theorem dX8_sendHome_2 : decode cX8_sendHome 2 = .ok (.iload_n 3, 1) := by decide +kernel
theorem dX8_sendHome_3 : decode cX8_sendHome 3 = .ok (.aload_n 0, 1) := by decide +kernel
theorem dX8_sendHome_4 : decode cX8_sendHome 4 = .ok (.getfield 28, 3) := by decide +kernel
theorem dX8_sendHome_7 : decode cX8_sendHome 7 = .ok (.if_icmp .ge 38, 3) := by decide +kernel
theorem dX8_sendHome_10 : decode cX8_sendHome 10 = .ok (.aload_n 0, 1) := by decide +kernel
theorem dX8_sendHome_11 : decode cX8_sendHome 11 = .ok (.getfield 18, 3) := by decide +kernel
theorem dX8_sendHome_14 : decode cX8_sendHome 14 = .ok (.iload_n 3, 1) := by decide +kernel
theorem dX8_sendHome_15 : decode cX8_sendHome 15 = .ok (.aload_n 1, 1) := by decide +kernel
theorem dX8_sendHome_16 : decode cX8_sendHome 16 = .ok (.getfield 70, 3) := by decide +kernel
theorem dX8_sendHome_19 : decode cX8_sendHome 19 = .ok (.aload_n 0, 1) := by decide +kernel
theorem dX8_sendHome_20 : decode cX8_sendHome 20 = .ok (.getfield 9, 3) := by decide +kernel
theorem dX8_sendHome_23 : decode cX8_sendHome 23 = .ok (.iload_n 3, 1) := by decide +kernel
theorem dX8_sendHome_24 : decode cX8_sendHome 24 = .ok (.iaload, 1) := by decide +kernel
theorem dX8_sendHome_25 : decode cX8_sendHome 25 = .ok (.iaload, 1) := by decide +kernel
theorem dX8_sendHome_26 : decode cX8_sendHome 26 = .ok (.iastore, 1) := by decide +kernel
theorem dX8_sendHome_27 : decode cX8_sendHome 27 = .ok (.aload_n 0, 1) := by decide +kernel
theorem dX8_sendHome_28 : decode cX8_sendHome 28 = .ok (.getfield 18, 3) := by decide +kernel
theorem dX8_sendHome_31 : decode cX8_sendHome 31 = .ok (.iload_n 3, 1) := by decide +kernel
theorem dX8_sendHome_32 : decode cX8_sendHome 32 = .ok (.iaload, 1) := by decide +kernel
theorem dX8_sendHome_33 : decode cX8_sendHome 33 = .ok (.iload_n 2, 1) := by decide +kernel
theorem dX8_sendHome_34 : decode cX8_sendHome 34 = .ok (.if_icmp .ne 5, 3) := by decide +kernel
theorem dX8_sendHome_37 : decode cX8_sendHome 37 = .ok (.iconst 0, 1) := by decide +kernel
theorem dX8_sendHome_38 : decode cX8_sendHome 38 = .ok (.ireturn, 1) := by decide +kernel
theorem dX8_sendHome_39 : decode cX8_sendHome 39 = .ok (.iinc 3 1, 3) := by decide +kernel
theorem dX8_sendHome_42 : decode cX8_sendHome 42 = .ok (.goto (-40), 3) := by decide +kernel
theorem dX8_sendHome_45 : decode cX8_sendHome 45 = .ok (.iconst 1, 1) := by decide +kernel
theorem dX8_sendHome_46 : decode cX8_sendHome 46 = .ok (.ireturn, 1) := by decide +kernel
theorem dX8_entryFor_0 : decode cX8_entryFor 0 = .ok (.iload_n 1, 1) := by decide +kernel
theorem dX8_entryFor_1 : decode cX8_entryFor 1 = .ok (.istore_n 2, 1) := by decide +kernel
theorem dX8_entryFor_2 : decode cX8_entryFor 2 = .ok (.iconst 0, 1) := by decide +kernel
theorem dX8_entryFor_3 : decode cX8_entryFor 3 = .ok (.istore_n 3, 1) := by decide +kernel
theorem dX8_entryFor_4 : decode cX8_entryFor 4 = .ok (.iload_n 3, 1) := by decide +kernel
theorem dX8_entryFor_5 : decode cX8_entryFor 5 = .ok (.aload_n 0, 1) := by decide +kernel
theorem dX8_entryFor_6 : decode cX8_entryFor 6 = .ok (.getfield 28, 3) := by decide +kernel
theorem dX8_entryFor_9 : decode cX8_entryFor 9 = .ok (.if_icmp .ge 21, 3) := by decide +kernel
theorem dX8_entryFor_12 : decode cX8_entryFor 12 = .ok (.iload_n 2, 1) := by decide +kernel
theorem dX8_entryFor_13 : decode cX8_entryFor 13 = .ok (.bipush 9, 2) := by decide +kernel
theorem dX8_entryFor_15 : decode cX8_entryFor 15 = .ok (.imul, 1) := by decide +kernel
theorem dX8_entryFor_16 : decode cX8_entryFor 16 = .ok (.aload_n 0, 1) := by decide +kernel
theorem dX8_entryFor_17 : decode cX8_entryFor 17 = .ok (.getfield 18, 3) := by decide +kernel
theorem dX8_entryFor_20 : decode cX8_entryFor 20 = .ok (.iload_n 3, 1) := by decide +kernel
theorem dX8_entryFor_21 : decode cX8_entryFor 21 = .ok (.iaload, 1) := by decide +kernel
theorem dX8_entryFor_22 : decode cX8_entryFor 22 = .ok (.iadd, 1) := by decide +kernel
theorem dX8_entryFor_23 : decode cX8_entryFor 23 = .ok (.istore_n 2, 1) := by decide +kernel
theorem dX8_entryFor_24 : decode cX8_entryFor 24 = .ok (.iinc 3 1, 3) := by decide +kernel
theorem dX8_entryFor_27 : decode cX8_entryFor 27 = .ok (.goto (-23), 3) := by decide +kernel
theorem dX8_entryFor_30 : decode cX8_entryFor 30 = .ok (.iload_n 2, 1) := by decide +kernel
theorem dX8_entryFor_31 : decode cX8_entryFor 31 = .ok (.ireturn, 1) := by decide +kernel
theorem dX8_openEntry_0 : decode cX8_openEntry 0 = .ok (.iload_n 1, 1) := by decide +kernel
theorem dX8_openEntry_1 : decode cX8_openEntry 1 = .ok (.istore_n 2, 1) := by decide +kernel
theorem dX8_openEntry_2 : decode cX8_openEntry 2 = .ok (.aload_n 0, 1) := by decide +kernel
theorem dX8_openEntry_3 : decode cX8_openEntry 3 = .ok (.getfield 28, 3) := by decide +kernel
theorem dX8_openEntry_6 : decode cX8_openEntry 6 = .ok (.iconst 1, 1) := by decide +kernel
theorem dX8_openEntry_7 : decode cX8_openEntry 7 = .ok (.isub, 1) := by decide +kernel
theorem dX8_openEntry_8 : decode cX8_openEntry 8 = .ok (.istore_n 3, 1) := by decide +kernel
theorem dX8_openEntry_9 : decode cX8_openEntry 9 = .ok (.iload_n 3, 1) := by decide +kernel
theorem dX8_openEntry_10 : decode cX8_openEntry 10 = .ok (.ifCond .lt 24, 3) := by decide +kernel
theorem dX8_openEntry_13 : decode cX8_openEntry 13 = .ok (.aload_n 0, 1) := by decide +kernel
theorem dX8_openEntry_14 : decode cX8_openEntry 14 = .ok (.getfield 18, 3) := by decide +kernel
theorem dX8_openEntry_17 : decode cX8_openEntry 17 = .ok (.iload_n 3, 1) := by decide +kernel
theorem dX8_openEntry_18 : decode cX8_openEntry 18 = .ok (.iload_n 2, 1) := by decide +kernel
theorem dX8_openEntry_19 : decode cX8_openEntry 19 = .ok (.bipush 9, 2) := by decide +kernel
theorem dX8_openEntry_21 : decode cX8_openEntry 21 = .ok (.irem, 1) := by decide +kernel
theorem dX8_openEntry_22 : decode cX8_openEntry 22 = .ok (.iastore, 1) := by decide +kernel
theorem dX8_openEntry_23 : decode cX8_openEntry 23 = .ok (.iload_n 2, 1) := by decide +kernel
theorem dX8_openEntry_24 : decode cX8_openEntry 24 = .ok (.bipush 9, 2) := by decide +kernel
theorem dX8_openEntry_26 : decode cX8_openEntry 26 = .ok (.idiv, 1) := by decide +kernel
theorem dX8_openEntry_27 : decode cX8_openEntry 27 = .ok (.istore_n 2, 1) := by decide +kernel
theorem dX8_openEntry_28 : decode cX8_openEntry 28 = .ok (.iinc 3 (-1), 3) := by decide +kernel
theorem dX8_openEntry_31 : decode cX8_openEntry 31 = .ok (.goto (-22), 3) := by decide +kernel
theorem dX8_openEntry_34 : decode cX8_openEntry 34 = .ok (.iload_n 2, 1) := by decide +kernel
theorem dX8_openEntry_35 : decode cX8_openEntry 35 = .ok (.ireturn, 1) := by decide +kernel
set_option maxRecDepth 20000 in
theorem ggX8_spread_X8_openEntry : GoodIn wsX8_spread wsX8_openEntry := goodIn_r _ [9, 10, 2, 47, 48, 49, 50, 51, 52, 53] (by decide +kernel) (by decide +kernel)
set_option maxRecDepth 20000 in
theorem gX8_spread_X8_openEntry : GoodIn wsX8_spread (wsV RX8 75 RX8 yX8_openEntry wsX8_openEntry) := goodIn_app (goodIn_of _ (by decide +kernel)) ggX8_spread_X8_openEntry
set_option maxRecDepth 20000 in
theorem ggX8_spread_X4_besideOf : GoodIn wsX8_spread wsX4_besideOf := goodIn_r _ [15, 16, 58, 59, 60, 61, 62, 63, 64, 65, 66, 67, 68] (by decide +kernel) (by decide +kernel)
set_option maxRecDepth 20000 in
theorem gX8_spread_X4_besideOf : GoodIn wsX8_spread (wsV RX8 78 RX4 yX4_besideOf wsX4_besideOf) := goodIn_app (goodIn_of _ (by decide +kernel)) ggX8_spread_X4_besideOf
set_option maxRecDepth 20000 in
theorem ggX8_spread_X8_indexOn : GoodIn wsX8_spread wsX8_indexOn := goodIn_r _ [20, 10, 2, 47, 48, 49, 50, 51, 52, 53] (by decide +kernel) (by decide +kernel)
set_option maxRecDepth 20000 in
theorem gX8_spread_X8_indexOn : GoodIn wsX8_spread (wsV RX8 84 RX8 yX8_indexOn wsX8_indexOn) := goodIn_app (goodIn_of _ (by decide +kernel)) ggX8_spread_X8_indexOn
set_option maxRecDepth 20000 in
theorem ggX8_spread_X8_entryFor : GoodIn wsX8_spread wsX8_entryFor := goodIn_r _ [24, 10, 2, 47, 48, 49, 50, 51, 52, 53] (by decide +kernel) (by decide +kernel)
set_option maxRecDepth 20000 in
theorem gX8_spread_X8_entryFor : GoodIn wsX8_spread (wsV RX8 54 RX8 yX8_entryFor wsX8_entryFor) := goodIn_app (goodIn_of _ (by decide +kernel)) ggX8_spread_X8_entryFor
set_option maxRecDepth 20000 in
theorem ggX8_spread_X8_offer : GoodIn wsX8_spread wsX8_offer := goodIn_r _ [28, 1, 29, 30, 31, 32, 33, 34, 35, 36, 37, 38, 39, 40, 41, 42, 43, 44, 45, 46, 47, 48, 49, 50, 51, 52, 53, 69, 70, 71, 72, 73] (by decide +kernel) (by decide +kernel)
set_option maxRecDepth 20000 in
theorem gX8_spread_X8_offer : GoodIn wsX8_spread (wsV RX8 58 RX8 yX8_offer wsX8_offer) := goodIn_app (goodIn_of _ (by decide +kernel)) ggX8_spread_X8_offer
theorem dX8_spread_0 : decode cX8_spread 0 = .ok (.aload_n 0, 1) := by decide +kernel
theorem dX8_spread_1 : decode cX8_spread 1 = .ok (.iload 4, 2) := by decide +kernel
theorem dX8_spread_3 : decode cX8_spread 3 = .ok (.invokevirtual 75, 3) := by decide +kernel
theorem dX8_spread_6 : decode cX8_spread 6 = .ok (.istore 5, 2) := by decide +kernel
theorem dX8_spread_8 : decode cX8_spread 8 = .ok (.iconst 0, 1) := by decide +kernel
theorem dX8_spread_9 : decode cX8_spread 9 = .ok (.istore 6, 2) := by decide +kernel
theorem dX8_spread_11 : decode cX8_spread 11 = .ok (.iload 6, 2) := by decide +kernel
theorem dX8_spread_13 : decode cX8_spread 13 = .ok (.iconst 3, 1) := by decide +kernel
theorem dX8_spread_14 : decode cX8_spread 14 = .ok (.if_icmp .gt 112, 3) := by decide +kernel
theorem dX8_spread_17 : decode cX8_spread 17 = .ok (.aload_n 1, 1) := by decide +kernel
theorem dX8_spread_18 : decode cX8_spread 18 = .ok (.iload 5, 2) := by decide +kernel
theorem dX8_spread_20 : decode cX8_spread 20 = .ok (.iload 6, 2) := by decide +kernel
theorem dX8_spread_22 : decode cX8_spread 22 = .ok (.invokevirtual 78, 3) := by decide +kernel
theorem dX8_spread_25 : decode cX8_spread 25 = .ok (.istore 7, 2) := by decide +kernel
theorem dX8_spread_27 : decode cX8_spread 27 = .ok (.iload 7, 2) := by decide +kernel
theorem dX8_spread_29 : decode cX8_spread 29 = .ok (.iconst (-1), 1) := by decide +kernel
theorem dX8_spread_30 : decode cX8_spread 30 = .ok (.if_icmp .ne 6, 3) := by decide +kernel
theorem dX8_spread_33 : decode cX8_spread 33 = .ok (.goto 87, 3) := by decide +kernel
theorem dX8_spread_36 : decode cX8_spread 36 = .ok (.aload_n 0, 1) := by decide +kernel
theorem dX8_spread_37 : decode cX8_spread 37 = .ok (.iload 7, 2) := by decide +kernel
theorem dX8_spread_39 : decode cX8_spread 39 = .ok (.invokevirtual 84, 3) := by decide +kernel
theorem dX8_spread_42 : decode cX8_spread 42 = .ok (.istore 8, 2) := by decide +kernel
theorem dX8_spread_44 : decode cX8_spread 44 = .ok (.iload 8, 2) := by decide +kernel
theorem dX8_spread_46 : decode cX8_spread 46 = .ok (.iconst (-1), 1) := by decide +kernel
theorem dX8_spread_47 : decode cX8_spread 47 = .ok (.if_icmp .ne 24, 3) := by decide +kernel
theorem dX8_spread_50 : decode cX8_spread 50 = .ok (.aload_n 0, 1) := by decide +kernel
theorem dX8_spread_51 : decode cX8_spread 51 = .ok (.aload_n 3, 1) := by decide +kernel
theorem dX8_spread_52 : decode cX8_spread 52 = .ok (.aload_n 0, 1) := by decide +kernel
theorem dX8_spread_53 : decode cX8_spread 53 = .ok (.iload 7, 2) := by decide +kernel
theorem dX8_spread_55 : decode cX8_spread 55 = .ok (.invokevirtual 54, 3) := by decide +kernel
theorem dX8_spread_58 : decode cX8_spread 58 = .ok (.aload_n 0, 1) := by decide +kernel
theorem dX8_spread_59 : decode cX8_spread 59 = .ok (.getfield 15, 3) := by decide +kernel
theorem dX8_spread_62 : decode cX8_spread 62 = .ok (.iload 4, 2) := by decide +kernel
theorem dX8_spread_64 : decode cX8_spread 64 = .ok (.iaload, 1) := by decide +kernel
theorem dX8_spread_65 : decode cX8_spread 65 = .ok (.invokevirtual 58, 3) := by decide +kernel
theorem dX8_spread_68 : decode cX8_spread 68 = .ok (.goto 52, 3) := by decide +kernel
theorem dX8_spread_71 : decode cX8_spread 71 = .ok (.aload_n 0, 1) := by decide +kernel
theorem dX8_spread_72 : decode cX8_spread 72 = .ok (.getfield 18, 3) := by decide +kernel
theorem dX8_spread_75 : decode cX8_spread 75 = .ok (.iload 8, 2) := by decide +kernel
theorem dX8_spread_77 : decode cX8_spread 77 = .ok (.iload 5, 2) := by decide +kernel
theorem dX8_spread_79 : decode cX8_spread 79 = .ok (.iastore, 1) := by decide +kernel
theorem dX8_spread_80 : decode cX8_spread 80 = .ok (.aload_n 0, 1) := by decide +kernel
theorem dX8_spread_81 : decode cX8_spread 81 = .ok (.aload_n 3, 1) := by decide +kernel
theorem dX8_spread_82 : decode cX8_spread 82 = .ok (.aload_n 0, 1) := by decide +kernel
theorem dX8_spread_83 : decode cX8_spread 83 = .ok (.iload 7, 2) := by decide +kernel
theorem dX8_spread_85 : decode cX8_spread 85 = .ok (.invokevirtual 54, 3) := by decide +kernel
theorem dX8_spread_88 : decode cX8_spread 88 = .ok (.aload_n 0, 1) := by decide +kernel
theorem dX8_spread_89 : decode cX8_spread 89 = .ok (.getfield 15, 3) := by decide +kernel
theorem dX8_spread_92 : decode cX8_spread 92 = .ok (.iload 4, 2) := by decide +kernel
theorem dX8_spread_94 : decode cX8_spread 94 = .ok (.iaload, 1) := by decide +kernel
theorem dX8_spread_95 : decode cX8_spread 95 = .ok (.aload_n 2, 1) := by decide +kernel
theorem dX8_spread_96 : decode cX8_spread 96 = .ok (.getfield 87, 3) := by decide +kernel
theorem dX8_spread_99 : decode cX8_spread 99 = .ok (.aload_n 0, 1) := by decide +kernel
theorem dX8_spread_100 : decode cX8_spread 100 = .ok (.getfield 9, 3) := by decide +kernel
theorem dX8_spread_103 : decode cX8_spread 103 = .ok (.iload 8, 2) := by decide +kernel
theorem dX8_spread_105 : decode cX8_spread 105 = .ok (.iaload, 1) := by decide +kernel
theorem dX8_spread_106 : decode cX8_spread 106 = .ok (.iaload, 1) := by decide +kernel
theorem dX8_spread_107 : decode cX8_spread 107 = .ok (.iadd, 1) := by decide +kernel
theorem dX8_spread_108 : decode cX8_spread 108 = .ok (.invokevirtual 58, 3) := by decide +kernel
theorem dX8_spread_111 : decode cX8_spread 111 = .ok (.aload_n 0, 1) := by decide +kernel
theorem dX8_spread_112 : decode cX8_spread 112 = .ok (.getfield 18, 3) := by decide +kernel
theorem dX8_spread_115 : decode cX8_spread 115 = .ok (.iload 8, 2) := by decide +kernel
theorem dX8_spread_117 : decode cX8_spread 117 = .ok (.iload 7, 2) := by decide +kernel
theorem dX8_spread_119 : decode cX8_spread 119 = .ok (.iastore, 1) := by decide +kernel
theorem dX8_spread_120 : decode cX8_spread 120 = .ok (.iinc 6 1, 3) := by decide +kernel
theorem dX8_spread_123 : decode cX8_spread 123 = .ok (.goto (-112), 3) := by decide +kernel
theorem dX8_spread_126 : decode cX8_spread 126 = .ok (.return_, 1) := by decide +kernel
theorem dX8_indexOn_0 : decode cX8_indexOn 0 = .ok (.iconst 0, 1) := by decide +kernel
theorem dX8_indexOn_1 : decode cX8_indexOn 1 = .ok (.istore_n 2, 1) := by decide +kernel
theorem dX8_indexOn_2 : decode cX8_indexOn 2 = .ok (.iload_n 2, 1) := by decide +kernel
theorem dX8_indexOn_3 : decode cX8_indexOn 3 = .ok (.aload_n 0, 1) := by decide +kernel
theorem dX8_indexOn_4 : decode cX8_indexOn 4 = .ok (.getfield 28, 3) := by decide +kernel
theorem dX8_indexOn_7 : decode cX8_indexOn 7 = .ok (.if_icmp .ge 21, 3) := by decide +kernel
theorem dX8_indexOn_10 : decode cX8_indexOn 10 = .ok (.aload_n 0, 1) := by decide +kernel
theorem dX8_indexOn_11 : decode cX8_indexOn 11 = .ok (.getfield 18, 3) := by decide +kernel
theorem dX8_indexOn_14 : decode cX8_indexOn 14 = .ok (.iload_n 2, 1) := by decide +kernel
theorem dX8_indexOn_15 : decode cX8_indexOn 15 = .ok (.iaload, 1) := by decide +kernel
theorem dX8_indexOn_16 : decode cX8_indexOn 16 = .ok (.iload_n 1, 1) := by decide +kernel
theorem dX8_indexOn_17 : decode cX8_indexOn 17 = .ok (.if_icmp .ne 5, 3) := by decide +kernel
theorem dX8_indexOn_20 : decode cX8_indexOn 20 = .ok (.iload_n 2, 1) := by decide +kernel
theorem dX8_indexOn_21 : decode cX8_indexOn 21 = .ok (.ireturn, 1) := by decide +kernel
theorem dX8_indexOn_22 : decode cX8_indexOn 22 = .ok (.iinc 2 1, 3) := by decide +kernel
theorem dX8_indexOn_25 : decode cX8_indexOn 25 = .ok (.goto (-23), 3) := by decide +kernel
theorem dX8_indexOn_28 : decode cX8_indexOn 28 = .ok (.iconst (-1), 1) := by decide +kernel
theorem dX8_indexOn_29 : decode cX8_indexOn 29 = .ok (.ireturn, 1) := by decide +kernel
set_option maxRecDepth 20000 in
theorem ggX8_offer_X0_put : GoodIn wsX8_offer wsX0_put := goodIn_r _ [6, 7, 8, 9, 10, 11, 12, 13, 14, 5, 15, 16, 17, 18, 19, 27, 28, 29, 30, 31] (by decide +kernel) (by decide +kernel)
set_option maxRecDepth 20000 in
theorem gX8_offer_X0_put : GoodIn wsX8_offer (wsV RX8 90 RX0 yX0_put wsX0_put) := goodIn_app (goodIn_of _ (by decide +kernel)) ggX8_offer_X0_put
theorem dX8_offer_0 : decode cX8_offer 0 = .ok (.aload_n 0, 1) := by decide +kernel
theorem dX8_offer_1 : decode cX8_offer 1 = .ok (.getfield 15, 3) := by decide +kernel
theorem dX8_offer_4 : decode cX8_offer 4 = .ok (.iload_n 2, 1) := by decide +kernel
theorem dX8_offer_5 : decode cX8_offer 5 = .ok (.iaload, 1) := by decide +kernel
theorem dX8_offer_6 : decode cX8_offer 6 = .ok (.iconst (-1), 1) := by decide +kernel
theorem dX8_offer_7 : decode cX8_offer 7 = .ok (.if_icmp .eq 14, 3) := by decide +kernel
theorem dX8_offer_10 : decode cX8_offer 10 = .ok (.aload_n 0, 1) := by decide +kernel
theorem dX8_offer_11 : decode cX8_offer 11 = .ok (.getfield 15, 3) := by decide +kernel
theorem dX8_offer_14 : decode cX8_offer 14 = .ok (.iload_n 2, 1) := by decide +kernel
theorem dX8_offer_15 : decode cX8_offer 15 = .ok (.iaload, 1) := by decide +kernel
theorem dX8_offer_16 : decode cX8_offer 16 = .ok (.iload_n 3, 1) := by decide +kernel
theorem dX8_offer_17 : decode cX8_offer 17 = .ok (.if_icmp .gt 4, 3) := by decide +kernel
theorem dX8_offer_20 : decode cX8_offer 20 = .ok (.return_, 1) := by decide +kernel
theorem dX8_offer_21 : decode cX8_offer 21 = .ok (.aload_n 0, 1) := by decide +kernel
theorem dX8_offer_22 : decode cX8_offer 22 = .ok (.getfield 15, 3) := by decide +kernel
theorem dX8_offer_25 : decode cX8_offer 25 = .ok (.iload_n 2, 1) := by decide +kernel
theorem dX8_offer_26 : decode cX8_offer 26 = .ok (.iload_n 3, 1) := by decide +kernel
theorem dX8_offer_27 : decode cX8_offer 27 = .ok (.iastore, 1) := by decide +kernel
theorem dX8_offer_28 : decode cX8_offer 28 = .ok (.aload_n 1, 1) := by decide +kernel
theorem dX8_offer_29 : decode cX8_offer 29 = .ok (.iload_n 2, 1) := by decide +kernel
theorem dX8_offer_30 : decode cX8_offer 30 = .ok (.iload_n 3, 1) := by decide +kernel
theorem dX8_offer_31 : decode cX8_offer 31 = .ok (.i2l, 1) := by decide +kernel
theorem dX8_offer_32 : decode cX8_offer 32 = .ok (.iload_n 2, 1) := by decide +kernel
theorem dX8_offer_33 : decode cX8_offer 33 = .ok (.i2l, 1) := by decide +kernel
theorem dX8_offer_34 : decode cX8_offer 34 = .ok (.invokevirtual 90, 3) := by decide +kernel
theorem dX8_offer_37 : decode cX8_offer 37 = .ok (.return_, 1) := by decide +kernel
set_option maxRecDepth 20000 in
theorem ggX9_init_X4_init : GoodIn wsX9_init wsX4_init := goodIn_r _ [26, 27, 2, 3, 18, 28, 29, 30, 31, 32, 33, 34, 61, 62, 63, 64, 65, 66, 67, 68, 69, 70, 71] (by decide +kernel) (by decide +kernel)
set_option maxRecDepth 20000 in
theorem gX9_init_X4_init : GoodIn wsX9_init (wsX4_init) := ggX9_init_X4_init
set_option maxRecDepth 20000 in
theorem ggX9_init_X1_init : GoodIn wsX9_init wsX1_init := goodIn_r _ [37, 38, 2, 3, 18, 39, 40, 80, 81, 82, 83] (by decide +kernel) (by decide +kernel)
set_option maxRecDepth 20000 in
theorem gX9_init_X1_init : GoodIn wsX9_init (wsX1_init) := ggX9_init_X1_init
set_option maxRecDepth 20000 in
theorem ggX9_init_X0_init : GoodIn wsX9_init wsX0_init := goodIn_r _ [43, 44, 2, 3, 45, 46, 47, 18, 48, 49, 50, 51, 52, 53, 84, 85, 86, 87, 88] (by decide +kernel) (by decide +kernel)
set_option maxRecDepth 20000 in
theorem gX9_init_X0_init : GoodIn wsX9_init (wsX0_init) := ggX9_init_X0_init
set_option maxRecDepth 20000 in
theorem ggX9_init_X8_init : GoodIn wsX9_init wsX8_init := goodIn_r _ [56, 57, 2, 3, 18, 58, 59, 60, 89, 90, 91, 92, 93, 94, 95] (by decide +kernel) (by decide +kernel)
set_option maxRecDepth 20000 in
theorem gX9_init_X8_init : GoodIn wsX9_init (wsX8_init) := ggX9_init_X8_init
theorem dX9_init_0 : decode cX9_init 0 = .ok (.aload_n 0, 1) := by decide +kernel
theorem dX9_init_1 : decode cX9_init 1 = .ok (.invokespecial 3, 3) := by decide +kernel
theorem dX9_init_4 : decode cX9_init 4 = .ok (.aload_n 0, 1) := by decide +kernel
theorem dX9_init_5 : decode cX9_init 5 = .ok (.new 9, 3) := by decide +kernel
theorem dX9_init_8 : decode cX9_init 8 = .ok (.dup, 1) := by decide +kernel
theorem dX9_init_9 : decode cX9_init 9 = .ok (.invokespecial 11, 3) := by decide +kernel
theorem dX9_init_12 : decode cX9_init 12 = .ok (.putfield 12, 3) := by decide +kernel
theorem dX9_init_15 : decode cX9_init 15 = .ok (.aload_n 0, 1) := by decide +kernel
theorem dX9_init_16 : decode cX9_init 16 = .ok (.new 18, 3) := by decide +kernel
theorem dX9_init_19 : decode cX9_init 19 = .ok (.dup, 1) := by decide +kernel
theorem dX9_init_20 : decode cX9_init 20 = .ok (.invokespecial 20, 3) := by decide +kernel
theorem dX9_init_23 : decode cX9_init 23 = .ok (.putfield 21, 3) := by decide +kernel
theorem dX9_init_26 : decode cX9_init 26 = .ok (.aload_n 0, 1) := by decide +kernel
theorem dX9_init_27 : decode cX9_init 27 = .ok (.new 25, 3) := by decide +kernel
theorem dX9_init_30 : decode cX9_init 30 = .ok (.dup, 1) := by decide +kernel
theorem dX9_init_31 : decode cX9_init 31 = .ok (.sipush 6561, 3) := by decide +kernel
theorem dX9_init_34 : decode cX9_init 34 = .ok (.invokespecial 27, 3) := by decide +kernel
theorem dX9_init_37 : decode cX9_init 37 = .ok (.putfield 30, 3) := by decide +kernel
theorem dX9_init_40 : decode cX9_init 40 = .ok (.aload_n 0, 1) := by decide +kernel
theorem dX9_init_41 : decode cX9_init 41 = .ok (.iconst 2, 1) := by decide +kernel
theorem dX9_init_42 : decode cX9_init 42 = .ok (.anewarray 34, 3) := by decide +kernel
theorem dX9_init_45 : decode cX9_init 45 = .ok (.putfield 36, 3) := by decide +kernel
theorem dX9_init_48 : decode cX9_init 48 = .ok (.aload_n 0, 1) := by decide +kernel
theorem dX9_init_49 : decode cX9_init 49 = .ok (.iconst 4, 1) := by decide +kernel
theorem dX9_init_50 : decode cX9_init 50 = .ok (.newarray .int, 2) := by decide +kernel
theorem dX9_init_52 : decode cX9_init 52 = .ok (.putfield 40, 3) := by decide +kernel
theorem dX9_init_55 : decode cX9_init 55 = .ok (.aload_n 0, 1) := by decide +kernel
theorem dX9_init_56 : decode cX9_init 56 = .ok (.iconst 4, 1) := by decide +kernel
theorem dX9_init_57 : decode cX9_init 57 = .ok (.newarray .int, 2) := by decide +kernel
theorem dX9_init_59 : decode cX9_init 59 = .ok (.putfield 44, 3) := by decide +kernel
theorem dX9_init_62 : decode cX9_init 62 = .ok (.aload_n 0, 1) := by decide +kernel
theorem dX9_init_63 : decode cX9_init 63 = .ok (.iconst 4, 1) := by decide +kernel
theorem dX9_init_64 : decode cX9_init 64 = .ok (.newarray .int, 2) := by decide +kernel
theorem dX9_init_66 : decode cX9_init 66 = .ok (.putfield 47, 3) := by decide +kernel
theorem dX9_init_69 : decode cX9_init 69 = .ok (.iconst 0, 1) := by decide +kernel
theorem dX9_init_70 : decode cX9_init 70 = .ok (.istore_n 1, 1) := by decide +kernel
theorem dX9_init_71 : decode cX9_init 71 = .ok (.iload_n 1, 1) := by decide +kernel
theorem dX9_init_72 : decode cX9_init 72 = .ok (.iconst 2, 1) := by decide +kernel
theorem dX9_init_73 : decode cX9_init 73 = .ok (.if_icmp .ge 22, 3) := by decide +kernel
theorem dX9_init_76 : decode cX9_init 76 = .ok (.aload_n 0, 1) := by decide +kernel
theorem dX9_init_77 : decode cX9_init 77 = .ok (.getfield 36, 3) := by decide +kernel
theorem dX9_init_80 : decode cX9_init 80 = .ok (.iload_n 1, 1) := by decide +kernel
theorem dX9_init_81 : decode cX9_init 81 = .ok (.new 34, 3) := by decide +kernel
theorem dX9_init_84 : decode cX9_init 84 = .ok (.dup, 1) := by decide +kernel
theorem dX9_init_85 : decode cX9_init 85 = .ok (.invokespecial 50, 3) := by decide +kernel
theorem dX9_init_88 : decode cX9_init 88 = .ok (.aastore, 1) := by decide +kernel
theorem dX9_init_89 : decode cX9_init 89 = .ok (.iinc 1 1, 3) := by decide +kernel
theorem dX9_init_92 : decode cX9_init 92 = .ok (.goto (-21), 3) := by decide +kernel
theorem dX9_init_95 : decode cX9_init 95 = .ok (.return_, 1) := by decide +kernel
theorem dX9_dropParts_0 : decode cX9_dropParts 0 = .ok (.aload_n 0, 1) := by decide +kernel
theorem dX9_dropParts_1 : decode cX9_dropParts 1 = .ok (.iconst 0, 1) := by decide +kernel
theorem dX9_dropParts_2 : decode cX9_dropParts 2 = .ok (.putfield 51, 3) := by decide +kernel
theorem dX9_dropParts_5 : decode cX9_dropParts 5 = .ok (.return_, 1) := by decide +kernel
set_option maxRecDepth 20000 in
theorem ggX9_boundTiles_X1_frees : GoodIn wsX9_boundTiles wsX1_frees := goodIn_r _ [8, 9, 29, 30, 31, 32] (by decide +kernel) (by decide +kernel)
set_option maxRecDepth 20000 in
theorem gX9_boundTiles_X1_frees : GoodIn wsX9_boundTiles (wsV RX9 58 RX1 yX1_frees wsX1_frees) := goodIn_app (goodIn_of _ (by decide +kernel)) ggX9_boundTiles_X1_frees
theorem dX9_boundTiles_0 : decode cX9_boundTiles 0 = .ok (.iconst 0, 1) := by decide +kernel
theorem dX9_boundTiles_1 : decode cX9_boundTiles 1 = .ok (.istore_n 1, 1) := by decide +kernel
theorem dX9_boundTiles_2 : decode cX9_boundTiles 2 = .ok (.iconst 1, 1) := by decide +kernel
theorem dX9_boundTiles_3 : decode cX9_boundTiles 3 = .ok (.istore_n 2, 1) := by decide +kernel
theorem dX9_boundTiles_4 : decode cX9_boundTiles 4 = .ok (.iload_n 2, 1) := by decide +kernel
theorem dX9_boundTiles_5 : decode cX9_boundTiles 5 = .ok (.aload_n 0, 1) := by decide +kernel
theorem dX9_boundTiles_6 : decode cX9_boundTiles 6 = .ok (.getfield 12, 3) := by decide +kernel
theorem dX9_boundTiles_9 : decode cX9_boundTiles 9 = .ok (.getfield 55, 3) := by decide +kernel
theorem dX9_boundTiles_12 : decode cX9_boundTiles 12 = .ok (.if_icmp .ge 26, 3) := by decide +kernel
theorem dX9_boundTiles_15 : decode cX9_boundTiles 15 = .ok (.aload_n 0, 1) := by decide +kernel
theorem dX9_boundTiles_16 : decode cX9_boundTiles 16 = .ok (.getfield 21, 3) := by decide +kernel
theorem dX9_boundTiles_19 : decode cX9_boundTiles 19 = .ok (.iload_n 2, 1) := by decide +kernel
theorem dX9_boundTiles_20 : decode cX9_boundTiles 20 = .ok (.invokevirtual 58, 3) := by decide +kernel
theorem dX9_boundTiles_23 : decode cX9_boundTiles 23 = .ok (.ifCond .ne 9, 3) := by decide +kernel
theorem dX9_boundTiles_26 : decode cX9_boundTiles 26 = .ok (.iload_n 1, 1) := by decide +kernel
theorem dX9_boundTiles_27 : decode cX9_boundTiles 27 = .ok (.iconst 1, 1) := by decide +kernel
theorem dX9_boundTiles_28 : decode cX9_boundTiles 28 = .ok (.iload_n 2, 1) := by decide +kernel
theorem dX9_boundTiles_29 : decode cX9_boundTiles 29 = .ok (.ishl, 1) := by decide +kernel
theorem dX9_boundTiles_30 : decode cX9_boundTiles 30 = .ok (.ior, 1) := by decide +kernel
theorem dX9_boundTiles_31 : decode cX9_boundTiles 31 = .ok (.istore_n 1, 1) := by decide +kernel
theorem dX9_boundTiles_32 : decode cX9_boundTiles 32 = .ok (.iinc 2 1, 3) := by decide +kernel
theorem dX9_boundTiles_35 : decode cX9_boundTiles 35 = .ok (.goto (-31), 3) := by decide +kernel
theorem dX9_boundTiles_38 : decode cX9_boundTiles 38 = .ok (.iload_n 1, 1) := by decide +kernel
theorem dX9_boundTiles_39 : decode cX9_boundTiles 39 = .ok (.ireturn, 1) := by decide +kernel
theorem dX9_hasRoomFor_0 : decode cX9_hasRoomFor 0 = .ok (.aload_n 0, 1) := by decide +kernel
theorem dX9_hasRoomFor_1 : decode cX9_hasRoomFor 1 = .ok (.getfield 51, 3) := by decide +kernel
theorem dX9_hasRoomFor_4 : decode cX9_hasRoomFor 4 = .ok (.iconst 2, 1) := by decide +kernel
theorem dX9_hasRoomFor_5 : decode cX9_hasRoomFor 5 = .ok (.if_icmp .ge 15, 3) := by decide +kernel
theorem dX9_hasRoomFor_8 : decode cX9_hasRoomFor 8 = .ok (.aload_n 0, 1) := by decide +kernel
theorem dX9_hasRoomFor_9 : decode cX9_hasRoomFor 9 = .ok (.getfield 12, 3) := by decide +kernel
theorem dX9_hasRoomFor_12 : decode cX9_hasRoomFor 12 = .ok (.getfield 55, 3) := by decide +kernel
theorem dX9_hasRoomFor_15 : decode cX9_hasRoomFor 15 = .ok (.bipush 9, 2) := by decide +kernel
theorem dX9_hasRoomFor_17 : decode cX9_hasRoomFor 17 = .ok (.if_icmp .le 5, 3) := by decide +kernel
theorem dX9_hasRoomFor_20 : decode cX9_hasRoomFor 20 = .ok (.iconst 0, 1) := by decide +kernel
theorem dX9_hasRoomFor_21 : decode cX9_hasRoomFor 21 = .ok (.ireturn, 1) := by decide +kernel
theorem dX9_hasRoomFor_22 : decode cX9_hasRoomFor 22 = .ok (.iconst 0, 1) := by decide +kernel
theorem dX9_hasRoomFor_23 : decode cX9_hasRoomFor 23 = .ok (.istore_n 2, 1) := by decide +kernel
theorem dX9_hasRoomFor_24 : decode cX9_hasRoomFor 24 = .ok (.iload_n 2, 1) := by decide +kernel
theorem dX9_hasRoomFor_25 : decode cX9_hasRoomFor 25 = .ok (.aload_n 0, 1) := by decide +kernel
theorem dX9_hasRoomFor_26 : decode cX9_hasRoomFor 26 = .ok (.getfield 51, 3) := by decide +kernel
theorem dX9_hasRoomFor_29 : decode cX9_hasRoomFor 29 = .ok (.if_icmp .ge 25, 3) := by decide +kernel
theorem dX9_hasRoomFor_32 : decode cX9_hasRoomFor 32 = .ok (.aload_n 0, 1) := by decide +kernel
theorem dX9_hasRoomFor_33 : decode cX9_hasRoomFor 33 = .ok (.getfield 36, 3) := by decide +kernel
theorem dX9_hasRoomFor_36 : decode cX9_hasRoomFor 36 = .ok (.iload_n 2, 1) := by decide +kernel
theorem dX9_hasRoomFor_37 : decode cX9_hasRoomFor 37 = .ok (.aaload, 1) := by decide +kernel
theorem dX9_hasRoomFor_38 : decode cX9_hasRoomFor 38 = .ok (.getfield 62, 3) := by decide +kernel
theorem dX9_hasRoomFor_41 : decode cX9_hasRoomFor 41 = .ok (.iload_n 1, 1) := by decide +kernel
theorem dX9_hasRoomFor_42 : decode cX9_hasRoomFor 42 = .ok (.iand, 1) := by decide +kernel
theorem dX9_hasRoomFor_43 : decode cX9_hasRoomFor 43 = .ok (.ifCond .eq 5, 3) := by decide +kernel
theorem dX9_hasRoomFor_46 : decode cX9_hasRoomFor 46 = .ok (.iconst 0, 1) := by decide +kernel
theorem dX9_hasRoomFor_47 : decode cX9_hasRoomFor 47 = .ok (.ireturn, 1) := by decide +kernel
theorem dX9_hasRoomFor_48 : decode cX9_hasRoomFor 48 = .ok (.iinc 2 1, 3) := by decide +kernel
theorem dX9_hasRoomFor_51 : decode cX9_hasRoomFor 51 = .ok (.goto (-27), 3) := by decide +kernel
theorem dX9_hasRoomFor_54 : decode cX9_hasRoomFor 54 = .ok (.iconst 1, 1) := by decide +kernel
theorem dX9_hasRoomFor_55 : decode cX9_hasRoomFor 55 = .ok (.ireturn, 1) := by decide +kernel
set_option maxRecDepth 20000 in
theorem ggX9_addPart_X8_choose : GoodIn wsX9_addPart wsX8_choose := goodIn_r _ [11, 12, 13, 14, 15, 16, 108, 109, 110, 111, 112, 113, 114] (by decide +kernel) (by decide +kernel)
set_option maxRecDepth 20000 in
theorem gX9_addPart_X8_choose : GoodIn wsX9_addPart (wsV RX9 65 RX8 yX8_choose wsX8_choose) := goodIn_app (goodIn_of _ (by decide +kernel)) ggX9_addPart_X8_choose
set_option maxRecDepth 20000 in
theorem ggX9_addPart_X8_fill : GoodIn wsX9_addPart wsX8_fill := goodIn_r _ [20, 21, 13, 15, 22, 23, 24, 25, 26, 27, 28, 29, 30, 31, 32, 33, 34, 35, 36, 10, 37, 14, 38, 39, 16, 40, 41, 42, 43, 44, 45, 46, 47, 48, 49, 50, 51, 52, 53, 54, 55, 56, 57, 58, 59, 60, 61, 62, 63, 64, 65, 66, 67, 68, 69, 70, 71, 72, 73, 74, 75, 76, 77, 78, 79, 80, 81, 82, 83, 84, 85, 86, 87, 88, 108, 109, 110, 111, 112, 113, 114, 115, 116, 117, 118, 119, 120, 121, 122, 123, 97, 98, 99, 100, 101, 102, 103, 104, 105, 106, 107] (by decide +kernel) (by decide +kernel)
set_option maxRecDepth 20000 in
theorem gX9_addPart_X8_fill : GoodIn wsX9_addPart (wsV RX9 69 RX8 yX8_fill wsX8_fill) := goodIn_app (goodIn_of _ (by decide +kernel)) ggX9_addPart_X8_fill
theorem dX9_addPart_0 : decode cX9_addPart 0 = .ok (.aload_n 0, 1) := by decide +kernel
theorem dX9_addPart_1 : decode cX9_addPart 1 = .ok (.getfield 36, 3) := by decide +kernel
theorem dX9_addPart_4 : decode cX9_addPart 4 = .ok (.aload_n 0, 1) := by decide +kernel
theorem dX9_addPart_5 : decode cX9_addPart 5 = .ok (.getfield 51, 3) := by decide +kernel
theorem dX9_addPart_8 : decode cX9_addPart 8 = .ok (.aaload, 1) := by decide +kernel
theorem dX9_addPart_9 : decode cX9_addPart 9 = .ok (.astore_n 2, 1) := by decide +kernel
theorem dX9_addPart_10 : decode cX9_addPart 10 = .ok (.aload_n 0, 1) := by decide +kernel
theorem dX9_addPart_11 : decode cX9_addPart 11 = .ok (.dup, 1) := by decide +kernel
theorem dX9_addPart_12 : decode cX9_addPart 12 = .ok (.getfield 51, 3) := by decide +kernel
theorem dX9_addPart_15 : decode cX9_addPart 15 = .ok (.iconst 1, 1) := by decide +kernel
theorem dX9_addPart_16 : decode cX9_addPart 16 = .ok (.iadd, 1) := by decide +kernel
theorem dX9_addPart_17 : decode cX9_addPart 17 = .ok (.putfield 51, 3) := by decide +kernel
theorem dX9_addPart_20 : decode cX9_addPart 20 = .ok (.aload_n 2, 1) := by decide +kernel
theorem dX9_addPart_21 : decode cX9_addPart 21 = .ok (.iload_n 1, 1) := by decide +kernel
theorem dX9_addPart_22 : decode cX9_addPart 22 = .ok (.aload_n 0, 1) := by decide +kernel
theorem dX9_addPart_23 : decode cX9_addPart 23 = .ok (.getfield 12, 3) := by decide +kernel
theorem dX9_addPart_26 : decode cX9_addPart 26 = .ok (.getfield 55, 3) := by decide +kernel
theorem dX9_addPart_29 : decode cX9_addPart 29 = .ok (.invokevirtual 65, 3) := by decide +kernel
theorem dX9_addPart_32 : decode cX9_addPart 32 = .ok (.aload_n 2, 1) := by decide +kernel
theorem dX9_addPart_33 : decode cX9_addPart 33 = .ok (.aload_n 0, 1) := by decide +kernel
theorem dX9_addPart_34 : decode cX9_addPart 34 = .ok (.getfield 12, 3) := by decide +kernel
theorem dX9_addPart_37 : decode cX9_addPart 37 = .ok (.aload_n 0, 1) := by decide +kernel
theorem dX9_addPart_38 : decode cX9_addPart 38 = .ok (.getfield 21, 3) := by decide +kernel
theorem dX9_addPart_41 : decode cX9_addPart 41 = .ok (.aload_n 0, 1) := by decide +kernel
theorem dX9_addPart_42 : decode cX9_addPart 42 = .ok (.getfield 30, 3) := by decide +kernel
theorem dX9_addPart_45 : decode cX9_addPart 45 = .ok (.invokevirtual 69, 3) := by decide +kernel
theorem dX9_addPart_48 : decode cX9_addPart 48 = .ok (.ireturn, 1) := by decide +kernel
set_option maxRecDepth 20000 in
theorem ggX9_guess_X9_displaced : GoodIn wsX9_guess wsX9_displaced := goodIn_r _ [5, 6, 7, 8, 9, 10, 11, 12, 13, 14, 15, 16, 17, 18, 19, 20, 21, 80, 81, 82, 83, 84, 85, 86, 87, 88, 89, 90, 91, 92, 93, 94, 95, 96, 97, 98, 99, 100, 101, 102, 103, 104, 105, 106] (by decide +kernel) (by decide +kernel)
set_option maxRecDepth 20000 in
theorem gX9_guess_X9_displaced : GoodIn wsX9_guess (wsV RX9 73 RX9 yX9_displaced wsX9_displaced) := goodIn_app (goodIn_of _ (by decide +kernel)) ggX9_guess_X9_displaced
set_option maxRecDepth 20000 in
theorem ggX9_guess_X9_distances : GoodIn wsX9_guess wsX9_distances := goodIn_r _ [25, 6, 7, 8, 9, 26, 27, 10, 11, 12, 13, 14, 15, 28, 29, 30, 31, 32, 33, 80, 81, 82, 83, 84, 85, 86, 87, 88, 89, 90, 91, 92, 93, 94, 95, 96, 97, 98, 99, 100, 101, 102, 103, 104, 105, 106] (by decide +kernel) (by decide +kernel)
set_option maxRecDepth 20000 in
theorem gX9_guess_X9_distances : GoodIn wsX9_guess (wsV RX9 77 RX9 yX9_distances wsX9_distances) := goodIn_app (goodIn_of _ (by decide +kernel)) ggX9_guess_X9_distances
set_option maxRecDepth 20000 in
theorem ggX9_guess_X9_detours : GoodIn wsX9_guess wsX9_detours := goodIn_r _ [37, 38, 39, 40, 4, 41, 6, 42, 43, 8, 27, 44, 9, 45, 46, 47, 48, 49, 31, 50, 51, 10, 11, 12, 13, 14, 15, 52, 53, 54, 55, 56, 57, 58, 59, 60, 61, 62, 63, 64, 80, 81, 82, 83, 84, 85, 86, 87, 88, 89, 90, 91, 92, 93, 94, 95, 96, 97, 98, 103, 104, 105, 106, 99, 100, 101, 102] (by decide +kernel) (by decide +kernel)
set_option maxRecDepth 20000 in
theorem gX9_guess_X9_detours : GoodIn wsX9_guess (wsV RX9 80 RX9 yX9_detours wsX9_detours) := goodIn_app (goodIn_of _ (by decide +kernel)) ggX9_guess_X9_detours
set_option maxRecDepth 20000 in
theorem ggX9_guess_X9_inParts : GoodIn wsX9_guess wsX9_inParts := goodIn_r _ [68, 69, 70, 71, 72, 73, 74, 75, 76, 77, 78, 79, 80, 81, 82, 83, 84, 85, 86, 87, 103, 104, 105, 106, 107, 108, 109, 110, 111, 112, 113] (by decide +kernel) (by decide +kernel)
set_option maxRecDepth 20000 in
theorem gX9_guess_X9_inParts : GoodIn wsX9_guess (wsV RX9 83 RX9 yX9_inParts wsX9_inParts) := goodIn_app (goodIn_of _ (by decide +kernel)) ggX9_guess_X9_inParts
theorem dX9_guess_0 : decode cX9_guess 0 = .ok (.iload_n 2, 1) := by decide +kernel
theorem dX9_guess_1 : decode cX9_guess 1 = .ok (.tableswitch 63 1 4 #[31, 37, 43, 57], 31) := by decide +kernel
theorem dX9_guess_32 : decode cX9_guess 32 = .ok (.aload_n 0, 1) := by decide +kernel
theorem dX9_guess_33 : decode cX9_guess 33 = .ok (.aload_n 1, 1) := by decide +kernel
theorem dX9_guess_34 : decode cX9_guess 34 = .ok (.invokevirtual 73, 3) := by decide +kernel
theorem dX9_guess_37 : decode cX9_guess 37 = .ok (.ireturn, 1) := by decide +kernel
theorem dX9_guess_38 : decode cX9_guess 38 = .ok (.aload_n 0, 1) := by decide +kernel
theorem dX9_guess_39 : decode cX9_guess 39 = .ok (.aload_n 1, 1) := by decide +kernel
theorem dX9_guess_40 : decode cX9_guess 40 = .ok (.invokevirtual 77, 3) := by decide +kernel
theorem dX9_guess_43 : decode cX9_guess 43 = .ok (.ireturn, 1) := by decide +kernel
theorem dX9_guess_44 : decode cX9_guess 44 = .ok (.aload_n 0, 1) := by decide +kernel
theorem dX9_guess_45 : decode cX9_guess 45 = .ok (.aload_n 1, 1) := by decide +kernel
theorem dX9_guess_46 : decode cX9_guess 46 = .ok (.invokevirtual 77, 3) := by decide +kernel
theorem dX9_guess_49 : decode cX9_guess 49 = .ok (.iconst 2, 1) := by decide +kernel
theorem dX9_guess_50 : decode cX9_guess 50 = .ok (.aload_n 0, 1) := by decide +kernel
theorem dX9_guess_51 : decode cX9_guess 51 = .ok (.aload_n 1, 1) := by decide +kernel
theorem dX9_guess_52 : decode cX9_guess 52 = .ok (.invokevirtual 80, 3) := by decide +kernel
theorem dX9_guess_55 : decode cX9_guess 55 = .ok (.imul, 1) := by decide +kernel
theorem dX9_guess_56 : decode cX9_guess 56 = .ok (.iadd, 1) := by decide +kernel
theorem dX9_guess_57 : decode cX9_guess 57 = .ok (.ireturn, 1) := by decide +kernel
theorem dX9_guess_58 : decode cX9_guess 58 = .ok (.aload_n 0, 1) := by decide +kernel
theorem dX9_guess_59 : decode cX9_guess 59 = .ok (.aload_n 1, 1) := by decide +kernel
theorem dX9_guess_60 : decode cX9_guess 60 = .ok (.invokevirtual 83, 3) := by decide +kernel
theorem dX9_guess_63 : decode cX9_guess 63 = .ok (.ireturn, 1) := by decide +kernel
theorem dX9_guess_64 : decode cX9_guess 64 = .ok (.iconst 0, 1) := by decide +kernel
theorem dX9_guess_65 : decode cX9_guess 65 = .ok (.ireturn, 1) := by decide +kernel
set_option maxRecDepth 20000 in
theorem ggX9_displaced_X1_frees : GoodIn wsX9_displaced wsX1_frees := goodIn_r _ [9, 10, 36, 37, 38, 39] (by decide +kernel) (by decide +kernel)
set_option maxRecDepth 20000 in
theorem gX9_displaced_X1_frees : GoodIn wsX9_displaced (wsV RX9 58 RX1 yX1_frees wsX1_frees) := goodIn_app (goodIn_of _ (by decide +kernel)) ggX9_displaced_X1_frees
set_option maxRecDepth 20000 in
theorem ggX9_displaced_X1_isHome : GoodIn wsX9_displaced wsX1_isHome := goodIn_r _ [14, 15, 16, 40, 41, 42, 43, 36, 37, 38, 39] (by decide +kernel) (by decide +kernel)
set_option maxRecDepth 20000 in
theorem gX9_displaced_X1_isHome : GoodIn wsX9_displaced (wsV RX9 86 RX1 yX1_isHome wsX1_isHome) := goodIn_app (goodIn_of _ (by decide +kernel)) ggX9_displaced_X1_isHome
theorem dX9_displaced_0 : decode cX9_displaced 0 = .ok (.iconst 0, 1) := by decide +kernel
theorem dX9_displaced_1 : decode cX9_displaced 1 = .ok (.istore_n 2, 1) := by decide +kernel
theorem dX9_displaced_2 : decode cX9_displaced 2 = .ok (.iconst 1, 1) := by decide +kernel
theorem dX9_displaced_3 : decode cX9_displaced 3 = .ok (.istore_n 3, 1) := by decide +kernel
theorem dX9_displaced_4 : decode cX9_displaced 4 = .ok (.iload_n 3, 1) := by decide +kernel
theorem dX9_displaced_5 : decode cX9_displaced 5 = .ok (.aload_n 0, 1) := by decide +kernel
theorem dX9_displaced_6 : decode cX9_displaced 6 = .ok (.getfield 12, 3) := by decide +kernel
theorem dX9_displaced_9 : decode cX9_displaced 9 = .ok (.getfield 55, 3) := by decide +kernel
theorem dX9_displaced_12 : decode cX9_displaced 12 = .ok (.if_icmp .ge 44, 3) := by decide +kernel
theorem dX9_displaced_15 : decode cX9_displaced 15 = .ok (.aload_n 0, 1) := by decide +kernel
theorem dX9_displaced_16 : decode cX9_displaced 16 = .ok (.getfield 21, 3) := by decide +kernel
theorem dX9_displaced_19 : decode cX9_displaced 19 = .ok (.iload_n 3, 1) := by decide +kernel
theorem dX9_displaced_20 : decode cX9_displaced 20 = .ok (.invokevirtual 58, 3) := by decide +kernel
theorem dX9_displaced_23 : decode cX9_displaced 23 = .ok (.ifCond .ne 27, 3) := by decide +kernel
theorem dX9_displaced_26 : decode cX9_displaced 26 = .ok (.aload_n 0, 1) := by decide +kernel
theorem dX9_displaced_27 : decode cX9_displaced 27 = .ok (.getfield 21, 3) := by decide +kernel
theorem dX9_displaced_30 : decode cX9_displaced 30 = .ok (.aload_n 1, 1) := by decide +kernel
theorem dX9_displaced_31 : decode cX9_displaced 31 = .ok (.iload_n 3, 1) := by decide +kernel
theorem dX9_displaced_32 : decode cX9_displaced 32 = .ok (.invokevirtual 86, 3) := by decide +kernel
theorem dX9_displaced_35 : decode cX9_displaced 35 = .ok (.ifCond .ne 15, 3) := by decide +kernel
theorem dX9_displaced_38 : decode cX9_displaced 38 = .ok (.iload_n 2, 1) := by decide +kernel
theorem dX9_displaced_39 : decode cX9_displaced 39 = .ok (.aload_n 0, 1) := by decide +kernel
theorem dX9_displaced_40 : decode cX9_displaced 40 = .ok (.getfield 21, 3) := by decide +kernel
theorem dX9_displaced_43 : decode cX9_displaced 43 = .ok (.getfield 90, 3) := by decide +kernel
theorem dX9_displaced_46 : decode cX9_displaced 46 = .ok (.iload_n 3, 1) := by decide +kernel
theorem dX9_displaced_47 : decode cX9_displaced 47 = .ok (.iaload, 1) := by decide +kernel
theorem dX9_displaced_48 : decode cX9_displaced 48 = .ok (.iadd, 1) := by decide +kernel
theorem dX9_displaced_49 : decode cX9_displaced 49 = .ok (.istore_n 2, 1) := by decide +kernel
theorem dX9_displaced_50 : decode cX9_displaced 50 = .ok (.iinc 3 1, 3) := by decide +kernel
theorem dX9_displaced_53 : decode cX9_displaced 53 = .ok (.goto (-49), 3) := by decide +kernel
theorem dX9_displaced_56 : decode cX9_displaced 56 = .ok (.iload_n 2, 1) := by decide +kernel
theorem dX9_displaced_57 : decode cX9_displaced 57 = .ok (.ireturn, 1) := by decide +kernel
set_option maxRecDepth 20000 in
theorem ggX9_distances_X1_frees : GoodIn wsX9_distances wsX1_frees := goodIn_r _ [11, 12, 38, 39, 40, 41] (by decide +kernel) (by decide +kernel)
set_option maxRecDepth 20000 in
theorem gX9_distances_X1_frees : GoodIn wsX9_distances (wsV RX9 58 RX1 yX1_frees wsX1_frees) := goodIn_app (goodIn_of _ (by decide +kernel)) ggX9_distances_X1_frees
set_option maxRecDepth 20000 in
theorem ggX9_distances_X4_stepsBetween : GoodIn wsX9_distances wsX4_stepsBetween := goodIn_r _ [17, 18, 27, 28, 29, 30, 31, 32, 33, 34, 35, 36, 37] (by decide +kernel) (by decide +kernel)
set_option maxRecDepth 20000 in
theorem gX9_distances_X4_stepsBetween : GoodIn wsX9_distances (wsV RX9 101 RX4 yX4_stepsBetween wsX4_stepsBetween) := goodIn_app (goodIn_of _ (by decide +kernel)) ggX9_distances_X4_stepsBetween
theorem dX9_distances_0 : decode cX9_distances 0 = .ok (.iconst 0, 1) := by decide +kernel
theorem dX9_distances_1 : decode cX9_distances 1 = .ok (.istore_n 2, 1) := by decide +kernel
theorem dX9_distances_2 : decode cX9_distances 2 = .ok (.iconst 1, 1) := by decide +kernel
theorem dX9_distances_3 : decode cX9_distances 3 = .ok (.istore_n 3, 1) := by decide +kernel
theorem dX9_distances_4 : decode cX9_distances 4 = .ok (.iload_n 3, 1) := by decide +kernel
theorem dX9_distances_5 : decode cX9_distances 5 = .ok (.aload_n 0, 1) := by decide +kernel
theorem dX9_distances_6 : decode cX9_distances 6 = .ok (.getfield 12, 3) := by decide +kernel
theorem dX9_distances_9 : decode cX9_distances 9 = .ok (.getfield 55, 3) := by decide +kernel
theorem dX9_distances_12 : decode cX9_distances 12 = .ok (.if_icmp .ge 58, 3) := by decide +kernel
theorem dX9_distances_15 : decode cX9_distances 15 = .ok (.aload_n 0, 1) := by decide +kernel
theorem dX9_distances_16 : decode cX9_distances 16 = .ok (.getfield 21, 3) := by decide +kernel
theorem dX9_distances_19 : decode cX9_distances 19 = .ok (.iload_n 3, 1) := by decide +kernel
theorem dX9_distances_20 : decode cX9_distances 20 = .ok (.invokevirtual 58, 3) := by decide +kernel
theorem dX9_distances_23 : decode cX9_distances 23 = .ok (.ifCond .eq 6, 3) := by decide +kernel
theorem dX9_distances_26 : decode cX9_distances 26 = .ok (.goto 38, 3) := by decide +kernel
theorem dX9_distances_29 : decode cX9_distances 29 = .ok (.iload_n 2, 1) := by decide +kernel
theorem dX9_distances_30 : decode cX9_distances 30 = .ok (.aload_n 0, 1) := by decide +kernel
theorem dX9_distances_31 : decode cX9_distances 31 = .ok (.getfield 21, 3) := by decide +kernel
theorem dX9_distances_34 : decode cX9_distances 34 = .ok (.getfield 90, 3) := by decide +kernel
theorem dX9_distances_37 : decode cX9_distances 37 = .ok (.iload_n 3, 1) := by decide +kernel
theorem dX9_distances_38 : decode cX9_distances 38 = .ok (.iaload, 1) := by decide +kernel
theorem dX9_distances_39 : decode cX9_distances 39 = .ok (.aload_n 0, 1) := by decide +kernel
theorem dX9_distances_40 : decode cX9_distances 40 = .ok (.getfield 12, 3) := by decide +kernel
theorem dX9_distances_43 : decode cX9_distances 43 = .ok (.aload_n 1, 1) := by decide +kernel
theorem dX9_distances_44 : decode cX9_distances 44 = .ok (.getfield 93, 3) := by decide +kernel
theorem dX9_distances_47 : decode cX9_distances 47 = .ok (.iload_n 3, 1) := by decide +kernel
theorem dX9_distances_48 : decode cX9_distances 48 = .ok (.iaload, 1) := by decide +kernel
theorem dX9_distances_49 : decode cX9_distances 49 = .ok (.aload_n 0, 1) := by decide +kernel
theorem dX9_distances_50 : decode cX9_distances 50 = .ok (.getfield 21, 3) := by decide +kernel
theorem dX9_distances_53 : decode cX9_distances 53 = .ok (.getfield 98, 3) := by decide +kernel
theorem dX9_distances_56 : decode cX9_distances 56 = .ok (.iload_n 3, 1) := by decide +kernel
theorem dX9_distances_57 : decode cX9_distances 57 = .ok (.iaload, 1) := by decide +kernel
theorem dX9_distances_58 : decode cX9_distances 58 = .ok (.invokevirtual 101, 3) := by decide +kernel
theorem dX9_distances_61 : decode cX9_distances 61 = .ok (.imul, 1) := by decide +kernel
theorem dX9_distances_62 : decode cX9_distances 62 = .ok (.iadd, 1) := by decide +kernel
theorem dX9_distances_63 : decode cX9_distances 63 = .ok (.istore_n 2, 1) := by decide +kernel
theorem dX9_distances_64 : decode cX9_distances 64 = .ok (.iinc 3 1, 3) := by decide +kernel
theorem dX9_distances_67 : decode cX9_distances 67 = .ok (.goto (-63), 3) := by decide +kernel
theorem dX9_distances_70 : decode cX9_distances 70 = .ok (.iload_n 2, 1) := by decide +kernel
theorem dX9_distances_71 : decode cX9_distances 71 = .ok (.ireturn, 1) := by decide +kernel
set_option maxRecDepth 20000 in
theorem ggX9_inParts_X8_costOf : GoodIn wsX9_inParts wsX8_costOf := goodIn_r _ [7, 8, 9, 10, 11, 20, 21, 22, 23, 24, 25, 26, 27, 28, 29, 30] (by decide +kernel) (by decide +kernel)
set_option maxRecDepth 20000 in
theorem gX9_inParts_X8_costOf : GoodIn wsX9_inParts (wsV RX9 105 RX8 yX8_costOf wsX8_costOf) := goodIn_app (goodIn_of _ (by decide +kernel)) ggX9_inParts_X8_costOf
theorem dX9_inParts_0 : decode cX9_inParts 0 = .ok (.iconst 0, 1) := by decide +kernel
theorem dX9_inParts_1 : decode cX9_inParts 1 = .ok (.istore_n 2, 1) := by decide +kernel
theorem dX9_inParts_2 : decode cX9_inParts 2 = .ok (.iconst 0, 1) := by decide +kernel
theorem dX9_inParts_3 : decode cX9_inParts 3 = .ok (.istore_n 3, 1) := by decide +kernel
theorem dX9_inParts_4 : decode cX9_inParts 4 = .ok (.iload_n 3, 1) := by decide +kernel
theorem dX9_inParts_5 : decode cX9_inParts 5 = .ok (.aload_n 0, 1) := by decide +kernel
theorem dX9_inParts_6 : decode cX9_inParts 6 = .ok (.getfield 51, 3) := by decide +kernel
theorem dX9_inParts_9 : decode cX9_inParts 9 = .ok (.if_icmp .ge 22, 3) := by decide +kernel
theorem dX9_inParts_12 : decode cX9_inParts 12 = .ok (.iload_n 2, 1) := by decide +kernel
theorem dX9_inParts_13 : decode cX9_inParts 13 = .ok (.aload_n 0, 1) := by decide +kernel
theorem dX9_inParts_14 : decode cX9_inParts 14 = .ok (.getfield 36, 3) := by decide +kernel
theorem dX9_inParts_17 : decode cX9_inParts 17 = .ok (.iload_n 3, 1) := by decide +kernel
theorem dX9_inParts_18 : decode cX9_inParts 18 = .ok (.aaload, 1) := by decide +kernel
theorem dX9_inParts_19 : decode cX9_inParts 19 = .ok (.aload_n 1, 1) := by decide +kernel
theorem dX9_inParts_20 : decode cX9_inParts 20 = .ok (.invokevirtual 105, 3) := by decide +kernel
theorem dX9_inParts_23 : decode cX9_inParts 23 = .ok (.iadd, 1) := by decide +kernel
theorem dX9_inParts_24 : decode cX9_inParts 24 = .ok (.istore_n 2, 1) := by decide +kernel
theorem dX9_inParts_25 : decode cX9_inParts 25 = .ok (.iinc 3 1, 3) := by decide +kernel
theorem dX9_inParts_28 : decode cX9_inParts 28 = .ok (.goto (-24), 3) := by decide +kernel
theorem dX9_inParts_31 : decode cX9_inParts 31 = .ok (.iload_n 2, 1) := by decide +kernel
theorem dX9_inParts_32 : decode cX9_inParts 32 = .ok (.ireturn, 1) := by decide +kernel
set_option maxRecDepth 20000 in
theorem ggX9_detours_X9_gather : GoodIn wsX9_detours wsX9_gather := goodIn_r _ [5, 6, 7, 8, 9, 10, 11, 12, 13, 14, 15, 16, 17, 18, 19, 20, 21, 22, 23, 24, 25, 26, 27, 28, 29, 30, 31, 40, 41, 42, 43, 44, 45, 46, 47, 48, 49, 50, 51, 52, 53, 54, 55, 56, 57, 58, 59, 60, 61, 62, 63, 64, 65, 66] (by decide +kernel) (by decide +kernel)
set_option maxRecDepth 20000 in
theorem gX9_detours_X9_gather : GoodIn wsX9_detours (wsV RX9 108 RX9 yX9_gather wsX9_gather) := goodIn_app (goodIn_of _ (by decide +kernel)) ggX9_detours_X9_gather
set_option maxRecDepth 20000 in
theorem ggX9_detours_X9_leastStake : GoodIn wsX9_detours wsX9_leastStake := goodIn_r _ [35, 14, 11, 36, 37, 38, 39, 40, 41, 42, 43, 44, 45, 46, 47] (by decide +kernel) (by decide +kernel)
set_option maxRecDepth 20000 in
theorem gX9_detours_X9_leastStake : GoodIn wsX9_detours (wsV RX9 112 RX9 yX9_leastStake wsX9_leastStake) := goodIn_app (goodIn_of _ (by decide +kernel)) ggX9_detours_X9_leastStake
theorem dX9_detours_0 : decode cX9_detours 0 = .ok (.iconst 0, 1) := by decide +kernel
theorem dX9_detours_1 : decode cX9_detours 1 = .ok (.istore_n 2, 1) := by decide +kernel
theorem dX9_detours_2 : decode cX9_detours 2 = .ok (.iconst 0, 1) := by decide +kernel
theorem dX9_detours_3 : decode cX9_detours 3 = .ok (.istore_n 3, 1) := by decide +kernel
theorem dX9_detours_4 : decode cX9_detours 4 = .ok (.iload_n 3, 1) := by decide +kernel
theorem dX9_detours_5 : decode cX9_detours 5 = .ok (.bipush 8, 2) := by decide +kernel
theorem dX9_detours_7 : decode cX9_detours 7 = .ok (.if_icmp .ge 32, 3) := by decide +kernel
theorem dX9_detours_10 : decode cX9_detours 10 = .ok (.aload_n 0, 1) := by decide +kernel
theorem dX9_detours_11 : decode cX9_detours 11 = .ok (.aload_n 1, 1) := by decide +kernel
theorem dX9_detours_12 : decode cX9_detours 12 = .ok (.iload_n 3, 1) := by decide +kernel
theorem dX9_detours_13 : decode cX9_detours 13 = .ok (.invokevirtual 108, 3) := by decide +kernel
theorem dX9_detours_16 : decode cX9_detours 16 = .ok (.istore 4, 2) := by decide +kernel
theorem dX9_detours_18 : decode cX9_detours 18 = .ok (.iload 4, 2) := by decide +kernel
theorem dX9_detours_20 : decode cX9_detours 20 = .ok (.iconst 1, 1) := by decide +kernel
theorem dX9_detours_21 : decode cX9_detours 21 = .ok (.if_icmp .le 12, 3) := by decide +kernel
theorem dX9_detours_24 : decode cX9_detours 24 = .ok (.iload_n 2, 1) := by decide +kernel
theorem dX9_detours_25 : decode cX9_detours 25 = .ok (.aload_n 0, 1) := by decide +kernel
theorem dX9_detours_26 : decode cX9_detours 26 = .ok (.iload 4, 2) := by decide +kernel
theorem dX9_detours_28 : decode cX9_detours 28 = .ok (.invokevirtual 112, 3) := by decide +kernel
theorem dX9_detours_31 : decode cX9_detours 31 = .ok (.iadd, 1) := by decide +kernel
theorem dX9_detours_32 : decode cX9_detours 32 = .ok (.istore_n 2, 1) := by decide +kernel
theorem dX9_detours_33 : decode cX9_detours 33 = .ok (.iinc 3 1, 3) := by decide +kernel
theorem dX9_detours_36 : decode cX9_detours 36 = .ok (.goto (-32), 3) := by decide +kernel
theorem dX9_detours_39 : decode cX9_detours 39 = .ok (.iload_n 2, 1) := by decide +kernel
theorem dX9_detours_40 : decode cX9_detours 40 = .ok (.ireturn, 1) := by decide +kernel
set_option maxRecDepth 20000 in
theorem ggX9_gather_X4_linePlace : GoodIn wsX9_gather wsX4_linePlace := goodIn_r _ [14, 15, 35, 36, 37, 38, 39, 40, 41, 42, 43, 44, 45] (by decide +kernel) (by decide +kernel)
set_option maxRecDepth 20000 in
theorem gX9_gather_X4_linePlace : GoodIn wsX9_gather (wsV RX9 122 RX4 yX4_linePlace wsX4_linePlace) := goodIn_app (goodIn_of _ (by decide +kernel)) ggX9_gather_X4_linePlace
set_option maxRecDepth 20000 in
theorem ggX9_gather_X1_frees : GoodIn wsX9_gather wsX1_frees := goodIn_r _ [20, 21, 50, 51, 52, 53] (by decide +kernel) (by decide +kernel)
set_option maxRecDepth 20000 in
theorem gX9_gather_X1_frees : GoodIn wsX9_gather (wsV RX9 58 RX1 yX1_frees wsX1_frees) := goodIn_app (goodIn_of _ (by decide +kernel)) ggX9_gather_X1_frees
set_option maxRecDepth 20000 in
theorem ggX9_gather_X4_indexOn : GoodIn wsX9_gather wsX4_indexOn := goodIn_r _ [25, 26, 35, 36, 37, 38, 39, 40, 41, 42, 43, 44, 45] (by decide +kernel) (by decide +kernel)
set_option maxRecDepth 20000 in
theorem gX9_gather_X4_indexOn : GoodIn wsX9_gather (wsV RX9 125 RX4 yX4_indexOn wsX4_indexOn) := goodIn_app (goodIn_of _ (by decide +kernel)) ggX9_gather_X4_indexOn
theorem dX9_gather_0 : decode cX9_gather 0 = .ok (.iconst 0, 1) := by decide +kernel
theorem dX9_gather_1 : decode cX9_gather 1 = .ok (.istore_n 3, 1) := by decide +kernel
theorem dX9_gather_2 : decode cX9_gather 2 = .ok (.iconst 0, 1) := by decide +kernel
theorem dX9_gather_3 : decode cX9_gather 3 = .ok (.istore 4, 2) := by decide +kernel
theorem dX9_gather_5 : decode cX9_gather 5 = .ok (.iconst 0, 1) := by decide +kernel
theorem dX9_gather_6 : decode cX9_gather 6 = .ok (.istore 5, 2) := by decide +kernel
theorem dX9_gather_8 : decode cX9_gather 8 = .ok (.iload 5, 2) := by decide +kernel
theorem dX9_gather_10 : decode cX9_gather 10 = .ok (.aload_n 0, 1) := by decide +kernel
theorem dX9_gather_11 : decode cX9_gather 11 = .ok (.getfield 12, 3) := by decide +kernel
theorem dX9_gather_14 : decode cX9_gather 14 = .ok (.getfield 116, 3) := by decide +kernel
theorem dX9_gather_17 : decode cX9_gather 17 = .ok (.iload_n 2, 1) := by decide +kernel
theorem dX9_gather_18 : decode cX9_gather 18 = .ok (.iaload, 1) := by decide +kernel
theorem dX9_gather_19 : decode cX9_gather 19 = .ok (.if_icmp .ge 155, 3) := by decide +kernel
theorem dX9_gather_22 : decode cX9_gather 22 = .ok (.aload_n 1, 1) := by decide +kernel
theorem dX9_gather_23 : decode cX9_gather 23 = .ok (.getfield 119, 3) := by decide +kernel
theorem dX9_gather_26 : decode cX9_gather 26 = .ok (.aload_n 0, 1) := by decide +kernel
theorem dX9_gather_27 : decode cX9_gather 27 = .ok (.getfield 12, 3) := by decide +kernel
theorem dX9_gather_30 : decode cX9_gather 30 = .ok (.iload_n 2, 1) := by decide +kernel
theorem dX9_gather_31 : decode cX9_gather 31 = .ok (.iload 5, 2) := by decide +kernel
theorem dX9_gather_33 : decode cX9_gather 33 = .ok (.invokevirtual 122, 3) := by decide +kernel
theorem dX9_gather_36 : decode cX9_gather 36 = .ok (.iaload, 1) := by decide +kernel
theorem dX9_gather_37 : decode cX9_gather 37 = .ok (.istore 6, 2) := by decide +kernel
theorem dX9_gather_39 : decode cX9_gather 39 = .ok (.iload 6, 2) := by decide +kernel
theorem dX9_gather_41 : decode cX9_gather 41 = .ok (.ifCond .eq 127, 3) := by decide +kernel
theorem dX9_gather_44 : decode cX9_gather 44 = .ok (.aload_n 0, 1) := by decide +kernel
theorem dX9_gather_45 : decode cX9_gather 45 = .ok (.getfield 21, 3) := by decide +kernel
theorem dX9_gather_48 : decode cX9_gather 48 = .ok (.iload 6, 2) := by decide +kernel
theorem dX9_gather_50 : decode cX9_gather 50 = .ok (.invokevirtual 58, 3) := by decide +kernel
theorem dX9_gather_53 : decode cX9_gather 53 = .ok (.ifCond .eq 6, 3) := by decide +kernel
theorem dX9_gather_56 : decode cX9_gather 56 = .ok (.goto 112, 3) := by decide +kernel
theorem dX9_gather_59 : decode cX9_gather 59 = .ok (.aload_n 0, 1) := by decide +kernel
theorem dX9_gather_60 : decode cX9_gather 60 = .ok (.getfield 12, 3) := by decide +kernel
theorem dX9_gather_63 : decode cX9_gather 63 = .ok (.iload_n 2, 1) := by decide +kernel
theorem dX9_gather_64 : decode cX9_gather 64 = .ok (.aload_n 0, 1) := by decide +kernel
theorem dX9_gather_65 : decode cX9_gather 65 = .ok (.getfield 21, 3) := by decide +kernel
theorem dX9_gather_68 : decode cX9_gather 68 = .ok (.getfield 98, 3) := by decide +kernel
theorem dX9_gather_71 : decode cX9_gather 71 = .ok (.iload 6, 2) := by decide +kernel
theorem dX9_gather_73 : decode cX9_gather 73 = .ok (.iaload, 1) := by decide +kernel
theorem dX9_gather_74 : decode cX9_gather 74 = .ok (.invokevirtual 125, 3) := by decide +kernel
theorem dX9_gather_77 : decode cX9_gather 77 = .ok (.istore 7, 2) := by decide +kernel
theorem dX9_gather_79 : decode cX9_gather 79 = .ok (.iload 7, 2) := by decide +kernel
theorem dX9_gather_81 : decode cX9_gather 81 = .ok (.iconst (-1), 1) := by decide +kernel
theorem dX9_gather_82 : decode cX9_gather 82 = .ok (.if_icmp .ne 6, 3) := by decide +kernel
theorem dX9_gather_85 : decode cX9_gather 85 = .ok (.goto 83, 3) := by decide +kernel
theorem dX9_gather_88 : decode cX9_gather 88 = .ok (.aload_n 0, 1) := by decide +kernel
theorem dX9_gather_89 : decode cX9_gather 89 = .ok (.getfield 40, 3) := by decide +kernel
theorem dX9_gather_92 : decode cX9_gather 92 = .ok (.iload_n 3, 1) := by decide +kernel
theorem dX9_gather_93 : decode cX9_gather 93 = .ok (.aload_n 0, 1) := by decide +kernel
theorem dX9_gather_94 : decode cX9_gather 94 = .ok (.getfield 21, 3) := by decide +kernel
theorem dX9_gather_97 : decode cX9_gather 97 = .ok (.getfield 90, 3) := by decide +kernel
theorem dX9_gather_100 : decode cX9_gather 100 = .ok (.iload 6, 2) := by decide +kernel
theorem dX9_gather_102 : decode cX9_gather 102 = .ok (.iaload, 1) := by decide +kernel
theorem dX9_gather_103 : decode cX9_gather 103 = .ok (.iastore, 1) := by decide +kernel
theorem dX9_gather_104 : decode cX9_gather 104 = .ok (.aload_n 0, 1) := by decide +kernel
theorem dX9_gather_105 : decode cX9_gather 105 = .ok (.getfield 44, 3) := by decide +kernel
theorem dX9_gather_108 : decode cX9_gather 108 = .ok (.iload_n 3, 1) := by decide +kernel
theorem dX9_gather_109 : decode cX9_gather 109 = .ok (.iload 7, 2) := by decide +kernel
theorem dX9_gather_111 : decode cX9_gather 111 = .ok (.iastore, 1) := by decide +kernel
theorem dX9_gather_112 : decode cX9_gather 112 = .ok (.aload_n 0, 1) := by decide +kernel
theorem dX9_gather_113 : decode cX9_gather 113 = .ok (.getfield 47, 3) := by decide +kernel
theorem dX9_gather_116 : decode cX9_gather 116 = .ok (.iload_n 3, 1) := by decide +kernel
theorem dX9_gather_117 : decode cX9_gather 117 = .ok (.iconst 0, 1) := by decide +kernel
theorem dX9_gather_118 : decode cX9_gather 118 = .ok (.iastore, 1) := by decide +kernel
theorem dX9_gather_119 : decode cX9_gather 119 = .ok (.iconst 0, 1) := by decide +kernel
theorem dX9_gather_120 : decode cX9_gather 120 = .ok (.istore 8, 2) := by decide +kernel
theorem dX9_gather_122 : decode cX9_gather 122 = .ok (.iload 8, 2) := by decide +kernel
theorem dX9_gather_124 : decode cX9_gather 124 = .ok (.iload_n 3, 1) := by decide +kernel
theorem dX9_gather_125 : decode cX9_gather 125 = .ok (.if_icmp .ge 40, 3) := by decide +kernel
theorem dX9_gather_128 : decode cX9_gather 128 = .ok (.aload_n 0, 1) := by decide +kernel
theorem dX9_gather_129 : decode cX9_gather 129 = .ok (.getfield 44, 3) := by decide +kernel
theorem dX9_gather_132 : decode cX9_gather 132 = .ok (.iload 8, 2) := by decide +kernel
theorem dX9_gather_134 : decode cX9_gather 134 = .ok (.iaload, 1) := by decide +kernel
theorem dX9_gather_135 : decode cX9_gather 135 = .ok (.iload 7, 2) := by decide +kernel
theorem dX9_gather_137 : decode cX9_gather 137 = .ok (.if_icmp .ge 6, 3) := by decide +kernel
theorem dX9_gather_140 : decode cX9_gather 140 = .ok (.goto 19, 3) := by decide +kernel
theorem dX9_gather_143 : decode cX9_gather 143 = .ok (.iconst 1, 1) := by decide +kernel
theorem dX9_gather_144 : decode cX9_gather 144 = .ok (.istore 4, 2) := by decide +kernel
theorem dX9_gather_146 : decode cX9_gather 146 = .ok (.aload_n 0, 1) := by decide +kernel
theorem dX9_gather_147 : decode cX9_gather 147 = .ok (.getfield 47, 3) := by decide +kernel
theorem dX9_gather_150 : decode cX9_gather 150 = .ok (.iload_n 3, 1) := by decide +kernel
theorem dX9_gather_151 : decode cX9_gather 151 = .ok (.dup2, 1) := by decide +kernel
theorem dX9_gather_152 : decode cX9_gather 152 = .ok (.iaload, 1) := by decide +kernel
theorem dX9_gather_153 : decode cX9_gather 153 = .ok (.iconst 1, 1) := by decide +kernel
theorem dX9_gather_154 : decode cX9_gather 154 = .ok (.iload 8, 2) := by decide +kernel
theorem dX9_gather_156 : decode cX9_gather 156 = .ok (.ishl, 1) := by decide +kernel
theorem dX9_gather_157 : decode cX9_gather 157 = .ok (.ior, 1) := by decide +kernel
theorem dX9_gather_158 : decode cX9_gather 158 = .ok (.iastore, 1) := by decide +kernel
theorem dX9_gather_159 : decode cX9_gather 159 = .ok (.iinc 8 1, 3) := by decide +kernel
theorem dX9_gather_162 : decode cX9_gather 162 = .ok (.goto (-40), 3) := by decide +kernel
theorem dX9_gather_165 : decode cX9_gather 165 = .ok (.iinc 3 1, 3) := by decide +kernel
theorem dX9_gather_168 : decode cX9_gather 168 = .ok (.iinc 5 1, 3) := by decide +kernel
theorem dX9_gather_171 : decode cX9_gather 171 = .ok (.goto (-163), 3) := by decide +kernel
theorem dX9_gather_174 : decode cX9_gather 174 = .ok (.iload 4, 2) := by decide +kernel
theorem dX9_gather_176 : decode cX9_gather 176 = .ok (.ifCond .eq 7, 3) := by decide +kernel
theorem dX9_gather_179 : decode cX9_gather 179 = .ok (.iload_n 3, 1) := by decide +kernel
theorem dX9_gather_180 : decode cX9_gather 180 = .ok (.goto 4, 3) := by decide +kernel
theorem dX9_gather_183 : decode cX9_gather 183 = .ok (.iconst 0, 1) := by decide +kernel
theorem dX9_gather_184 : decode cX9_gather 184 = .ok (.ireturn, 1) := by decide +kernel
theorem dX9_leastStake_0 : decode cX9_leastStake 0 = .ok (.bipush 36, 2) := by decide +kernel
theorem dX9_leastStake_2 : decode cX9_leastStake 2 = .ok (.istore_n 2, 1) := by decide +kernel
theorem dX9_leastStake_3 : decode cX9_leastStake 3 = .ok (.iconst 0, 1) := by decide +kernel
theorem dX9_leastStake_4 : decode cX9_leastStake 4 = .ok (.istore_n 3, 1) := by decide +kernel
theorem dX9_leastStake_5 : decode cX9_leastStake 5 = .ok (.iload_n 3, 1) := by decide +kernel
theorem dX9_leastStake_6 : decode cX9_leastStake 6 = .ok (.iconst 1, 1) := by decide +kernel
theorem dX9_leastStake_7 : decode cX9_leastStake 7 = .ok (.iload_n 1, 1) := by decide +kernel
theorem dX9_leastStake_8 : decode cX9_leastStake 8 = .ok (.ishl, 1) := by decide +kernel
theorem dX9_leastStake_9 : decode cX9_leastStake 9 = .ok (.if_icmp .ge 105, 3) := by decide +kernel
theorem dX9_leastStake_12 : decode cX9_leastStake 12 = .ok (.iconst 0, 1) := by decide +kernel
theorem dX9_leastStake_13 : decode cX9_leastStake 13 = .ok (.istore 4, 2) := by decide +kernel
theorem dX9_leastStake_15 : decode cX9_leastStake 15 = .ok (.iconst 0, 1) := by decide +kernel
theorem dX9_leastStake_16 : decode cX9_leastStake 16 = .ok (.istore 5, 2) := by decide +kernel
theorem dX9_leastStake_18 : decode cX9_leastStake 18 = .ok (.iconst 0, 1) := by decide +kernel
theorem dX9_leastStake_19 : decode cX9_leastStake 19 = .ok (.istore 6, 2) := by decide +kernel
theorem dX9_leastStake_21 : decode cX9_leastStake 21 = .ok (.iload 6, 2) := by decide +kernel
theorem dX9_leastStake_23 : decode cX9_leastStake 23 = .ok (.iload_n 1, 1) := by decide +kernel
theorem dX9_leastStake_24 : decode cX9_leastStake 24 = .ok (.if_icmp .ge 72, 3) := by decide +kernel
theorem dX9_leastStake_27 : decode cX9_leastStake 27 = .ok (.iload_n 3, 1) := by decide +kernel
theorem dX9_leastStake_28 : decode cX9_leastStake 28 = .ok (.iload 6, 2) := by decide +kernel
theorem dX9_leastStake_30 : decode cX9_leastStake 30 = .ok (.ishr, 1) := by decide +kernel
theorem dX9_leastStake_31 : decode cX9_leastStake 31 = .ok (.iconst 1, 1) := by decide +kernel
theorem dX9_leastStake_32 : decode cX9_leastStake 32 = .ok (.iand, 1) := by decide +kernel
theorem dX9_leastStake_33 : decode cX9_leastStake 33 = .ok (.iconst 1, 1) := by decide +kernel
theorem dX9_leastStake_34 : decode cX9_leastStake 34 = .ok (.if_icmp .ne 7, 3) := by decide +kernel
theorem dX9_leastStake_37 : decode cX9_leastStake 37 = .ok (.iconst 1, 1) := by decide +kernel
theorem dX9_leastStake_38 : decode cX9_leastStake 38 = .ok (.goto 4, 3) := by decide +kernel
theorem dX9_leastStake_41 : decode cX9_leastStake 41 = .ok (.iconst 0, 1) := by decide +kernel
theorem dX9_leastStake_42 : decode cX9_leastStake 42 = .ok (.istore 7, 2) := by decide +kernel
theorem dX9_leastStake_44 : decode cX9_leastStake 44 = .ok (.iload 5, 2) := by decide +kernel
theorem dX9_leastStake_46 : decode cX9_leastStake 46 = .ok (.ifCond .ne 20, 3) := by decide +kernel
theorem dX9_leastStake_49 : decode cX9_leastStake 49 = .ok (.iload 7, 2) := by decide +kernel
theorem dX9_leastStake_51 : decode cX9_leastStake 51 = .ok (.ifCond .eq 19, 3) := by decide +kernel
theorem dX9_leastStake_54 : decode cX9_leastStake 54 = .ok (.aload_n 0, 1) := by decide +kernel
theorem dX9_leastStake_55 : decode cX9_leastStake 55 = .ok (.getfield 47, 3) := by decide +kernel
theorem dX9_leastStake_58 : decode cX9_leastStake 58 = .ok (.iload 6, 2) := by decide +kernel
theorem dX9_leastStake_60 : decode cX9_leastStake 60 = .ok (.iaload, 1) := by decide +kernel
theorem dX9_leastStake_61 : decode cX9_leastStake 61 = .ok (.iload_n 3, 1) := by decide +kernel
theorem dX9_leastStake_62 : decode cX9_leastStake 62 = .ok (.iand, 1) := by decide +kernel
theorem dX9_leastStake_63 : decode cX9_leastStake 63 = .ok (.ifCond .eq 7, 3) := by decide +kernel
theorem dX9_leastStake_66 : decode cX9_leastStake 66 = .ok (.iconst 1, 1) := by decide +kernel
theorem dX9_leastStake_67 : decode cX9_leastStake 67 = .ok (.goto 4, 3) := by decide +kernel
theorem dX9_leastStake_70 : decode cX9_leastStake 70 = .ok (.iconst 0, 1) := by decide +kernel
theorem dX9_leastStake_71 : decode cX9_leastStake 71 = .ok (.istore 5, 2) := by decide +kernel
theorem dX9_leastStake_73 : decode cX9_leastStake 73 = .ok (.iload 7, 2) := by decide +kernel
theorem dX9_leastStake_75 : decode cX9_leastStake 75 = .ok (.ifCond .ne 15, 3) := by decide +kernel
theorem dX9_leastStake_78 : decode cX9_leastStake 78 = .ok (.iload 4, 2) := by decide +kernel
theorem dX9_leastStake_80 : decode cX9_leastStake 80 = .ok (.aload_n 0, 1) := by decide +kernel
theorem dX9_leastStake_81 : decode cX9_leastStake 81 = .ok (.getfield 40, 3) := by decide +kernel
theorem dX9_leastStake_84 : decode cX9_leastStake 84 = .ok (.iload 6, 2) := by decide +kernel
theorem dX9_leastStake_86 : decode cX9_leastStake 86 = .ok (.iaload, 1) := by decide +kernel
theorem dX9_leastStake_87 : decode cX9_leastStake 87 = .ok (.iadd, 1) := by decide +kernel
theorem dX9_leastStake_88 : decode cX9_leastStake 88 = .ok (.istore 4, 2) := by decide +kernel
theorem dX9_leastStake_90 : decode cX9_leastStake 90 = .ok (.iinc 6 1, 3) := by decide +kernel
theorem dX9_leastStake_93 : decode cX9_leastStake 93 = .ok (.goto (-72), 3) := by decide +kernel
theorem dX9_leastStake_96 : decode cX9_leastStake 96 = .ok (.iload 5, 2) := by decide +kernel
theorem dX9_leastStake_98 : decode cX9_leastStake 98 = .ok (.ifCond .ne 10, 3) := by decide +kernel
theorem dX9_leastStake_101 : decode cX9_leastStake 101 = .ok (.iload_n 2, 1) := by decide +kernel
theorem dX9_leastStake_102 : decode cX9_leastStake 102 = .ok (.iload 4, 2) := by decide +kernel
theorem dX9_leastStake_104 : decode cX9_leastStake 104 = .ok (.invokestatic 128, 3) := by decide +kernel
theorem dX9_leastStake_107 : decode cX9_leastStake 107 = .ok (.istore_n 2, 1) := by decide +kernel
theorem dX9_leastStake_108 : decode cX9_leastStake 108 = .ok (.iinc 3 1, 3) := by decide +kernel
theorem dX9_leastStake_111 : decode cX9_leastStake 111 = .ok (.goto (-106), 3) := by decide +kernel
theorem dX9_leastStake_114 : decode cX9_leastStake 114 = .ok (.iload_n 2, 1) := by decide +kernel
theorem dX9_leastStake_115 : decode cX9_leastStake 115 = .ok (.ireturn, 1) := by decide +kernel
set_option maxRecDepth 20000 in
theorem ggX10_init_X6_init : GoodIn wsX10_init wsX6_init := goodIn_r _ [18, 19, 2, 3, 20, 21, 8, 22, 23, 24, 25, 26, 27, 28, 35, 36, 37, 38, 39] (by decide +kernel) (by decide +kernel)
set_option maxRecDepth 20000 in
theorem gX10_init_X6_init : GoodIn wsX10_init (wsX6_init) := ggX10_init_X6_init
set_option maxRecDepth 20000 in
theorem ggX10_init_X7_init : GoodIn wsX10_init wsX7_init := goodIn_r _ [31, 32, 2, 3, 8, 33, 34, 48, 49, 50, 51] (by decide +kernel) (by decide +kernel)
set_option maxRecDepth 20000 in
theorem gX10_init_X7_init : GoodIn wsX10_init (wsX7_init) := ggX10_init_X7_init
theorem dX10_init_0 : decode cX10_init 0 = .ok (.aload_n 0, 1) := by decide +kernel
theorem dX10_init_1 : decode cX10_init 1 = .ok (.invokespecial 3, 3) := by decide +kernel
theorem dX10_init_4 : decode cX10_init 4 = .ok (.aload_n 0, 1) := by decide +kernel
theorem dX10_init_5 : decode cX10_init 5 = .ok (.new 9, 3) := by decide +kernel
theorem dX10_init_8 : decode cX10_init 8 = .ok (.dup, 1) := by decide +kernel
theorem dX10_init_9 : decode cX10_init 9 = .ok (.sipush 1000, 3) := by decide +kernel
theorem dX10_init_12 : decode cX10_init 12 = .ok (.bipush 11, 2) := by decide +kernel
theorem dX10_init_14 : decode cX10_init 14 = .ok (.invokespecial 11, 3) := by decide +kernel
theorem dX10_init_17 : decode cX10_init 17 = .ok (.putfield 14, 3) := by decide +kernel
theorem dX10_init_20 : decode cX10_init 20 = .ok (.aload_n 0, 1) := by decide +kernel
theorem dX10_init_21 : decode cX10_init 21 = .ok (.sipush 1000, 3) := by decide +kernel
theorem dX10_init_24 : decode cX10_init 24 = .ok (.newarray .int, 2) := by decide +kernel
theorem dX10_init_26 : decode cX10_init 26 = .ok (.putfield 20, 3) := by decide +kernel
theorem dX10_init_29 : decode cX10_init 29 = .ok (.aload_n 0, 1) := by decide +kernel
theorem dX10_init_30 : decode cX10_init 30 = .ok (.iconst 2, 1) := by decide +kernel
theorem dX10_init_31 : decode cX10_init 31 = .ok (.newarray .int, 2) := by decide +kernel
theorem dX10_init_33 : decode cX10_init 33 = .ok (.putfield 24, 3) := by decide +kernel
theorem dX10_init_36 : decode cX10_init 36 = .ok (.aload_n 0, 1) := by decide +kernel
theorem dX10_init_37 : decode cX10_init 37 = .ok (.iconst 2, 1) := by decide +kernel
theorem dX10_init_38 : decode cX10_init 38 = .ok (.newarray .int, 2) := by decide +kernel
theorem dX10_init_40 : decode cX10_init 40 = .ok (.putfield 27, 3) := by decide +kernel
theorem dX10_init_43 : decode cX10_init 43 = .ok (.aload_n 0, 1) := by decide +kernel
theorem dX10_init_44 : decode cX10_init 44 = .ok (.new 30, 3) := by decide +kernel
theorem dX10_init_47 : decode cX10_init 47 = .ok (.dup, 1) := by decide +kernel
theorem dX10_init_48 : decode cX10_init 48 = .ok (.invokespecial 32, 3) := by decide +kernel
theorem dX10_init_51 : decode cX10_init 51 = .ok (.putfield 33, 3) := by decide +kernel
theorem dX10_init_54 : decode cX10_init 54 = .ok (.return_, 1) := by decide +kernel
set_option maxRecDepth 20000 in
theorem ggX10_seek_X6_clear : GoodIn wsX10_seek wsX6_clear := goodIn_r _ [15, 16, 17, 18, 117, 118, 119, 120, 121] (by decide +kernel) (by decide +kernel)
set_option maxRecDepth 20000 in
theorem gX10_seek_X6_clear : GoodIn wsX10_seek (wsV RX10 37 RX6 yX6_clear wsX6_clear) := goodIn_app (goodIn_of _ (by decide +kernel)) ggX10_seek_X6_clear
set_option maxRecDepth 20000 in
theorem ggX10_seek_X7_copy : GoodIn wsX10_seek wsX7_copy := goodIn_r _ [23, 24, 25, 26, 27, 28, 29, 30, 31, 122, 123, 124, 125] (by decide +kernel) (by decide +kernel)
set_option maxRecDepth 20000 in
theorem gX10_seek_X7_copy : GoodIn wsX10_seek (wsV RX10 51 RX7 yX7_copy wsX7_copy) := goodIn_app (goodIn_of _ (by decide +kernel)) ggX10_seek_X7_copy
set_option maxRecDepth 20000 in
theorem ggX10_seek_X1_layOut : GoodIn wsX10_seek wsX1_layOut := goodIn_r _ [36, 37, 38, 39, 40, 41, 42, 22, 43, 26, 31, 44, 45, 46, 47, 25, 24, 48, 49, 50, 51, 52, 53, 54, 126, 127, 128, 129, 122, 123, 124, 125] (by decide +kernel) (by decide +kernel)
set_option maxRecDepth 20000 in
theorem gX10_seek_X1_layOut : GoodIn wsX10_seek (wsV RX10 61 RX1 yX1_layOut wsX1_layOut) := goodIn_app (goodIn_of _ (by decide +kernel)) ggX10_seek_X1_layOut
set_option maxRecDepth 20000 in
theorem ggX10_seek_X10_find : GoodIn wsX10_seek wsX10_find := goodIn_r _ [59, 1, 8, 5, 60, 61, 2, 4, 62, 63, 64, 14, 65, 66, 67, 17, 68, 69, 70, 71, 72, 16, 18, 101, 102, 103, 104, 105, 106, 107, 108, 117, 118, 119, 120, 121, 122, 123, 124, 125] (by decide +kernel) (by decide +kernel)
set_option maxRecDepth 20000 in
theorem gX10_seek_X10_find : GoodIn wsX10_seek (wsV RX10 69 RX10 yX10_find wsX10_find) := goodIn_app (goodIn_of _ (by decide +kernel)) ggX10_seek_X10_find
set_option maxRecDepth 20000 in
theorem ggX10_seek_X10_grow : GoodIn wsX10_seek wsX10_grow := goodIn_r _ [76, 7, 9, 1, 8, 5, 77, 78, 79, 80, 81, 22, 82, 24, 25, 52, 53, 54, 83, 84, 85, 86, 87, 41, 42, 43, 26, 31, 88, 89, 90, 91, 92, 93, 94, 95, 96, 97, 48, 49, 50, 51, 55, 56, 57, 58, 59, 60, 61, 2, 4, 62, 63, 64, 14, 65, 66, 67, 17, 68, 69, 70, 71, 72, 16, 18, 98, 99, 100, 101, 102, 103, 104, 105, 106, 107, 108, 117, 118, 119, 120, 121, 122, 123, 124, 125, 130, 131, 132, 133, 134, 135, 136, 137, 138, 139, 140] (by decide +kernel) (by decide +kernel)
set_option maxRecDepth 20000 in
theorem gX10_seek_X10_grow : GoodIn wsX10_seek (wsV RX10 77 RX10 yX10_grow wsX10_grow) := goodIn_app (goodIn_of _ (by decide +kernel)) ggX10_seek_X10_grow
theorem dX10_seek_0 : decode cX10_seek 0 = .ok (.aload_n 0, 1) := by decide +kernel
theorem dX10_seek_1 : decode cX10_seek 1 = .ok (.getfield 14, 3) := by decide +kernel
theorem dX10_seek_4 : decode cX10_seek 4 = .ok (.invokevirtual 37, 3) := by decide +kernel
theorem dX10_seek_7 : decode cX10_seek 7 = .ok (.aload_n 0, 1) := by decide +kernel
theorem dX10_seek_8 : decode cX10_seek 8 = .ok (.iconst 0, 1) := by decide +kernel
theorem dX10_seek_9 : decode cX10_seek 9 = .ok (.putfield 40, 3) := by decide +kernel
theorem dX10_seek_12 : decode cX10_seek 12 = .ok (.aload_n 0, 1) := by decide +kernel
theorem dX10_seek_13 : decode cX10_seek 13 = .ok (.iconst 0, 1) := by decide +kernel
theorem dX10_seek_14 : decode cX10_seek 14 = .ok (.putfield 44, 3) := by decide +kernel
theorem dX10_seek_17 : decode cX10_seek 17 = .ok (.aload_n 0, 1) := by decide +kernel
theorem dX10_seek_18 : decode cX10_seek 18 = .ok (.iconst 0, 1) := by decide +kernel
theorem dX10_seek_19 : decode cX10_seek 19 = .ok (.putfield 47, 3) := by decide +kernel
theorem dX10_seek_22 : decode cX10_seek 22 = .ok (.iconst 0, 1) := by decide +kernel
theorem dX10_seek_23 : decode cX10_seek 23 = .ok (.istore 4, 2) := by decide +kernel
theorem dX10_seek_25 : decode cX10_seek 25 = .ok (.iload 4, 2) := by decide +kernel
theorem dX10_seek_27 : decode cX10_seek 27 = .ok (.iconst 2, 1) := by decide +kernel
theorem dX10_seek_28 : decode cX10_seek 28 = .ok (.if_icmp .ge 77, 3) := by decide +kernel
theorem dX10_seek_31 : decode cX10_seek 31 = .ok (.iload 4, 2) := by decide +kernel
theorem dX10_seek_33 : decode cX10_seek 33 = .ok (.ifCond .ne 14, 3) := by decide +kernel
theorem dX10_seek_36 : decode cX10_seek 36 = .ok (.aload_n 0, 1) := by decide +kernel
theorem dX10_seek_37 : decode cX10_seek 37 = .ok (.getfield 33, 3) := by decide +kernel
theorem dX10_seek_40 : decode cX10_seek 40 = .ok (.aload_n 2, 1) := by decide +kernel
theorem dX10_seek_41 : decode cX10_seek 41 = .ok (.invokevirtual 51, 3) := by decide +kernel
theorem dX10_seek_44 : decode cX10_seek 44 = .ok (.goto 14, 3) := by decide +kernel
theorem dX10_seek_47 : decode cX10_seek 47 = .ok (.aload_n 1, 1) := by decide +kernel
theorem dX10_seek_48 : decode cX10_seek 48 = .ok (.getfield 55, 3) := by decide +kernel
theorem dX10_seek_51 : decode cX10_seek 51 = .ok (.aload_n 0, 1) := by decide +kernel
theorem dX10_seek_52 : decode cX10_seek 52 = .ok (.getfield 33, 3) := by decide +kernel
theorem dX10_seek_55 : decode cX10_seek 55 = .ok (.invokevirtual 61, 3) := by decide +kernel
theorem dX10_seek_58 : decode cX10_seek 58 = .ok (.aload_n 0, 1) := by decide +kernel
theorem dX10_seek_59 : decode cX10_seek 59 = .ok (.getfield 24, 3) := by decide +kernel
theorem dX10_seek_62 : decode cX10_seek 62 = .ok (.iload 4, 2) := by decide +kernel
theorem dX10_seek_64 : decode cX10_seek 64 = .ok (.aload_n 0, 1) := by decide +kernel
theorem dX10_seek_65 : decode cX10_seek 65 = .ok (.getfield 14, 3) := by decide +kernel
theorem dX10_seek_68 : decode cX10_seek 68 = .ok (.getfield 66, 3) := by decide +kernel
theorem dX10_seek_71 : decode cX10_seek 71 = .ok (.iastore, 1) := by decide +kernel
theorem dX10_seek_72 : decode cX10_seek 72 = .ok (.aload_n 0, 1) := by decide +kernel
theorem dX10_seek_73 : decode cX10_seek 73 = .ok (.iload 4, 2) := by decide +kernel
theorem dX10_seek_75 : decode cX10_seek 75 = .ok (.iload_n 3, 1) := by decide +kernel
theorem dX10_seek_76 : decode cX10_seek 76 = .ok (.invokevirtual 69, 3) := by decide +kernel
theorem dX10_seek_79 : decode cX10_seek 79 = .ok (.ifCond .ne 6, 3) := by decide +kernel
theorem dX10_seek_82 : decode cX10_seek 82 = .ok (.bipush (-2), 2) := by decide +kernel
theorem dX10_seek_84 : decode cX10_seek 84 = .ok (.ireturn, 1) := by decide +kernel
theorem dX10_seek_85 : decode cX10_seek 85 = .ok (.aload_n 0, 1) := by decide +kernel
theorem dX10_seek_86 : decode cX10_seek 86 = .ok (.getfield 27, 3) := by decide +kernel
theorem dX10_seek_89 : decode cX10_seek 89 = .ok (.iload 4, 2) := by decide +kernel
theorem dX10_seek_91 : decode cX10_seek 91 = .ok (.aload_n 0, 1) := by decide +kernel
theorem dX10_seek_92 : decode cX10_seek 92 = .ok (.getfield 14, 3) := by decide +kernel
theorem dX10_seek_95 : decode cX10_seek 95 = .ok (.getfield 66, 3) := by decide +kernel
theorem dX10_seek_98 : decode cX10_seek 98 = .ok (.iastore, 1) := by decide +kernel
theorem dX10_seek_99 : decode cX10_seek 99 = .ok (.iinc 4 1, 3) := by decide +kernel
theorem dX10_seek_102 : decode cX10_seek 102 = .ok (.goto (-77), 3) := by decide +kernel
theorem dX10_seek_105 : decode cX10_seek 105 = .ok (.iconst 0, 1) := by decide +kernel
theorem dX10_seek_106 : decode cX10_seek 106 = .ok (.istore 4, 2) := by decide +kernel
theorem dX10_seek_108 : decode cX10_seek 108 = .ok (.iload 4, 2) := by decide +kernel
theorem dX10_seek_110 : decode cX10_seek 110 = .ok (.iload_n 3, 1) := by decide +kernel
theorem dX10_seek_111 : decode cX10_seek 111 = .ok (.if_icmp .ge 62, 3) := by decide +kernel
theorem dX10_seek_114 : decode cX10_seek 114 = .ok (.aload_n 0, 1) := by decide +kernel
theorem dX10_seek_115 : decode cX10_seek 115 = .ok (.getfield 47, 3) := by decide +kernel
theorem dX10_seek_118 : decode cX10_seek 118 = .ok (.ifCond .ne 55, 3) := by decide +kernel
theorem dX10_seek_121 : decode cX10_seek 121 = .ok (.aload_n 0, 1) := by decide +kernel
theorem dX10_seek_122 : decode cX10_seek 122 = .ok (.getfield 40, 3) := by decide +kernel
theorem dX10_seek_125 : decode cX10_seek 125 = .ok (.istore 5, 2) := by decide +kernel
theorem dX10_seek_127 : decode cX10_seek 127 = .ok (.aload_n 0, 1) := by decide +kernel
theorem dX10_seek_128 : decode cX10_seek 128 = .ok (.aload_n 1, 1) := by decide +kernel
theorem dX10_seek_129 : decode cX10_seek 129 = .ok (.getfield 73, 3) := by decide +kernel
theorem dX10_seek_132 : decode cX10_seek 132 = .ok (.iload 4, 2) := by decide +kernel
theorem dX10_seek_134 : decode cX10_seek 134 = .ok (.iconst 2, 1) := by decide +kernel
theorem dX10_seek_135 : decode cX10_seek 135 = .ok (.irem, 1) := by decide +kernel
theorem dX10_seek_136 : decode cX10_seek 136 = .ok (.iload_n 3, 1) := by decide +kernel
theorem dX10_seek_137 : decode cX10_seek 137 = .ok (.invokevirtual 77, 3) := by decide +kernel
theorem dX10_seek_140 : decode cX10_seek 140 = .ok (.ifCond .ne 6, 3) := by decide +kernel
theorem dX10_seek_143 : decode cX10_seek 143 = .ok (.bipush (-2), 2) := by decide +kernel
theorem dX10_seek_145 : decode cX10_seek 145 = .ok (.ireturn, 1) := by decide +kernel
theorem dX10_seek_146 : decode cX10_seek 146 = .ok (.aload_n 0, 1) := by decide +kernel
theorem dX10_seek_147 : decode cX10_seek 147 = .ok (.getfield 40, 3) := by decide +kernel
theorem dX10_seek_150 : decode cX10_seek 150 = .ok (.iload 5, 2) := by decide +kernel
theorem dX10_seek_152 : decode cX10_seek 152 = .ok (.if_icmp .ne 5, 3) := by decide +kernel
theorem dX10_seek_155 : decode cX10_seek 155 = .ok (.iconst (-1), 1) := by decide +kernel
theorem dX10_seek_156 : decode cX10_seek 156 = .ok (.ireturn, 1) := by decide +kernel
theorem dX10_seek_157 : decode cX10_seek 157 = .ok (.aload_n 0, 1) := by decide +kernel
theorem dX10_seek_158 : decode cX10_seek 158 = .ok (.dup, 1) := by decide +kernel
theorem dX10_seek_159 : decode cX10_seek 159 = .ok (.getfield 44, 3) := by decide +kernel
theorem dX10_seek_162 : decode cX10_seek 162 = .ok (.iconst 1, 1) := by decide +kernel
theorem dX10_seek_163 : decode cX10_seek 163 = .ok (.iadd, 1) := by decide +kernel
theorem dX10_seek_164 : decode cX10_seek 164 = .ok (.putfield 44, 3) := by decide +kernel
theorem dX10_seek_167 : decode cX10_seek 167 = .ok (.iinc 4 1, 3) := by decide +kernel
theorem dX10_seek_170 : decode cX10_seek 170 = .ok (.goto (-62), 3) := by decide +kernel
theorem dX10_seek_173 : decode cX10_seek 173 = .ok (.aload_n 0, 1) := by decide +kernel
theorem dX10_seek_174 : decode cX10_seek 174 = .ok (.getfield 47, 3) := by decide +kernel
theorem dX10_seek_177 : decode cX10_seek 177 = .ok (.ifCond .eq 10, 3) := by decide +kernel
theorem dX10_seek_180 : decode cX10_seek 180 = .ok (.aload_n 0, 1) := by decide +kernel
theorem dX10_seek_181 : decode cX10_seek 181 = .ok (.getfield 44, 3) := by decide +kernel
theorem dX10_seek_184 : decode cX10_seek 184 = .ok (.goto 5, 3) := by decide +kernel
theorem dX10_seek_187 : decode cX10_seek 187 = .ok (.bipush (-2), 2) := by decide +kernel
theorem dX10_seek_189 : decode cX10_seek 189 = .ok (.ireturn, 1) := by decide +kernel
set_option maxRecDepth 20000 in
theorem ggX10_grow_X7_unpack : GoodIn wsX10_grow wsX7_unpack := goodIn_r _ [12, 13, 14, 15, 16, 11, 17, 18, 19, 20, 21, 22, 23, 24, 25, 26, 27, 82, 83, 84, 85] (by decide +kernel) (by decide +kernel)
set_option maxRecDepth 20000 in
theorem gX10_grow_X7_unpack : GoodIn wsX10_grow (wsV RX10 88 RX7 yX7_unpack wsX7_unpack) := goodIn_app (goodIn_of _ (by decide +kernel)) ggX10_grow_X7_unpack
set_option maxRecDepth 20000 in
theorem ggX10_grow_X7_shift : GoodIn wsX10_grow wsX7_shift := goodIn_r _ [31, 27, 26, 14, 32, 33, 34, 35, 36, 37, 22, 23, 24, 11, 25, 38, 39, 40, 41, 13, 15, 16, 17, 82, 83, 84, 85, 86, 87, 88, 89, 90, 91, 92, 93, 94, 95, 96] (by decide +kernel) (by decide +kernel)
set_option maxRecDepth 20000 in
theorem gX10_grow_X7_shift : GoodIn wsX10_grow (wsV RX10 92 RX7 yX7_shift wsX7_shift) := goodIn_app (goodIn_of _ (by decide +kernel)) ggX10_grow_X7_shift
set_option maxRecDepth 20000 in
theorem ggX10_grow_X10_find : GoodIn wsX10_grow wsX10_find := goodIn_r _ [46, 3, 4, 5, 47, 48, 49, 50, 51, 52, 53, 54, 55, 56, 57, 58, 59, 60, 61, 62, 63, 64, 65, 69, 70, 71, 72, 73, 74, 75, 76, 77, 78, 79, 80, 81, 82, 83, 84, 85] (by decide +kernel) (by decide +kernel)
set_option maxRecDepth 20000 in
theorem gX10_grow_X10_find : GoodIn wsX10_grow (wsV RX10 69 RX10 yX10_find wsX10_find) := goodIn_app (goodIn_of _ (by decide +kernel)) ggX10_grow_X10_find
set_option maxRecDepth 20000 in
theorem ggX10_grow_X11_opposite : GoodIn wsX10_grow wsX11_opposite := goodIn_r _ [68] (by decide +kernel) (by decide +kernel)
set_option maxRecDepth 20000 in
theorem gX10_grow_X11_opposite_n96 : GoodIn wsX10_grow (wsX11_opposite) := ggX10_grow_X11_opposite
theorem dX10_grow_0 : decode cX10_grow 0 = .ok (.aload_n 0, 1) := by decide +kernel
theorem dX10_grow_1 : decode cX10_grow 1 = .ok (.getfield 24, 3) := by decide +kernel
theorem dX10_grow_4 : decode cX10_grow 4 = .ok (.iload_n 2, 1) := by decide +kernel
theorem dX10_grow_5 : decode cX10_grow 5 = .ok (.iaload, 1) := by decide +kernel
theorem dX10_grow_6 : decode cX10_grow 6 = .ok (.istore 4, 2) := by decide +kernel
theorem dX10_grow_8 : decode cX10_grow 8 = .ok (.aload_n 0, 1) := by decide +kernel
theorem dX10_grow_9 : decode cX10_grow 9 = .ok (.getfield 27, 3) := by decide +kernel
theorem dX10_grow_12 : decode cX10_grow 12 = .ok (.iload_n 2, 1) := by decide +kernel
theorem dX10_grow_13 : decode cX10_grow 13 = .ok (.iaload, 1) := by decide +kernel
theorem dX10_grow_14 : decode cX10_grow 14 = .ok (.istore 5, 2) := by decide +kernel
theorem dX10_grow_16 : decode cX10_grow 16 = .ok (.aload_n 0, 1) := by decide +kernel
theorem dX10_grow_17 : decode cX10_grow 17 = .ok (.getfield 24, 3) := by decide +kernel
theorem dX10_grow_20 : decode cX10_grow 20 = .ok (.iload_n 2, 1) := by decide +kernel
theorem dX10_grow_21 : decode cX10_grow 21 = .ok (.aload_n 0, 1) := by decide +kernel
theorem dX10_grow_22 : decode cX10_grow 22 = .ok (.getfield 14, 3) := by decide +kernel
theorem dX10_grow_25 : decode cX10_grow 25 = .ok (.getfield 66, 3) := by decide +kernel
theorem dX10_grow_28 : decode cX10_grow 28 = .ok (.iastore, 1) := by decide +kernel
theorem dX10_grow_29 : decode cX10_grow 29 = .ok (.iload 4, 2) := by decide +kernel
theorem dX10_grow_31 : decode cX10_grow 31 = .ok (.istore 6, 2) := by decide +kernel
theorem dX10_grow_33 : decode cX10_grow 33 = .ok (.iload 6, 2) := by decide +kernel
theorem dX10_grow_35 : decode cX10_grow 35 = .ok (.iload 5, 2) := by decide +kernel
theorem dX10_grow_37 : decode cX10_grow 37 = .ok (.if_icmp .ge 89, 3) := by decide +kernel
theorem dX10_grow_40 : decode cX10_grow 40 = .ok (.aload_n 0, 1) := by decide +kernel
theorem dX10_grow_41 : decode cX10_grow 41 = .ok (.getfield 33, 3) := by decide +kernel
theorem dX10_grow_44 : decode cX10_grow 44 = .ok (.aload_n 0, 1) := by decide +kernel
theorem dX10_grow_45 : decode cX10_grow 45 = .ok (.getfield 14, 3) := by decide +kernel
theorem dX10_grow_48 : decode cX10_grow 48 = .ok (.getfield 81, 3) := by decide +kernel
theorem dX10_grow_51 : decode cX10_grow 51 = .ok (.iload 6, 2) := by decide +kernel
theorem dX10_grow_53 : decode cX10_grow 53 = .ok (.laload, 1) := by decide +kernel
theorem dX10_grow_54 : decode cX10_grow 54 = .ok (.aload_n 0, 1) := by decide +kernel
theorem dX10_grow_55 : decode cX10_grow 55 = .ok (.getfield 33, 3) := by decide +kernel
theorem dX10_grow_58 : decode cX10_grow 58 = .ok (.getfield 85, 3) := by decide +kernel
theorem dX10_grow_61 : decode cX10_grow 61 = .ok (.invokevirtual 88, 3) := by decide +kernel
theorem dX10_grow_64 : decode cX10_grow 64 = .ok (.iconst 0, 1) := by decide +kernel
theorem dX10_grow_65 : decode cX10_grow 65 = .ok (.istore 7, 2) := by decide +kernel
theorem dX10_grow_67 : decode cX10_grow 67 = .ok (.iload 7, 2) := by decide +kernel
theorem dX10_grow_69 : decode cX10_grow 69 = .ok (.iconst 3, 1) := by decide +kernel
theorem dX10_grow_70 : decode cX10_grow 70 = .ok (.if_icmp .gt 50, 3) := by decide +kernel
theorem dX10_grow_73 : decode cX10_grow 73 = .ok (.aload_n 0, 1) := by decide +kernel
theorem dX10_grow_74 : decode cX10_grow 74 = .ok (.getfield 33, 3) := by decide +kernel
theorem dX10_grow_77 : decode cX10_grow 77 = .ok (.aload_n 1, 1) := by decide +kernel
theorem dX10_grow_78 : decode cX10_grow 78 = .ok (.iload 7, 2) := by decide +kernel
theorem dX10_grow_80 : decode cX10_grow 80 = .ok (.invokevirtual 92, 3) := by decide +kernel
theorem dX10_grow_83 : decode cX10_grow 83 = .ok (.ifCond .ne 6, 3) := by decide +kernel
theorem dX10_grow_86 : decode cX10_grow 86 = .ok (.goto 28, 3) := by decide +kernel
theorem dX10_grow_89 : decode cX10_grow 89 = .ok (.aload_n 0, 1) := by decide +kernel
theorem dX10_grow_90 : decode cX10_grow 90 = .ok (.iload_n 2, 1) := by decide +kernel
theorem dX10_grow_91 : decode cX10_grow 91 = .ok (.iload_n 3, 1) := by decide +kernel
theorem dX10_grow_92 : decode cX10_grow 92 = .ok (.invokevirtual 69, 3) := by decide +kernel
theorem dX10_grow_95 : decode cX10_grow 95 = .ok (.ifCond .ne 5, 3) := by decide +kernel
theorem dX10_grow_98 : decode cX10_grow 98 = .ok (.iconst 0, 1) := by decide +kernel
theorem dX10_grow_99 : decode cX10_grow 99 = .ok (.ireturn, 1) := by decide +kernel
theorem dX10_grow_100 : decode cX10_grow 100 = .ok (.aload_n 0, 1) := by decide +kernel
theorem dX10_grow_101 : decode cX10_grow 101 = .ok (.getfield 33, 3) := by decide +kernel
theorem dX10_grow_104 : decode cX10_grow 104 = .ok (.aload_n 1, 1) := by decide +kernel
theorem dX10_grow_105 : decode cX10_grow 105 = .ok (.iload 7, 2) := by decide +kernel
theorem dX10_grow_107 : decode cX10_grow 107 = .ok (.invokestatic 96, 3) := by decide +kernel
theorem dX10_grow_110 : decode cX10_grow 110 = .ok (.invokevirtual 92, 3) := by decide +kernel
theorem dX10_grow_113 : decode cX10_grow 113 = .ok (.pop, 1) := by decide +kernel
theorem dX10_grow_114 : decode cX10_grow 114 = .ok (.iinc 7 1, 3) := by decide +kernel
theorem dX10_grow_117 : decode cX10_grow 117 = .ok (.goto (-50), 3) := by decide +kernel
theorem dX10_grow_120 : decode cX10_grow 120 = .ok (.iinc 6 1, 3) := by decide +kernel
theorem dX10_grow_123 : decode cX10_grow 123 = .ok (.goto (-90), 3) := by decide +kernel
theorem dX10_grow_126 : decode cX10_grow 126 = .ok (.aload_n 0, 1) := by decide +kernel
theorem dX10_grow_127 : decode cX10_grow 127 = .ok (.getfield 27, 3) := by decide +kernel
theorem dX10_grow_130 : decode cX10_grow 130 = .ok (.iload_n 2, 1) := by decide +kernel
theorem dX10_grow_131 : decode cX10_grow 131 = .ok (.aload_n 0, 1) := by decide +kernel
theorem dX10_grow_132 : decode cX10_grow 132 = .ok (.getfield 14, 3) := by decide +kernel
theorem dX10_grow_135 : decode cX10_grow 135 = .ok (.getfield 66, 3) := by decide +kernel
theorem dX10_grow_138 : decode cX10_grow 138 = .ok (.iastore, 1) := by decide +kernel
theorem dX10_grow_139 : decode cX10_grow 139 = .ok (.iconst 1, 1) := by decide +kernel
theorem dX10_grow_140 : decode cX10_grow 140 = .ok (.ireturn, 1) := by decide +kernel
set_option maxRecDepth 20000 in
theorem ggX10_find_X6_enter : GoodIn wsX10_find wsX6_enter := goodIn_r _ [12, 13, 14, 15, 16, 17, 18, 19, 11, 20, 21, 22, 31, 32, 33, 34, 35] (by decide +kernel) (by decide +kernel)
set_option maxRecDepth 20000 in
theorem gX10_find_X6_enter : GoodIn wsX10_find (wsV RX10 103 RX6 yX6_enter wsX6_enter) := goodIn_app (goodIn_of _ (by decide +kernel)) ggX10_find_X6_enter
theorem dX10_find_0 : decode cX10_find 0 = .ok (.aload_n 0, 1) := by decide +kernel
theorem dX10_find_1 : decode cX10_find 1 = .ok (.getfield 14, 3) := by decide +kernel
theorem dX10_find_4 : decode cX10_find 4 = .ok (.getfield 66, 3) := by decide +kernel
theorem dX10_find_7 : decode cX10_find 7 = .ok (.istore_n 3, 1) := by decide +kernel
theorem dX10_find_8 : decode cX10_find 8 = .ok (.aload_n 0, 1) := by decide +kernel
theorem dX10_find_9 : decode cX10_find 9 = .ok (.getfield 14, 3) := by decide +kernel
theorem dX10_find_12 : decode cX10_find 12 = .ok (.aload_n 0, 1) := by decide +kernel
theorem dX10_find_13 : decode cX10_find 13 = .ok (.getfield 33, 3) := by decide +kernel
theorem dX10_find_16 : decode cX10_find 16 = .ok (.getfield 100, 3) := by decide +kernel
theorem dX10_find_19 : decode cX10_find 19 = .ok (.invokevirtual 103, 3) := by decide +kernel
theorem dX10_find_22 : decode cX10_find 22 = .ok (.istore 4, 2) := by decide +kernel
theorem dX10_find_24 : decode cX10_find 24 = .ok (.iload 4, 2) := by decide +kernel
theorem dX10_find_26 : decode cX10_find 26 = .ok (.iconst (-1), 1) := by decide +kernel
theorem dX10_find_27 : decode cX10_find 27 = .ok (.if_icmp .ne 5, 3) := by decide +kernel
theorem dX10_find_30 : decode cX10_find 30 = .ok (.iconst 0, 1) := by decide +kernel
theorem dX10_find_31 : decode cX10_find 31 = .ok (.ireturn, 1) := by decide +kernel
theorem dX10_find_32 : decode cX10_find 32 = .ok (.aload_n 0, 1) := by decide +kernel
theorem dX10_find_33 : decode cX10_find 33 = .ok (.getfield 14, 3) := by decide +kernel
theorem dX10_find_36 : decode cX10_find 36 = .ok (.getfield 66, 3) := by decide +kernel
theorem dX10_find_39 : decode cX10_find 39 = .ok (.iload_n 3, 1) := by decide +kernel
theorem dX10_find_40 : decode cX10_find 40 = .ok (.if_icmp .le 11, 3) := by decide +kernel
theorem dX10_find_43 : decode cX10_find 43 = .ok (.aload_n 0, 1) := by decide +kernel
theorem dX10_find_44 : decode cX10_find 44 = .ok (.getfield 20, 3) := by decide +kernel
theorem dX10_find_47 : decode cX10_find 47 = .ok (.iload 4, 2) := by decide +kernel
theorem dX10_find_49 : decode cX10_find 49 = .ok (.iconst 0, 1) := by decide +kernel
theorem dX10_find_50 : decode cX10_find 50 = .ok (.iastore, 1) := by decide +kernel
theorem dX10_find_51 : decode cX10_find 51 = .ok (.aload_n 0, 1) := by decide +kernel
theorem dX10_find_52 : decode cX10_find 52 = .ok (.getfield 20, 3) := by decide +kernel
theorem dX10_find_55 : decode cX10_find 55 = .ok (.iload 4, 2) := by decide +kernel
theorem dX10_find_57 : decode cX10_find 57 = .ok (.iaload, 1) := by decide +kernel
theorem dX10_find_58 : decode cX10_find 58 = .ok (.iload_n 1, 1) := by decide +kernel
theorem dX10_find_59 : decode cX10_find 59 = .ok (.ishr, 1) := by decide +kernel
theorem dX10_find_60 : decode cX10_find 60 = .ok (.iconst 1, 1) := by decide +kernel
theorem dX10_find_61 : decode cX10_find 61 = .ok (.iand, 1) := by decide +kernel
theorem dX10_find_62 : decode cX10_find 62 = .ok (.iconst 1, 1) := by decide +kernel
theorem dX10_find_63 : decode cX10_find 63 = .ok (.if_icmp .ne 5, 3) := by decide +kernel
theorem dX10_find_66 : decode cX10_find 66 = .ok (.iconst 1, 1) := by decide +kernel
theorem dX10_find_67 : decode cX10_find 67 = .ok (.ireturn, 1) := by decide +kernel
theorem dX10_find_68 : decode cX10_find 68 = .ok (.aload_n 0, 1) := by decide +kernel
theorem dX10_find_69 : decode cX10_find 69 = .ok (.getfield 40, 3) := by decide +kernel
theorem dX10_find_72 : decode cX10_find 72 = .ok (.iload_n 2, 1) := by decide +kernel
theorem dX10_find_73 : decode cX10_find 73 = .ok (.if_icmp .lt 5, 3) := by decide +kernel
theorem dX10_find_76 : decode cX10_find 76 = .ok (.iconst 0, 1) := by decide +kernel
theorem dX10_find_77 : decode cX10_find 77 = .ok (.ireturn, 1) := by decide +kernel
theorem dX10_find_78 : decode cX10_find 78 = .ok (.aload_n 0, 1) := by decide +kernel
theorem dX10_find_79 : decode cX10_find 79 = .ok (.dup, 1) := by decide +kernel
theorem dX10_find_80 : decode cX10_find 80 = .ok (.getfield 40, 3) := by decide +kernel
theorem dX10_find_83 : decode cX10_find 83 = .ok (.iconst 1, 1) := by decide +kernel
theorem dX10_find_84 : decode cX10_find 84 = .ok (.iadd, 1) := by decide +kernel
theorem dX10_find_85 : decode cX10_find 85 = .ok (.putfield 40, 3) := by decide +kernel
theorem dX10_find_88 : decode cX10_find 88 = .ok (.aload_n 0, 1) := by decide +kernel
theorem dX10_find_89 : decode cX10_find 89 = .ok (.aload_n 0, 1) := by decide +kernel
theorem dX10_find_90 : decode cX10_find 90 = .ok (.getfield 47, 3) := by decide +kernel
theorem dX10_find_93 : decode cX10_find 93 = .ok (.ifCond .ne 13, 3) := by decide +kernel
theorem dX10_find_96 : decode cX10_find 96 = .ok (.aload_n 0, 1) := by decide +kernel
theorem dX10_find_97 : decode cX10_find 97 = .ok (.getfield 20, 3) := by decide +kernel
theorem dX10_find_100 : decode cX10_find 100 = .ok (.iload 4, 2) := by decide +kernel
theorem dX10_find_102 : decode cX10_find 102 = .ok (.iaload, 1) := by decide +kernel
theorem dX10_find_103 : decode cX10_find 103 = .ok (.ifCond .eq 7, 3) := by decide +kernel
theorem dX10_find_106 : decode cX10_find 106 = .ok (.iconst 1, 1) := by decide +kernel
theorem dX10_find_107 : decode cX10_find 107 = .ok (.goto 4, 3) := by decide +kernel
theorem dX10_find_110 : decode cX10_find 110 = .ok (.iconst 0, 1) := by decide +kernel
theorem dX10_find_111 : decode cX10_find 111 = .ok (.putfield 47, 3) := by decide +kernel
theorem dX10_find_114 : decode cX10_find 114 = .ok (.aload_n 0, 1) := by decide +kernel
theorem dX10_find_115 : decode cX10_find 115 = .ok (.getfield 20, 3) := by decide +kernel
theorem dX10_find_118 : decode cX10_find 118 = .ok (.iload 4, 2) := by decide +kernel
theorem dX10_find_120 : decode cX10_find 120 = .ok (.dup2, 1) := by decide +kernel
theorem dX10_find_121 : decode cX10_find 121 = .ok (.iaload, 1) := by decide +kernel
theorem dX10_find_122 : decode cX10_find 122 = .ok (.iconst 1, 1) := by decide +kernel
theorem dX10_find_123 : decode cX10_find 123 = .ok (.iload_n 1, 1) := by decide +kernel
theorem dX10_find_124 : decode cX10_find 124 = .ok (.ishl, 1) := by decide +kernel
theorem dX10_find_125 : decode cX10_find 125 = .ok (.ior, 1) := by decide +kernel
theorem dX10_find_126 : decode cX10_find 126 = .ok (.iastore, 1) := by decide +kernel
theorem dX10_find_127 : decode cX10_find 127 = .ok (.iconst 1, 1) := by decide +kernel
theorem dX10_find_128 : decode cX10_find 128 = .ok (.ireturn, 1) := by decide +kernel
set_option maxRecDepth 20000 in
theorem ggX11_init_X9_init : GoodIn wsX11_init wsX9_init := goodIn_r _ [46, 47, 2, 3, 48, 49, 50, 51, 52, 42, 43, 53, 54, 55, 56, 57, 58, 59, 19, 60, 61, 62, 63, 64, 65, 66, 67, 68, 69, 70, 71, 72, 73, 74, 75, 76, 77, 78, 79, 80, 81, 82, 83, 84, 85, 86, 87, 88, 89, 90, 91, 92, 93, 94, 95, 96, 97, 98, 99, 100, 101, 363, 364, 365, 366, 367, 368, 369, 370, 371, 372, 373, 291, 292, 293, 294, 295, 296, 297, 298, 359, 360, 361, 362, 374, 375, 376, 377, 378, 379, 380, 381, 382, 383, 384, 385] (by decide +kernel) (by decide +kernel)
set_option maxRecDepth 20000 in
theorem gX11_init_X9_init : GoodIn wsX11_init (wsX9_init) := ggX11_init_X9_init
set_option maxRecDepth 20000 in
theorem ggX11_init_X7_init : GoodIn wsX11_init wsX7_init := goodIn_r _ [104, 105, 2, 3, 19, 106, 107, 318, 319, 320, 321] (by decide +kernel) (by decide +kernel)
set_option maxRecDepth 20000 in
theorem gX11_init_X7_init : GoodIn wsX11_init (wsX7_init) := ggX11_init_X7_init
set_option maxRecDepth 20000 in
theorem ggX11_init_X3_init : GoodIn wsX11_init wsX3_init := goodIn_r _ [110, 111, 2, 3, 112, 113, 114, 115, 19, 116, 117, 118, 119, 120, 9, 10, 121, 122, 123, 124, 125, 86, 126, 127, 128, 129, 130, 92, 93, 94, 131, 103, 104, 105, 106, 107, 386, 387, 388, 389, 390, 322, 323, 324, 325, 326, 327, 328, 329, 318, 319, 320, 321] (by decide +kernel) (by decide +kernel)
set_option maxRecDepth 20000 in
theorem gX11_init_X3_init : GoodIn wsX11_init (wsX3_init) := ggX11_init_X3_init
set_option maxRecDepth 20000 in
theorem ggX11_init_X5_init : GoodIn wsX11_init wsX5_init := goodIn_r _ [134, 135, 2, 3, 19, 136, 137, 138, 139, 9, 10, 140, 141, 103, 104, 105, 106, 107, 330, 331, 332, 333, 334, 335, 336, 337, 318, 319, 320, 321] (by decide +kernel) (by decide +kernel)
set_option maxRecDepth 20000 in
theorem gX11_init_X5_init : GoodIn wsX11_init (wsX5_init) := ggX11_init_X5_init
set_option maxRecDepth 20000 in
theorem ggX11_init_X10_init : GoodIn wsX11_init wsX10_init := goodIn_r _ [144, 145, 2, 3, 146, 113, 114, 147, 19, 148, 149, 150, 151, 9, 10, 152, 153, 123, 124, 125, 86, 126, 127, 128, 129, 130, 92, 93, 94, 154, 103, 104, 105, 106, 107, 386, 387, 388, 389, 390, 338, 339, 340, 341, 342, 343, 344, 345, 318, 319, 320, 321] (by decide +kernel) (by decide +kernel)
set_option maxRecDepth 20000 in
theorem gX11_init_X10_init : GoodIn wsX11_init (wsX10_init) := ggX11_init_X10_init
set_option maxRecDepth 20000 in
theorem ggX11_init_X2_init : GoodIn wsX11_init wsX2_init := goodIn_r _ [157, 158, 2, 3, 86, 159, 19, 160, 161, 162, 163, 164, 165, 9, 10, 166, 167, 103, 104, 105, 106, 107, 346, 347, 348, 349, 350, 351, 352, 353, 354, 355, 356, 357, 358, 318, 319, 320, 321] (by decide +kernel) (by decide +kernel)
set_option maxRecDepth 20000 in
theorem gX11_init_X2_init : GoodIn wsX11_init (wsX2_init) := ggX11_init_X2_init
set_option maxRecDepth 20000 in
theorem ggX11_init_X1_init : GoodIn wsX11_init wsX1_init := goodIn_r _ [78, 79, 2, 3, 19, 80, 81, 359, 360, 361, 362] (by decide +kernel) (by decide +kernel)
set_option maxRecDepth 20000 in
theorem gX11_init_X1_init : GoodIn wsX11_init (wsX1_init) := ggX11_init_X1_init
set_option maxRecDepth 20000 in
theorem ggX11_init_X11_begin : GoodIn wsX11_init wsX11_begin := goodIn_r _ [173, 7, 174, 11, 175, 176, 17, 21, 38, 177, 178, 179, 180, 50, 181, 182, 183, 184, 185, 69, 70, 186, 187, 188, 189, 71, 190, 191, 192, 193, 194, 195, 196, 197, 72, 198, 199, 200, 201, 202, 203, 204, 205, 206, 207, 208, 209, 210, 211, 212, 213, 75, 214, 92, 93, 94, 215, 216, 217, 218, 73, 74, 219, 220, 221, 10, 222, 223, 224, 225, 226, 227, 228, 229, 230, 231, 106, 107, 232, 233, 234, 235, 236, 237, 238, 239, 240, 241, 242, 243, 244, 245, 246, 43, 247, 81, 248, 249, 250, 251, 252, 253, 254, 255, 80, 256, 257, 258, 259, 260, 261, 262, 263, 264, 37, 265, 266, 267, 268, 269, 172, 270, 271, 272, 273, 6, 274, 275, 276, 277, 278, 279, 280, 281, 282, 283, 284, 285, 286, 287, 288, 289, 290, 40, 299, 300, 301, 302, 303, 304, 305, 306, 307, 308, 309, 310, 311, 312, 313, 314, 315, 316, 317, 291, 292, 293, 294, 295, 296, 297, 298, 363, 364, 365, 366, 367, 368, 369, 370, 371, 372, 373, 318, 319, 320, 321, 359, 360, 361, 362, 346, 347, 348, 349, 350, 351, 352, 353, 354, 355, 356, 357, 358] (by decide +kernel) (by decide +kernel)
set_option maxRecDepth 20000 in
theorem gX11_init_X11_begin : GoodIn wsX11_init (wsV RX11 91 RX11 yX11_begin wsX11_begin) := goodIn_app (goodIn_of _ (by decide +kernel)) ggX11_init_X11_begin
theorem dX11_init_0 : decode cX11_init 0 = .ok (.aload_n 0, 1) := by decide +kernel
theorem dX11_init_1 : decode cX11_init 1 = .ok (.invokespecial 3, 3) := by decide +kernel
theorem dX11_init_4 : decode cX11_init 4 = .ok (.aload_n 0, 1) := by decide +kernel
theorem dX11_init_5 : decode cX11_init 5 = .ok (.new 9, 3) := by decide +kernel
theorem dX11_init_8 : decode cX11_init 8 = .ok (.dup, 1) := by decide +kernel
theorem dX11_init_9 : decode cX11_init 9 = .ok (.invokespecial 11, 3) := by decide +kernel
theorem dX11_init_12 : decode cX11_init 12 = .ok (.putfield 12, 3) := by decide +kernel
theorem dX11_init_15 : decode cX11_init 15 = .ok (.aload_n 0, 1) := by decide +kernel
theorem dX11_init_16 : decode cX11_init 16 = .ok (.new 16, 3) := by decide +kernel
theorem dX11_init_19 : decode cX11_init 19 = .ok (.dup, 1) := by decide +kernel
theorem dX11_init_20 : decode cX11_init 20 = .ok (.invokespecial 18, 3) := by decide +kernel
theorem dX11_init_23 : decode cX11_init 23 = .ok (.putfield 19, 3) := by decide +kernel
theorem dX11_init_26 : decode cX11_init 26 = .ok (.aload_n 0, 1) := by decide +kernel
theorem dX11_init_27 : decode cX11_init 27 = .ok (.new 16, 3) := by decide +kernel
theorem dX11_init_30 : decode cX11_init 30 = .ok (.dup, 1) := by decide +kernel
theorem dX11_init_31 : decode cX11_init 31 = .ok (.invokespecial 18, 3) := by decide +kernel
theorem dX11_init_34 : decode cX11_init 34 = .ok (.putfield 23, 3) := by decide +kernel
theorem dX11_init_37 : decode cX11_init 37 = .ok (.aload_n 0, 1) := by decide +kernel
theorem dX11_init_38 : decode cX11_init 38 = .ok (.iconst 2, 1) := by decide +kernel
theorem dX11_init_39 : decode cX11_init 39 = .ok (.anewarray 16, 3) := by decide +kernel
theorem dX11_init_42 : decode cX11_init 42 = .ok (.putfield 26, 3) := by decide +kernel
theorem dX11_init_45 : decode cX11_init 45 = .ok (.aload_n 0, 1) := by decide +kernel
theorem dX11_init_46 : decode cX11_init 46 = .ok (.iconst 2, 1) := by decide +kernel
theorem dX11_init_47 : decode cX11_init 47 = .ok (.anewarray 30, 3) := by decide +kernel
theorem dX11_init_50 : decode cX11_init 50 = .ok (.putfield 32, 3) := by decide +kernel
theorem dX11_init_53 : decode cX11_init 53 = .ok (.aload_n 0, 1) := by decide +kernel
theorem dX11_init_54 : decode cX11_init 54 = .ok (.iconst 2, 1) := by decide +kernel
theorem dX11_init_55 : decode cX11_init 55 = .ok (.newarray .boolean, 2) := by decide +kernel
theorem dX11_init_57 : decode cX11_init 57 = .ok (.putfield 36, 3) := by decide +kernel
theorem dX11_init_60 : decode cX11_init 60 = .ok (.aload_n 0, 1) := by decide +kernel
theorem dX11_init_61 : decode cX11_init 61 = .ok (.iconst 4, 1) := by decide +kernel
theorem dX11_init_62 : decode cX11_init 62 = .ok (.bipush 8, 2) := by decide +kernel
theorem dX11_init_64 : decode cX11_init 64 = .ok (.multianewarray 40 2, 4) := by decide +kernel
theorem dX11_init_68 : decode cX11_init 68 = .ok (.putfield 42, 3) := by decide +kernel
theorem dX11_init_71 : decode cX11_init 71 = .ok (.aload_n 0, 1) := by decide +kernel
theorem dX11_init_72 : decode cX11_init 72 = .ok (.iconst 4, 1) := by decide +kernel
theorem dX11_init_73 : decode cX11_init 73 = .ok (.newarray .int, 2) := by decide +kernel
theorem dX11_init_75 : decode cX11_init 75 = .ok (.putfield 45, 3) := by decide +kernel
theorem dX11_init_78 : decode cX11_init 78 = .ok (.aload_n 0, 1) := by decide +kernel
theorem dX11_init_79 : decode cX11_init 79 = .ok (.sipush 200, 3) := by decide +kernel
theorem dX11_init_82 : decode cX11_init 82 = .ok (.newarray .int, 2) := by decide +kernel
theorem dX11_init_84 : decode cX11_init 84 = .ok (.putfield 49, 3) := by decide +kernel
theorem dX11_init_87 : decode cX11_init 87 = .ok (.aload_n 0, 1) := by decide +kernel
theorem dX11_init_88 : decode cX11_init 88 = .ok (.new 52, 3) := by decide +kernel
theorem dX11_init_91 : decode cX11_init 91 = .ok (.dup, 1) := by decide +kernel
theorem dX11_init_92 : decode cX11_init 92 = .ok (.invokespecial 54, 3) := by decide +kernel
theorem dX11_init_95 : decode cX11_init 95 = .ok (.putfield 55, 3) := by decide +kernel
theorem dX11_init_98 : decode cX11_init 98 = .ok (.aload_n 0, 1) := by decide +kernel
theorem dX11_init_99 : decode cX11_init 99 = .ok (.new 59, 3) := by decide +kernel
theorem dX11_init_102 : decode cX11_init 102 = .ok (.dup, 1) := by decide +kernel
theorem dX11_init_103 : decode cX11_init 103 = .ok (.invokespecial 61, 3) := by decide +kernel
theorem dX11_init_106 : decode cX11_init 106 = .ok (.putfield 62, 3) := by decide +kernel
theorem dX11_init_109 : decode cX11_init 109 = .ok (.aload_n 0, 1) := by decide +kernel
theorem dX11_init_110 : decode cX11_init 110 = .ok (.new 66, 3) := by decide +kernel
theorem dX11_init_113 : decode cX11_init 113 = .ok (.dup, 1) := by decide +kernel
theorem dX11_init_114 : decode cX11_init 114 = .ok (.invokespecial 68, 3) := by decide +kernel
theorem dX11_init_117 : decode cX11_init 117 = .ok (.putfield 69, 3) := by decide +kernel
theorem dX11_init_120 : decode cX11_init 120 = .ok (.aload_n 0, 1) := by decide +kernel
theorem dX11_init_121 : decode cX11_init 121 = .ok (.new 73, 3) := by decide +kernel
theorem dX11_init_124 : decode cX11_init 124 = .ok (.dup, 1) := by decide +kernel
theorem dX11_init_125 : decode cX11_init 125 = .ok (.invokespecial 75, 3) := by decide +kernel
theorem dX11_init_128 : decode cX11_init 128 = .ok (.putfield 76, 3) := by decide +kernel
theorem dX11_init_131 : decode cX11_init 131 = .ok (.aload_n 0, 1) := by decide +kernel
theorem dX11_init_132 : decode cX11_init 132 = .ok (.sipush 1000, 3) := by decide +kernel
theorem dX11_init_135 : decode cX11_init 135 = .ok (.newarray .int, 2) := by decide +kernel
theorem dX11_init_137 : decode cX11_init 137 = .ok (.putfield 80, 3) := by decide +kernel
theorem dX11_init_140 : decode cX11_init 140 = .ok (.aload_n 0, 1) := by decide +kernel
theorem dX11_init_141 : decode cX11_init 141 = .ok (.iconst 3, 1) := by decide +kernel
theorem dX11_init_142 : decode cX11_init 142 = .ok (.newarray .int, 2) := by decide +kernel
theorem dX11_init_144 : decode cX11_init 144 = .ok (.putfield 83, 3) := by decide +kernel
theorem dX11_init_147 : decode cX11_init 147 = .ok (.aload_n 0, 1) := by decide +kernel
theorem dX11_init_148 : decode cX11_init 148 = .ok (.sipush 500, 3) := by decide +kernel
theorem dX11_init_151 : decode cX11_init 151 = .ok (.putfield 86, 3) := by decide +kernel
theorem dX11_init_154 : decode cX11_init 154 = .ok (.iconst 0, 1) := by decide +kernel
theorem dX11_init_155 : decode cX11_init 155 = .ok (.istore_n 1, 1) := by decide +kernel
theorem dX11_init_156 : decode cX11_init 156 = .ok (.iload_n 1, 1) := by decide +kernel
theorem dX11_init_157 : decode cX11_init 157 = .ok (.iconst 2, 1) := by decide +kernel
theorem dX11_init_158 : decode cX11_init 158 = .ok (.if_icmp .ge 35, 3) := by decide +kernel
theorem dX11_init_161 : decode cX11_init 161 = .ok (.aload_n 0, 1) := by decide +kernel
theorem dX11_init_162 : decode cX11_init 162 = .ok (.getfield 26, 3) := by decide +kernel
theorem dX11_init_165 : decode cX11_init 165 = .ok (.iload_n 1, 1) := by decide +kernel
theorem dX11_init_166 : decode cX11_init 166 = .ok (.new 16, 3) := by decide +kernel
theorem dX11_init_169 : decode cX11_init 169 = .ok (.dup, 1) := by decide +kernel
theorem dX11_init_170 : decode cX11_init 170 = .ok (.invokespecial 18, 3) := by decide +kernel
theorem dX11_init_173 : decode cX11_init 173 = .ok (.aastore, 1) := by decide +kernel
theorem dX11_init_174 : decode cX11_init 174 = .ok (.aload_n 0, 1) := by decide +kernel
theorem dX11_init_175 : decode cX11_init 175 = .ok (.getfield 32, 3) := by decide +kernel
theorem dX11_init_178 : decode cX11_init 178 = .ok (.iload_n 1, 1) := by decide +kernel
theorem dX11_init_179 : decode cX11_init 179 = .ok (.new 30, 3) := by decide +kernel
theorem dX11_init_182 : decode cX11_init 182 = .ok (.dup, 1) := by decide +kernel
theorem dX11_init_183 : decode cX11_init 183 = .ok (.invokespecial 90, 3) := by decide +kernel
theorem dX11_init_186 : decode cX11_init 186 = .ok (.aastore, 1) := by decide +kernel
theorem dX11_init_187 : decode cX11_init 187 = .ok (.iinc 1 1, 3) := by decide +kernel
theorem dX11_init_190 : decode cX11_init 190 = .ok (.goto (-34), 3) := by decide +kernel
theorem dX11_init_193 : decode cX11_init 193 = .ok (.aload_n 0, 1) := by decide +kernel
theorem dX11_init_194 : decode cX11_init 194 = .ok (.iconst 3, 1) := by decide +kernel
theorem dX11_init_195 : decode cX11_init 195 = .ok (.iconst 3, 1) := by decide +kernel
theorem dX11_init_196 : decode cX11_init 196 = .ok (.iconst 0, 1) := by decide +kernel
theorem dX11_init_197 : decode cX11_init 197 = .ok (.invokevirtual 91, 3) := by decide +kernel
theorem dX11_init_200 : decode cX11_init 200 = .ok (.return_, 1) := by decide +kernel
set_option maxRecDepth 20000 in
theorem ggX11_tray_X4_isTray : GoodIn wsX11_tray wsX4_isTray := goodIn_r _ [6, 7, 8, 9, 10, 11, 12, 13, 14, 15, 5, 16] (by decide +kernel) (by decide +kernel)
set_option maxRecDepth 20000 in
theorem gX11_tray_X4_isTray : GoodIn wsX11_tray (va_wsS RX11 95 yX4_isTray wsX4_isTray) := goodIn_app (goodIn_of _ (by decide +kernel)) ggX11_tray_X4_isTray
set_option maxRecDepth 20000 in
theorem ggX11_tray_X11_begin : GoodIn wsX11_tray wsX11_begin := goodIn_r _ [21, 22, 23, 24, 25, 26, 27, 28, 29, 30, 31, 32, 33, 5, 34, 35, 36, 37, 38, 39, 40, 41, 42, 43, 44, 45, 46, 47, 48, 49, 50, 51, 52, 53, 54, 55, 56, 57, 58, 59, 60, 61, 62, 63, 64, 65, 66, 67, 68, 69, 70, 71, 72, 73, 74, 75, 76, 77, 78, 79, 80, 81, 82, 83, 84, 85, 86, 87, 88, 89, 90, 91, 92, 93, 94, 95, 96, 97, 98, 99, 100, 101, 102, 103, 104, 105, 106, 107, 108, 109, 110, 111, 112, 113, 114, 115, 116, 117, 118, 119, 120, 121, 122, 123, 124, 125, 126, 127, 128, 129, 130, 131, 132, 133, 134, 135, 136, 137, 138, 139, 20, 140, 141, 142, 143, 144, 145, 146, 147, 148, 149, 150, 151, 152, 153, 154, 155, 156, 157, 158, 159, 160, 161, 162, 167, 168, 169, 170, 171, 172, 173, 174, 175, 176, 177, 178, 179, 180, 181, 182, 183, 184, 185, 186, 187, 188, 189, 190, 191, 192, 193, 194, 195, 196, 197, 198, 199, 200, 201, 202, 203, 204, 205, 206, 207, 208, 209, 210, 211, 212, 213, 214, 215, 216, 217, 218, 219, 220, 221, 222, 223, 224, 225] (by decide +kernel) (by decide +kernel)
set_option maxRecDepth 20000 in
theorem gX11_tray_X11_begin : GoodIn wsX11_tray (wsV RX11 91 RX11 yX11_begin wsX11_begin) := goodIn_app (goodIn_of _ (by decide +kernel)) ggX11_tray_X11_begin
set_option maxRecDepth 20000 in
theorem ggX11_tray_X11_tiles : GoodIn wsX11_tray wsX11_tiles := goodIn_r _ [166, 22, 23, 25, 167, 168, 169, 170, 171, 172, 173, 174, 175, 176, 177, 178, 179, 180, 181, 182, 183, 184, 185, 186, 187, 188, 189, 190, 191, 192, 193, 194, 195, 196, 197, 198, 199, 200, 201, 202, 203, 204] (by decide +kernel) (by decide +kernel)
set_option maxRecDepth 20000 in
theorem gX11_tray_X11_tiles : GoodIn wsX11_tray (wsV RX11 108 RX11 yX11_tiles wsX11_tiles) := goodIn_app (goodIn_of _ (by decide +kernel)) ggX11_tray_X11_tiles
theorem dX11_tray_0 : decode cX11_tray 0 = .ok (.iload_n 1, 1) := by decide +kernel
theorem dX11_tray_1 : decode cX11_tray 1 = .ok (.iload_n 2, 1) := by decide +kernel
theorem dX11_tray_2 : decode cX11_tray 2 = .ok (.iload_n 3, 1) := by decide +kernel
theorem dX11_tray_3 : decode cX11_tray 3 = .ok (.invokestatic 95, 3) := by decide +kernel
theorem dX11_tray_6 : decode cX11_tray 6 = .ok (.ifCond .ne 13, 3) := by decide +kernel
theorem dX11_tray_9 : decode cX11_tray 9 = .ok (.new 101, 3) := by decide +kernel
theorem dX11_tray_12 : decode cX11_tray 12 = .ok (.dup, 1) := by decide +kernel
theorem dX11_tray_13 : decode cX11_tray 13 = .ok (.ldc 103, 2) := by decide +kernel
theorem dX11_tray_15 : decode cX11_tray 15 = .ok (.invokespecial 105, 3) := by decide +kernel
theorem dX11_tray_18 : decode cX11_tray 18 = .ok (.athrow, 1) := by decide +kernel
theorem dX11_tray_19 : decode cX11_tray 19 = .ok (.aload_n 0, 1) := by decide +kernel
theorem dX11_tray_20 : decode cX11_tray 20 = .ok (.iload_n 1, 1) := by decide +kernel
theorem dX11_tray_21 : decode cX11_tray 21 = .ok (.iload_n 2, 1) := by decide +kernel
theorem dX11_tray_22 : decode cX11_tray 22 = .ok (.iload_n 3, 1) := by decide +kernel
theorem dX11_tray_23 : decode cX11_tray 23 = .ok (.invokevirtual 91, 3) := by decide +kernel
theorem dX11_tray_26 : decode cX11_tray 26 = .ok (.aload_n 0, 1) := by decide +kernel
theorem dX11_tray_27 : decode cX11_tray 27 = .ok (.invokevirtual 108, 3) := by decide +kernel
theorem dX11_tray_30 : decode cX11_tray 30 = .ok (.ireturn, 1) := by decide +kernel
set_option maxRecDepth 20000 in
theorem ggX11_lay_X7_arrangements : GoodIn wsX11_lay wsX7_arrangements := goodIn_r _ [10] (by decide +kernel) (by decide +kernel)
set_option maxRecDepth 20000 in
theorem gX11_lay_X7_arrangements : GoodIn wsX11_lay (va_wsS RX11 119 yX7_arrangements wsX7_arrangements) := goodIn_app (goodIn_of _ (by decide +kernel)) ggX11_lay_X7_arrangements
set_option maxRecDepth 20000 in
theorem ggX11_lay_X7_fromRank : GoodIn wsX11_lay wsX7_fromRank := goodIn_r _ [14, 15, 16, 17, 18, 9, 19, 20, 21, 22, 23, 24, 25, 26, 27, 28, 29, 30, 31, 32, 33, 34, 35, 36, 37, 38, 39, 40, 41, 42, 43, 44, 45, 46, 47, 99, 100, 101, 102] (by decide +kernel) (by decide +kernel)
set_option maxRecDepth 20000 in
theorem gX11_lay_X7_fromRank : GoodIn wsX11_lay (wsV RX11 125 RX7 yX7_fromRank wsX7_fromRank) := goodIn_app (goodIn_of _ (by decide +kernel)) ggX11_lay_X7_fromRank
set_option maxRecDepth 20000 in
theorem ggX11_lay_X11_forgetMoves : GoodIn wsX11_lay wsX11_forgetMoves := goodIn_r _ [52, 53, 54, 61, 62, 63, 64, 65, 66, 67, 68, 69, 70, 71, 72, 73, 74, 75, 76, 77, 78, 79] (by decide +kernel) (by decide +kernel)
set_option maxRecDepth 20000 in
theorem gX11_lay_X11_forgetMoves : GoodIn wsX11_lay (wsV RX11 129 RX11 yX11_forgetMoves wsX11_forgetMoves) := goodIn_app (goodIn_of _ (by decide +kernel)) ggX11_lay_X11_forgetMoves
set_option maxRecDepth 20000 in
theorem ggX11_lay_X11_gapCell : GoodIn wsX11_lay wsX11_gapCell := goodIn_r _ [58, 3, 4, 59, 6, 60, 61, 62, 63, 64, 65, 66, 67, 68, 69, 70, 71, 72, 73, 74, 75, 76, 77, 78, 79, 80, 81, 82, 83, 84, 85, 86, 87, 88, 89, 90, 91, 92, 93, 94, 95, 96, 97, 98, 99, 100, 101, 102] (by decide +kernel) (by decide +kernel)
set_option maxRecDepth 20000 in
theorem gX11_lay_X11_gapCell : GoodIn wsX11_lay (wsV RX11 132 RX11 yX11_gapCell wsX11_gapCell) := goodIn_app (goodIn_of _ (by decide +kernel)) ggX11_lay_X11_gapCell
theorem dX11_lay_0 : decode cX11_lay 0 = .ok (.lload_n 1, 1) := by decide +kernel
theorem dX11_lay_1 : decode cX11_lay 1 = .ok (.lconst 0, 1) := by decide +kernel
theorem dX11_lay_2 : decode cX11_lay 2 = .ok (.lcmp, 1) := by decide +kernel
theorem dX11_lay_3 : decode cX11_lay 3 = .ok (.ifCond .lt 21, 3) := by decide +kernel
theorem dX11_lay_6 : decode cX11_lay 6 = .ok (.lload_n 1, 1) := by decide +kernel
theorem dX11_lay_7 : decode cX11_lay 7 = .ok (.aload_n 0, 1) := by decide +kernel
theorem dX11_lay_8 : decode cX11_lay 8 = .ok (.getfield 12, 3) := by decide +kernel
