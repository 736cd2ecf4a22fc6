theorem dX12_reckons_6 : decode cX12_reckons 6 = .ok (.putfield 382, 3) := by decide +kernel
theorem dX12_reckons_9 : decode cX12_reckons 9 = .ok (.iconst 0, 1) := by decide +kernel
theorem dX12_reckons_10 : decode cX12_reckons 10 = .ok (.istore_n 1, 1) := by decide +kernel
theorem dX12_reckons_11 : decode cX12_reckons 11 = .ok (.iload_n 1, 1) := by decide +kernel
theorem dX12_reckons_12 : decode cX12_reckons 12 = .ok (.aload_n 0, 1) := by decide +kernel
theorem dX12_reckons_13 : decode cX12_reckons 13 = .ok (.getfield 382, 3) := by decide +kernel
theorem dX12_reckons_16 : decode cX12_reckons 16 = .ok (.if_icmp .ge 114, 3) := by decide +kernel
theorem dX12_reckons_19 : decode cX12_reckons 19 = .ok (.aload_n 0, 1) := by decide +kernel
theorem dX12_reckons_20 : decode cX12_reckons 20 = .ok (.iload_n 1, 1) := by decide +kernel
theorem dX12_reckons_21 : decode cX12_reckons 21 = .ok (.i2l, 1) := by decide +kernel
theorem dX12_reckons_22 : decode cX12_reckons 22 = .ok (.aload_n 0, 1) := by decide +kernel
theorem dX12_reckons_23 : decode cX12_reckons 23 = .ok (.getfield 128, 3) := by decide +kernel
theorem dX12_reckons_26 : decode cX12_reckons 26 = .ok (.invokevirtual 265, 3) := by decide +kernel
theorem dX12_reckons_29 : decode cX12_reckons 29 = .ok (.aload_n 0, 1) := by decide +kernel
theorem dX12_reckons_30 : decode cX12_reckons 30 = .ok (.getfield 149, 3) := by decide +kernel
theorem dX12_reckons_33 : decode cX12_reckons 33 = .ok (.iload_n 1, 1) := by decide +kernel
theorem dX12_reckons_34 : decode cX12_reckons 34 = .ok (.aload_n 0, 1) := by decide +kernel
theorem dX12_reckons_35 : decode cX12_reckons 35 = .ok (.aload_n 0, 1) := by decide +kernel
theorem dX12_reckons_36 : decode cX12_reckons 36 = .ok (.getfield 128, 3) := by decide +kernel
theorem dX12_reckons_39 : decode cX12_reckons 39 = .ok (.invokevirtual 336, 3) := by decide +kernel
theorem dX12_reckons_42 : decode cX12_reckons 42 = .ok (.ifCond .eq 7, 3) := by decide +kernel
theorem dX12_reckons_45 : decode cX12_reckons 45 = .ok (.iconst 0, 1) := by decide +kernel
theorem dX12_reckons_46 : decode cX12_reckons 46 = .ok (.goto 5, 3) := by decide +kernel
theorem dX12_reckons_49 : decode cX12_reckons 49 = .ok (.ldc 199, 2) := by decide +kernel
theorem dX12_reckons_51 : decode cX12_reckons 51 = .ok (.iastore, 1) := by decide +kernel
theorem dX12_reckons_52 : decode cX12_reckons 52 = .ok (.iconst 0, 1) := by decide +kernel
theorem dX12_reckons_53 : decode cX12_reckons 53 = .ok (.istore_n 2, 1) := by decide +kernel
theorem dX12_reckons_54 : decode cX12_reckons 54 = .ok (.iload_n 2, 1) := by decide +kernel
theorem dX12_reckons_55 : decode cX12_reckons 55 = .ok (.iconst 4, 1) := by decide +kernel
theorem dX12_reckons_56 : decode cX12_reckons 56 = .ok (.if_icmp .ge 68, 3) := by decide +kernel
theorem dX12_reckons_59 : decode cX12_reckons 59 = .ok (.aload_n 0, 1) := by decide +kernel
theorem dX12_reckons_60 : decode cX12_reckons 60 = .ok (.iload_n 1, 1) := by decide +kernel
theorem dX12_reckons_61 : decode cX12_reckons 61 = .ok (.i2l, 1) := by decide +kernel
theorem dX12_reckons_62 : decode cX12_reckons 62 = .ok (.aload_n 0, 1) := by decide +kernel
theorem dX12_reckons_63 : decode cX12_reckons 63 = .ok (.getfield 128, 3) := by decide +kernel
theorem dX12_reckons_66 : decode cX12_reckons 66 = .ok (.invokevirtual 265, 3) := by decide +kernel
theorem dX12_reckons_69 : decode cX12_reckons 69 = .ok (.aload_n 0, 1) := by decide +kernel
theorem dX12_reckons_70 : decode cX12_reckons 70 = .ok (.aload_n 0, 1) := by decide +kernel
theorem dX12_reckons_71 : decode cX12_reckons 71 = .ok (.getfield 128, 3) := by decide +kernel
theorem dX12_reckons_74 : decode cX12_reckons 74 = .ok (.iload_n 2, 1) := by decide +kernel
theorem dX12_reckons_75 : decode cX12_reckons 75 = .ok (.invokevirtual 270, 3) := by decide +kernel
theorem dX12_reckons_78 : decode cX12_reckons 78 = .ok (.istore_n 3, 1) := by decide +kernel
theorem dX12_reckons_79 : decode cX12_reckons 79 = .ok (.aload_n 0, 1) := by decide +kernel
theorem dX12_reckons_80 : decode cX12_reckons 80 = .ok (.getfield 155, 3) := by decide +kernel
theorem dX12_reckons_83 : decode cX12_reckons 83 = .ok (.iconst 4, 1) := by decide +kernel
theorem dX12_reckons_84 : decode cX12_reckons 84 = .ok (.iload_n 1, 1) := by decide +kernel
theorem dX12_reckons_85 : decode cX12_reckons 85 = .ok (.imul, 1) := by decide +kernel
theorem dX12_reckons_86 : decode cX12_reckons 86 = .ok (.iload_n 2, 1) := by decide +kernel
theorem dX12_reckons_87 : decode cX12_reckons 87 = .ok (.iadd, 1) := by decide +kernel
theorem dX12_reckons_88 : decode cX12_reckons 88 = .ok (.iload_n 3, 1) := by decide +kernel
theorem dX12_reckons_89 : decode cX12_reckons 89 = .ok (.iastore, 1) := by decide +kernel
theorem dX12_reckons_90 : decode cX12_reckons 90 = .ok (.aload_n 0, 1) := by decide +kernel
theorem dX12_reckons_91 : decode cX12_reckons 91 = .ok (.getfield 152, 3) := by decide +kernel
theorem dX12_reckons_94 : decode cX12_reckons 94 = .ok (.iconst 4, 1) := by decide +kernel
theorem dX12_reckons_95 : decode cX12_reckons 95 = .ok (.iload_n 1, 1) := by decide +kernel
theorem dX12_reckons_96 : decode cX12_reckons 96 = .ok (.imul, 1) := by decide +kernel
theorem dX12_reckons_97 : decode cX12_reckons 97 = .ok (.iload_n 2, 1) := by decide +kernel
theorem dX12_reckons_98 : decode cX12_reckons 98 = .ok (.iadd, 1) := by decide +kernel
theorem dX12_reckons_99 : decode cX12_reckons 99 = .ok (.iload_n 3, 1) := by decide +kernel
theorem dX12_reckons_100 : decode cX12_reckons 100 = .ok (.iconst (-1), 1) := by decide +kernel
theorem dX12_reckons_101 : decode cX12_reckons 101 = .ok (.if_icmp .ne 7, 3) := by decide +kernel
theorem dX12_reckons_104 : decode cX12_reckons 104 = .ok (.iconst (-1), 1) := by decide +kernel
theorem dX12_reckons_105 : decode cX12_reckons 105 = .ok (.goto 12, 3) := by decide +kernel
theorem dX12_reckons_108 : decode cX12_reckons 108 = .ok (.aload_n 0, 1) := by decide +kernel
theorem dX12_reckons_109 : decode cX12_reckons 109 = .ok (.aload_n 0, 1) := by decide +kernel
theorem dX12_reckons_110 : decode cX12_reckons 110 = .ok (.getfield 128, 3) := by decide +kernel
theorem dX12_reckons_113 : decode cX12_reckons 113 = .ok (.invokevirtual 274, 3) := by decide +kernel
theorem dX12_reckons_116 : decode cX12_reckons 116 = .ok (.l2i, 1) := by decide +kernel
theorem dX12_reckons_117 : decode cX12_reckons 117 = .ok (.iastore, 1) := by decide +kernel
theorem dX12_reckons_118 : decode cX12_reckons 118 = .ok (.iinc 2 1, 3) := by decide +kernel
theorem dX12_reckons_121 : decode cX12_reckons 121 = .ok (.goto (-67), 3) := by decide +kernel
theorem dX12_reckons_124 : decode cX12_reckons 124 = .ok (.iinc 1 1, 3) := by decide +kernel
theorem dX12_reckons_127 : decode cX12_reckons 127 = .ok (.goto (-116), 3) := by decide +kernel
theorem dX12_reckons_130 : decode cX12_reckons 130 = .ok (.iconst 1, 1) := by decide +kernel
theorem dX12_reckons_131 : decode cX12_reckons 131 = .ok (.istore_n 1, 1) := by decide +kernel
theorem dX12_reckons_132 : decode cX12_reckons 132 = .ok (.iload_n 1, 1) := by decide +kernel
theorem dX12_reckons_133 : decode cX12_reckons 133 = .ok (.ifCond .eq 93, 3) := by decide +kernel
theorem dX12_reckons_136 : decode cX12_reckons 136 = .ok (.iconst 0, 1) := by decide +kernel
theorem dX12_reckons_137 : decode cX12_reckons 137 = .ok (.istore_n 1, 1) := by decide +kernel
theorem dX12_reckons_138 : decode cX12_reckons 138 = .ok (.iconst 0, 1) := by decide +kernel
theorem dX12_reckons_139 : decode cX12_reckons 139 = .ok (.istore_n 2, 1) := by decide +kernel
theorem dX12_reckons_140 : decode cX12_reckons 140 = .ok (.iload_n 2, 1) := by decide +kernel
theorem dX12_reckons_141 : decode cX12_reckons 141 = .ok (.iconst 4, 1) := by decide +kernel
theorem dX12_reckons_142 : decode cX12_reckons 142 = .ok (.aload_n 0, 1) := by decide +kernel
theorem dX12_reckons_143 : decode cX12_reckons 143 = .ok (.getfield 382, 3) := by decide +kernel
theorem dX12_reckons_146 : decode cX12_reckons 146 = .ok (.imul, 1) := by decide +kernel
theorem dX12_reckons_147 : decode cX12_reckons 147 = .ok (.if_icmp .ge 76, 3) := by decide +kernel
theorem dX12_reckons_150 : decode cX12_reckons 150 = .ok (.aload_n 0, 1) := by decide +kernel
theorem dX12_reckons_151 : decode cX12_reckons 151 = .ok (.getfield 152, 3) := by decide +kernel
theorem dX12_reckons_154 : decode cX12_reckons 154 = .ok (.iload_n 2, 1) := by decide +kernel
theorem dX12_reckons_155 : decode cX12_reckons 155 = .ok (.iaload, 1) := by decide +kernel
theorem dX12_reckons_156 : decode cX12_reckons 156 = .ok (.iconst (-1), 1) := by decide +kernel
theorem dX12_reckons_157 : decode cX12_reckons 157 = .ok (.if_icmp .eq 60, 3) := by decide +kernel
theorem dX12_reckons_160 : decode cX12_reckons 160 = .ok (.aload_n 0, 1) := by decide +kernel
theorem dX12_reckons_161 : decode cX12_reckons 161 = .ok (.getfield 149, 3) := by decide +kernel
theorem dX12_reckons_164 : decode cX12_reckons 164 = .ok (.aload_n 0, 1) := by decide +kernel
theorem dX12_reckons_165 : decode cX12_reckons 165 = .ok (.getfield 152, 3) := by decide +kernel
theorem dX12_reckons_168 : decode cX12_reckons 168 = .ok (.iload_n 2, 1) := by decide +kernel
theorem dX12_reckons_169 : decode cX12_reckons 169 = .ok (.iaload, 1) := by decide +kernel
theorem dX12_reckons_170 : decode cX12_reckons 170 = .ok (.iaload, 1) := by decide +kernel
theorem dX12_reckons_171 : decode cX12_reckons 171 = .ok (.aload_n 0, 1) := by decide +kernel
theorem dX12_reckons_172 : decode cX12_reckons 172 = .ok (.getfield 155, 3) := by decide +kernel
theorem dX12_reckons_175 : decode cX12_reckons 175 = .ok (.iload_n 2, 1) := by decide +kernel
theorem dX12_reckons_176 : decode cX12_reckons 176 = .ok (.iaload, 1) := by decide +kernel
theorem dX12_reckons_177 : decode cX12_reckons 177 = .ok (.iadd, 1) := by decide +kernel
theorem dX12_reckons_178 : decode cX12_reckons 178 = .ok (.aload_n 0, 1) := by decide +kernel
theorem dX12_reckons_179 : decode cX12_reckons 179 = .ok (.getfield 149, 3) := by decide +kernel
theorem dX12_reckons_182 : decode cX12_reckons 182 = .ok (.iload_n 2, 1) := by decide +kernel
theorem dX12_reckons_183 : decode cX12_reckons 183 = .ok (.iconst 4, 1) := by decide +kernel
theorem dX12_reckons_184 : decode cX12_reckons 184 = .ok (.idiv, 1) := by decide +kernel
theorem dX12_reckons_185 : decode cX12_reckons 185 = .ok (.iaload, 1) := by decide +kernel
theorem dX12_reckons_186 : decode cX12_reckons 186 = .ok (.if_icmp .ge 31, 3) := by decide +kernel
theorem dX12_reckons_189 : decode cX12_reckons 189 = .ok (.aload_n 0, 1) := by decide +kernel
theorem dX12_reckons_190 : decode cX12_reckons 190 = .ok (.getfield 149, 3) := by decide +kernel
theorem dX12_reckons_193 : decode cX12_reckons 193 = .ok (.iload_n 2, 1) := by decide +kernel
theorem dX12_reckons_194 : decode cX12_reckons 194 = .ok (.iconst 4, 1) := by decide +kernel
theorem dX12_reckons_195 : decode cX12_reckons 195 = .ok (.idiv, 1) := by decide +kernel
theorem dX12_reckons_196 : decode cX12_reckons 196 = .ok (.aload_n 0, 1) := by decide +kernel
theorem dX12_reckons_197 : decode cX12_reckons 197 = .ok (.getfield 149, 3) := by decide +kernel
theorem dX12_reckons_200 : decode cX12_reckons 200 = .ok (.aload_n 0, 1) := by decide +kernel
theorem dX12_reckons_201 : decode cX12_reckons 201 = .ok (.getfield 152, 3) := by decide +kernel
theorem dX12_reckons_204 : decode cX12_reckons 204 = .ok (.iload_n 2, 1) := by decide +kernel
theorem dX12_reckons_205 : decode cX12_reckons 205 = .ok (.iaload, 1) := by decide +kernel
theorem dX12_reckons_206 : decode cX12_reckons 206 = .ok (.iaload, 1) := by decide +kernel
theorem dX12_reckons_207 : decode cX12_reckons 207 = .ok (.aload_n 0, 1) := by decide +kernel
theorem dX12_reckons_208 : decode cX12_reckons 208 = .ok (.getfield 155, 3) := by decide +kernel
theorem dX12_reckons_211 : decode cX12_reckons 211 = .ok (.iload_n 2, 1) := by decide +kernel
theorem dX12_reckons_212 : decode cX12_reckons 212 = .ok (.iaload, 1) := by decide +kernel
theorem dX12_reckons_213 : decode cX12_reckons 213 = .ok (.iadd, 1) := by decide +kernel
theorem dX12_reckons_214 : decode cX12_reckons 214 = .ok (.iastore, 1) := by decide +kernel
theorem dX12_reckons_215 : decode cX12_reckons 215 = .ok (.iconst 1, 1) := by decide +kernel
theorem dX12_reckons_216 : decode cX12_reckons 216 = .ok (.istore_n 1, 1) := by decide +kernel
theorem dX12_reckons_217 : decode cX12_reckons 217 = .ok (.iinc 2 1, 3) := by decide +kernel
theorem dX12_reckons_220 : decode cX12_reckons 220 = .ok (.goto (-80), 3) := by decide +kernel
theorem dX12_reckons_223 : decode cX12_reckons 223 = .ok (.goto (-91), 3) := by decide +kernel
theorem dX12_reckons_226 : decode cX12_reckons 226 = .ok (.return_, 1) := by decide +kernel
theorem dX12_farthest_0 : decode cX12_farthest 0 = .ok (.iconst 0, 1) := by decide +kernel
theorem dX12_farthest_1 : decode cX12_farthest 1 = .ok (.istore_n 1, 1) := by decide +kernel
theorem dX12_farthest_2 : decode cX12_farthest 2 = .ok (.iconst 0, 1) := by decide +kernel
theorem dX12_farthest_3 : decode cX12_farthest 3 = .ok (.istore_n 2, 1) := by decide +kernel
theorem dX12_farthest_4 : decode cX12_farthest 4 = .ok (.iload_n 2, 1) := by decide +kernel
theorem dX12_farthest_5 : decode cX12_farthest 5 = .ok (.aload_n 0, 1) := by decide +kernel
theorem dX12_farthest_6 : decode cX12_farthest 6 = .ok (.getfield 382, 3) := by decide +kernel
theorem dX12_farthest_9 : decode cX12_farthest 9 = .ok (.if_icmp .ge 41, 3) := by decide +kernel
theorem dX12_farthest_12 : decode cX12_farthest 12 = .ok (.aload_n 0, 1) := by decide +kernel
theorem dX12_farthest_13 : decode cX12_farthest 13 = .ok (.getfield 149, 3) := by decide +kernel
theorem dX12_farthest_16 : decode cX12_farthest 16 = .ok (.iload_n 2, 1) := by decide +kernel
theorem dX12_farthest_17 : decode cX12_farthest 17 = .ok (.iaload, 1) := by decide +kernel
theorem dX12_farthest_18 : decode cX12_farthest 18 = .ok (.ldc 199, 2) := by decide +kernel
theorem dX12_farthest_20 : decode cX12_farthest 20 = .ok (.if_icmp .ge 22, 3) := by decide +kernel
theorem dX12_farthest_23 : decode cX12_farthest 23 = .ok (.aload_n 0, 1) := by decide +kernel
theorem dX12_farthest_24 : decode cX12_farthest 24 = .ok (.getfield 149, 3) := by decide +kernel
theorem dX12_farthest_27 : decode cX12_farthest 27 = .ok (.iload_n 2, 1) := by decide +kernel
theorem dX12_farthest_28 : decode cX12_farthest 28 = .ok (.iaload, 1) := by decide +kernel
theorem dX12_farthest_29 : decode cX12_farthest 29 = .ok (.iload_n 1, 1) := by decide +kernel
theorem dX12_farthest_30 : decode cX12_farthest 30 = .ok (.if_icmp .le 12, 3) := by decide +kernel
theorem dX12_farthest_33 : decode cX12_farthest 33 = .ok (.aload_n 0, 1) := by decide +kernel
theorem dX12_farthest_34 : decode cX12_farthest 34 = .ok (.getfield 149, 3) := by decide +kernel
theorem dX12_farthest_37 : decode cX12_farthest 37 = .ok (.iload_n 2, 1) := by decide +kernel
theorem dX12_farthest_38 : decode cX12_farthest 38 = .ok (.iaload, 1) := by decide +kernel
theorem dX12_farthest_39 : decode cX12_farthest 39 = .ok (.goto 4, 3) := by decide +kernel
theorem dX12_farthest_42 : decode cX12_farthest 42 = .ok (.iload_n 1, 1) := by decide +kernel
theorem dX12_farthest_43 : decode cX12_farthest 43 = .ok (.istore_n 1, 1) := by decide +kernel
theorem dX12_farthest_44 : decode cX12_farthest 44 = .ok (.iinc 2 1, 3) := by decide +kernel
theorem dX12_farthest_47 : decode cX12_farthest 47 = .ok (.goto (-43), 3) := by decide +kernel
theorem dX12_farthest_50 : decode cX12_farthest 50 = .ok (.iload_n 1, 1) := by decide +kernel
theorem dX12_farthest_51 : decode cX12_farthest 51 = .ok (.ireturn, 1) := by decide +kernel
set_option maxRecDepth 20000 in
theorem ggX12_countsWays_X12_farthest : GoodIn wsX12_countsWays wsX12_farthest := goodIn_r _ [11, 1, 2, 12, 13, 14, 15, 16, 17, 18, 19, 20, 21, 22, 23, 24, 25, 26, 27, 28, 29, 30, 31, 32, 33, 34, 35, 36, 37, 38, 39, 40, 41, 42, 43, 44, 45, 46, 47, 48, 49, 50, 51, 52, 53, 54, 55, 56, 57, 58, 59, 60, 61, 62, 63, 64, 65, 66, 67, 68, 69, 70, 71, 72, 73, 74, 75, 76, 77, 78, 79] (by decide +kernel) (by decide +kernel)
set_option maxRecDepth 20000 in
theorem gX12_countsWays_X12_farthest : GoodIn wsX12_countsWays (wsV RX12 385 RX12 yX12_farthest wsX12_farthest) := goodIn_app (goodIn_of _ (by decide +kernel)) ggX12_countsWays_X12_farthest
theorem dX12_countsWays_0 : decode cX12_countsWays 0 = .ok (.aload_n 0, 1) := by decide +kernel
theorem dX12_countsWays_1 : decode cX12_countsWays 1 = .ok (.invokevirtual 385, 3) := by decide +kernel
theorem dX12_countsWays_4 : decode cX12_countsWays 4 = .ok (.istore_n 1, 1) := by decide +kernel
theorem dX12_countsWays_5 : decode cX12_countsWays 5 = .ok (.iconst 0, 1) := by decide +kernel
theorem dX12_countsWays_6 : decode cX12_countsWays 6 = .ok (.istore_n 2, 1) := by decide +kernel
theorem dX12_countsWays_7 : decode cX12_countsWays 7 = .ok (.iload_n 2, 1) := by decide +kernel
theorem dX12_countsWays_8 : decode cX12_countsWays 8 = .ok (.iload_n 1, 1) := by decide +kernel
theorem dX12_countsWays_9 : decode cX12_countsWays 9 = .ok (.if_icmp .gt 144, 3) := by decide +kernel
theorem dX12_countsWays_12 : decode cX12_countsWays 12 = .ok (.iconst 0, 1) := by decide +kernel
theorem dX12_countsWays_13 : decode cX12_countsWays 13 = .ok (.istore_n 3, 1) := by decide +kernel
theorem dX12_countsWays_14 : decode cX12_countsWays 14 = .ok (.iload_n 3, 1) := by decide +kernel
theorem dX12_countsWays_15 : decode cX12_countsWays 15 = .ok (.aload_n 0, 1) := by decide +kernel
theorem dX12_countsWays_16 : decode cX12_countsWays 16 = .ok (.getfield 382, 3) := by decide +kernel
theorem dX12_countsWays_19 : decode cX12_countsWays 19 = .ok (.if_icmp .ge 128, 3) := by decide +kernel
theorem dX12_countsWays_22 : decode cX12_countsWays 22 = .ok (.aload_n 0, 1) := by decide +kernel
theorem dX12_countsWays_23 : decode cX12_countsWays 23 = .ok (.getfield 149, 3) := by decide +kernel
theorem dX12_countsWays_26 : decode cX12_countsWays 26 = .ok (.iload_n 3, 1) := by decide +kernel
theorem dX12_countsWays_27 : decode cX12_countsWays 27 = .ok (.iaload, 1) := by decide +kernel
theorem dX12_countsWays_28 : decode cX12_countsWays 28 = .ok (.iload_n 2, 1) := by decide +kernel
theorem dX12_countsWays_29 : decode cX12_countsWays 29 = .ok (.if_icmp .eq 6, 3) := by decide +kernel
theorem dX12_countsWays_32 : decode cX12_countsWays 32 = .ok (.goto 109, 3) := by decide +kernel
theorem dX12_countsWays_35 : decode cX12_countsWays 35 = .ok (.iload_n 2, 1) := by decide +kernel
theorem dX12_countsWays_36 : decode cX12_countsWays 36 = .ok (.ifCond .ne 7, 3) := by decide +kernel
theorem dX12_countsWays_39 : decode cX12_countsWays 39 = .ok (.iconst 1, 1) := by decide +kernel
theorem dX12_countsWays_40 : decode cX12_countsWays 40 = .ok (.goto 4, 3) := by decide +kernel
theorem dX12_countsWays_43 : decode cX12_countsWays 43 = .ok (.iconst 0, 1) := by decide +kernel
theorem dX12_countsWays_44 : decode cX12_countsWays 44 = .ok (.istore 4, 2) := by decide +kernel
theorem dX12_countsWays_46 : decode cX12_countsWays 46 = .ok (.iconst 0, 1) := by decide +kernel
theorem dX12_countsWays_47 : decode cX12_countsWays 47 = .ok (.istore 5, 2) := by decide +kernel
theorem dX12_countsWays_49 : decode cX12_countsWays 49 = .ok (.iload 5, 2) := by decide +kernel
theorem dX12_countsWays_51 : decode cX12_countsWays 51 = .ok (.iconst 4, 1) := by decide +kernel
theorem dX12_countsWays_52 : decode cX12_countsWays 52 = .ok (.if_icmp .ge 67, 3) := by decide +kernel
theorem dX12_countsWays_55 : decode cX12_countsWays 55 = .ok (.aload_n 0, 1) := by decide +kernel
theorem dX12_countsWays_56 : decode cX12_countsWays 56 = .ok (.getfield 152, 3) := by decide +kernel
theorem dX12_countsWays_59 : decode cX12_countsWays 59 = .ok (.iconst 4, 1) := by decide +kernel
theorem dX12_countsWays_60 : decode cX12_countsWays 60 = .ok (.iload_n 3, 1) := by decide +kernel
theorem dX12_countsWays_61 : decode cX12_countsWays 61 = .ok (.imul, 1) := by decide +kernel
theorem dX12_countsWays_62 : decode cX12_countsWays 62 = .ok (.iload 5, 2) := by decide +kernel
theorem dX12_countsWays_64 : decode cX12_countsWays 64 = .ok (.iadd, 1) := by decide +kernel
theorem dX12_countsWays_65 : decode cX12_countsWays 65 = .ok (.iaload, 1) := by decide +kernel
theorem dX12_countsWays_66 : decode cX12_countsWays 66 = .ok (.istore 6, 2) := by decide +kernel
theorem dX12_countsWays_68 : decode cX12_countsWays 68 = .ok (.iload 6, 2) := by decide +kernel
theorem dX12_countsWays_70 : decode cX12_countsWays 70 = .ok (.iconst (-1), 1) := by decide +kernel
theorem dX12_countsWays_71 : decode cX12_countsWays 71 = .ok (.if_icmp .eq 42, 3) := by decide +kernel
theorem dX12_countsWays_74 : decode cX12_countsWays 74 = .ok (.iload_n 2, 1) := by decide +kernel
theorem dX12_countsWays_75 : decode cX12_countsWays 75 = .ok (.ifCond .le 38, 3) := by decide +kernel
theorem dX12_countsWays_78 : decode cX12_countsWays 78 = .ok (.aload_n 0, 1) := by decide +kernel
theorem dX12_countsWays_79 : decode cX12_countsWays 79 = .ok (.getfield 149, 3) := by decide +kernel
theorem dX12_countsWays_82 : decode cX12_countsWays 82 = .ok (.iload 6, 2) := by decide +kernel
theorem dX12_countsWays_84 : decode cX12_countsWays 84 = .ok (.iaload, 1) := by decide +kernel
theorem dX12_countsWays_85 : decode cX12_countsWays 85 = .ok (.aload_n 0, 1) := by decide +kernel
theorem dX12_countsWays_86 : decode cX12_countsWays 86 = .ok (.getfield 155, 3) := by decide +kernel
theorem dX12_countsWays_89 : decode cX12_countsWays 89 = .ok (.iconst 4, 1) := by decide +kernel
theorem dX12_countsWays_90 : decode cX12_countsWays 90 = .ok (.iload_n 3, 1) := by decide +kernel
theorem dX12_countsWays_91 : decode cX12_countsWays 91 = .ok (.imul, 1) := by decide +kernel
theorem dX12_countsWays_92 : decode cX12_countsWays 92 = .ok (.iload 5, 2) := by decide +kernel
theorem dX12_countsWays_94 : decode cX12_countsWays 94 = .ok (.iadd, 1) := by decide +kernel
theorem dX12_countsWays_95 : decode cX12_countsWays 95 = .ok (.iaload, 1) := by decide +kernel
theorem dX12_countsWays_96 : decode cX12_countsWays 96 = .ok (.iadd, 1) := by decide +kernel
theorem dX12_countsWays_97 : decode cX12_countsWays 97 = .ok (.iload_n 2, 1) := by decide +kernel
theorem dX12_countsWays_98 : decode cX12_countsWays 98 = .ok (.if_icmp .ne 15, 3) := by decide +kernel
theorem dX12_countsWays_101 : decode cX12_countsWays 101 = .ok (.iload 4, 2) := by decide +kernel
theorem dX12_countsWays_103 : decode cX12_countsWays 103 = .ok (.aload_n 0, 1) := by decide +kernel
theorem dX12_countsWays_104 : decode cX12_countsWays 104 = .ok (.getfield 158, 3) := by decide +kernel
theorem dX12_countsWays_107 : decode cX12_countsWays 107 = .ok (.iload 6, 2) := by decide +kernel
theorem dX12_countsWays_109 : decode cX12_countsWays 109 = .ok (.iaload, 1) := by decide +kernel
theorem dX12_countsWays_110 : decode cX12_countsWays 110 = .ok (.iadd, 1) := by decide +kernel
theorem dX12_countsWays_111 : decode cX12_countsWays 111 = .ok (.istore 4, 2) := by decide +kernel
theorem dX12_countsWays_113 : decode cX12_countsWays 113 = .ok (.iinc 5 1, 3) := by decide +kernel
theorem dX12_countsWays_116 : decode cX12_countsWays 116 = .ok (.goto (-67), 3) := by decide +kernel
theorem dX12_countsWays_119 : decode cX12_countsWays 119 = .ok (.aload_n 0, 1) := by decide +kernel
theorem dX12_countsWays_120 : decode cX12_countsWays 120 = .ok (.getfield 158, 3) := by decide +kernel
theorem dX12_countsWays_123 : decode cX12_countsWays 123 = .ok (.iload_n 3, 1) := by decide +kernel
theorem dX12_countsWays_124 : decode cX12_countsWays 124 = .ok (.iload 4, 2) := by decide +kernel
theorem dX12_countsWays_126 : decode cX12_countsWays 126 = .ok (.ldc_w 388, 3) := by decide +kernel
theorem dX12_countsWays_129 : decode cX12_countsWays 129 = .ok (.if_icmp .ge 8, 3) := by decide +kernel
theorem dX12_countsWays_132 : decode cX12_countsWays 132 = .ok (.iload 4, 2) := by decide +kernel
theorem dX12_countsWays_134 : decode cX12_countsWays 134 = .ok (.goto 6, 3) := by decide +kernel
theorem dX12_countsWays_137 : decode cX12_countsWays 137 = .ok (.ldc_w 388, 3) := by decide +kernel
theorem dX12_countsWays_140 : decode cX12_countsWays 140 = .ok (.iastore, 1) := by decide +kernel
theorem dX12_countsWays_141 : decode cX12_countsWays 141 = .ok (.iinc 3 1, 3) := by decide +kernel
theorem dX12_countsWays_144 : decode cX12_countsWays 144 = .ok (.goto (-130), 3) := by decide +kernel
theorem dX12_countsWays_147 : decode cX12_countsWays 147 = .ok (.iinc 2 1, 3) := by decide +kernel
theorem dX12_countsWays_150 : decode cX12_countsWays 150 = .ok (.goto (-143), 3) := by decide +kernel
theorem dX12_countsWays_153 : decode cX12_countsWays 153 = .ok (.return_, 1) := by decide +kernel
set_option maxRecDepth 20000 in
theorem ggX12_far_X12_in : GoodIn wsX12_far wsX12_in := goodIn_r _ [10] (by decide +kernel) (by decide +kernel)
set_option maxRecDepth 20000 in
theorem gX12_far_X12_in : GoodIn wsX12_far (va_wsS RX12 200 yX12_in wsX12_in) := goodIn_app (goodIn_of _ (by decide +kernel)) ggX12_far_X12_in
set_option maxRecDepth 20000 in
theorem ggX12_far_X12_refuse : GoodIn wsX12_far wsX12_refuse := goodIn_r _ [14, 15, 69, 70, 71, 72, 73, 74, 75, 76, 77, 78, 79, 80, 81, 82, 83, 84, 85, 86, 87, 88, 89, 90, 91, 92, 93, 94, 95, 96, 97, 98, 99, 100, 101, 102, 103, 104, 105, 106, 107, 108, 109, 110, 111, 112, 113, 114, 115, 116, 117, 118, 119, 120, 121, 122, 123, 124, 125, 126, 127, 128, 129, 130, 131, 132, 133, 134, 135] (by decide +kernel) (by decide +kernel)
set_option maxRecDepth 20000 in
theorem gX12_far_X12_refuse : GoodIn wsX12_far (wsV RX12 204 RX12 yX12_refuse wsX12_refuse) := goodIn_app (goodIn_of _ (by decide +kernel)) ggX12_far_X12_refuse
set_option maxRecDepth 20000 in
theorem ggX12_far_X12_reckons : GoodIn wsX12_far wsX12_reckons := goodIn_r _ [19, 6, 20, 3, 4, 21, 22, 23, 24, 25, 9, 26, 1, 27, 28, 29, 30, 31, 32, 33, 34, 35, 36, 37, 38, 39, 40, 41, 42, 43, 44, 45, 46, 47, 48, 49, 50, 51, 52, 53, 54, 55, 69, 70, 71, 72, 73, 74, 75, 76, 77, 78, 79, 80, 81, 82, 83, 84, 85, 86, 87, 88, 89, 90, 91, 92, 93, 94, 95, 96, 97, 98, 99, 100, 101, 102, 103, 104, 105, 106, 107, 108, 109, 110, 111, 112, 113, 114, 115, 116, 117, 118, 119, 120, 121, 122, 123, 124, 125, 126, 127, 128, 129, 130, 131, 132, 133, 134, 135] (by decide +kernel) (by decide +kernel)
set_option maxRecDepth 20000 in
theorem gX12_far_X12_reckons : GoodIn wsX12_far (wsV RX12 389 RX12 yX12_reckons wsX12_reckons) := goodIn_app (goodIn_of _ (by decide +kernel)) ggX12_far_X12_reckons
set_option maxRecDepth 20000 in
theorem ggX12_far_X12_rankOf : GoodIn wsX12_far wsX12_rankOf := goodIn_r _ [51, 1, 52, 53, 54, 9, 55, 69, 70, 71, 72, 73, 74, 75, 76, 77, 78, 79, 80, 81, 82, 83, 84, 85, 86, 87, 88, 89, 90, 91, 92, 93, 94, 95, 96, 97, 98, 99, 100, 101, 102, 103, 104, 105, 106, 107, 108, 109, 110, 111, 112, 113, 114, 115, 116, 117, 118, 119, 120, 121, 122, 123, 124, 125, 126, 127, 128, 129, 130, 131, 132, 133, 134, 135] (by decide +kernel) (by decide +kernel)
set_option maxRecDepth 20000 in
theorem gX12_far_X12_rankOf : GoodIn wsX12_far (wsV RX12 274 RX12 yX12_rankOf wsX12_rankOf) := goodIn_app (goodIn_of _ (by decide +kernel)) ggX12_far_X12_rankOf
set_option maxRecDepth 20000 in
theorem ggX12_far_X12_told : GoodIn wsX12_far wsX12_told := goodIn_r _ [59, 15, 69, 70, 71, 72, 73, 74, 75, 76, 77, 78, 79, 80, 81, 82, 83, 84, 85, 86, 87, 88, 89, 90, 91, 92, 93, 94, 95, 96, 97, 98, 99, 100, 101, 102, 103, 104, 105, 106, 107, 108, 109, 110, 111, 112, 113, 114, 115, 116, 117, 118, 119, 120, 121, 122, 123, 124, 125, 126, 127, 128, 129, 130, 131, 132, 133, 134, 135] (by decide +kernel) (by decide +kernel)
set_option maxRecDepth 20000 in
theorem gX12_far_X12_told : GoodIn wsX12_far (wsV RX12 215 RX12 yX12_told wsX12_told) := goodIn_app (goodIn_of _ (by decide +kernel)) ggX12_far_X12_told
set_option maxRecDepth 20000 in
theorem ggX12_far_X12_countsWays : GoodIn wsX12_far wsX12_countsWays := goodIn_r _ [63, 6, 3, 22, 21, 5, 64, 65, 66, 67, 9, 68, 4, 69, 70, 71, 72, 73, 74, 75, 76, 77, 78, 79, 80, 81, 82, 83, 84, 85, 86, 87, 88, 89, 90, 91, 92, 93, 94, 95, 96, 97, 98, 99, 100, 101, 102, 103, 104, 105, 106, 107, 108, 109, 110, 111, 112, 113, 114, 115, 116, 117, 118, 119, 120, 121, 122, 123, 124, 125, 126, 127, 128, 129, 130, 131, 132, 133, 134, 135] (by decide +kernel) (by decide +kernel)
set_option maxRecDepth 20000 in
theorem gX12_far_X12_countsWays : GoodIn wsX12_far (wsV RX12 392 RX12 yX12_countsWays wsX12_countsWays) := goodIn_app (goodIn_of _ (by decide +kernel)) ggX12_far_X12_countsWays
set_option maxRecDepth 20000 in
theorem ggX12_far_X12_farthest : GoodIn wsX12_far wsX12_farthest := goodIn_r _ [68, 6, 3, 4, 69, 70, 71, 72, 73, 74, 75, 76, 77, 78, 79, 80, 81, 82, 83, 84, 85, 86, 87, 88, 89, 90, 91, 92, 93, 94, 95, 96, 97, 98, 99, 100, 101, 102, 103, 104, 105, 106, 107, 108, 109, 110, 111, 112, 113, 114, 115, 116, 117, 118, 119, 120, 121, 122, 123, 124, 125, 126, 127, 128, 129, 130, 131, 132, 133, 134, 135] (by decide +kernel) (by decide +kernel)
set_option maxRecDepth 20000 in
theorem gX12_far_X12_farthest : GoodIn wsX12_far (wsV RX12 385 RX12 yX12_farthest wsX12_farthest) := goodIn_app (goodIn_of _ (by decide +kernel)) ggX12_far_X12_farthest
theorem dX12_far_0 : decode cX12_far 0 = .ok (.iload_n 1, 1) := by decide +kernel
theorem dX12_far_1 : decode cX12_far 1 = .ok (.iconst 0, 1) := by decide +kernel
theorem dX12_far_2 : decode cX12_far 2 = .ok (.iconst 5, 1) := by decide +kernel
theorem dX12_far_3 : decode cX12_far 3 = .ok (.invokestatic 200, 3) := by decide +kernel
theorem dX12_far_6 : decode cX12_far 6 = .ok (.ifCond .ne 9, 3) := by decide +kernel
theorem dX12_far_9 : decode cX12_far 9 = .ok (.aload_n 0, 1) := by decide +kernel
theorem dX12_far_10 : decode cX12_far 10 = .ok (.iconst 1, 1) := by decide +kernel
theorem dX12_far_11 : decode cX12_far 11 = .ok (.invokevirtual 204, 3) := by decide +kernel
theorem dX12_far_14 : decode cX12_far 14 = .ok (.ireturn, 1) := by decide +kernel
theorem dX12_far_15 : decode cX12_far 15 = .ok (.aload_n 0, 1) := by decide +kernel
theorem dX12_far_16 : decode cX12_far 16 = .ok (.getfield 170, 3) := by decide +kernel
theorem dX12_far_19 : decode cX12_far 19 = .ok (.bipush 6, 2) := by decide +kernel
theorem dX12_far_21 : decode cX12_far 21 = .ok (.if_icmp .le 9, 3) := by decide +kernel
theorem dX12_far_24 : decode cX12_far 24 = .ok (.aload_n 0, 1) := by decide +kernel
theorem dX12_far_25 : decode cX12_far 25 = .ok (.iconst 2, 1) := by decide +kernel
theorem dX12_far_26 : decode cX12_far 26 = .ok (.invokevirtual 204, 3) := by decide +kernel
theorem dX12_far_29 : decode cX12_far 29 = .ok (.ireturn, 1) := by decide +kernel
theorem dX12_far_30 : decode cX12_far 30 = .ok (.aload_n 0, 1) := by decide +kernel
theorem dX12_far_31 : decode cX12_far 31 = .ok (.invokevirtual 389, 3) := by decide +kernel
theorem dX12_far_34 : decode cX12_far 34 = .ok (.aload_n 0, 1) := by decide +kernel
theorem dX12_far_35 : decode cX12_far 35 = .ok (.aload_n 0, 1) := by decide +kernel
theorem dX12_far_36 : decode cX12_far 36 = .ok (.getfield 33, 3) := by decide +kernel
theorem dX12_far_39 : decode cX12_far 39 = .ok (.invokevirtual 274, 3) := by decide +kernel
theorem dX12_far_42 : decode cX12_far 42 = .ok (.l2i, 1) := by decide +kernel
theorem dX12_far_43 : decode cX12_far 43 = .ok (.istore_n 2, 1) := by decide +kernel
theorem dX12_far_44 : decode cX12_far 44 = .ok (.iload_n 1, 1) := by decide +kernel
theorem dX12_far_45 : decode cX12_far 45 = .ok (.iconst 4, 1) := by decide +kernel
theorem dX12_far_46 : decode cX12_far 46 = .ok (.if_icmp .ne 29, 3) := by decide +kernel
theorem dX12_far_49 : decode cX12_far 49 = .ok (.aload_n 0, 1) := by decide +kernel
theorem dX12_far_50 : decode cX12_far 50 = .ok (.aload_n 0, 1) := by decide +kernel
theorem dX12_far_51 : decode cX12_far 51 = .ok (.getfield 149, 3) := by decide +kernel
theorem dX12_far_54 : decode cX12_far 54 = .ok (.iload_n 2, 1) := by decide +kernel
theorem dX12_far_55 : decode cX12_far 55 = .ok (.iaload, 1) := by decide +kernel
theorem dX12_far_56 : decode cX12_far 56 = .ok (.ldc 199, 2) := by decide +kernel
theorem dX12_far_58 : decode cX12_far 58 = .ok (.if_icmp .ne 7, 3) := by decide +kernel
theorem dX12_far_61 : decode cX12_far 61 = .ok (.iconst (-1), 1) := by decide +kernel
theorem dX12_far_62 : decode cX12_far 62 = .ok (.goto 9, 3) := by decide +kernel
theorem dX12_far_65 : decode cX12_far 65 = .ok (.aload_n 0, 1) := by decide +kernel
theorem dX12_far_66 : decode cX12_far 66 = .ok (.getfield 149, 3) := by decide +kernel
theorem dX12_far_69 : decode cX12_far 69 = .ok (.iload_n 2, 1) := by decide +kernel
theorem dX12_far_70 : decode cX12_far 70 = .ok (.iaload, 1) := by decide +kernel
theorem dX12_far_71 : decode cX12_far 71 = .ok (.invokevirtual 215, 3) := by decide +kernel
theorem dX12_far_74 : decode cX12_far 74 = .ok (.ireturn, 1) := by decide +kernel
theorem dX12_far_75 : decode cX12_far 75 = .ok (.iload_n 1, 1) := by decide +kernel
theorem dX12_far_76 : decode cX12_far 76 = .ok (.iconst 5, 1) := by decide +kernel
theorem dX12_far_77 : decode cX12_far 77 = .ok (.if_icmp .ne 33, 3) := by decide +kernel
theorem dX12_far_80 : decode cX12_far 80 = .ok (.aload_n 0, 1) := by decide +kernel
theorem dX12_far_81 : decode cX12_far 81 = .ok (.invokevirtual 392, 3) := by decide +kernel
theorem dX12_far_84 : decode cX12_far 84 = .ok (.aload_n 0, 1) := by decide +kernel
theorem dX12_far_85 : decode cX12_far 85 = .ok (.aload_n 0, 1) := by decide +kernel
theorem dX12_far_86 : decode cX12_far 86 = .ok (.getfield 149, 3) := by decide +kernel
theorem dX12_far_89 : decode cX12_far 89 = .ok (.iload_n 2, 1) := by decide +kernel
theorem dX12_far_90 : decode cX12_far 90 = .ok (.iaload, 1) := by decide +kernel
theorem dX12_far_91 : decode cX12_far 91 = .ok (.ldc 199, 2) := by decide +kernel
theorem dX12_far_93 : decode cX12_far 93 = .ok (.if_icmp .ne 7, 3) := by decide +kernel
theorem dX12_far_96 : decode cX12_far 96 = .ok (.iconst 0, 1) := by decide +kernel
theorem dX12_far_97 : decode cX12_far 97 = .ok (.goto 9, 3) := by decide +kernel
theorem dX12_far_100 : decode cX12_far 100 = .ok (.aload_n 0, 1) := by decide +kernel
theorem dX12_far_101 : decode cX12_far 101 = .ok (.getfield 158, 3) := by decide +kernel
theorem dX12_far_104 : decode cX12_far 104 = .ok (.iload_n 2, 1) := by decide +kernel
theorem dX12_far_105 : decode cX12_far 105 = .ok (.iaload, 1) := by decide +kernel
theorem dX12_far_106 : decode cX12_far 106 = .ok (.invokevirtual 215, 3) := by decide +kernel
theorem dX12_far_109 : decode cX12_far 109 = .ok (.ireturn, 1) := by decide +kernel
theorem dX12_far_110 : decode cX12_far 110 = .ok (.aload_n 0, 1) := by decide +kernel
theorem dX12_far_111 : decode cX12_far 111 = .ok (.invokevirtual 385, 3) := by decide +kernel
theorem dX12_far_114 : decode cX12_far 114 = .ok (.istore_n 3, 1) := by decide +kernel
theorem dX12_far_115 : decode cX12_far 115 = .ok (.iconst 0, 1) := by decide +kernel
theorem dX12_far_116 : decode cX12_far 116 = .ok (.istore 4, 2) := by decide +kernel
theorem dX12_far_118 : decode cX12_far 118 = .ok (.iconst 0, 1) := by decide +kernel
theorem dX12_far_119 : decode cX12_far 119 = .ok (.istore 5, 2) := by decide +kernel
theorem dX12_far_121 : decode cX12_far 121 = .ok (.iconst (-1), 1) := by decide +kernel
theorem dX12_far_122 : decode cX12_far 122 = .ok (.istore 6, 2) := by decide +kernel
theorem dX12_far_124 : decode cX12_far 124 = .ok (.iconst 0, 1) := by decide +kernel
theorem dX12_far_125 : decode cX12_far 125 = .ok (.istore 7, 2) := by decide +kernel
theorem dX12_far_127 : decode cX12_far 127 = .ok (.iload 7, 2) := by decide +kernel
theorem dX12_far_129 : decode cX12_far 129 = .ok (.aload_n 0, 1) := by decide +kernel
theorem dX12_far_130 : decode cX12_far 130 = .ok (.getfield 382, 3) := by decide +kernel
theorem dX12_far_133 : decode cX12_far 133 = .ok (.if_icmp .ge 60, 3) := by decide +kernel
theorem dX12_far_136 : decode cX12_far 136 = .ok (.iload 4, 2) := by decide +kernel
theorem dX12_far_138 : decode cX12_far 138 = .ok (.aload_n 0, 1) := by decide +kernel
theorem dX12_far_139 : decode cX12_far 139 = .ok (.getfield 149, 3) := by decide +kernel
theorem dX12_far_142 : decode cX12_far 142 = .ok (.iload 7, 2) := by decide +kernel
theorem dX12_far_144 : decode cX12_far 144 = .ok (.iaload, 1) := by decide +kernel
theorem dX12_far_145 : decode cX12_far 145 = .ok (.ldc 199, 2) := by decide +kernel
theorem dX12_far_147 : decode cX12_far 147 = .ok (.if_icmp .ge 7, 3) := by decide +kernel
theorem dX12_far_150 : decode cX12_far 150 = .ok (.iconst 1, 1) := by decide +kernel
theorem dX12_far_151 : decode cX12_far 151 = .ok (.goto 4, 3) := by decide +kernel
theorem dX12_far_154 : decode cX12_far 154 = .ok (.iconst 0, 1) := by decide +kernel
theorem dX12_far_155 : decode cX12_far 155 = .ok (.iadd, 1) := by decide +kernel
theorem dX12_far_156 : decode cX12_far 156 = .ok (.istore 4, 2) := by decide +kernel
theorem dX12_far_158 : decode cX12_far 158 = .ok (.aload_n 0, 1) := by decide +kernel
theorem dX12_far_159 : decode cX12_far 159 = .ok (.getfield 149, 3) := by decide +kernel
theorem dX12_far_162 : decode cX12_far 162 = .ok (.iload 7, 2) := by decide +kernel
theorem dX12_far_164 : decode cX12_far 164 = .ok (.iaload, 1) := by decide +kernel
theorem dX12_far_165 : decode cX12_far 165 = .ok (.iload_n 3, 1) := by decide +kernel
theorem dX12_far_166 : decode cX12_far 166 = .ok (.if_icmp .ne 21, 3) := by decide +kernel
theorem dX12_far_169 : decode cX12_far 169 = .ok (.iinc 5 1, 3) := by decide +kernel
theorem dX12_far_172 : decode cX12_far 172 = .ok (.iload 6, 2) := by decide +kernel
theorem dX12_far_174 : decode cX12_far 174 = .ok (.iconst (-1), 1) := by decide +kernel
theorem dX12_far_175 : decode cX12_far 175 = .ok (.if_icmp .ne 8, 3) := by decide +kernel
theorem dX12_far_178 : decode cX12_far 178 = .ok (.iload 7, 2) := by decide +kernel
theorem dX12_far_180 : decode cX12_far 180 = .ok (.goto 5, 3) := by decide +kernel
theorem dX12_far_183 : decode cX12_far 183 = .ok (.iload 6, 2) := by decide +kernel
theorem dX12_far_185 : decode cX12_far 185 = .ok (.istore 6, 2) := by decide +kernel
theorem dX12_far_187 : decode cX12_far 187 = .ok (.iinc 7 1, 3) := by decide +kernel
theorem dX12_far_190 : decode cX12_far 190 = .ok (.goto (-63), 3) := by decide +kernel
theorem dX12_far_193 : decode cX12_far 193 = .ok (.aload_n 0, 1) := by decide +kernel
theorem dX12_far_194 : decode cX12_far 194 = .ok (.iload_n 1, 1) := by decide +kernel
theorem dX12_far_195 : decode cX12_far 195 = .ok (.ifCond .ne 8, 3) := by decide +kernel
theorem dX12_far_198 : decode cX12_far 198 = .ok (.iload 4, 2) := by decide +kernel
theorem dX12_far_200 : decode cX12_far 200 = .ok (.goto 24, 3) := by decide +kernel
theorem dX12_far_203 : decode cX12_far 203 = .ok (.iload_n 1, 1) := by decide +kernel
theorem dX12_far_204 : decode cX12_far 204 = .ok (.iconst 1, 1) := by decide +kernel
theorem dX12_far_205 : decode cX12_far 205 = .ok (.if_icmp .ne 7, 3) := by decide +kernel
theorem dX12_far_208 : decode cX12_far 208 = .ok (.iload_n 3, 1) := by decide +kernel
theorem dX12_far_209 : decode cX12_far 209 = .ok (.goto 15, 3) := by decide +kernel
theorem dX12_far_212 : decode cX12_far 212 = .ok (.iload_n 1, 1) := by decide +kernel
theorem dX12_far_213 : decode cX12_far 213 = .ok (.iconst 2, 1) := by decide +kernel
theorem dX12_far_214 : decode cX12_far 214 = .ok (.if_icmp .ne 8, 3) := by decide +kernel
theorem dX12_far_217 : decode cX12_far 217 = .ok (.iload 5, 2) := by decide +kernel
theorem dX12_far_219 : decode cX12_far 219 = .ok (.goto 5, 3) := by decide +kernel
theorem dX12_far_222 : decode cX12_far 222 = .ok (.iload 6, 2) := by decide +kernel
theorem dX12_far_224 : decode cX12_far 224 = .ok (.invokevirtual 215, 3) := by decide +kernel
theorem dX12_far_227 : decode cX12_far 227 = .ok (.ireturn, 1) := by decide +kernel
set_option maxRecDepth 20000 in
theorem ggX12_onlyWay_X12_refuse : GoodIn wsX12_onlyWay wsX12_refuse := goodIn_r _ [10, 11, 65, 66, 67, 68, 69, 70, 71, 72, 73, 74, 75, 76, 77, 78, 79, 80, 81, 82, 83, 84, 85, 86, 87, 88, 89, 90, 91, 92, 93, 94, 95, 96, 97, 98, 99, 100, 101, 102, 103, 104, 105, 106, 107, 108, 109, 110, 111, 112, 113, 114, 115, 116, 117, 118, 119, 120, 121, 122, 123, 124, 125, 126, 127, 128, 129, 130, 131] (by decide +kernel) (by decide +kernel)
set_option maxRecDepth 20000 in
theorem gX12_onlyWay_X12_refuse : GoodIn wsX12_onlyWay (wsV RX12 204 RX12 yX12_refuse wsX12_refuse) := goodIn_app (goodIn_of _ (by decide +kernel)) ggX12_onlyWay_X12_refuse
set_option maxRecDepth 20000 in
theorem ggX12_onlyWay_X12_reckons : GoodIn wsX12_onlyWay wsX12_reckons := goodIn_r _ [15, 2, 16, 3, 4, 17, 18, 19, 20, 21, 9, 22, 1, 23, 24, 25, 26, 27, 28, 29, 30, 31, 32, 33, 34, 35, 36, 37, 38, 39, 40, 41, 42, 43, 44, 45, 46, 47, 48, 49, 50, 51, 65, 66, 67, 68, 69, 70, 71, 72, 73, 74, 75, 76, 77, 78, 79, 80, 81, 82, 83, 84, 85, 86, 87, 88, 89, 90, 91, 92, 93, 94, 95, 96, 97, 98, 99, 100, 101, 102, 103, 104, 105, 106, 107, 108, 109, 110, 111, 112, 113, 114, 115, 116, 117, 118, 119, 120, 121, 122, 123, 124, 125, 126, 127, 128, 129, 130, 131] (by decide +kernel) (by decide +kernel)
set_option maxRecDepth 20000 in
theorem gX12_onlyWay_X12_reckons : GoodIn wsX12_onlyWay (wsV RX12 389 RX12 yX12_reckons wsX12_reckons) := goodIn_app (goodIn_of _ (by decide +kernel)) ggX12_onlyWay_X12_reckons
set_option maxRecDepth 20000 in
theorem ggX12_onlyWay_X12_countsWays : GoodIn wsX12_onlyWay wsX12_countsWays := goodIn_r _ [55, 2, 3, 18, 17, 5, 56, 57, 58, 59, 9, 60, 4, 65, 66, 67, 68, 69, 70, 71, 72, 73, 74, 75, 76, 77, 78, 79, 80, 81, 82, 83, 84, 85, 86, 87, 88, 89, 90, 91, 92, 93, 94, 95, 96, 97, 98, 99, 100, 101, 102, 103, 104, 105, 106, 107, 108, 109, 110, 111, 112, 113, 114, 115, 116, 117, 118, 119, 120, 121, 122, 123, 124, 125, 126, 127, 128, 129, 130, 131] (by decide +kernel) (by decide +kernel)
set_option maxRecDepth 20000 in
theorem gX12_onlyWay_X12_countsWays : GoodIn wsX12_onlyWay (wsV RX12 392 RX12 yX12_countsWays wsX12_countsWays) := goodIn_app (goodIn_of _ (by decide +kernel)) ggX12_onlyWay_X12_countsWays
set_option maxRecDepth 20000 in
theorem ggX12_onlyWay_X12_told : GoodIn wsX12_onlyWay wsX12_told := goodIn_r _ [64, 11, 65, 66, 67, 68, 69, 70, 71, 72, 73, 74, 75, 76, 77, 78, 79, 80, 81, 82, 83, 84, 85, 86, 87, 88, 89, 90, 91, 92, 93, 94, 95, 96, 97, 98, 99, 100, 101, 102, 103, 104, 105, 106, 107, 108, 109, 110, 111, 112, 113, 114, 115, 116, 117, 118, 119, 120, 121, 122, 123, 124, 125, 126, 127, 128, 129, 130, 131] (by decide +kernel) (by decide +kernel)
set_option maxRecDepth 20000 in
theorem gX12_onlyWay_X12_told : GoodIn wsX12_onlyWay (wsV RX12 215 RX12 yX12_told wsX12_told) := goodIn_app (goodIn_of _ (by decide +kernel)) ggX12_onlyWay_X12_told
theorem dX12_onlyWay_0 : decode cX12_onlyWay 0 = .ok (.iload_n 1, 1) := by decide +kernel
theorem dX12_onlyWay_1 : decode cX12_onlyWay 1 = .ok (.ifCond .ge 9, 3) := by decide +kernel
theorem dX12_onlyWay_4 : decode cX12_onlyWay 4 = .ok (.aload_n 0, 1) := by decide +kernel
theorem dX12_onlyWay_5 : decode cX12_onlyWay 5 = .ok (.iconst 1, 1) := by decide +kernel
theorem dX12_onlyWay_6 : decode cX12_onlyWay 6 = .ok (.invokevirtual 204, 3) := by decide +kernel
theorem dX12_onlyWay_9 : decode cX12_onlyWay 9 = .ok (.ireturn, 1) := by decide +kernel
theorem dX12_onlyWay_10 : decode cX12_onlyWay 10 = .ok (.aload_n 0, 1) := by decide +kernel
theorem dX12_onlyWay_11 : decode cX12_onlyWay 11 = .ok (.getfield 170, 3) := by decide +kernel
theorem dX12_onlyWay_14 : decode cX12_onlyWay 14 = .ok (.bipush 6, 2) := by decide +kernel
theorem dX12_onlyWay_16 : decode cX12_onlyWay 16 = .ok (.if_icmp .le 9, 3) := by decide +kernel
theorem dX12_onlyWay_19 : decode cX12_onlyWay 19 = .ok (.aload_n 0, 1) := by decide +kernel
theorem dX12_onlyWay_20 : decode cX12_onlyWay 20 = .ok (.iconst 2, 1) := by decide +kernel
theorem dX12_onlyWay_21 : decode cX12_onlyWay 21 = .ok (.invokevirtual 204, 3) := by decide +kernel
theorem dX12_onlyWay_24 : decode cX12_onlyWay 24 = .ok (.ireturn, 1) := by decide +kernel
theorem dX12_onlyWay_25 : decode cX12_onlyWay 25 = .ok (.aload_n 0, 1) := by decide +kernel
theorem dX12_onlyWay_26 : decode cX12_onlyWay 26 = .ok (.invokevirtual 389, 3) := by decide +kernel
theorem dX12_onlyWay_29 : decode cX12_onlyWay 29 = .ok (.aload_n 0, 1) := by decide +kernel
theorem dX12_onlyWay_30 : decode cX12_onlyWay 30 = .ok (.invokevirtual 392, 3) := by decide +kernel
theorem dX12_onlyWay_33 : decode cX12_onlyWay 33 = .ok (.iconst 0, 1) := by decide +kernel
theorem dX12_onlyWay_34 : decode cX12_onlyWay 34 = .ok (.istore_n 2, 1) := by decide +kernel
theorem dX12_onlyWay_35 : decode cX12_onlyWay 35 = .ok (.iload_n 2, 1) := by decide +kernel
theorem dX12_onlyWay_36 : decode cX12_onlyWay 36 = .ok (.aload_n 0, 1) := by decide +kernel
theorem dX12_onlyWay_37 : decode cX12_onlyWay 37 = .ok (.getfield 382, 3) := by decide +kernel
theorem dX12_onlyWay_40 : decode cX12_onlyWay 40 = .ok (.if_icmp .ge 46, 3) := by decide +kernel
theorem dX12_onlyWay_43 : decode cX12_onlyWay 43 = .ok (.aload_n 0, 1) := by decide +kernel
theorem dX12_onlyWay_44 : decode cX12_onlyWay 44 = .ok (.getfield 149, 3) := by decide +kernel
theorem dX12_onlyWay_47 : decode cX12_onlyWay 47 = .ok (.iload_n 2, 1) := by decide +kernel
theorem dX12_onlyWay_48 : decode cX12_onlyWay 48 = .ok (.iaload, 1) := by decide +kernel
theorem dX12_onlyWay_49 : decode cX12_onlyWay 49 = .ok (.ldc 199, 2) := by decide +kernel
theorem dX12_onlyWay_51 : decode cX12_onlyWay 51 = .ok (.if_icmp .ge 29, 3) := by decide +kernel
theorem dX12_onlyWay_54 : decode cX12_onlyWay 54 = .ok (.aload_n 0, 1) := by decide +kernel
theorem dX12_onlyWay_55 : decode cX12_onlyWay 55 = .ok (.getfield 149, 3) := by decide +kernel
theorem dX12_onlyWay_58 : decode cX12_onlyWay 58 = .ok (.iload_n 2, 1) := by decide +kernel
theorem dX12_onlyWay_59 : decode cX12_onlyWay 59 = .ok (.iaload, 1) := by decide +kernel
theorem dX12_onlyWay_60 : decode cX12_onlyWay 60 = .ok (.iload_n 1, 1) := by decide +kernel
theorem dX12_onlyWay_61 : decode cX12_onlyWay 61 = .ok (.if_icmp .ne 19, 3) := by decide +kernel
theorem dX12_onlyWay_64 : decode cX12_onlyWay 64 = .ok (.aload_n 0, 1) := by decide +kernel
theorem dX12_onlyWay_65 : decode cX12_onlyWay 65 = .ok (.getfield 158, 3) := by decide +kernel
theorem dX12_onlyWay_68 : decode cX12_onlyWay 68 = .ok (.iload_n 2, 1) := by decide +kernel
theorem dX12_onlyWay_69 : decode cX12_onlyWay 69 = .ok (.iaload, 1) := by decide +kernel
theorem dX12_onlyWay_70 : decode cX12_onlyWay 70 = .ok (.iconst 1, 1) := by decide +kernel
theorem dX12_onlyWay_71 : decode cX12_onlyWay 71 = .ok (.if_icmp .ne 9, 3) := by decide +kernel
theorem dX12_onlyWay_74 : decode cX12_onlyWay 74 = .ok (.aload_n 0, 1) := by decide +kernel
theorem dX12_onlyWay_75 : decode cX12_onlyWay 75 = .ok (.iload_n 2, 1) := by decide +kernel
theorem dX12_onlyWay_76 : decode cX12_onlyWay 76 = .ok (.invokevirtual 215, 3) := by decide +kernel
theorem dX12_onlyWay_79 : decode cX12_onlyWay 79 = .ok (.ireturn, 1) := by decide +kernel
theorem dX12_onlyWay_80 : decode cX12_onlyWay 80 = .ok (.iinc 2 1, 3) := by decide +kernel
theorem dX12_onlyWay_83 : decode cX12_onlyWay 83 = .ok (.goto (-48), 3) := by decide +kernel
theorem dX12_onlyWay_86 : decode cX12_onlyWay 86 = .ok (.aload_n 0, 1) := by decide +kernel
theorem dX12_onlyWay_87 : decode cX12_onlyWay 87 = .ok (.iconst (-1), 1) := by decide +kernel
theorem dX12_onlyWay_88 : decode cX12_onlyWay 88 = .ok (.invokevirtual 215, 3) := by decide +kernel
theorem dX12_onlyWay_91 : decode cX12_onlyWay 91 = .ok (.ireturn, 1) := by decide +kernel
set_option maxRecDepth 20000 in
theorem ggX12_isFairBy_X12_lays : GoodIn wsX12_isFairBy wsX12_lays := goodIn_r _ [12, 13, 14, 15, 16, 17, 11, 18, 62, 63, 64, 65, 66, 67, 68, 69, 70, 71, 72, 73, 74, 75, 76, 77, 78, 79, 80, 81, 82, 83, 84, 85, 86, 87, 88, 89, 90, 91, 92, 93, 94, 95, 96, 97, 98, 99, 100, 101, 102, 103, 104, 105, 106, 107, 108, 109, 110, 111, 112, 113, 114, 115, 116, 117, 118, 119, 120, 121, 122, 123, 124, 125, 126, 127, 128] (by decide +kernel) (by decide +kernel)
set_option maxRecDepth 20000 in
theorem gX12_isFairBy_X12_lays : GoodIn wsX12_isFairBy (wsV RX12 265 RX12 yX12_lays wsX12_lays) := goodIn_app (goodIn_of _ (by decide +kernel)) ggX12_isFairBy_X12_lays
set_option maxRecDepth 20000 in
theorem ggX12_isFairBy_X12_estimates : GoodIn wsX12_isFairBy wsX12_estimates := goodIn_r _ [22, 23, 24, 25, 11, 26, 13, 27, 28, 29, 30, 31, 32, 33, 34, 35, 36, 37, 38, 39, 40, 41, 42, 43, 44, 45, 46, 47, 48, 49, 5, 50, 51, 52, 53, 54, 55, 56, 57, 58, 59, 60, 61, 62, 63, 64, 65, 66, 67, 68, 69, 70, 71, 72, 73, 74, 75, 76, 77, 78, 79, 80, 81, 82, 83, 84, 85, 86, 87, 88, 89, 90, 91, 92, 93, 94, 95, 96, 97, 98, 99, 100, 101, 102, 103, 104, 105, 106, 107, 108, 109, 110, 111, 112, 113, 114, 115, 116, 117, 118, 119, 120, 121, 122, 123, 124, 125, 126, 127, 128] (by decide +kernel) (by decide +kernel)
set_option maxRecDepth 20000 in
theorem gX12_isFairBy_X12_estimates : GoodIn wsX12_isFairBy (wsV RX12 302 RX12 yX12_estimates wsX12_estimates) := goodIn_app (goodIn_of _ (by decide +kernel)) ggX12_isFairBy_X12_estimates
theorem dX12_isFairBy_0 : decode cX12_isFairBy 0 = .ok (.iconst 0, 1) := by decide +kernel
theorem dX12_isFairBy_1 : decode cX12_isFairBy 1 = .ok (.istore_n 2, 1) := by decide +kernel
theorem dX12_isFairBy_2 : decode cX12_isFairBy 2 = .ok (.iload_n 2, 1) := by decide +kernel
theorem dX12_isFairBy_3 : decode cX12_isFairBy 3 = .ok (.aload_n 0, 1) := by decide +kernel
theorem dX12_isFairBy_4 : decode cX12_isFairBy 4 = .ok (.getfield 382, 3) := by decide +kernel
theorem dX12_isFairBy_7 : decode cX12_isFairBy 7 = .ok (.if_icmp .ge 34, 3) := by decide +kernel
theorem dX12_isFairBy_10 : decode cX12_isFairBy 10 = .ok (.aload_n 0, 1) := by decide +kernel
theorem dX12_isFairBy_11 : decode cX12_isFairBy 11 = .ok (.iload_n 2, 1) := by decide +kernel
theorem dX12_isFairBy_12 : decode cX12_isFairBy 12 = .ok (.i2l, 1) := by decide +kernel
theorem dX12_isFairBy_13 : decode cX12_isFairBy 13 = .ok (.aload_n 0, 1) := by decide +kernel
theorem dX12_isFairBy_14 : decode cX12_isFairBy 14 = .ok (.getfield 128, 3) := by decide +kernel
theorem dX12_isFairBy_17 : decode cX12_isFairBy 17 = .ok (.invokevirtual 265, 3) := by decide +kernel
theorem dX12_isFairBy_20 : decode cX12_isFairBy 20 = .ok (.aload_n 0, 1) := by decide +kernel
theorem dX12_isFairBy_21 : decode cX12_isFairBy 21 = .ok (.getfield 161, 3) := by decide +kernel
theorem dX12_isFairBy_24 : decode cX12_isFairBy 24 = .ok (.iload_n 2, 1) := by decide +kernel
theorem dX12_isFairBy_25 : decode cX12_isFairBy 25 = .ok (.aload_n 0, 1) := by decide +kernel
theorem dX12_isFairBy_26 : decode cX12_isFairBy 26 = .ok (.aload_n 0, 1) := by decide +kernel
theorem dX12_isFairBy_27 : decode cX12_isFairBy 27 = .ok (.getfield 128, 3) := by decide +kernel
theorem dX12_isFairBy_30 : decode cX12_isFairBy 30 = .ok (.iload_n 1, 1) := by decide +kernel
theorem dX12_isFairBy_31 : decode cX12_isFairBy 31 = .ok (.invokevirtual 302, 3) := by decide +kernel
theorem dX12_isFairBy_34 : decode cX12_isFairBy 34 = .ok (.iastore, 1) := by decide +kernel
theorem dX12_isFairBy_35 : decode cX12_isFairBy 35 = .ok (.iinc 2 1, 3) := by decide +kernel
theorem dX12_isFairBy_38 : decode cX12_isFairBy 38 = .ok (.goto (-36), 3) := by decide +kernel
theorem dX12_isFairBy_41 : decode cX12_isFairBy 41 = .ok (.iconst 1, 1) := by decide +kernel
theorem dX12_isFairBy_42 : decode cX12_isFairBy 42 = .ok (.istore_n 2, 1) := by decide +kernel
theorem dX12_isFairBy_43 : decode cX12_isFairBy 43 = .ok (.iconst 0, 1) := by decide +kernel
theorem dX12_isFairBy_44 : decode cX12_isFairBy 44 = .ok (.istore_n 3, 1) := by decide +kernel
theorem dX12_isFairBy_45 : decode cX12_isFairBy 45 = .ok (.iload_n 3, 1) := by decide +kernel
theorem dX12_isFairBy_46 : decode cX12_isFairBy 46 = .ok (.iconst 4, 1) := by decide +kernel
theorem dX12_isFairBy_47 : decode cX12_isFairBy 47 = .ok (.aload_n 0, 1) := by decide +kernel
theorem dX12_isFairBy_48 : decode cX12_isFairBy 48 = .ok (.getfield 382, 3) := by decide +kernel
theorem dX12_isFairBy_51 : decode cX12_isFairBy 51 = .ok (.imul, 1) := by decide +kernel
theorem dX12_isFairBy_52 : decode cX12_isFairBy 52 = .ok (.if_icmp .ge 118, 3) := by decide +kernel
theorem dX12_isFairBy_55 : decode cX12_isFairBy 55 = .ok (.iload_n 3, 1) := by decide +kernel
theorem dX12_isFairBy_56 : decode cX12_isFairBy 56 = .ok (.iconst 4, 1) := by decide +kernel
theorem dX12_isFairBy_57 : decode cX12_isFairBy 57 = .ok (.idiv, 1) := by decide +kernel
theorem dX12_isFairBy_58 : decode cX12_isFairBy 58 = .ok (.istore 4, 2) := by decide +kernel
theorem dX12_isFairBy_60 : decode cX12_isFairBy 60 = .ok (.aload_n 0, 1) := by decide +kernel
theorem dX12_isFairBy_61 : decode cX12_isFairBy 61 = .ok (.getfield 149, 3) := by decide +kernel
theorem dX12_isFairBy_64 : decode cX12_isFairBy 64 = .ok (.iload 4, 2) := by decide +kernel
theorem dX12_isFairBy_66 : decode cX12_isFairBy 66 = .ok (.iaload, 1) := by decide +kernel
theorem dX12_isFairBy_67 : decode cX12_isFairBy 67 = .ok (.ldc 199, 2) := by decide +kernel
theorem dX12_isFairBy_69 : decode cX12_isFairBy 69 = .ok (.if_icmp .ge 7, 3) := by decide +kernel
theorem dX12_isFairBy_72 : decode cX12_isFairBy 72 = .ok (.iconst 1, 1) := by decide +kernel
theorem dX12_isFairBy_73 : decode cX12_isFairBy 73 = .ok (.goto 4, 3) := by decide +kernel
theorem dX12_isFairBy_76 : decode cX12_isFairBy 76 = .ok (.iconst 0, 1) := by decide +kernel
theorem dX12_isFairBy_77 : decode cX12_isFairBy 77 = .ok (.istore 5, 2) := by decide +kernel
theorem dX12_isFairBy_79 : decode cX12_isFairBy 79 = .ok (.iload_n 2, 1) := by decide +kernel
theorem dX12_isFairBy_80 : decode cX12_isFairBy 80 = .ok (.ifCond .eq 29, 3) := by decide +kernel
theorem dX12_isFairBy_83 : decode cX12_isFairBy 83 = .ok (.iload 5, 2) := by decide +kernel
theorem dX12_isFairBy_85 : decode cX12_isFairBy 85 = .ok (.ifCond .eq 20, 3) := by decide +kernel
theorem dX12_isFairBy_88 : decode cX12_isFairBy 88 = .ok (.aload_n 0, 1) := by decide +kernel
theorem dX12_isFairBy_89 : decode cX12_isFairBy 89 = .ok (.getfield 161, 3) := by decide +kernel
theorem dX12_isFairBy_92 : decode cX12_isFairBy 92 = .ok (.iload 4, 2) := by decide +kernel
theorem dX12_isFairBy_94 : decode cX12_isFairBy 94 = .ok (.iaload, 1) := by decide +kernel
theorem dX12_isFairBy_95 : decode cX12_isFairBy 95 = .ok (.aload_n 0, 1) := by decide +kernel
theorem dX12_isFairBy_96 : decode cX12_isFairBy 96 = .ok (.getfield 149, 3) := by decide +kernel
theorem dX12_isFairBy_99 : decode cX12_isFairBy 99 = .ok (.iload 4, 2) := by decide +kernel
theorem dX12_isFairBy_101 : decode cX12_isFairBy 101 = .ok (.iaload, 1) := by decide +kernel
theorem dX12_isFairBy_102 : decode cX12_isFairBy 102 = .ok (.if_icmp .gt 7, 3) := by decide +kernel
theorem dX12_isFairBy_105 : decode cX12_isFairBy 105 = .ok (.iconst 1, 1) := by decide +kernel
theorem dX12_isFairBy_106 : decode cX12_isFairBy 106 = .ok (.goto 4, 3) := by decide +kernel
theorem dX12_isFairBy_109 : decode cX12_isFairBy 109 = .ok (.iconst 0, 1) := by decide +kernel
theorem dX12_isFairBy_110 : decode cX12_isFairBy 110 = .ok (.istore_n 2, 1) := by decide +kernel
theorem dX12_isFairBy_111 : decode cX12_isFairBy 111 = .ok (.iload_n 2, 1) := by decide +kernel
theorem dX12_isFairBy_112 : decode cX12_isFairBy 112 = .ok (.ifCond .eq 50, 3) := by decide +kernel
theorem dX12_isFairBy_115 : decode cX12_isFairBy 115 = .ok (.iload 5, 2) := by decide +kernel
theorem dX12_isFairBy_117 : decode cX12_isFairBy 117 = .ok (.ifCond .eq 41, 3) := by decide +kernel
theorem dX12_isFairBy_120 : decode cX12_isFairBy 120 = .ok (.aload_n 0, 1) := by decide +kernel
theorem dX12_isFairBy_121 : decode cX12_isFairBy 121 = .ok (.getfield 152, 3) := by decide +kernel
theorem dX12_isFairBy_124 : decode cX12_isFairBy 124 = .ok (.iload_n 3, 1) := by decide +kernel
theorem dX12_isFairBy_125 : decode cX12_isFairBy 125 = .ok (.iaload, 1) := by decide +kernel
theorem dX12_isFairBy_126 : decode cX12_isFairBy 126 = .ok (.iconst (-1), 1) := by decide +kernel
theorem dX12_isFairBy_127 : decode cX12_isFairBy 127 = .ok (.if_icmp .eq 31, 3) := by decide +kernel
theorem dX12_isFairBy_130 : decode cX12_isFairBy 130 = .ok (.aload_n 0, 1) := by decide +kernel
theorem dX12_isFairBy_131 : decode cX12_isFairBy 131 = .ok (.getfield 161, 3) := by decide +kernel
theorem dX12_isFairBy_134 : decode cX12_isFairBy 134 = .ok (.iload 4, 2) := by decide +kernel
theorem dX12_isFairBy_136 : decode cX12_isFairBy 136 = .ok (.iaload, 1) := by decide +kernel
theorem dX12_isFairBy_137 : decode cX12_isFairBy 137 = .ok (.aload_n 0, 1) := by decide +kernel
theorem dX12_isFairBy_138 : decode cX12_isFairBy 138 = .ok (.getfield 161, 3) := by decide +kernel
theorem dX12_isFairBy_141 : decode cX12_isFairBy 141 = .ok (.aload_n 0, 1) := by decide +kernel
theorem dX12_isFairBy_142 : decode cX12_isFairBy 142 = .ok (.getfield 152, 3) := by decide +kernel
theorem dX12_isFairBy_145 : decode cX12_isFairBy 145 = .ok (.iload_n 3, 1) := by decide +kernel
theorem dX12_isFairBy_146 : decode cX12_isFairBy 146 = .ok (.iaload, 1) := by decide +kernel
theorem dX12_isFairBy_147 : decode cX12_isFairBy 147 = .ok (.iaload, 1) := by decide +kernel
theorem dX12_isFairBy_148 : decode cX12_isFairBy 148 = .ok (.isub, 1) := by decide +kernel
theorem dX12_isFairBy_149 : decode cX12_isFairBy 149 = .ok (.aload_n 0, 1) := by decide +kernel
theorem dX12_isFairBy_150 : decode cX12_isFairBy 150 = .ok (.getfield 155, 3) := by decide +kernel
theorem dX12_isFairBy_153 : decode cX12_isFairBy 153 = .ok (.iload_n 3, 1) := by decide +kernel
theorem dX12_isFairBy_154 : decode cX12_isFairBy 154 = .ok (.iaload, 1) := by decide +kernel
theorem dX12_isFairBy_155 : decode cX12_isFairBy 155 = .ok (.if_icmp .gt 7, 3) := by decide +kernel
theorem dX12_isFairBy_158 : decode cX12_isFairBy 158 = .ok (.iconst 1, 1) := by decide +kernel
theorem dX12_isFairBy_159 : decode cX12_isFairBy 159 = .ok (.goto 4, 3) := by decide +kernel
theorem dX12_isFairBy_162 : decode cX12_isFairBy 162 = .ok (.iconst 0, 1) := by decide +kernel
theorem dX12_isFairBy_163 : decode cX12_isFairBy 163 = .ok (.istore_n 2, 1) := by decide +kernel
theorem dX12_isFairBy_164 : decode cX12_isFairBy 164 = .ok (.iinc 3 1, 3) := by decide +kernel
theorem dX12_isFairBy_167 : decode cX12_isFairBy 167 = .ok (.goto (-122), 3) := by decide +kernel
theorem dX12_isFairBy_170 : decode cX12_isFairBy 170 = .ok (.iload_n 2, 1) := by decide +kernel
theorem dX12_isFairBy_171 : decode cX12_isFairBy 171 = .ok (.ireturn, 1) := by decide +kernel
set_option maxRecDepth 20000 in
theorem ggX12_isFair_X12_in : GoodIn wsX12_isFair wsX12_in := goodIn_r _ [5] (by decide +kernel) (by decide +kernel)
set_option maxRecDepth 20000 in
theorem gX12_isFair_X12_in : GoodIn wsX12_isFair (va_wsS RX12 200 yX12_in wsX12_in) := goodIn_app (goodIn_of _ (by decide +kernel)) ggX12_isFair_X12_in
set_option maxRecDepth 20000 in
theorem ggX12_isFair_X12_denies : GoodIn wsX12_isFair wsX12_denies := goodIn_r _ [9, 10, 99, 100, 101, 102, 103, 104, 105, 106, 107, 108, 109, 110, 111, 112, 113, 114, 115, 116, 117, 118, 119, 120, 121, 122, 123, 124, 125, 126, 127, 128, 129, 130, 131, 132, 133, 134, 135, 136, 137, 138, 139, 140, 141, 142, 143, 144, 145, 146, 147, 148, 149, 150, 151, 152, 153, 154, 155, 156, 157, 158, 159, 160, 161, 162, 163, 164, 165] (by decide +kernel) (by decide +kernel)
set_option maxRecDepth 20000 in
theorem gX12_isFair_X12_denies : GoodIn wsX12_isFair (wsV RX12 278 RX12 yX12_denies wsX12_denies) := goodIn_app (goodIn_of _ (by decide +kernel)) ggX12_isFair_X12_denies
set_option maxRecDepth 20000 in
theorem ggX12_isFair_X12_reckons : GoodIn wsX12_isFair wsX12_reckons := goodIn_r _ [14, 15, 16, 17, 18, 19, 20, 21, 22, 23, 4, 24, 1, 25, 26, 27, 28, 29, 30, 31, 32, 33, 34, 35, 36, 37, 38, 39, 40, 41, 42, 43, 44, 45, 46, 47, 48, 49, 50, 51, 52, 53, 99, 100, 101, 102, 103, 104, 105, 106, 107, 108, 109, 110, 111, 112, 113, 114, 115, 116, 117, 118, 119, 120, 121, 122, 123, 124, 125, 126, 127, 128, 129, 130, 131, 132, 133, 134, 135, 136, 137, 138, 139, 140, 141, 142, 143, 144, 145, 146, 147, 148, 149, 150, 151, 152, 153, 154, 155, 156, 157, 158, 159, 160, 161, 162, 163, 164, 165] (by decide +kernel) (by decide +kernel)
set_option maxRecDepth 20000 in
theorem gX12_isFair_X12_reckons : GoodIn wsX12_isFair (wsV RX12 389 RX12 yX12_reckons wsX12_reckons) := goodIn_app (goodIn_of _ (by decide +kernel)) ggX12_isFair_X12_reckons
set_option maxRecDepth 20000 in
theorem ggX12_isFair_X12_isFairBy : GoodIn wsX12_isFair wsX12_isFairBy := goodIn_r _ [57, 15, 16, 58, 17, 18, 20, 19, 25, 26, 27, 4, 28, 1, 29, 21, 22, 23, 24, 59, 60, 61, 62, 63, 64, 65, 66, 34, 35, 41, 67, 68, 69, 70, 71, 72, 73, 74, 75, 76, 77, 78, 79, 80, 81, 82, 83, 84, 85, 86, 87, 88, 89, 90, 91, 92, 93, 94, 42, 43, 44, 45, 99, 100, 101, 102, 103, 104, 105, 106, 107, 108, 109, 110, 111, 112, 113, 114, 115, 116, 117, 118, 119, 120, 121, 122, 123, 124, 125, 126, 127, 128, 129, 130, 131, 132, 133, 134, 135, 136, 137, 138, 139, 140, 141, 142, 143, 144, 145, 146, 147, 148, 149, 150, 151, 152, 153, 154, 155, 156, 157, 158, 159, 160, 161, 162, 163, 164, 165] (by decide +kernel) (by decide +kernel)
set_option maxRecDepth 20000 in
theorem gX12_isFair_X12_isFairBy : GoodIn wsX12_isFair (wsV RX12 395 RX12 yX12_isFairBy wsX12_isFairBy) := goodIn_app (goodIn_of _ (by decide +kernel)) ggX12_isFair_X12_isFairBy
set_option maxRecDepth 20000 in
theorem ggX12_isFair_X12_says : GoodIn wsX12_isFair wsX12_says := goodIn_r _ [98, 10, 99, 100, 101, 102, 103, 104, 105, 106, 107, 108, 109, 110, 111, 112, 113, 114, 115, 116, 117, 118, 119, 120, 121, 122, 123, 124, 125, 126, 127, 128, 129, 130, 131, 132, 133, 134, 135, 136, 137, 138, 139, 140, 141, 142, 143, 144, 145, 146, 147, 148, 149, 150, 151, 152, 153, 154, 155, 156, 157, 158, 159, 160, 161, 162, 163, 164, 165] (by decide +kernel) (by decide +kernel)
set_option maxRecDepth 20000 in
theorem gX12_isFair_X12_says : GoodIn wsX12_isFair (wsV RX12 281 RX12 yX12_says wsX12_says) := goodIn_app (goodIn_of _ (by decide +kernel)) ggX12_isFair_X12_says
theorem dX12_isFair_0 : decode cX12_isFair 0 = .ok (.iload_n 1, 1) := by decide +kernel
theorem dX12_isFair_1 : decode cX12_isFair 1 = .ok (.iconst 0, 1) := by decide +kernel
theorem dX12_isFair_2 : decode cX12_isFair 2 = .ok (.iconst 4, 1) := by decide +kernel
theorem dX12_isFair_3 : decode cX12_isFair 3 = .ok (.invokestatic 200, 3) := by decide +kernel
theorem dX12_isFair_6 : decode cX12_isFair 6 = .ok (.ifCond .ne 9, 3) := by decide +kernel
theorem dX12_isFair_9 : decode cX12_isFair 9 = .ok (.aload_n 0, 1) := by decide +kernel
theorem dX12_isFair_10 : decode cX12_isFair 10 = .ok (.iconst 1, 1) := by decide +kernel
theorem dX12_isFair_11 : decode cX12_isFair 11 = .ok (.invokevirtual 278, 3) := by decide +kernel
theorem dX12_isFair_14 : decode cX12_isFair 14 = .ok (.ireturn, 1) := by decide +kernel
theorem dX12_isFair_15 : decode cX12_isFair 15 = .ok (.aload_n 0, 1) := by decide +kernel
theorem dX12_isFair_16 : decode cX12_isFair 16 = .ok (.getfield 170, 3) := by decide +kernel
theorem dX12_isFair_19 : decode cX12_isFair 19 = .ok (.bipush 6, 2) := by decide +kernel
theorem dX12_isFair_21 : decode cX12_isFair 21 = .ok (.if_icmp .le 9, 3) := by decide +kernel
theorem dX12_isFair_24 : decode cX12_isFair 24 = .ok (.aload_n 0, 1) := by decide +kernel
theorem dX12_isFair_25 : decode cX12_isFair 25 = .ok (.iconst 2, 1) := by decide +kernel
theorem dX12_isFair_26 : decode cX12_isFair 26 = .ok (.invokevirtual 278, 3) := by decide +kernel
theorem dX12_isFair_29 : decode cX12_isFair 29 = .ok (.ireturn, 1) := by decide +kernel
theorem dX12_isFair_30 : decode cX12_isFair 30 = .ok (.aload_n 0, 1) := by decide +kernel
theorem dX12_isFair_31 : decode cX12_isFair 31 = .ok (.invokevirtual 389, 3) := by decide +kernel
theorem dX12_isFair_34 : decode cX12_isFair 34 = .ok (.aload_n 0, 1) := by decide +kernel
theorem dX12_isFair_35 : decode cX12_isFair 35 = .ok (.aload_n 0, 1) := by decide +kernel
theorem dX12_isFair_36 : decode cX12_isFair 36 = .ok (.iload_n 1, 1) := by decide +kernel
theorem dX12_isFair_37 : decode cX12_isFair 37 = .ok (.invokevirtual 395, 3) := by decide +kernel
theorem dX12_isFair_40 : decode cX12_isFair 40 = .ok (.invokevirtual 281, 3) := by decide +kernel
theorem dX12_isFair_43 : decode cX12_isFair 43 = .ok (.ireturn, 1) := by decide +kernel
set_option maxRecDepth 20000 in
theorem ggX12_meanWeight_X12_tiles : GoodIn wsX12_meanWeight wsX12_tiles := goodIn_r _ [8, 2, 9, 10, 11, 12, 13, 14, 15, 16, 17, 18, 19, 20, 21, 22, 23, 24, 25, 26, 27, 28, 29, 30, 31, 32, 33, 34, 35, 36, 37, 38, 39, 40, 41, 42, 43, 44, 45, 46, 47, 48, 49, 50, 51, 52, 53, 54, 55, 56, 57, 58, 59, 60, 61, 62, 63, 64, 65, 66, 67, 68, 69, 70, 71, 72, 73, 74, 75] (by decide +kernel) (by decide +kernel)
set_option maxRecDepth 20000 in
theorem gX12_meanWeight_X12_tiles : GoodIn wsX12_meanWeight (wsV RX12 211 RX12 yX12_tiles wsX12_tiles) := goodIn_app (goodIn_of _ (by decide +kernel)) ggX12_meanWeight_X12_tiles
theorem dX12_meanWeight_0 : decode cX12_meanWeight 0 = .ok (.aload_n 0, 1) := by decide +kernel
theorem dX12_meanWeight_1 : decode cX12_meanWeight 1 = .ok (.iconst 0, 1) := by decide +kernel
theorem dX12_meanWeight_2 : decode cX12_meanWeight 2 = .ok (.putfield 167, 3) := by decide +kernel
theorem dX12_meanWeight_5 : decode cX12_meanWeight 5 = .ok (.iconst 0, 1) := by decide +kernel
theorem dX12_meanWeight_6 : decode cX12_meanWeight 6 = .ok (.istore_n 1, 1) := by decide +kernel
theorem dX12_meanWeight_7 : decode cX12_meanWeight 7 = .ok (.iconst 1, 1) := by decide +kernel
theorem dX12_meanWeight_8 : decode cX12_meanWeight 8 = .ok (.istore_n 2, 1) := by decide +kernel
theorem dX12_meanWeight_9 : decode cX12_meanWeight 9 = .ok (.iload_n 2, 1) := by decide +kernel
theorem dX12_meanWeight_10 : decode cX12_meanWeight 10 = .ok (.aload_n 0, 1) := by decide +kernel
theorem dX12_meanWeight_11 : decode cX12_meanWeight 11 = .ok (.getfield 170, 3) := by decide +kernel
theorem dX12_meanWeight_14 : decode cX12_meanWeight 14 = .ok (.if_icmp .ge 18, 3) := by decide +kernel
theorem dX12_meanWeight_17 : decode cX12_meanWeight 17 = .ok (.iload_n 1, 1) := by decide +kernel
theorem dX12_meanWeight_18 : decode cX12_meanWeight 18 = .ok (.aload_n 0, 1) := by decide +kernel
theorem dX12_meanWeight_19 : decode cX12_meanWeight 19 = .ok (.getfield 39, 3) := by decide +kernel
theorem dX12_meanWeight_22 : decode cX12_meanWeight 22 = .ok (.iload_n 2, 1) := by decide +kernel
theorem dX12_meanWeight_23 : decode cX12_meanWeight 23 = .ok (.iaload, 1) := by decide +kernel
theorem dX12_meanWeight_24 : decode cX12_meanWeight 24 = .ok (.iadd, 1) := by decide +kernel
theorem dX12_meanWeight_25 : decode cX12_meanWeight 25 = .ok (.istore_n 1, 1) := by decide +kernel
theorem dX12_meanWeight_26 : decode cX12_meanWeight 26 = .ok (.iinc 2 1, 3) := by decide +kernel
theorem dX12_meanWeight_29 : decode cX12_meanWeight 29 = .ok (.goto (-20), 3) := by decide +kernel
theorem dX12_meanWeight_32 : decode cX12_meanWeight 32 = .ok (.iload_n 1, 1) := by decide +kernel
theorem dX12_meanWeight_33 : decode cX12_meanWeight 33 = .ok (.i2d, 1) := by decide +kernel
theorem dX12_meanWeight_34 : decode cX12_meanWeight 34 = .ok (.aload_n 0, 1) := by decide +kernel
theorem dX12_meanWeight_35 : decode cX12_meanWeight 35 = .ok (.invokevirtual 211, 3) := by decide +kernel
theorem dX12_meanWeight_38 : decode cX12_meanWeight 38 = .ok (.i2d, 1) := by decide +kernel
theorem dX12_meanWeight_39 : decode cX12_meanWeight 39 = .ok (.ddiv, 1) := by decide +kernel
theorem dX12_meanWeight_40 : decode cX12_meanWeight 40 = .ok (.dreturn, 1) := by decide +kernel
theorem dX12_settled_0 : decode cX12_settled 0 = .ok (.aload_n 0, 1) := by decide +kernel
theorem dX12_settled_1 : decode cX12_settled 1 = .ok (.iconst 0, 1) := by decide +kernel
theorem dX12_settled_2 : decode cX12_settled 2 = .ok (.putfield 167, 3) := by decide +kernel
theorem dX12_settled_5 : decode cX12_settled 5 = .ok (.iconst 0, 1) := by decide +kernel
theorem dX12_settled_6 : decode cX12_settled 6 = .ok (.istore_n 1, 1) := by decide +kernel
theorem dX12_settled_7 : decode cX12_settled 7 = .ok (.iconst 0, 1) := by decide +kernel
theorem dX12_settled_8 : decode cX12_settled 8 = .ok (.istore_n 2, 1) := by decide +kernel
theorem dX12_settled_9 : decode cX12_settled 9 = .ok (.iconst 0, 1) := by decide +kernel
theorem dX12_settled_10 : decode cX12_settled 10 = .ok (.istore_n 3, 1) := by decide +kernel
theorem dX12_settled_11 : decode cX12_settled 11 = .ok (.iload_n 3, 1) := by decide +kernel
theorem dX12_settled_12 : decode cX12_settled 12 = .ok (.aload_n 0, 1) := by decide +kernel
theorem dX12_settled_13 : decode cX12_settled 13 = .ok (.getfield 170, 3) := by decide +kernel
theorem dX12_settled_16 : decode cX12_settled 16 = .ok (.if_icmp .ge 76, 3) := by decide +kernel
theorem dX12_settled_19 : decode cX12_settled 19 = .ok (.aload_n 0, 1) := by decide +kernel
theorem dX12_settled_20 : decode cX12_settled 20 = .ok (.getfield 33, 3) := by decide +kernel
theorem dX12_settled_23 : decode cX12_settled 23 = .ok (.iload_n 3, 1) := by decide +kernel
theorem dX12_settled_24 : decode cX12_settled 24 = .ok (.iaload, 1) := by decide +kernel
theorem dX12_settled_25 : decode cX12_settled 25 = .ok (.istore 4, 2) := by decide +kernel
theorem dX12_settled_27 : decode cX12_settled 27 = .ok (.iload 4, 2) := by decide +kernel
theorem dX12_settled_29 : decode cX12_settled 29 = .ok (.ifCond .le 17, 3) := by decide +kernel
theorem dX12_settled_32 : decode cX12_settled 32 = .ok (.aload_n 0, 1) := by decide +kernel
theorem dX12_settled_33 : decode cX12_settled 33 = .ok (.getfield 42, 3) := by decide +kernel
theorem dX12_settled_36 : decode cX12_settled 36 = .ok (.iload 4, 2) := by decide +kernel
theorem dX12_settled_38 : decode cX12_settled 38 = .ok (.baload, 1) := by decide +kernel
theorem dX12_settled_39 : decode cX12_settled 39 = .ok (.ifCond .ne 7, 3) := by decide +kernel
theorem dX12_settled_42 : decode cX12_settled 42 = .ok (.iconst 1, 1) := by decide +kernel
theorem dX12_settled_43 : decode cX12_settled 43 = .ok (.goto 4, 3) := by decide +kernel
theorem dX12_settled_46 : decode cX12_settled 46 = .ok (.iconst 0, 1) := by decide +kernel
theorem dX12_settled_47 : decode cX12_settled 47 = .ok (.istore 5, 2) := by decide +kernel
theorem dX12_settled_49 : decode cX12_settled 49 = .ok (.iload_n 2, 1) := by decide +kernel
theorem dX12_settled_50 : decode cX12_settled 50 = .ok (.iload 5, 2) := by decide +kernel
theorem dX12_settled_52 : decode cX12_settled 52 = .ok (.ifCond .eq 7, 3) := by decide +kernel
theorem dX12_settled_55 : decode cX12_settled 55 = .ok (.iconst 1, 1) := by decide +kernel
theorem dX12_settled_56 : decode cX12_settled 56 = .ok (.goto 4, 3) := by decide +kernel
theorem dX12_settled_59 : decode cX12_settled 59 = .ok (.iconst 0, 1) := by decide +kernel
theorem dX12_settled_60 : decode cX12_settled 60 = .ok (.iadd, 1) := by decide +kernel
theorem dX12_settled_61 : decode cX12_settled 61 = .ok (.istore_n 2, 1) := by decide +kernel
theorem dX12_settled_62 : decode cX12_settled 62 = .ok (.iload_n 1, 1) := by decide +kernel
theorem dX12_settled_63 : decode cX12_settled 63 = .ok (.iload 5, 2) := by decide +kernel
theorem dX12_settled_65 : decode cX12_settled 65 = .ok (.ifCond .eq 18, 3) := by decide +kernel
theorem dX12_settled_68 : decode cX12_settled 68 = .ok (.aload_n 0, 1) := by decide +kernel
theorem dX12_settled_69 : decode cX12_settled 69 = .ok (.getfield 36, 3) := by decide +kernel
theorem dX12_settled_72 : decode cX12_settled 72 = .ok (.iload 4, 2) := by decide +kernel
theorem dX12_settled_74 : decode cX12_settled 74 = .ok (.iaload, 1) := by decide +kernel
theorem dX12_settled_75 : decode cX12_settled 75 = .ok (.iload_n 3, 1) := by decide +kernel
theorem dX12_settled_76 : decode cX12_settled 76 = .ok (.if_icmp .ne 7, 3) := by decide +kernel
theorem dX12_settled_79 : decode cX12_settled 79 = .ok (.iconst 1, 1) := by decide +kernel
theorem dX12_settled_80 : decode cX12_settled 80 = .ok (.goto 4, 3) := by decide +kernel
theorem dX12_settled_83 : decode cX12_settled 83 = .ok (.iconst 0, 1) := by decide +kernel
theorem dX12_settled_84 : decode cX12_settled 84 = .ok (.iadd, 1) := by decide +kernel
theorem dX12_settled_85 : decode cX12_settled 85 = .ok (.istore_n 1, 1) := by decide +kernel
theorem dX12_settled_86 : decode cX12_settled 86 = .ok (.iinc 3 1, 3) := by decide +kernel
theorem dX12_settled_89 : decode cX12_settled 89 = .ok (.goto (-78), 3) := by decide +kernel
theorem dX12_settled_92 : decode cX12_settled 92 = .ok (.iload_n 2, 1) := by decide +kernel
theorem dX12_settled_93 : decode cX12_settled 93 = .ok (.ifCond .ne 7, 3) := by decide +kernel
theorem dX12_settled_96 : decode cX12_settled 96 = .ok (.fconst 0, 1) := by decide +kernel
theorem dX12_settled_97 : decode cX12_settled 97 = .ok (.goto 8, 3) := by decide +kernel
theorem dX12_settled_100 : decode cX12_settled 100 = .ok (.iload_n 1, 1) := by decide +kernel
theorem dX12_settled_101 : decode cX12_settled 101 = .ok (.i2f, 1) := by decide +kernel
theorem dX12_settled_102 : decode cX12_settled 102 = .ok (.iload_n 2, 1) := by decide +kernel
theorem dX12_settled_103 : decode cX12_settled 103 = .ok (.i2f, 1) := by decide +kernel
theorem dX12_settled_104 : decode cX12_settled 104 = .ok (.fdiv, 1) := by decide +kernel
theorem dX12_settled_105 : decode cX12_settled 105 = .ok (.freturn, 1) := by decide +kernel
theorem dX12_isRowAsLies_0 : decode cX12_isRowAsLies 0 = .ok (.iconst 1, 1) := by decide +kernel
theorem dX12_isRowAsLies_1 : decode cX12_isRowAsLies 1 = .ok (.istore_n 1, 1) := by decide +kernel
theorem dX12_isRowAsLies_2 : decode cX12_isRowAsLies 2 = .ok (.iconst 0, 1) := by decide +kernel
theorem dX12_isRowAsLies_3 : decode cX12_isRowAsLies 3 = .ok (.istore_n 2, 1) := by decide +kernel
theorem dX12_isRowAsLies_4 : decode cX12_isRowAsLies 4 = .ok (.iload_n 2, 1) := by decide +kernel
theorem dX12_isRowAsLies_5 : decode cX12_isRowAsLies 5 = .ok (.aload_n 0, 1) := by decide +kernel
theorem dX12_isRowAsLies_6 : decode cX12_isRowAsLies 6 = .ok (.getfield 170, 3) := by decide +kernel
theorem dX12_isRowAsLies_9 : decode cX12_isRowAsLies 9 = .ok (.if_icmp .ge 34, 3) := by decide +kernel
theorem dX12_isRowAsLies_12 : decode cX12_isRowAsLies 12 = .ok (.iload_n 1, 1) := by decide +kernel
theorem dX12_isRowAsLies_13 : decode cX12_isRowAsLies 13 = .ok (.ifCond .eq 22, 3) := by decide +kernel
theorem dX12_isRowAsLies_16 : decode cX12_isRowAsLies 16 = .ok (.aload_n 0, 1) := by decide +kernel
theorem dX12_isRowAsLies_17 : decode cX12_isRowAsLies 17 = .ok (.getfield 128, 3) := by decide +kernel
theorem dX12_isRowAsLies_20 : decode cX12_isRowAsLies 20 = .ok (.iload_n 2, 1) := by decide +kernel
theorem dX12_isRowAsLies_21 : decode cX12_isRowAsLies 21 = .ok (.iaload, 1) := by decide +kernel
theorem dX12_isRowAsLies_22 : decode cX12_isRowAsLies 22 = .ok (.aload_n 0, 1) := by decide +kernel
theorem dX12_isRowAsLies_23 : decode cX12_isRowAsLies 23 = .ok (.getfield 33, 3) := by decide +kernel
theorem dX12_isRowAsLies_26 : decode cX12_isRowAsLies 26 = .ok (.iload_n 2, 1) := by decide +kernel
theorem dX12_isRowAsLies_27 : decode cX12_isRowAsLies 27 = .ok (.iaload, 1) := by decide +kernel
theorem dX12_isRowAsLies_28 : decode cX12_isRowAsLies 28 = .ok (.if_icmp .ne 7, 3) := by decide +kernel
theorem dX12_isRowAsLies_31 : decode cX12_isRowAsLies 31 = .ok (.iconst 1, 1) := by decide +kernel
theorem dX12_isRowAsLies_32 : decode cX12_isRowAsLies 32 = .ok (.goto 4, 3) := by decide +kernel
theorem dX12_isRowAsLies_35 : decode cX12_isRowAsLies 35 = .ok (.iconst 0, 1) := by decide +kernel
theorem dX12_isRowAsLies_36 : decode cX12_isRowAsLies 36 = .ok (.istore_n 1, 1) := by decide +kernel
theorem dX12_isRowAsLies_37 : decode cX12_isRowAsLies 37 = .ok (.iinc 2 1, 3) := by decide +kernel
theorem dX12_isRowAsLies_40 : decode cX12_isRowAsLies 40 = .ok (.goto (-36), 3) := by decide +kernel
theorem dX12_isRowAsLies_43 : decode cX12_isRowAsLies 43 = .ok (.iload_n 1, 1) := by decide +kernel
theorem dX12_isRowAsLies_44 : decode cX12_isRowAsLies 44 = .ok (.ireturn, 1) := by decide +kernel
set_option maxRecDepth 20000 in
theorem ggX12_errors_X12_rankOf : GoodIn wsX12_errors wsX12_rankOf := goodIn_r _ [11, 3, 12, 13, 14, 10, 15, 158, 159, 160, 161, 162, 163, 164, 165, 166, 167, 168, 169, 170, 171, 172, 173, 174, 175, 176, 177, 178, 179, 180, 181, 182, 183, 184, 185, 186, 187, 188, 189, 190, 191, 192, 193, 194, 195, 196, 197, 198, 199, 200, 201, 202, 203, 204, 205, 206, 207, 208, 209, 210, 211, 212, 213, 214, 215, 216, 217, 218, 219, 220, 221, 222, 223, 224] (by decide +kernel) (by decide +kernel)
set_option maxRecDepth 20000 in
theorem gX12_errors_X12_rankOf : GoodIn wsX12_errors (wsV RX12 274 RX12 yX12_rankOf wsX12_rankOf) := goodIn_app (goodIn_of _ (by decide +kernel)) ggX12_errors_X12_rankOf
set_option maxRecDepth 20000 in
theorem ggX12_errors_X12_lays : GoodIn wsX12_errors wsX12_lays := goodIn_r _ [19, 3, 20, 21, 22, 23, 10, 24, 158, 159, 160, 161, 162, 163, 164, 165, 166, 167, 168, 169, 170, 171, 172, 173, 174, 175, 176, 177, 178, 179, 180, 181, 182, 183, 184, 185, 186, 187, 188, 189, 190, 191, 192, 193, 194, 195, 196, 197, 198, 199, 200, 201, 202, 203, 204, 205, 206, 207, 208, 209, 210, 211, 212, 213, 214, 215, 216, 217, 218, 219, 220, 221, 222, 223, 224] (by decide +kernel) (by decide +kernel)
set_option maxRecDepth 20000 in
theorem gX12_errors_X12_lays : GoodIn wsX12_errors (wsV RX12 265 RX12 yX12_lays wsX12_lays) := goodIn_app (goodIn_of _ (by decide +kernel)) ggX12_errors_X12_lays
set_option maxRecDepth 20000 in
theorem ggX12_errors_X12_isRowAsLies : GoodIn wsX12_errors wsX12_isRowAsLies := goodIn_r _ [28, 3, 2, 1, 158, 159, 160, 161, 162, 163, 164, 165, 166, 167, 168, 169, 170, 171, 172, 173, 174, 175, 176, 177, 178, 179, 180, 181, 182, 183, 184, 185, 186, 187, 188, 189, 190, 191, 192, 193, 194, 195, 196, 197, 198, 199, 200, 201, 202, 203, 204, 205, 206, 207, 208, 209, 210, 211, 212, 213, 214, 215, 216, 217, 218, 219, 220, 221, 222, 223, 224] (by decide +kernel) (by decide +kernel)
set_option maxRecDepth 20000 in
theorem gX12_errors_X12_isRowAsLies : GoodIn wsX12_errors (wsV RX12 398 RX12 yX12_isRowAsLies wsX12_isRowAsLies) := goodIn_app (goodIn_of _ (by decide +kernel)) ggX12_errors_X12_isRowAsLies
set_option maxRecDepth 20000 in
theorem ggX12_errors_X12_laysRow : GoodIn wsX12_errors wsX12_laysRow := goodIn_r _ [32, 3, 2, 1, 158, 159, 160, 161, 162, 163, 164, 165, 166, 167, 168, 169, 170, 171, 172, 173, 174, 175, 176, 177, 178, 179, 180, 181, 182, 183, 184, 185, 186, 187, 188, 189, 190, 191, 192, 193, 194, 195, 196, 197, 198, 199, 200, 201, 202, 203, 204, 205, 206, 207, 208, 209, 210, 211, 212, 213, 214, 215, 216, 217, 218, 219, 220, 221, 222, 223, 224] (by decide +kernel) (by decide +kernel)
set_option maxRecDepth 20000 in
theorem gX12_errors_X12_laysRow : GoodIn wsX12_errors (wsV RX12 343 RX12 yX12_laysRow wsX12_laysRow) := goodIn_app (goodIn_of _ (by decide +kernel)) ggX12_errors_X12_laysRow
set_option maxRecDepth 20000 in
theorem ggX12_errors_X12_estimates : GoodIn wsX12_errors wsX12_estimates := goodIn_r _ [36, 37, 38, 39, 10, 40, 3, 41, 42, 43, 44, 45, 46, 47, 48, 49, 50, 51, 52, 53, 54, 55, 56, 57, 58, 59, 60, 61, 62, 63, 5, 64, 65, 66, 67, 68, 69, 70, 71, 72, 73, 74, 75, 158, 159, 160, 161, 162, 163, 164, 165, 166, 167, 168, 169, 170, 171, 172, 173, 174, 175, 176, 177, 178, 179, 180, 181, 182, 183, 184, 185, 186, 187, 188, 189, 190, 191, 192, 193, 194, 195, 196, 197, 198, 199, 200, 201, 202, 203, 204, 205, 206, 207, 208, 209, 210, 211, 212, 213, 214, 215, 216, 217, 218, 219, 220, 221, 222, 223, 224] (by decide +kernel) (by decide +kernel)
set_option maxRecDepth 20000 in
theorem gX12_errors_X12_estimates : GoodIn wsX12_errors (wsV RX12 302 RX12 yX12_estimates wsX12_estimates) := goodIn_app (goodIn_of _ (by decide +kernel)) ggX12_errors_X12_estimates
set_option maxRecDepth 20000 in
theorem ggX12_errors_X12_goes : GoodIn wsX12_errors wsX12_goes := goodIn_r _ [79, 80, 43, 72, 73, 74, 10, 75, 158, 159, 160, 161, 162, 163, 164, 165, 166, 167, 168, 169, 170, 171, 172, 173, 174, 175, 176, 177, 178, 179, 180, 181, 182, 183, 184, 185, 186, 187, 188, 189, 190, 191, 192, 193, 194, 195, 196, 197, 198, 199, 200, 201, 202, 203, 204, 205, 206, 207, 208, 209, 210, 211, 212, 213, 214, 215, 216, 217, 218, 219, 220, 221, 222, 223, 224] (by decide +kernel) (by decide +kernel)
set_option maxRecDepth 20000 in
theorem gX12_errors_X12_goes : GoodIn wsX12_errors (wsV RX12 270 RX12 yX12_goes wsX12_goes) := goodIn_app (goodIn_of _ (by decide +kernel)) ggX12_errors_X12_goes
set_option maxRecDepth 20000 in
theorem ggX12_errors_X12_reckons : GoodIn wsX12_errors wsX12_reckons := goodIn_r _ [84, 85, 2, 4, 5, 86, 87, 21, 22, 23, 10, 24, 3, 16, 17, 18, 19, 20, 88, 89, 90, 91, 41, 42, 76, 77, 78, 79, 80, 43, 72, 73, 74, 75, 7, 8, 9, 11, 12, 13, 14, 15, 158, 159, 160, 161, 162, 163, 164, 165, 166, 167, 168, 169, 170, 171, 172, 173, 174, 175, 176, 177, 178, 179, 180, 181, 182, 183, 184, 185, 186, 187, 188, 189, 190, 191, 192, 193, 194, 195, 196, 197, 198, 199, 200, 201, 202, 203, 204, 205, 206, 207, 208, 209, 210, 211, 212, 213, 214, 215, 216, 217, 218, 219, 220, 221, 222, 223, 224] (by decide +kernel) (by decide +kernel)
set_option maxRecDepth 20000 in
theorem gX12_errors_X12_reckons : GoodIn wsX12_errors (wsV RX12 389 RX12 yX12_reckons wsX12_reckons) := goodIn_app (goodIn_of _ (by decide +kernel)) ggX12_errors_X12_reckons
set_option maxRecDepth 20000 in
theorem ggX12_errors_X12_searches : GoodIn wsX12_errors wsX12_searches := goodIn_r _ [95, 96, 97, 98, 99, 100, 2, 101, 102, 103, 104, 10, 105, 106, 107, 108, 109, 110, 111, 3, 112, 5, 113, 114, 115, 7, 8, 9, 11, 12, 13, 14, 15, 116, 117, 118, 119, 120, 33, 34, 35, 36, 37, 38, 39, 40, 41, 42, 43, 44, 45, 46, 47, 48, 49, 50, 51, 52, 53, 54, 55, 56, 57, 58, 59, 60, 61, 62, 63, 64, 65, 66, 67, 68, 69, 70, 71, 72, 73, 74, 75, 121, 122, 123, 124, 125, 126, 127, 128, 88, 89, 90, 91, 129, 130, 131, 132, 133, 76, 77, 78, 79, 80, 158, 159, 160, 161, 162, 163, 164, 165, 166, 167, 168, 169, 170, 171, 172, 173, 174, 175, 176, 177, 178, 179, 180, 181, 182, 183, 184, 185, 186, 187, 188, 189, 190, 191, 192, 193, 194, 195, 196, 197, 198, 199, 200, 201, 202, 203, 204, 205, 206, 207, 208, 209, 210, 211, 212, 213, 214, 215, 216, 217, 218, 219, 220, 221, 222, 223, 224] (by decide +kernel) (by decide +kernel)
set_option maxRecDepth 20000 in
theorem gX12_errors_X12_searches : GoodIn wsX12_errors (wsV RX12 346 RX12 yX12_searches wsX12_searches) := goodIn_app (goodIn_of _ (by decide +kernel)) ggX12_errors_X12_searches
set_option maxRecDepth 20000 in
theorem ggX12_errors_X12_searchesDeeper : GoodIn wsX12_errors wsX12_searchesDeeper := goodIn_r _ [137, 96, 97, 98, 138, 139, 2, 140, 5, 141, 33, 34, 35, 10, 36, 37, 38, 39, 40, 3, 41, 42, 43, 44, 45, 46, 47, 48, 49, 50, 51, 52, 53, 54, 55, 56, 57, 58, 59, 60, 61, 62, 63, 64, 65, 66, 67, 68, 69, 70, 71, 72, 73, 74, 75, 142, 143, 144, 145, 146, 147, 148, 133, 80, 149, 150, 151, 152, 6, 88, 89, 90, 91, 76, 77, 78, 79, 158, 159, 160, 161, 162, 163, 164, 165, 166, 167, 168, 169, 170, 171, 172, 173, 174, 175, 176, 177, 178, 179, 180, 181, 182, 183, 184, 185, 186, 187, 188, 189, 190, 191, 192, 193, 194, 195, 196, 197, 198, 199, 200, 201, 202, 203, 204, 205, 206, 207, 208, 209, 210, 211, 212, 213, 214, 215, 216, 217, 218, 219, 220, 221, 222, 223, 224] (by decide +kernel) (by decide +kernel)
set_option maxRecDepth 20000 in
theorem gX12_errors_X12_searchesDeeper : GoodIn wsX12_errors (wsV RX12 371 RX12 yX12_searchesDeeper wsX12_searchesDeeper) := goodIn_app (goodIn_of _ (by decide +kernel)) ggX12_errors_X12_searchesDeeper
set_option maxRecDepth 20000 in
theorem ggX12_errors_X12_told : GoodIn wsX12_errors wsX12_told := goodIn_r _ [156, 157, 158, 159, 160, 161, 162, 163, 164, 165, 166, 167, 168, 169, 170, 171, 172, 173, 174, 175, 176, 177, 178, 179, 180, 181, 182, 183, 184, 185, 186, 187, 188, 189, 190, 191, 192, 193, 194, 195, 196, 197, 198, 199, 200, 201, 202, 203, 204, 205, 206, 207, 208, 209, 210, 211, 212, 213, 214, 215, 216, 217, 218, 219, 220, 221, 222, 223, 224] (by decide +kernel) (by decide +kernel)
set_option maxRecDepth 20000 in
theorem gX12_errors_X12_told : GoodIn wsX12_errors (wsV RX12 215 RX12 yX12_told wsX12_told) := goodIn_app (goodIn_of _ (by decide +kernel)) ggX12_errors_X12_told
theorem dX12_errors_0 : decode cX12_errors 0 = .ok (.iconst 0, 1) := by decide +kernel
theorem dX12_errors_1 : decode cX12_errors 1 = .ok (.istore_n 1, 1) := by decide +kernel
theorem dX12_errors_2 : decode cX12_errors 2 = .ok (.aload_n 0, 1) := by decide +kernel
theorem dX12_errors_3 : decode cX12_errors 3 = .ok (.aload_n 0, 1) := by decide +kernel
theorem dX12_errors_4 : decode cX12_errors 4 = .ok (.aload_n 0, 1) := by decide +kernel
theorem dX12_errors_5 : decode cX12_errors 5 = .ok (.getfield 33, 3) := by decide +kernel
theorem dX12_errors_8 : decode cX12_errors 8 = .ok (.invokevirtual 274, 3) := by decide +kernel
theorem dX12_errors_11 : decode cX12_errors 11 = .ok (.aload_n 0, 1) := by decide +kernel
theorem dX12_errors_12 : decode cX12_errors 12 = .ok (.getfield 128, 3) := by decide +kernel
theorem dX12_errors_15 : decode cX12_errors 15 = .ok (.invokevirtual 265, 3) := by decide +kernel
theorem dX12_errors_18 : decode cX12_errors 18 = .ok (.iload_n 1, 1) := by decide +kernel
theorem dX12_errors_19 : decode cX12_errors 19 = .ok (.aload_n 0, 1) := by decide +kernel
theorem dX12_errors_20 : decode cX12_errors 20 = .ok (.invokevirtual 398, 3) := by decide +kernel
theorem dX12_errors_23 : decode cX12_errors 23 = .ok (.ifCond .eq 7, 3) := by decide +kernel
theorem dX12_errors_26 : decode cX12_errors 26 = .ok (.iconst 0, 1) := by decide +kernel
theorem dX12_errors_27 : decode cX12_errors 27 = .ok (.goto 4, 3) := by decide +kernel
theorem dX12_errors_30 : decode cX12_errors 30 = .ok (.iconst 1, 1) := by decide +kernel
theorem dX12_errors_31 : decode cX12_errors 31 = .ok (.iadd, 1) := by decide +kernel
theorem dX12_errors_32 : decode cX12_errors 32 = .ok (.istore_n 1, 1) := by decide +kernel
theorem dX12_errors_33 : decode cX12_errors 33 = .ok (.iconst 0, 1) := by decide +kernel
theorem dX12_errors_34 : decode cX12_errors 34 = .ok (.istore_n 2, 1) := by decide +kernel
theorem dX12_errors_35 : decode cX12_errors 35 = .ok (.iload_n 2, 1) := by decide +kernel
theorem dX12_errors_36 : decode cX12_errors 36 = .ok (.iconst 4, 1) := by decide +kernel
theorem dX12_errors_37 : decode cX12_errors 37 = .ok (.if_icmp .ge 124, 3) := by decide +kernel
theorem dX12_errors_40 : decode cX12_errors 40 = .ok (.iconst 0, 1) := by decide +kernel
theorem dX12_errors_41 : decode cX12_errors 41 = .ok (.istore_n 3, 1) := by decide +kernel
theorem dX12_errors_42 : decode cX12_errors 42 = .ok (.iload_n 3, 1) := by decide +kernel
theorem dX12_errors_43 : decode cX12_errors 43 = .ok (.iconst 4, 1) := by decide +kernel
theorem dX12_errors_44 : decode cX12_errors 44 = .ok (.if_icmp .gt 111, 3) := by decide +kernel
theorem dX12_errors_47 : decode cX12_errors 47 = .ok (.aload_n 0, 1) := by decide +kernel
theorem dX12_errors_48 : decode cX12_errors 48 = .ok (.invokevirtual 343, 3) := by decide +kernel
theorem dX12_errors_51 : decode cX12_errors 51 = .ok (.aload_n 0, 1) := by decide +kernel
theorem dX12_errors_52 : decode cX12_errors 52 = .ok (.aload_n 0, 1) := by decide +kernel
theorem dX12_errors_53 : decode cX12_errors 53 = .ok (.getfield 128, 3) := by decide +kernel
theorem dX12_errors_56 : decode cX12_errors 56 = .ok (.iload_n 3, 1) := by decide +kernel
theorem dX12_errors_57 : decode cX12_errors 57 = .ok (.invokevirtual 302, 3) := by decide +kernel
theorem dX12_errors_60 : decode cX12_errors 60 = .ok (.istore 4, 2) := by decide +kernel
theorem dX12_errors_62 : decode cX12_errors 62 = .ok (.aload_n 0, 1) := by decide +kernel
theorem dX12_errors_63 : decode cX12_errors 63 = .ok (.aload_n 0, 1) := by decide +kernel
theorem dX12_errors_64 : decode cX12_errors 64 = .ok (.getfield 128, 3) := by decide +kernel
theorem dX12_errors_67 : decode cX12_errors 67 = .ok (.iload_n 2, 1) := by decide +kernel
theorem dX12_errors_68 : decode cX12_errors 68 = .ok (.invokevirtual 270, 3) := by decide +kernel
theorem dX12_errors_71 : decode cX12_errors 71 = .ok (.istore 5, 2) := by decide +kernel
theorem dX12_errors_73 : decode cX12_errors 73 = .ok (.iload_n 1, 1) := by decide +kernel
theorem dX12_errors_74 : decode cX12_errors 74 = .ok (.iload 5, 2) := by decide +kernel
theorem dX12_errors_76 : decode cX12_errors 76 = .ok (.iconst (-1), 1) := by decide +kernel
theorem dX12_errors_77 : decode cX12_errors 77 = .ok (.if_icmp .eq 24, 3) := by decide +kernel
theorem dX12_errors_80 : decode cX12_errors 80 = .ok (.iload 4, 2) := by decide +kernel
theorem dX12_errors_82 : decode cX12_errors 82 = .ok (.aload_n 0, 1) := by decide +kernel
theorem dX12_errors_83 : decode cX12_errors 83 = .ok (.aload_n 0, 1) := by decide +kernel
theorem dX12_errors_84 : decode cX12_errors 84 = .ok (.getfield 128, 3) := by decide +kernel
theorem dX12_errors_87 : decode cX12_errors 87 = .ok (.iload_n 3, 1) := by decide +kernel
theorem dX12_errors_88 : decode cX12_errors 88 = .ok (.invokevirtual 302, 3) := by decide +kernel
theorem dX12_errors_91 : decode cX12_errors 91 = .ok (.isub, 1) := by decide +kernel
theorem dX12_errors_92 : decode cX12_errors 92 = .ok (.iload 5, 2) := by decide +kernel
theorem dX12_errors_94 : decode cX12_errors 94 = .ok (.if_icmp .le 7, 3) := by decide +kernel
theorem dX12_errors_97 : decode cX12_errors 97 = .ok (.iconst 1, 1) := by decide +kernel
theorem dX12_errors_98 : decode cX12_errors 98 = .ok (.goto 4, 3) := by decide +kernel
theorem dX12_errors_101 : decode cX12_errors 101 = .ok (.iconst 0, 1) := by decide +kernel
theorem dX12_errors_102 : decode cX12_errors 102 = .ok (.iadd, 1) := by decide +kernel
theorem dX12_errors_103 : decode cX12_errors 103 = .ok (.istore_n 1, 1) := by decide +kernel
theorem dX12_errors_104 : decode cX12_errors 104 = .ok (.iload 5, 2) := by decide +kernel
theorem dX12_errors_106 : decode cX12_errors 106 = .ok (.iconst (-1), 1) := by decide +kernel
theorem dX12_errors_107 : decode cX12_errors 107 = .ok (.if_icmp .ne 7, 3) := by decide +kernel
theorem dX12_errors_110 : decode cX12_errors 110 = .ok (.iconst (-1), 1) := by decide +kernel
theorem dX12_errors_111 : decode cX12_errors 111 = .ok (.goto 14, 3) := by decide +kernel
theorem dX12_errors_114 : decode cX12_errors 114 = .ok (.aload_n 0, 1) := by decide +kernel
theorem dX12_errors_115 : decode cX12_errors 115 = .ok (.aload_n 0, 1) := by decide +kernel
theorem dX12_errors_116 : decode cX12_errors 116 = .ok (.getfield 128, 3) := by decide +kernel
theorem dX12_errors_119 : decode cX12_errors 119 = .ok (.iconst 3, 1) := by decide +kernel
theorem dX12_errors_120 : decode cX12_errors 120 = .ok (.iload_n 2, 1) := by decide +kernel
theorem dX12_errors_121 : decode cX12_errors 121 = .ok (.isub, 1) := by decide +kernel
theorem dX12_errors_122 : decode cX12_errors 122 = .ok (.invokevirtual 270, 3) := by decide +kernel
theorem dX12_errors_125 : decode cX12_errors 125 = .ok (.istore 6, 2) := by decide +kernel
theorem dX12_errors_127 : decode cX12_errors 127 = .ok (.iload_n 1, 1) := by decide +kernel
theorem dX12_errors_128 : decode cX12_errors 128 = .ok (.iload 6, 2) := by decide +kernel
theorem dX12_errors_130 : decode cX12_errors 130 = .ok (.iload 5, 2) := by decide +kernel
theorem dX12_errors_132 : decode cX12_errors 132 = .ok (.if_icmp .ne 14, 3) := by decide +kernel
theorem dX12_errors_135 : decode cX12_errors 135 = .ok (.aload_n 0, 1) := by decide +kernel
theorem dX12_errors_136 : decode cX12_errors 136 = .ok (.invokevirtual 398, 3) := by decide +kernel
theorem dX12_errors_139 : decode cX12_errors 139 = .ok (.ifCond .eq 7, 3) := by decide +kernel
theorem dX12_errors_142 : decode cX12_errors 142 = .ok (.iconst 0, 1) := by decide +kernel
theorem dX12_errors_143 : decode cX12_errors 143 = .ok (.goto 4, 3) := by decide +kernel
theorem dX12_errors_146 : decode cX12_errors 146 = .ok (.iconst 1, 1) := by decide +kernel
theorem dX12_errors_147 : decode cX12_errors 147 = .ok (.iadd, 1) := by decide +kernel
theorem dX12_errors_148 : decode cX12_errors 148 = .ok (.istore_n 1, 1) := by decide +kernel
theorem dX12_errors_149 : decode cX12_errors 149 = .ok (.iinc 3 1, 3) := by decide +kernel
theorem dX12_errors_152 : decode cX12_errors 152 = .ok (.goto (-110), 3) := by decide +kernel
theorem dX12_errors_155 : decode cX12_errors 155 = .ok (.iinc 2 1, 3) := by decide +kernel
theorem dX12_errors_158 : decode cX12_errors 158 = .ok (.goto (-123), 3) := by decide +kernel
theorem dX12_errors_161 : decode cX12_errors 161 = .ok (.aload_n 0, 1) := by decide +kernel
theorem dX12_errors_162 : decode cX12_errors 162 = .ok (.getfield 170, 3) := by decide +kernel
theorem dX12_errors_165 : decode cX12_errors 165 = .ok (.bipush 6, 2) := by decide +kernel
theorem dX12_errors_167 : decode cX12_errors 167 = .ok (.if_icmp .gt 102, 3) := by decide +kernel
theorem dX12_errors_170 : decode cX12_errors 170 = .ok (.aload_n 0, 1) := by decide +kernel
theorem dX12_errors_171 : decode cX12_errors 171 = .ok (.invokevirtual 389, 3) := by decide +kernel
theorem dX12_errors_174 : decode cX12_errors 174 = .ok (.aload_n 0, 1) := by decide +kernel
theorem dX12_errors_175 : decode cX12_errors 175 = .ok (.getfield 149, 3) := by decide +kernel
theorem dX12_errors_178 : decode cX12_errors 178 = .ok (.aload_n 0, 1) := by decide +kernel
theorem dX12_errors_179 : decode cX12_errors 179 = .ok (.aload_n 0, 1) := by decide +kernel
theorem dX12_errors_180 : decode cX12_errors 180 = .ok (.getfield 33, 3) := by decide +kernel
theorem dX12_errors_183 : decode cX12_errors 183 = .ok (.invokevirtual 274, 3) := by decide +kernel
theorem dX12_errors_186 : decode cX12_errors 186 = .ok (.l2i, 1) := by decide +kernel
theorem dX12_errors_187 : decode cX12_errors 187 = .ok (.iaload, 1) := by decide +kernel
theorem dX12_errors_188 : decode cX12_errors 188 = .ok (.istore_n 2, 1) := by decide +kernel
theorem dX12_errors_189 : decode cX12_errors 189 = .ok (.iload_n 2, 1) := by decide +kernel
theorem dX12_errors_190 : decode cX12_errors 190 = .ok (.ldc 199, 2) := by decide +kernel
theorem dX12_errors_192 : decode cX12_errors 192 = .ok (.if_icmp .ne 7, 3) := by decide +kernel
theorem dX12_errors_195 : decode cX12_errors 195 = .ok (.iconst (-1), 1) := by decide +kernel
theorem dX12_errors_196 : decode cX12_errors 196 = .ok (.goto 4, 3) := by decide +kernel
theorem dX12_errors_199 : decode cX12_errors 199 = .ok (.iload_n 2, 1) := by decide +kernel
theorem dX12_errors_200 : decode cX12_errors 200 = .ok (.istore_n 3, 1) := by decide +kernel
theorem dX12_errors_201 : decode cX12_errors 201 = .ok (.aload_n 0, 1) := by decide +kernel
theorem dX12_errors_202 : decode cX12_errors 202 = .ok (.invokevirtual 343, 3) := by decide +kernel
theorem dX12_errors_205 : decode cX12_errors 205 = .ok (.aload_n 0, 1) := by decide +kernel
theorem dX12_errors_206 : decode cX12_errors 206 = .ok (.iconst 3, 1) := by decide +kernel
theorem dX12_errors_207 : decode cX12_errors 207 = .ok (.aload_n 0, 1) := by decide +kernel
theorem dX12_errors_208 : decode cX12_errors 208 = .ok (.getfield 45, 3) := by decide +kernel
theorem dX12_errors_211 : decode cX12_errors 211 = .ok (.invokevirtual 346, 3) := by decide +kernel
theorem dX12_errors_214 : decode cX12_errors 214 = .ok (.istore 4, 2) := by decide +kernel
theorem dX12_errors_216 : decode cX12_errors 216 = .ok (.aload_n 0, 1) := by decide +kernel
theorem dX12_errors_217 : decode cX12_errors 217 = .ok (.invokevirtual 343, 3) := by decide +kernel
theorem dX12_errors_220 : decode cX12_errors 220 = .ok (.aload_n 0, 1) := by decide +kernel
theorem dX12_errors_221 : decode cX12_errors 221 = .ok (.iconst 3, 1) := by decide +kernel
theorem dX12_errors_222 : decode cX12_errors 222 = .ok (.invokevirtual 371, 3) := by decide +kernel
theorem dX12_errors_225 : decode cX12_errors 225 = .ok (.istore 5, 2) := by decide +kernel
theorem dX12_errors_227 : decode cX12_errors 227 = .ok (.iload_n 1, 1) := by decide +kernel
theorem dX12_errors_228 : decode cX12_errors 228 = .ok (.iload 4, 2) := by decide +kernel
theorem dX12_errors_230 : decode cX12_errors 230 = .ok (.bipush (-2), 2) := by decide +kernel
theorem dX12_errors_232 : decode cX12_errors 232 = .ok (.if_icmp .eq 9, 3) := by decide +kernel
theorem dX12_errors_235 : decode cX12_errors 235 = .ok (.iload 4, 2) := by decide +kernel
theorem dX12_errors_237 : decode cX12_errors 237 = .ok (.iload_n 3, 1) := by decide +kernel
theorem dX12_errors_238 : decode cX12_errors 238 = .ok (.if_icmp .ne 7, 3) := by decide +kernel
theorem dX12_errors_241 : decode cX12_errors 241 = .ok (.iconst 0, 1) := by decide +kernel
theorem dX12_errors_242 : decode cX12_errors 242 = .ok (.goto 4, 3) := by decide +kernel
theorem dX12_errors_245 : decode cX12_errors 245 = .ok (.iconst 1, 1) := by decide +kernel
theorem dX12_errors_246 : decode cX12_errors 246 = .ok (.iadd, 1) := by decide +kernel
theorem dX12_errors_247 : decode cX12_errors 247 = .ok (.istore_n 1, 1) := by decide +kernel
theorem dX12_errors_248 : decode cX12_errors 248 = .ok (.iload_n 1, 1) := by decide +kernel
theorem dX12_errors_249 : decode cX12_errors 249 = .ok (.iload 5, 2) := by decide +kernel
theorem dX12_errors_251 : decode cX12_errors 251 = .ok (.bipush (-2), 2) := by decide +kernel
theorem dX12_errors_253 : decode cX12_errors 253 = .ok (.if_icmp .eq 9, 3) := by decide +kernel
theorem dX12_errors_256 : decode cX12_errors 256 = .ok (.iload 5, 2) := by decide +kernel
theorem dX12_errors_258 : decode cX12_errors 258 = .ok (.iload_n 3, 1) := by decide +kernel
theorem dX12_errors_259 : decode cX12_errors 259 = .ok (.if_icmp .ne 7, 3) := by decide +kernel
theorem dX12_errors_262 : decode cX12_errors 262 = .ok (.iconst 0, 1) := by decide +kernel
theorem dX12_errors_263 : decode cX12_errors 263 = .ok (.goto 4, 3) := by decide +kernel
theorem dX12_errors_266 : decode cX12_errors 266 = .ok (.iconst 1, 1) := by decide +kernel
theorem dX12_errors_267 : decode cX12_errors 267 = .ok (.iadd, 1) := by decide +kernel
theorem dX12_errors_268 : decode cX12_errors 268 = .ok (.istore_n 1, 1) := by decide +kernel
theorem dX12_errors_269 : decode cX12_errors 269 = .ok (.aload_n 0, 1) := by decide +kernel
theorem dX12_errors_270 : decode cX12_errors 270 = .ok (.iload_n 1, 1) := by decide +kernel
theorem dX12_errors_271 : decode cX12_errors 271 = .ok (.invokevirtual 215, 3) := by decide +kernel
theorem dX12_errors_274 : decode cX12_errors 274 = .ok (.ireturn, 1) := by decide +kernel
theorem dJ6_bitCount_0f7a4_0 : decode cJ6_bitCount_0f7a4 0 = .ok (.iload_n 0, 1) := by decide +kernel
theorem dJ6_bitCount_0f7a4_1 : decode cJ6_bitCount_0f7a4 1 = .ok (.iload_n 0, 1) := by decide +kernel
theorem dJ6_bitCount_0f7a4_2 : decode cJ6_bitCount_0f7a4 2 = .ok (.iconst 1, 1) := by decide +kernel
theorem dJ6_bitCount_0f7a4_3 : decode cJ6_bitCount_0f7a4 3 = .ok (.iushr, 1) := by decide +kernel
theorem dJ6_bitCount_0f7a4_4 : decode cJ6_bitCount_0f7a4 4 = .ok (.ldc_w 265, 3) := by decide +kernel
theorem dJ6_bitCount_0f7a4_7 : decode cJ6_bitCount_0f7a4 7 = .ok (.iand, 1) := by decide +kernel
theorem dJ6_bitCount_0f7a4_8 : decode cJ6_bitCount_0f7a4 8 = .ok (.isub, 1) := by decide +kernel
theorem dJ6_bitCount_0f7a4_9 : decode cJ6_bitCount_0f7a4 9 = .ok (.istore_n 0, 1) := by decide +kernel
theorem dJ6_bitCount_0f7a4_10 : decode cJ6_bitCount_0f7a4 10 = .ok (.iload_n 0, 1) := by decide +kernel
theorem dJ6_bitCount_0f7a4_11 : decode cJ6_bitCount_0f7a4 11 = .ok (.ldc_w 266, 3) := by decide +kernel
theorem dJ6_bitCount_0f7a4_14 : decode cJ6_bitCount_0f7a4 14 = .ok (.iand, 1) := by decide +kernel
theorem dJ6_bitCount_0f7a4_15 : decode cJ6_bitCount_0f7a4 15 = .ok (.iload_n 0, 1) := by decide +kernel
theorem dJ6_bitCount_0f7a4_16 : decode cJ6_bitCount_0f7a4 16 = .ok (.iconst 2, 1) := by decide +kernel
theorem dJ6_bitCount_0f7a4_17 : decode cJ6_bitCount_0f7a4 17 = .ok (.iushr, 1) := by decide +kernel
theorem dJ6_bitCount_0f7a4_18 : decode cJ6_bitCount_0f7a4 18 = .ok (.ldc_w 266, 3) := by decide +kernel
theorem dJ6_bitCount_0f7a4_21 : decode cJ6_bitCount_0f7a4 21 = .ok (.iand, 1) := by decide +kernel
theorem dJ6_bitCount_0f7a4_22 : decode cJ6_bitCount_0f7a4 22 = .ok (.iadd, 1) := by decide +kernel
theorem dJ6_bitCount_0f7a4_23 : decode cJ6_bitCount_0f7a4 23 = .ok (.istore_n 0, 1) := by decide +kernel
theorem dJ6_bitCount_0f7a4_24 : decode cJ6_bitCount_0f7a4 24 = .ok (.iload_n 0, 1) := by decide +kernel
theorem dJ6_bitCount_0f7a4_25 : decode cJ6_bitCount_0f7a4 25 = .ok (.iload_n 0, 1) := by decide +kernel
theorem dJ6_bitCount_0f7a4_26 : decode cJ6_bitCount_0f7a4 26 = .ok (.iconst 4, 1) := by decide +kernel
theorem dJ6_bitCount_0f7a4_27 : decode cJ6_bitCount_0f7a4 27 = .ok (.iushr, 1) := by decide +kernel
theorem dJ6_bitCount_0f7a4_28 : decode cJ6_bitCount_0f7a4 28 = .ok (.iadd, 1) := by decide +kernel
theorem dJ6_bitCount_0f7a4_29 : decode cJ6_bitCount_0f7a4 29 = .ok (.ldc_w 267, 3) := by decide +kernel
theorem dJ6_bitCount_0f7a4_32 : decode cJ6_bitCount_0f7a4 32 = .ok (.iand, 1) := by decide +kernel
theorem dJ6_bitCount_0f7a4_33 : decode cJ6_bitCount_0f7a4 33 = .ok (.istore_n 0, 1) := by decide +kernel
theorem dJ6_bitCount_0f7a4_34 : decode cJ6_bitCount_0f7a4 34 = .ok (.iload_n 0, 1) := by decide +kernel
theorem dJ6_bitCount_0f7a4_35 : decode cJ6_bitCount_0f7a4 35 = .ok (.iload_n 0, 1) := by decide +kernel
theorem dJ6_bitCount_0f7a4_36 : decode cJ6_bitCount_0f7a4 36 = .ok (.bipush 8, 2) := by decide +kernel
theorem dJ6_bitCount_0f7a4_38 : decode cJ6_bitCount_0f7a4 38 = .ok (.iushr, 1) := by decide +kernel
theorem dJ6_bitCount_0f7a4_39 : decode cJ6_bitCount_0f7a4 39 = .ok (.iadd, 1) := by decide +kernel
theorem dJ6_bitCount_0f7a4_40 : decode cJ6_bitCount_0f7a4 40 = .ok (.istore_n 0, 1) := by decide +kernel
theorem dJ6_bitCount_0f7a4_41 : decode cJ6_bitCount_0f7a4 41 = .ok (.iload_n 0, 1) := by decide +kernel
theorem dJ6_bitCount_0f7a4_42 : decode cJ6_bitCount_0f7a4 42 = .ok (.iload_n 0, 1) := by decide +kernel
theorem dJ6_bitCount_0f7a4_43 : decode cJ6_bitCount_0f7a4 43 = .ok (.bipush 16, 2) := by decide +kernel
theorem dJ6_bitCount_0f7a4_45 : decode cJ6_bitCount_0f7a4 45 = .ok (.iushr, 1) := by decide +kernel
theorem dJ6_bitCount_0f7a4_46 : decode cJ6_bitCount_0f7a4 46 = .ok (.iadd, 1) := by decide +kernel
theorem dJ6_bitCount_0f7a4_47 : decode cJ6_bitCount_0f7a4 47 = .ok (.istore_n 0, 1) := by decide +kernel
theorem dJ6_bitCount_0f7a4_48 : decode cJ6_bitCount_0f7a4 48 = .ok (.iload_n 0, 1) := by decide +kernel
theorem dJ6_bitCount_0f7a4_49 : decode cJ6_bitCount_0f7a4 49 = .ok (.bipush 63, 2) := by decide +kernel
theorem dJ6_bitCount_0f7a4_51 : decode cJ6_bitCount_0f7a4 51 = .ok (.iand, 1) := by decide +kernel
theorem dJ6_bitCount_0f7a4_52 : decode cJ6_bitCount_0f7a4 52 = .ok (.ireturn, 1) := by decide +kernel
theorem dJ9_min_7cf53_0 : decode cJ9_min_7cf53 0 = .ok (.iload_n 0, 1) := by decide +kernel
theorem dJ9_min_7cf53_1 : decode cJ9_min_7cf53 1 = .ok (.iload_n 1, 1) := by decide +kernel
theorem dJ9_min_7cf53_2 : decode cJ9_min_7cf53 2 = .ok (.if_icmp .gt 7, 3) := by decide +kernel
theorem dJ9_min_7cf53_5 : decode cJ9_min_7cf53 5 = .ok (.iload_n 0, 1) := by decide +kernel
theorem dJ9_min_7cf53_6 : decode cJ9_min_7cf53 6 = .ok (.goto 4, 3) := by decide +kernel
theorem dJ9_min_7cf53_9 : decode cJ9_min_7cf53 9 = .ok (.iload_n 1, 1) := by decide +kernel
theorem dJ9_min_7cf53_10 : decode cJ9_min_7cf53 10 = .ok (.ireturn, 1) := by decide +kernel
theorem dJ9_min_f86c9_0 : decode cJ9_min_f86c9 0 = .ok (.lload_n 0, 1) := by decide +kernel
theorem dJ9_min_f86c9_1 : decode cJ9_min_f86c9 1 = .ok (.lload_n 2, 1) := by decide +kernel
theorem dJ9_min_f86c9_2 : decode cJ9_min_f86c9 2 = .ok (.lcmp, 1) := by decide +kernel
theorem dJ9_min_f86c9_3 : decode cJ9_min_f86c9 3 = .ok (.ifCond .gt 7, 3) := by decide +kernel
theorem dJ9_min_f86c9_6 : decode cJ9_min_f86c9 6 = .ok (.lload_n 0, 1) := by decide +kernel
theorem dJ9_min_f86c9_7 : decode cJ9_min_f86c9 7 = .ok (.goto 4, 3) := by decide +kernel
theorem dJ9_min_f86c9_10 : decode cJ9_min_f86c9 10 = .ok (.lload_n 2, 1) := by decide +kernel
theorem dJ9_min_f86c9_11 : decode cJ9_min_f86c9 11 = .ok (.lreturn, 1) := by decide +kernel
theorem dJ7_fill_53178_0 : decode cJ7_fill_53178 0 = .ok (.iconst 0, 1) := by decide +kernel
theorem dJ7_fill_53178_1 : decode cJ7_fill_53178 1 = .ok (.istore_n 2, 1) := by decide +kernel
theorem dJ7_fill_53178_2 : decode cJ7_fill_53178 2 = .ok (.aload_n 0, 1) := by decide +kernel
theorem dJ7_fill_53178_3 : decode cJ7_fill_53178 3 = .ok (.arraylength, 1) := by decide +kernel
theorem dJ7_fill_53178_4 : decode cJ7_fill_53178 4 = .ok (.istore_n 3, 1) := by decide +kernel
theorem dJ7_fill_53178_5 : decode cJ7_fill_53178 5 = .ok (.iload_n 2, 1) := by decide +kernel
theorem dJ7_fill_53178_6 : decode cJ7_fill_53178 6 = .ok (.iload_n 3, 1) := by decide +kernel
theorem dJ7_fill_53178_7 : decode cJ7_fill_53178 7 = .ok (.if_icmp .ge 13, 3) := by decide +kernel
theorem dJ7_fill_53178_10 : decode cJ7_fill_53178 10 = .ok (.aload_n 0, 1) := by decide +kernel
theorem dJ7_fill_53178_11 : decode cJ7_fill_53178 11 = .ok (.iload_n 2, 1) := by decide +kernel
theorem dJ7_fill_53178_12 : decode cJ7_fill_53178 12 = .ok (.iload_n 1, 1) := by decide +kernel
theorem dJ7_fill_53178_13 : decode cJ7_fill_53178 13 = .ok (.iastore, 1) := by decide +kernel
theorem dJ7_fill_53178_14 : decode cJ7_fill_53178 14 = .ok (.iinc 2 1, 3) := by decide +kernel
theorem dJ7_fill_53178_17 : decode cJ7_fill_53178 17 = .ok (.goto (-12), 3) := by decide +kernel
theorem dJ7_fill_53178_20 : decode cJ7_fill_53178 20 = .ok (.return_, 1) := by decide +kernel
set_option maxRecDepth 20000 in
theorem ggL_tray_X11_tray : GoodIn wsL_tray wsX11_tray := goodIn_ca (goodIn_r _ [6, 7, 8, 9, 10, 11, 12, 13, 14, 15, 16, 17, 18, 19, 20, 21, 22, 23, 24, 25, 5, 26, 27, 28, 29, 30, 31, 32, 33, 34, 35, 36, 37, 38, 39, 40, 41, 42, 43, 44, 45, 46, 47, 48, 49, 50, 51, 52, 53, 54, 55, 56, 57, 58, 59, 60, 61, 62, 63, 64, 65, 66, 67, 68, 69, 70, 71, 72, 73, 74, 75, 76, 77, 78, 79, 80, 81, 82, 83, 84, 85, 86, 87, 88, 89, 90, 91, 92, 93, 94, 95, 96, 97, 98, 99, 100, 101, 102, 103, 104, 105, 106, 107, 108, 109, 110, 111, 112, 113, 114, 115, 116, 117, 118, 119, 120, 121, 122, 123, 124, 125, 126, 127, 128, 129, 130, 131, 132, 133, 134, 135, 136, 137, 138, 139, 140, 141, 142, 143, 144, 145, 146, 147, 148, 149, 150, 151, 152, 153, 154, 155, 156, 157, 158, 159, 160, 161, 162, 163, 164, 165, 166, 167, 168, 169, 170, 171, 172, 173, 174, 175, 176, 177, 178, 179, 180, 181, 182, 183, 184, 185, 186, 187, 188, 189, 190, 191, 192, 193, 194, 195, 196, 197, 198, 199, 200, 201, 202, 203, 204, 205, 206, 207, 208, 209, 210, 211, 212, 213, 214, 215, 216, 217, 218, 219, 220, 221, 222, 223, 224, 225, 226, 227, 228, 229, 230] (by decide +kernel) (by decide +kernel)) (goodIn_sub (fun _ h => List.mem_cons_of_mem _ (List.mem_append_right _ h)) (by decide +kernel))
set_option maxRecDepth 20000 in
theorem gL_tray_X11_tray : GoodIn wsL_tray (wsV RL 7 RX11 yX11_tray wsX11_tray) := goodIn_app (goodIn_of _ (by decide +kernel)) ggL_tray_X11_tray
theorem dL_tray_0 : decode cL_tray 0 = .ok (.aload 4, 2) := by decide +kernel
theorem dL_tray_2 : decode cL_tray 2 = .ok (.iconst 0, 1) := by decide +kernel
theorem dL_tray_3 : decode cL_tray 3 = .ok (.aload_n 0, 1) := by decide +kernel
theorem dL_tray_4 : decode cL_tray 4 = .ok (.iload_n 1, 1) := by decide +kernel
theorem dL_tray_5 : decode cL_tray 5 = .ok (.iload_n 2, 1) := by decide +kernel
theorem dL_tray_6 : decode cL_tray 6 = .ok (.iload_n 3, 1) := by decide +kernel
theorem dL_tray_7 : decode cL_tray 7 = .ok (.invokevirtual 7, 3) := by decide +kernel
theorem dL_tray_10 : decode cL_tray 10 = .ok (.i2l, 1) := by decide +kernel
theorem dL_tray_11 : decode cL_tray 11 = .ok (.lastore, 1) := by decide +kernel
theorem dL_tray_12 : decode cL_tray 12 = .ok (.goto 7, 3) := by decide +kernel
theorem dL_tray_15 : decode cL_tray 15 = .ok (.astore 5, 2) := by decide +kernel
theorem dL_tray_17 : decode cL_tray 17 = .ok (.iconst 1, 1) := by decide +kernel
theorem dL_tray_18 : decode cL_tray 18 = .ok (.ireturn, 1) := by decide +kernel
theorem dL_tray_19 : decode cL_tray 19 = .ok (.iconst 0, 1) := by decide +kernel
theorem dL_tray_20 : decode cL_tray 20 = .ok (.ireturn, 1) := by decide +kernel
set_option maxRecDepth 20000 in
theorem ggL_lay_X11_lay : GoodIn wsL_lay wsX11_lay := goodIn_ca (goodIn_r _ [6, 7, 8, 9, 10, 11, 12, 13, 14, 15, 16, 17, 18, 19, 20, 21, 22, 23, 24, 25, 26, 27, 28, 29, 30, 31, 32, 33, 34, 35, 36, 37, 38, 39, 40, 41, 42, 43, 44, 45, 46, 47, 48, 49, 50, 51, 52, 53, 54, 55, 56, 5, 57, 58, 59, 60, 61, 62, 63, 64, 65, 66, 67, 68, 69, 70, 71, 72, 73, 74, 75, 76, 77, 78, 79, 80, 81, 82, 83, 84, 85, 86, 87, 88, 89, 90, 91, 92, 93, 94, 95, 96, 97, 98, 99, 100, 101, 102, 103, 104, 105, 106, 107] (by decide +kernel) (by decide +kernel)) (goodIn_sub (fun _ h => List.mem_cons_of_mem _ (List.mem_append_right _ h)) (by decide +kernel))
set_option maxRecDepth 20000 in
theorem gL_lay_X11_lay : GoodIn wsL_lay (wsV RL 15 RX11 yX11_lay wsX11_lay) := goodIn_app (goodIn_of _ (by decide +kernel)) ggL_lay_X11_lay
theorem dL_lay_0 : decode cL_lay 0 = .ok (.aload_n 3, 1) := by decide +kernel
theorem dL_lay_1 : decode cL_lay 1 = .ok (.iconst 0, 1) := by decide +kernel
theorem dL_lay_2 : decode cL_lay 2 = .ok (.aload_n 0, 1) := by decide +kernel
theorem dL_lay_3 : decode cL_lay 3 = .ok (.lload_n 1, 1) := by decide +kernel
theorem dL_lay_4 : decode cL_lay 4 = .ok (.invokevirtual 15, 3) := by decide +kernel
theorem dL_lay_7 : decode cL_lay 7 = .ok (.i2l, 1) := by decide +kernel
theorem dL_lay_8 : decode cL_lay 8 = .ok (.lastore, 1) := by decide +kernel
theorem dL_lay_9 : decode cL_lay 9 = .ok (.goto 7, 3) := by decide +kernel
theorem dL_lay_12 : decode cL_lay 12 = .ok (.astore 4, 2) := by decide +kernel
theorem dL_lay_14 : decode cL_lay 14 = .ok (.iconst 1, 1) := by decide +kernel
theorem dL_lay_15 : decode cL_lay 15 = .ok (.ireturn, 1) := by decide +kernel
theorem dL_lay_16 : decode cL_lay 16 = .ok (.iconst 0, 1) := by decide +kernel
theorem dL_lay_17 : decode cL_lay 17 = .ok (.ireturn, 1) := by decide +kernel
set_option maxRecDepth 20000 in
theorem ggL_mix_X11_mix : GoodIn wsL_mix wsX11_mix := goodIn_ca (goodIn_r _ [6, 7, 8, 9, 10, 11, 12, 13, 14, 15, 16, 17, 18, 19, 20, 21, 22, 23, 24, 25, 26, 27, 28, 29, 30, 31, 32, 33, 34, 35, 36, 37, 38, 39, 40, 41, 42, 43, 44, 45, 46, 47, 48, 49, 50, 51, 5, 52, 53, 54, 55, 56, 57, 58, 59, 60, 61, 62, 63, 64, 65, 66, 67, 68, 69, 70, 71, 72, 73, 74, 75, 76, 77, 78, 79, 80, 81, 82, 83, 84, 85, 86, 87, 88, 89, 90, 91, 92, 93, 94, 95, 96, 97, 98, 99, 100, 101] (by decide +kernel) (by decide +kernel)) (goodIn_sub (fun _ h => List.mem_cons_of_mem _ (List.mem_append_right _ h)) (by decide +kernel))
set_option maxRecDepth 20000 in
theorem gL_mix_X11_mix : GoodIn wsL_mix (wsV RL 19 RX11 yX11_mix wsX11_mix) := goodIn_app (goodIn_of _ (by decide +kernel)) ggL_mix_X11_mix
theorem dL_mix_0 : decode cL_mix 0 = .ok (.aload_n 3, 1) := by decide +kernel
theorem dL_mix_1 : decode cL_mix 1 = .ok (.iconst 0, 1) := by decide +kernel
theorem dL_mix_2 : decode cL_mix 2 = .ok (.aload_n 0, 1) := by decide +kernel
theorem dL_mix_3 : decode cL_mix 3 = .ok (.iload_n 1, 1) := by decide +kernel
theorem dL_mix_4 : decode cL_mix 4 = .ok (.iload_n 2, 1) := by decide +kernel
theorem dL_mix_5 : decode cL_mix 5 = .ok (.invokevirtual 19, 3) := by decide +kernel
theorem dL_mix_8 : decode cL_mix 8 = .ok (.i2l, 1) := by decide +kernel
theorem dL_mix_9 : decode cL_mix 9 = .ok (.lastore, 1) := by decide +kernel
theorem dL_mix_10 : decode cL_mix 10 = .ok (.goto 7, 3) := by decide +kernel
theorem dL_mix_13 : decode cL_mix 13 = .ok (.astore 4, 2) := by decide +kernel
theorem dL_mix_15 : decode cL_mix 15 = .ok (.iconst 1, 1) := by decide +kernel
theorem dL_mix_16 : decode cL_mix 16 = .ok (.ireturn, 1) := by decide +kernel
theorem dL_mix_17 : decode cL_mix 17 = .ok (.iconst 0, 1) := by decide +kernel
theorem dL_mix_18 : decode cL_mix 18 = .ok (.ireturn, 1) := by decide +kernel
set_option maxRecDepth 20000 in
theorem ggL_setFree_X11_setFree : GoodIn wsL_setFree wsX11_setFree := goodIn_ca (goodIn_r _ [6, 7, 8, 9, 10, 11, 12, 13, 5, 14, 15, 16, 17, 18, 19, 20, 21, 22, 23, 24, 25, 26, 27, 28, 29, 30, 31, 32, 33, 34, 35, 36, 37, 38, 39, 40, 41, 42, 43, 44, 45, 46, 47, 48, 49, 50, 51, 52, 53, 54, 55, 56, 57, 58, 59, 60, 61, 62, 63, 64, 65, 66, 67, 68, 69, 70, 71, 72, 73, 74, 75, 76, 77, 78, 79, 80, 81, 82, 83, 84, 85, 86, 87, 88, 89, 90, 91, 92, 93, 94, 95, 96, 97, 98] (by decide +kernel) (by decide +kernel)) (goodIn_sub (fun _ h => List.mem_cons_of_mem _ (List.mem_append_right _ h)) (by decide +kernel))
set_option maxRecDepth 20000 in
theorem gL_setFree_X11_setFree : GoodIn wsL_setFree (wsV RL 23 RX11 yX11_setFree wsX11_setFree) := goodIn_app (goodIn_of _ (by decide +kernel)) ggL_setFree_X11_setFree
theorem dL_setFree_0 : decode cL_setFree 0 = .ok (.aload_n 3, 1) := by decide +kernel
theorem dL_setFree_1 : decode cL_setFree 1 = .ok (.iconst 0, 1) := by decide +kernel
theorem dL_setFree_2 : decode cL_setFree 2 = .ok (.aload_n 0, 1) := by decide +kernel
theorem dL_setFree_3 : decode cL_setFree 3 = .ok (.iload_n 1, 1) := by decide +kernel
theorem dL_setFree_4 : decode cL_setFree 4 = .ok (.iload_n 2, 1) := by decide +kernel
theorem dL_setFree_5 : decode cL_setFree 5 = .ok (.invokevirtual 23, 3) := by decide +kernel
theorem dL_setFree_8 : decode cL_setFree 8 = .ok (.ifCond .eq 7, 3) := by decide +kernel
theorem dL_setFree_11 : decode cL_setFree 11 = .ok (.lconst 1, 1) := by decide +kernel
theorem dL_setFree_12 : decode cL_setFree 12 = .ok (.goto 4, 3) := by decide +kernel
theorem dL_setFree_15 : decode cL_setFree 15 = .ok (.lconst 0, 1) := by decide +kernel
theorem dL_setFree_16 : decode cL_setFree 16 = .ok (.lastore, 1) := by decide +kernel
theorem dL_setFree_17 : decode cL_setFree 17 = .ok (.goto 7, 3) := by decide +kernel
theorem dL_setFree_20 : decode cL_setFree 20 = .ok (.astore 4, 2) := by decide +kernel
theorem dL_setFree_22 : decode cL_setFree 22 = .ok (.iconst 1, 1) := by decide +kernel
theorem dL_setFree_23 : decode cL_setFree 23 = .ok (.ireturn, 1) := by decide +kernel
theorem dL_setFree_24 : decode cL_setFree 24 = .ok (.iconst 0, 1) := by decide +kernel
theorem dL_setFree_25 : decode cL_setFree 25 = .ok (.ireturn, 1) := by decide +kernel
set_option maxRecDepth 20000 in
theorem ggL_setWeight_X11_setWeight : GoodIn wsL_setWeight wsX11_setWeight := goodIn_ca (goodIn_ca (goodIn_r _ [7, 8, 9, 10, 11, 12, 13, 14, 15, 16, 17, 6, 18, 19, 20, 21, 22, 23, 24, 25, 26, 27, 28, 29, 30, 31, 32, 33, 34, 35, 36, 37, 38, 39, 40, 41, 42, 43, 44, 45, 46, 47, 48, 49, 50, 51, 52, 53, 54, 55, 56, 57, 58, 59, 60, 61, 62, 63, 64, 65, 66, 67, 68, 69, 70, 71, 72, 73, 74, 75, 76, 77, 78, 79, 80, 81, 82, 83, 84, 85, 86, 87, 88, 89, 90, 91, 92] (by decide +kernel) (by decide +kernel)) (goodIn_sub (fun _ h => List.mem_cons_of_mem _ (List.mem_append_left _ (List.mem_append_right _ h))) (by decide +kernel))) (goodIn_sub (fun _ h => List.mem_cons_of_mem _ (List.mem_append_right _ h)) (by decide +kernel))
set_option maxRecDepth 20000 in
theorem gL_setWeight_X11_setWeight : GoodIn wsL_setWeight (wsV RL 29 RX11 yX11_setWeight wsX11_setWeight) := goodIn_app (goodIn_of _ (by decide +kernel)) ggL_setWeight_X11_setWeight
theorem dL_setWeight_0 : decode cL_setWeight 0 = .ok (.aload_n 3, 1) := by decide +kernel
theorem dL_setWeight_1 : decode cL_setWeight 1 = .ok (.iconst 0, 1) := by decide +kernel
theorem dL_setWeight_2 : decode cL_setWeight 2 = .ok (.aload_n 0, 1) := by decide +kernel
theorem dL_setWeight_3 : decode cL_setWeight 3 = .ok (.iload_n 1, 1) := by decide +kernel
theorem dL_setWeight_4 : decode cL_setWeight 4 = .ok (.iload_n 2, 1) := by decide +kernel
theorem dL_setWeight_5 : decode cL_setWeight 5 = .ok (.invokevirtual 29, 3) := by decide +kernel
theorem dL_setWeight_8 : decode cL_setWeight 8 = .ok (.i2l, 1) := by decide +kernel
theorem dL_setWeight_9 : decode cL_setWeight 9 = .ok (.lastore, 1) := by decide +kernel
theorem dL_setWeight_10 : decode cL_setWeight 10 = .ok (.goto 11, 3) := by decide +kernel
theorem dL_setWeight_13 : decode cL_setWeight 13 = .ok (.astore 4, 2) := by decide +kernel
theorem dL_setWeight_15 : decode cL_setWeight 15 = .ok (.iconst 1, 1) := by decide +kernel
theorem dL_setWeight_16 : decode cL_setWeight 16 = .ok (.ireturn, 1) := by decide +kernel
theorem dL_setWeight_17 : decode cL_setWeight 17 = .ok (.astore 4, 2) := by decide +kernel
theorem dL_setWeight_19 : decode cL_setWeight 19 = .ok (.iconst 2, 1) := by decide +kernel
theorem dL_setWeight_20 : decode cL_setWeight 20 = .ok (.ireturn, 1) := by decide +kernel
theorem dL_setWeight_21 : decode cL_setWeight 21 = .ok (.iconst 0, 1) := by decide +kernel
theorem dL_setWeight_22 : decode cL_setWeight 22 = .ok (.ireturn, 1) := by decide +kernel
set_option maxRecDepth 20000 in
theorem ggL_setLimit_X11_setLimit : GoodIn wsL_setLimit wsX11_setLimit := goodIn_ca (goodIn_r _ [6, 7, 8, 9, 10, 11, 12, 13, 14, 15, 16, 17, 18, 19, 20, 21, 22, 23, 24, 25, 26, 27, 28] (by decide +kernel) (by decide +kernel)) (goodIn_sub (fun _ h => List.mem_cons_of_mem _ (List.mem_append_right _ h)) (by decide +kernel))
set_option maxRecDepth 20000 in
theorem gL_setLimit_X11_setLimit : GoodIn wsL_setLimit (wsV RL 32 RX11 yX11_setLimit wsX11_setLimit) := goodIn_app (goodIn_of _ (by decide +kernel)) ggL_setLimit_X11_setLimit
theorem dL_setLimit_0 : decode cL_setLimit 0 = .ok (.aload_n 2, 1) := by decide +kernel
theorem dL_setLimit_1 : decode cL_setLimit 1 = .ok (.iconst 0, 1) := by decide +kernel
theorem dL_setLimit_2 : decode cL_setLimit 2 = .ok (.aload_n 0, 1) := by decide +kernel
theorem dL_setLimit_3 : decode cL_setLimit 3 = .ok (.iload_n 1, 1) := by decide +kernel
theorem dL_setLimit_4 : decode cL_setLimit 4 = .ok (.invokevirtual 32, 3) := by decide +kernel
theorem dL_setLimit_7 : decode cL_setLimit 7 = .ok (.i2l, 1) := by decide +kernel
theorem dL_setLimit_8 : decode cL_setLimit 8 = .ok (.lastore, 1) := by decide +kernel
theorem dL_setLimit_9 : decode cL_setLimit 9 = .ok (.goto 6, 3) := by decide +kernel
theorem dL_setLimit_12 : decode cL_setLimit 12 = .ok (.astore_n 3, 1) := by decide +kernel
theorem dL_setLimit_13 : decode cL_setLimit 13 = .ok (.iconst 1, 1) := by decide +kernel
theorem dL_setLimit_14 : decode cL_setLimit 14 = .ok (.ireturn, 1) := by decide +kernel
theorem dL_setLimit_15 : decode cL_setLimit 15 = .ok (.iconst 0, 1) := by decide +kernel
theorem dL_setLimit_16 : decode cL_setLimit 16 = .ok (.ireturn, 1) := by decide +kernel
set_option maxRecDepth 20000 in
theorem ggL_move_X11_move : GoodIn wsL_move wsX11_move := goodIn_ca (goodIn_ca (goodIn_r _ [7, 8, 9, 10, 11, 12, 13, 14, 15, 16, 6, 17, 18, 19, 20, 21, 22, 23, 24, 25, 26, 27, 28, 29, 30, 31, 32, 33, 34, 35, 36, 37, 38, 39, 40, 41, 42, 43, 44, 45, 46, 47, 48, 49, 50, 51, 52, 53, 54, 55, 56, 57, 58, 59, 60, 61, 62, 63, 64, 65, 66, 67, 68, 69, 70, 71, 72, 73, 74, 75, 76, 77, 78, 79, 80, 81, 82, 83, 84, 85, 86, 87, 88, 89, 90, 91, 92, 93, 94, 95, 96, 97, 98, 99, 100, 101, 102, 103, 104] (by decide +kernel) (by decide +kernel)) (goodIn_sub (fun _ h => List.mem_cons_of_mem _ (List.mem_append_left _ (List.mem_append_right _ h))) (by decide +kernel))) (goodIn_sub (fun _ h => List.mem_cons_of_mem _ (List.mem_append_right _ h)) (by decide +kernel))
set_option maxRecDepth 20000 in
theorem gL_move_X11_move : GoodIn wsL_move (wsV RL 36 RX11 yX11_move wsX11_move) := goodIn_app (goodIn_of _ (by decide +kernel)) ggL_move_X11_move
theorem dL_move_0 : decode cL_move 0 = .ok (.aload_n 3, 1) := by decide +kernel
theorem dL_move_1 : decode cL_move 1 = .ok (.iconst 0, 1) := by decide +kernel
theorem dL_move_2 : decode cL_move 2 = .ok (.aload_n 0, 1) := by decide +kernel
theorem dL_move_3 : decode cL_move 3 = .ok (.iload_n 1, 1) := by decide +kernel
theorem dL_move_4 : decode cL_move 4 = .ok (.iload_n 2, 1) := by decide +kernel
theorem dL_move_5 : decode cL_move 5 = .ok (.invokevirtual 36, 3) := by decide +kernel
theorem dL_move_8 : decode cL_move 8 = .ok (.i2l, 1) := by decide +kernel
theorem dL_move_9 : decode cL_move 9 = .ok (.lastore, 1) := by decide +kernel
theorem dL_move_10 : decode cL_move 10 = .ok (.goto 11, 3) := by decide +kernel
theorem dL_move_13 : decode cL_move 13 = .ok (.astore 4, 2) := by decide +kernel
theorem dL_move_15 : decode cL_move 15 = .ok (.iconst 1, 1) := by decide +kernel
theorem dL_move_16 : decode cL_move 16 = .ok (.ireturn, 1) := by decide +kernel
theorem dL_move_17 : decode cL_move 17 = .ok (.astore 4, 2) := by decide +kernel
theorem dL_move_19 : decode cL_move 19 = .ok (.iconst 2, 1) := by decide +kernel
theorem dL_move_20 : decode cL_move 20 = .ok (.ireturn, 1) := by decide +kernel
theorem dL_move_21 : decode cL_move 21 = .ok (.iconst 0, 1) := by decide +kernel
theorem dL_move_22 : decode cL_move 22 = .ok (.ireturn, 1) := by decide +kernel
set_option maxRecDepth 20000 in
theorem ggL_undo_X11_undo : GoodIn wsL_undo wsX11_undo := goodIn_ca (goodIn_r _ [6, 7, 8, 9, 10, 11, 12, 13, 14, 15, 16, 17, 18, 19, 20, 5, 21, 22, 23, 24, 25, 26, 27, 28, 29, 30, 31, 32, 33, 34, 35, 36, 37, 38, 39, 40, 41, 42, 43, 44, 45, 46, 47, 48, 49, 50, 51, 52, 53, 54, 55, 56, 57, 58, 59, 60, 61, 62, 63, 64, 65, 66, 67, 68, 69, 70, 71, 72, 73, 74, 75, 76, 77, 78, 79, 80, 81, 82, 83, 84, 85, 86, 87, 88, 89] (by decide +kernel) (by decide +kernel)) (goodIn_sub (fun _ h => List.mem_cons_of_mem _ (List.mem_append_right _ h)) (by decide +kernel))
set_option maxRecDepth 20000 in
theorem gL_undo_X11_undo : GoodIn wsL_undo (wsV RL 41 RX11 yX11_undo wsX11_undo) := goodIn_app (goodIn_of _ (by decide +kernel)) ggL_undo_X11_undo
theorem dL_undo_0 : decode cL_undo 0 = .ok (.aload_n 2, 1) := by decide +kernel
theorem dL_undo_1 : decode cL_undo 1 = .ok (.iconst 0, 1) := by decide +kernel
theorem dL_undo_2 : decode cL_undo 2 = .ok (.aload_n 0, 1) := by decide +kernel
theorem dL_undo_3 : decode cL_undo 3 = .ok (.iload_n 1, 1) := by decide +kernel
theorem dL_undo_4 : decode cL_undo 4 = .ok (.invokevirtual 41, 3) := by decide +kernel
theorem dL_undo_7 : decode cL_undo 7 = .ok (.i2l, 1) := by decide +kernel
theorem dL_undo_8 : decode cL_undo 8 = .ok (.lastore, 1) := by decide +kernel
theorem dL_undo_9 : decode cL_undo 9 = .ok (.goto 6, 3) := by decide +kernel
theorem dL_undo_12 : decode cL_undo 12 = .ok (.astore_n 3, 1) := by decide +kernel
theorem dL_undo_13 : decode cL_undo 13 = .ok (.iconst 1, 1) := by decide +kernel
theorem dL_undo_14 : decode cL_undo 14 = .ok (.ireturn, 1) := by decide +kernel
theorem dL_undo_15 : decode cL_undo 15 = .ok (.iconst 0, 1) := by decide +kernel
theorem dL_undo_16 : decode cL_undo 16 = .ok (.ireturn, 1) := by decide +kernel
set_option maxRecDepth 20000 in
theorem ggL_setMacro_X11_setMacro : GoodIn wsL_setMacro wsX11_setMacro := goodIn_ca (goodIn_ca (goodIn_r _ [7, 8, 9, 10, 11, 12, 13, 14, 15, 6, 16, 17, 18, 19, 20, 21, 22, 23, 24, 25, 26, 27, 28, 29, 30, 31, 32, 33, 34, 35, 36, 37, 38, 39, 40, 41] (by decide +kernel) (by decide +kernel)) (goodIn_sub (fun _ h => List.mem_cons_of_mem _ (List.mem_append_left _ (List.mem_append_right _ h))) (by decide +kernel))) (goodIn_sub (fun _ h => List.mem_cons_of_mem _ (List.mem_append_right _ h)) (by decide +kernel))
set_option maxRecDepth 20000 in
theorem gL_setMacro_X11_setMacro : GoodIn wsL_setMacro (wsV RL 44 RX11 yX11_setMacro wsX11_setMacro) := goodIn_app (goodIn_of _ (by decide +kernel)) ggL_setMacro_X11_setMacro
theorem dL_setMacro_0 : decode cL_setMacro 0 = .ok (.aload 4, 2) := by decide +kernel
theorem dL_setMacro_2 : decode cL_setMacro 2 = .ok (.iconst 0, 1) := by decide +kernel
theorem dL_setMacro_3 : decode cL_setMacro 3 = .ok (.aload_n 0, 1) := by decide +kernel
theorem dL_setMacro_4 : decode cL_setMacro 4 = .ok (.iload_n 1, 1) := by decide +kernel
theorem dL_setMacro_5 : decode cL_setMacro 5 = .ok (.lload_n 2, 1) := by decide +kernel
theorem dL_setMacro_6 : decode cL_setMacro 6 = .ok (.invokevirtual 44, 3) := by decide +kernel
theorem dL_setMacro_9 : decode cL_setMacro 9 = .ok (.i2l, 1) := by decide +kernel
theorem dL_setMacro_10 : decode cL_setMacro 10 = .ok (.lastore, 1) := by decide +kernel
theorem dL_setMacro_11 : decode cL_setMacro 11 = .ok (.goto 11, 3) := by decide +kernel
theorem dL_setMacro_14 : decode cL_setMacro 14 = .ok (.astore 5, 2) := by decide +kernel
theorem dL_setMacro_16 : decode cL_setMacro 16 = .ok (.iconst 1, 1) := by decide +kernel
theorem dL_setMacro_17 : decode cL_setMacro 17 = .ok (.ireturn, 1) := by decide +kernel
theorem dL_setMacro_18 : decode cL_setMacro 18 = .ok (.astore 5, 2) := by decide +kernel
theorem dL_setMacro_20 : decode cL_setMacro 20 = .ok (.iconst 2, 1) := by decide +kernel
theorem dL_setMacro_21 : decode cL_setMacro 21 = .ok (.ireturn, 1) := by decide +kernel
theorem dL_setMacro_22 : decode cL_setMacro 22 = .ok (.iconst 0, 1) := by decide +kernel
theorem dL_setMacro_23 : decode cL_setMacro 23 = .ok (.ireturn, 1) := by decide +kernel
set_option maxRecDepth 20000 in
theorem ggL_play_X11_play : GoodIn wsL_play wsX11_play := goodIn_ca (goodIn_ca (goodIn_ca (goodIn_r _ [8, 9, 10, 11, 12, 13, 14, 15, 16, 17, 18, 7, 19, 20, 21, 22, 23, 24, 25, 26, 27, 28, 29, 30, 31, 32, 33, 34, 35, 36, 37, 38, 39, 40, 41, 42, 43, 44, 45, 46, 47, 48, 49, 50, 51, 52, 53, 54, 55, 56, 57, 58, 59, 60, 61, 62, 63, 64, 65, 66, 67, 68, 69, 70, 71, 72, 73, 74, 75, 76, 77, 78, 79, 80, 81, 82, 83, 84, 85, 86, 87, 88, 89, 90, 91, 92, 93, 94, 95, 96, 97] (by decide +kernel) (by decide +kernel)) (goodIn_sub (fun _ h => List.mem_cons_of_mem _ (List.mem_append_left _ (List.mem_append_left _ (List.mem_append_right _ h)))) (by decide +kernel))) (goodIn_sub (fun _ h => List.mem_cons_of_mem _ (List.mem_append_left _ (List.mem_append_right _ h))) (by decide +kernel))) (goodIn_sub (fun _ h => List.mem_cons_of_mem _ (List.mem_append_right _ h)) (by decide +kernel))
set_option maxRecDepth 20000 in
theorem gL_play_X11_play : GoodIn wsL_play (wsV RL 48 RX11 yX11_play wsX11_play) := goodIn_app (goodIn_of _ (by decide +kernel)) ggL_play_X11_play
theorem dL_play_0 : decode cL_play 0 = .ok (.aload_n 3, 1) := by decide +kernel
theorem dL_play_1 : decode cL_play 1 = .ok (.iconst 0, 1) := by decide +kernel
theorem dL_play_2 : decode cL_play 2 = .ok (.aload_n 0, 1) := by decide +kernel
theorem dL_play_3 : decode cL_play 3 = .ok (.iload_n 1, 1) := by decide +kernel
theorem dL_play_4 : decode cL_play 4 = .ok (.iload_n 2, 1) := by decide +kernel
theorem dL_play_5 : decode cL_play 5 = .ok (.invokevirtual 48, 3) := by decide +kernel
theorem dL_play_8 : decode cL_play 8 = .ok (.i2l, 1) := by decide +kernel
theorem dL_play_9 : decode cL_play 9 = .ok (.lastore, 1) := by decide +kernel
theorem dL_play_10 : decode cL_play 10 = .ok (.goto 15, 3) := by decide +kernel
theorem dL_play_13 : decode cL_play 13 = .ok (.astore 4, 2) := by decide +kernel
theorem dL_play_15 : decode cL_play 15 = .ok (.iconst 1, 1) := by decide +kernel
theorem dL_play_16 : decode cL_play 16 = .ok (.ireturn, 1) := by decide +kernel
theorem dL_play_17 : decode cL_play 17 = .ok (.astore 4, 2) := by decide +kernel
theorem dL_play_19 : decode cL_play 19 = .ok (.iconst 2, 1) := by decide +kernel
theorem dL_play_20 : decode cL_play 20 = .ok (.ireturn, 1) := by decide +kernel
theorem dL_play_21 : decode cL_play 21 = .ok (.astore 4, 2) := by decide +kernel
theorem dL_play_23 : decode cL_play 23 = .ok (.iconst 3, 1) := by decide +kernel
theorem dL_play_24 : decode cL_play 24 = .ok (.ireturn, 1) := by decide +kernel
theorem dL_play_25 : decode cL_play 25 = .ok (.iconst 0, 1) := by decide +kernel
theorem dL_play_26 : decode cL_play 26 = .ok (.ireturn, 1) := by decide +kernel
set_option maxRecDepth 20000 in
theorem ggL_keep_X11_keep : GoodIn wsL_keep wsX11_keep := goodIn_ca (goodIn_r _ [6, 7, 8, 9, 10, 11, 12, 13, 14, 15, 16, 5, 17, 18, 19, 20, 21, 22, 23, 24, 25, 26, 27, 28, 29, 30, 31, 32, 33, 34, 35, 36, 37, 38, 39, 40, 41, 42, 43, 44, 45, 46, 47, 48, 49, 50, 51, 52, 53, 54, 55, 56, 57, 58, 59, 60, 61, 62, 63, 64, 65, 66, 67, 68, 69, 70, 71, 72, 73, 74, 75, 76, 77, 78, 79, 80, 81, 82, 83, 84, 85, 86, 87, 88, 89, 90] (by decide +kernel) (by decide +kernel)) (goodIn_sub (fun _ h => List.mem_cons_of_mem _ (List.mem_append_right _ h)) (by decide +kernel))
set_option maxRecDepth 20000 in
theorem gL_keep_X11_keep : GoodIn wsL_keep (wsV RL 53 RX11 yX11_keep wsX11_keep) := goodIn_app (goodIn_of _ (by decide +kernel)) ggL_keep_X11_keep
theorem dL_keep_0 : decode cL_keep 0 = .ok (.aload_n 2, 1) := by decide +kernel
theorem dL_keep_1 : decode cL_keep 1 = .ok (.iconst 0, 1) := by decide +kernel
theorem dL_keep_2 : decode cL_keep 2 = .ok (.aload_n 0, 1) := by decide +kernel
theorem dL_keep_3 : decode cL_keep 3 = .ok (.iload_n 1, 1) := by decide +kernel
theorem dL_keep_4 : decode cL_keep 4 = .ok (.invokevirtual 53, 3) := by decide +kernel
theorem dL_keep_7 : decode cL_keep 7 = .ok (.lastore, 1) := by decide +kernel
theorem dL_keep_8 : decode cL_keep 8 = .ok (.goto 6, 3) := by decide +kernel
theorem dL_keep_11 : decode cL_keep 11 = .ok (.astore_n 3, 1) := by decide +kernel
theorem dL_keep_12 : decode cL_keep 12 = .ok (.iconst 1, 1) := by decide +kernel
theorem dL_keep_13 : decode cL_keep 13 = .ok (.ireturn, 1) := by decide +kernel
theorem dL_keep_14 : decode cL_keep 14 = .ok (.iconst 0, 1) := by decide +kernel
theorem dL_keep_15 : decode cL_keep 15 = .ok (.ireturn, 1) := by decide +kernel
set_option maxRecDepth 20000 in
theorem ggL_restore_X11_restore : GoodIn wsL_restore wsX11_restore := goodIn_ca (goodIn_ca (goodIn_r _ [7, 8, 9, 10, 11, 12, 13, 14, 15, 16, 17, 18, 19, 6, 20, 21, 22, 23, 24, 25, 26, 27, 28, 29, 30, 31, 32, 33, 34, 35, 36, 37, 38, 39, 40, 41, 42, 43, 44, 45, 46, 47, 48, 49, 50, 51, 52, 53, 54, 55, 56, 57, 58, 59, 60, 61, 62, 63, 64, 65, 66, 67, 68, 69, 70, 71, 72, 73, 74, 75, 76, 77, 78, 79, 80, 81, 82, 83, 84, 85, 86, 87, 88, 89, 90, 91, 92, 93, 94, 95, 96, 97, 98, 99, 100, 101, 102, 103, 104, 105, 106, 107, 108, 109, 110, 111, 112, 113, 114, 115, 116, 117, 118, 119, 120, 121, 122, 123, 124, 125, 126, 127, 128, 129, 130, 131, 132] (by decide +kernel) (by decide +kernel)) (goodIn_sub (fun _ h => List.mem_cons_of_mem _ (List.mem_append_left _ (List.mem_append_right _ h))) (by decide +kernel))) (goodIn_sub (fun _ h => List.mem_cons_of_mem _ (List.mem_append_right _ h)) (by decide +kernel))
set_option maxRecDepth 20000 in
theorem gL_restore_X11_restore : GoodIn wsL_restore (wsV RL 57 RX11 yX11_restore wsX11_restore) := goodIn_app (goodIn_of _ (by decide +kernel)) ggL_restore_X11_restore
theorem dL_restore_0 : decode cL_restore 0 = .ok (.aload_n 2, 1) := by decide +kernel
theorem dL_restore_1 : decode cL_restore 1 = .ok (.iconst 0, 1) := by decide +kernel
theorem dL_restore_2 : decode cL_restore 2 = .ok (.aload_n 0, 1) := by decide +kernel
theorem dL_restore_3 : decode cL_restore 3 = .ok (.iload_n 1, 1) := by decide +kernel
theorem dL_restore_4 : decode cL_restore 4 = .ok (.invokevirtual 57, 3) := by decide +kernel
theorem dL_restore_7 : decode cL_restore 7 = .ok (.i2l, 1) := by decide +kernel
theorem dL_restore_8 : decode cL_restore 8 = .ok (.lastore, 1) := by decide +kernel
theorem dL_restore_9 : decode cL_restore 9 = .ok (.goto 9, 3) := by decide +kernel
theorem dL_restore_12 : decode cL_restore 12 = .ok (.astore_n 3, 1) := by decide +kernel
theorem dL_restore_13 : decode cL_restore 13 = .ok (.iconst 1, 1) := by decide +kernel
theorem dL_restore_14 : decode cL_restore 14 = .ok (.ireturn, 1) := by decide +kernel
theorem dL_restore_15 : decode cL_restore 15 = .ok (.astore_n 3, 1) := by decide +kernel
theorem dL_restore_16 : decode cL_restore 16 = .ok (.iconst 2, 1) := by decide +kernel
theorem dL_restore_17 : decode cL_restore 17 = .ok (.ireturn, 1) := by decide +kernel
theorem dL_restore_18 : decode cL_restore 18 = .ok (.iconst 0, 1) := by decide +kernel
theorem dL_restore_19 : decode cL_restore 19 = .ok (.ireturn, 1) := by decide +kernel
set_option maxRecDepth 20000 in
theorem ggL_tileAt_X11_tileAt : GoodIn wsL_tileAt wsX11_tileAt := goodIn_ca (goodIn_r _ [6, 7, 8, 9, 10, 11, 12, 13, 14, 15, 16, 17, 18, 19, 20, 21, 22, 23, 24, 25, 26, 27, 28, 29, 30, 31, 32, 33, 34, 35, 36, 37, 38, 39, 40, 41, 42, 43, 44, 45, 46, 47, 48, 49, 50, 51, 52, 53, 54, 55, 56] (by decide +kernel) (by decide +kernel)) (goodIn_sub (fun _ h => List.mem_cons_of_mem _ (List.mem_append_right _ h)) (by decide +kernel))
set_option maxRecDepth 20000 in
theorem gL_tileAt_X11_tileAt : GoodIn wsL_tileAt (wsV RL 60 RX11 yX11_tileAt wsX11_tileAt) := goodIn_app (goodIn_of _ (by decide +kernel)) ggL_tileAt_X11_tileAt
theorem dL_tileAt_0 : decode cL_tileAt 0 = .ok (.aload_n 2, 1) := by decide +kernel
theorem dL_tileAt_1 : decode cL_tileAt 1 = .ok (.iconst 0, 1) := by decide +kernel
theorem dL_tileAt_2 : decode cL_tileAt 2 = .ok (.aload_n 0, 1) := by decide +kernel
theorem dL_tileAt_3 : decode cL_tileAt 3 = .ok (.iload_n 1, 1) := by decide +kernel
theorem dL_tileAt_4 : decode cL_tileAt 4 = .ok (.invokevirtual 60, 3) := by decide +kernel
theorem dL_tileAt_7 : decode cL_tileAt 7 = .ok (.i2l, 1) := by decide +kernel
theorem dL_tileAt_8 : decode cL_tileAt 8 = .ok (.lastore, 1) := by decide +kernel
theorem dL_tileAt_9 : decode cL_tileAt 9 = .ok (.goto 6, 3) := by decide +kernel
theorem dL_tileAt_12 : decode cL_tileAt 12 = .ok (.astore_n 3, 1) := by decide +kernel
theorem dL_tileAt_13 : decode cL_tileAt 13 = .ok (.iconst 1, 1) := by decide +kernel
theorem dL_tileAt_14 : decode cL_tileAt 14 = .ok (.ireturn, 1) := by decide +kernel
theorem dL_tileAt_15 : decode cL_tileAt 15 = .ok (.iconst 0, 1) := by decide +kernel
theorem dL_tileAt_16 : decode cL_tileAt 16 = .ok (.ireturn, 1) := by decide +kernel
set_option maxRecDepth 20000 in
theorem ggL_reaches_X11_reaches : GoodIn wsL_reaches wsX11_reaches := goodIn_ca (goodIn_r _ [6, 7, 8, 9, 10, 11, 12, 13, 14, 15, 16, 17, 18, 19, 20, 21, 22, 23, 24, 25, 26, 27, 28, 29, 30, 31, 32, 33, 34, 35, 36, 37, 38, 39, 40, 41, 42, 43, 44, 45, 46, 47, 48, 49, 50, 51, 52, 53, 54, 55, 56, 57, 58, 59, 60, 61, 62, 63, 64, 65, 66, 67, 68, 69, 70, 71, 72, 73, 74, 75, 76, 77, 78, 79, 80, 81, 82, 83, 84, 85, 86, 87, 88, 89, 90, 91, 92, 93, 94, 95, 96, 97, 98, 99, 100, 101, 102, 103, 104, 105, 106, 107, 108, 109, 110, 111, 112, 113, 114, 115, 116] (by decide +kernel) (by decide +kernel)) (goodIn_sub (fun _ h => List.mem_cons_of_mem _ (List.mem_append_right _ h)) (by decide +kernel))
set_option maxRecDepth 20000 in
theorem gL_reaches_X11_reaches : GoodIn wsL_reaches (wsV RL 63 RX11 yX11_reaches wsX11_reaches) := goodIn_app (goodIn_of _ (by decide +kernel)) ggL_reaches_X11_reaches
theorem dL_reaches_0 : decode cL_reaches 0 = .ok (.aload_n 1, 1) := by decide +kernel
theorem dL_reaches_1 : decode cL_reaches 1 = .ok (.iconst 0, 1) := by decide +kernel
theorem dL_reaches_2 : decode cL_reaches 2 = .ok (.aload_n 0, 1) := by decide +kernel
theorem dL_reaches_3 : decode cL_reaches 3 = .ok (.invokevirtual 63, 3) := by decide +kernel
theorem dL_reaches_6 : decode cL_reaches 6 = .ok (.ifCond .eq 7, 3) := by decide +kernel
theorem dL_reaches_9 : decode cL_reaches 9 = .ok (.lconst 1, 1) := by decide +kernel
theorem dL_reaches_10 : decode cL_reaches 10 = .ok (.goto 4, 3) := by decide +kernel
theorem dL_reaches_13 : decode cL_reaches 13 = .ok (.lconst 0, 1) := by decide +kernel
theorem dL_reaches_14 : decode cL_reaches 14 = .ok (.lastore, 1) := by decide +kernel
theorem dL_reaches_15 : decode cL_reaches 15 = .ok (.goto 6, 3) := by decide +kernel
theorem dL_reaches_18 : decode cL_reaches 18 = .ok (.astore_n 2, 1) := by decide +kernel
theorem dL_reaches_19 : decode cL_reaches 19 = .ok (.iconst 1, 1) := by decide +kernel
theorem dL_reaches_20 : decode cL_reaches 20 = .ok (.ireturn, 1) := by decide +kernel
theorem dL_reaches_21 : decode cL_reaches 21 = .ok (.iconst 0, 1) := by decide +kernel
theorem dL_reaches_22 : decode cL_reaches 22 = .ok (.ireturn, 1) := by decide +kernel
set_option maxRecDepth 20000 in
theorem ggL_estimate_X11_estimate : GoodIn wsL_estimate wsX11_estimate := goodIn_ca (goodIn_r _ [6, 7, 8, 9, 10, 11, 12, 5, 13, 14, 15, 16, 17, 18, 19, 20, 21, 22, 23, 24, 25, 26, 27, 28, 29, 30, 31, 32, 33, 34, 35, 36, 37, 38, 39, 40, 41, 42, 43, 44, 45, 46, 47, 48, 49, 50, 51, 52, 53, 54, 55, 56, 57, 58, 59, 60, 61, 62, 63, 64, 65, 66, 67, 68, 69, 70, 71, 72, 73, 74, 75, 76, 77, 78, 79, 80, 81, 82, 83, 84, 85, 86, 87, 88, 89, 90, 91, 92, 93, 94, 95, 96, 97, 98, 99, 100, 101, 102, 103, 104, 105, 106, 107, 108, 109, 110, 111, 112, 113, 114, 115, 116, 117, 118, 119, 120, 121, 122, 123, 124, 125, 126, 127, 128, 129, 130, 131, 132, 133, 134, 135, 136, 137, 138, 139, 140, 141, 142, 143, 144, 145, 146, 147, 148, 149] (by decide +kernel) (by decide +kernel)) (goodIn_sub (fun _ h => List.mem_cons_of_mem _ (List.mem_append_right _ h)) (by decide +kernel))
set_option maxRecDepth 20000 in
theorem gL_estimate_X11_estimate : GoodIn wsL_estimate (wsV RL 67 RX11 yX11_estimate wsX11_estimate) := goodIn_app (goodIn_of _ (by decide +kernel)) ggL_estimate_X11_estimate
theorem dL_estimate_0 : decode cL_estimate 0 = .ok (.aload_n 2, 1) := by decide +kernel
theorem dL_estimate_1 : decode cL_estimate 1 = .ok (.iconst 0, 1) := by decide +kernel
theorem dL_estimate_2 : decode cL_estimate 2 = .ok (.aload_n 0, 1) := by decide +kernel
theorem dL_estimate_3 : decode cL_estimate 3 = .ok (.iload_n 1, 1) := by decide +kernel
theorem dL_estimate_4 : decode cL_estimate 4 = .ok (.invokevirtual 67, 3) := by decide +kernel
theorem dL_estimate_7 : decode cL_estimate 7 = .ok (.i2l, 1) := by decide +kernel
theorem dL_estimate_8 : decode cL_estimate 8 = .ok (.lastore, 1) := by decide +kernel
theorem dL_estimate_9 : decode cL_estimate 9 = .ok (.goto 6, 3) := by decide +kernel
theorem dL_estimate_12 : decode cL_estimate 12 = .ok (.astore_n 3, 1) := by decide +kernel
theorem dL_estimate_13 : decode cL_estimate 13 = .ok (.iconst 1, 1) := by decide +kernel
theorem dL_estimate_14 : decode cL_estimate 14 = .ok (.ireturn, 1) := by decide +kernel
theorem dL_estimate_15 : decode cL_estimate 15 = .ok (.iconst 0, 1) := by decide +kernel
theorem dL_estimate_16 : decode cL_estimate 16 = .ok (.ireturn, 1) := by decide +kernel
set_option maxRecDepth 20000 in
theorem ggL_solve_X11_solve : GoodIn wsL_solve wsX11_solve := goodIn_ca (goodIn_ca (goodIn_r _ [7, 8, 9, 10, 11, 12, 13, 14, 15, 16, 17, 18, 19, 20, 6, 21, 22, 23, 24, 25, 26, 27, 28, 29, 30, 31, 32, 33, 34, 35, 36, 37, 38, 39, 40, 41, 42, 43, 44, 45, 46, 47, 48, 49, 50, 51, 52, 53, 54, 55, 56, 57, 58, 59, 60, 61, 62, 63, 64, 65, 66, 67, 68, 69, 70, 71, 72, 73, 74, 75, 76, 77, 78, 79, 80, 81, 82, 83, 84, 85, 86, 87, 88, 89, 90, 91, 92, 93, 94, 95, 96, 97, 98, 99, 100, 101, 102, 103, 104, 105, 106, 107, 108, 109, 110, 111, 112, 113, 114, 115, 116, 117, 118, 119, 120, 121, 122, 123, 124, 125, 126, 127, 128, 129, 130, 131, 132, 133, 134, 135, 136, 137, 138, 139, 140, 141, 142, 143, 144, 145, 146, 147, 148, 149, 150, 151, 152, 153, 154, 155, 156, 157, 158, 159, 160, 161, 162, 163, 164, 165, 166, 167, 168, 169, 170, 171, 172, 173, 174, 175, 176, 177, 178, 179, 180, 181, 182, 183, 184, 185, 186, 187, 188, 189, 190, 191, 192, 193, 194, 195, 196, 197, 198, 199, 200, 201, 202, 203, 204, 205, 206, 207, 208, 209, 210, 211, 212, 213, 214, 215, 216, 217, 218, 219, 220, 221, 222, 223, 224, 225, 226, 227, 228, 229, 230, 231, 232, 233, 234, 235, 236, 237, 238, 239, 240, 241, 242, 243, 244, 245, 246, 247, 248, 249, 250, 251, 252, 253, 254, 255, 256, 257, 258, 259, 260, 261, 262, 263, 264, 265, 266, 267, 268, 269, 270, 271, 272, 273, 274, 275, 276, 277, 278, 279, 280, 281, 282, 283, 284, 285, 286, 287, 288, 289, 290, 291, 292, 293, 294, 295, 296, 297, 298, 299, 300, 301, 302, 303, 304, 305, 306, 307, 308, 309, 310, 311, 312, 313] (by decide +kernel) (by decide +kernel)) (goodIn_sub (fun _ h => List.mem_cons_of_mem _ (List.mem_append_left _ (List.mem_append_right _ h))) (by decide +kernel))) (goodIn_sub (fun _ h => List.mem_cons_of_mem _ (List.mem_append_right _ h)) (by decide +kernel))
set_option maxRecDepth 20000 in
theorem gL_solve_X11_solve : GoodIn wsL_solve (wsV RL 70 RX11 yX11_solve wsX11_solve) := goodIn_app (goodIn_of _ (by decide +kernel)) ggL_solve_X11_solve
theorem dL_solve_0 : decode cL_solve 0 = .ok (.aload_n 2, 1) := by decide +kernel
theorem dL_solve_1 : decode cL_solve 1 = .ok (.iconst 0, 1) := by decide +kernel
theorem dL_solve_2 : decode cL_solve 2 = .ok (.aload_n 0, 1) := by decide +kernel
theorem dL_solve_3 : decode cL_solve 3 = .ok (.iload_n 1, 1) := by decide +kernel
theorem dL_solve_4 : decode cL_solve 4 = .ok (.invokevirtual 70, 3) := by decide +kernel
theorem dL_solve_7 : decode cL_solve 7 = .ok (.i2l, 1) := by decide +kernel
theorem dL_solve_8 : decode cL_solve 8 = .ok (.lastore, 1) := by decide +kernel
theorem dL_solve_9 : decode cL_solve 9 = .ok (.goto 9, 3) := by decide +kernel
theorem dL_solve_12 : decode cL_solve 12 = .ok (.astore_n 3, 1) := by decide +kernel
theorem dL_solve_13 : decode cL_solve 13 = .ok (.iconst 1, 1) := by decide +kernel
theorem dL_solve_14 : decode cL_solve 14 = .ok (.ireturn, 1) := by decide +kernel
theorem dL_solve_15 : decode cL_solve 15 = .ok (.astore_n 3, 1) := by decide +kernel
theorem dL_solve_16 : decode cL_solve 16 = .ok (.iconst 2, 1) := by decide +kernel
theorem dL_solve_17 : decode cL_solve 17 = .ok (.ireturn, 1) := by decide +kernel
theorem dL_solve_18 : decode cL_solve 18 = .ok (.iconst 0, 1) := by decide +kernel
theorem dL_solve_19 : decode cL_solve 19 = .ok (.ireturn, 1) := by decide +kernel
set_option maxRecDepth 20000 in
theorem ggL_deepen_X11_deepen : GoodIn wsL_deepen wsX11_deepen := goodIn_ca (goodIn_ca (goodIn_r _ [7, 8, 9, 10, 11, 12, 13, 14, 15, 16, 17, 18, 19, 20, 21, 6, 22, 23, 24, 25, 26, 27, 28, 29, 30, 31, 32, 33, 34, 35, 36, 37, 38, 39, 40, 41, 42, 43, 44, 45, 46, 47, 48, 49, 50, 51, 52, 53, 54, 55, 56, 57, 58, 59, 60, 61, 62, 63, 64, 65, 66, 67, 68, 69, 70, 71, 72, 73, 74, 75, 76, 77, 78, 79, 80, 81, 82, 83, 84, 85, 86, 87, 88, 89, 90, 91, 92, 93, 94, 95, 96, 97, 98, 99, 100, 101, 102, 103, 104, 105, 106, 107, 108, 109, 110, 111, 112, 113, 114, 115, 116, 117, 118, 119, 120, 121, 122, 123, 124, 125, 126, 127, 128, 129, 130, 131, 132, 133, 134, 135, 136, 137, 138, 139, 140, 141, 142, 143, 144, 145, 146, 147, 148, 149, 150, 151, 152, 153, 154, 155, 156, 157, 158, 159, 160, 161, 162, 163, 164, 165, 166, 167, 168, 169, 170, 171, 172, 173, 174, 175, 176, 177, 178, 179, 180, 181, 182, 183, 184, 185, 186, 187, 188, 189, 190, 191, 192, 193, 194, 195, 196, 197, 198, 199, 200, 201, 202, 203, 204, 205, 206, 207, 208, 209, 210, 211, 212, 213, 214, 215, 216, 217, 218, 219, 220, 221, 222, 223, 224, 225, 226, 227, 228, 229, 230, 231, 232, 233, 234, 235, 236, 237, 238, 239, 240, 241, 242, 243, 244, 245, 246, 247, 248, 249, 250, 251] (by decide +kernel) (by decide +kernel)) (goodIn_sub (fun _ h => List.mem_cons_of_mem _ (List.mem_append_left _ (List.mem_append_right _ h))) (by decide +kernel))) (goodIn_sub (fun _ h => List.mem_cons_of_mem _ (List.mem_append_right _ h)) (by decide +kernel))
set_option maxRecDepth 20000 in
theorem gL_deepen_X11_deepen : GoodIn wsL_deepen (wsV RL 73 RX11 yX11_deepen wsX11_deepen) := goodIn_app (goodIn_of _ (by decide +kernel)) ggL_deepen_X11_deepen
theorem dL_deepen_0 : decode cL_deepen 0 = .ok (.aload_n 2, 1) := by decide +kernel
theorem dL_deepen_1 : decode cL_deepen 1 = .ok (.iconst 0, 1) := by decide +kernel
theorem dL_deepen_2 : decode cL_deepen 2 = .ok (.aload_n 0, 1) := by decide +kernel
theorem dL_deepen_3 : decode cL_deepen 3 = .ok (.iload_n 1, 1) := by decide +kernel
theorem dL_deepen_4 : decode cL_deepen 4 = .ok (.invokevirtual 73, 3) := by decide +kernel
theorem dL_deepen_7 : decode cL_deepen 7 = .ok (.i2l, 1) := by decide +kernel
theorem dL_deepen_8 : decode cL_deepen 8 = .ok (.lastore, 1) := by decide +kernel
theorem dL_deepen_9 : decode cL_deepen 9 = .ok (.goto 9, 3) := by decide +kernel
theorem dL_deepen_12 : decode cL_deepen 12 = .ok (.astore_n 3, 1) := by decide +kernel
theorem dL_deepen_13 : decode cL_deepen 13 = .ok (.iconst 1, 1) := by decide +kernel
theorem dL_deepen_14 : decode cL_deepen 14 = .ok (.ireturn, 1) := by decide +kernel
theorem dL_deepen_15 : decode cL_deepen 15 = .ok (.astore_n 3, 1) := by decide +kernel
theorem dL_deepen_16 : decode cL_deepen 16 = .ok (.iconst 2, 1) := by decide +kernel
theorem dL_deepen_17 : decode cL_deepen 17 = .ok (.ireturn, 1) := by decide +kernel
theorem dL_deepen_18 : decode cL_deepen 18 = .ok (.iconst 0, 1) := by decide +kernel
theorem dL_deepen_19 : decode cL_deepen 19 = .ok (.ireturn, 1) := by decide +kernel
set_option maxRecDepth 20000 in
theorem ggL_both_X11_both : GoodIn wsL_both wsX11_both := goodIn_ca (goodIn_r _ [6, 7, 8, 9, 10, 11, 12, 13, 14, 15, 16, 17, 18, 19, 20, 21, 22, 23, 24, 25, 26, 27, 28, 29, 30, 31, 32, 33, 34, 35, 36, 37, 38, 39, 40, 41, 42, 43, 44, 45, 46, 47, 48, 49, 50, 51, 52, 53, 54, 55, 56, 57, 58, 59, 60, 61, 62, 63, 64, 65, 66, 67, 68, 69, 70, 71, 72, 73, 74, 75, 76, 77, 78, 79, 80, 81, 82, 83, 84, 85, 86, 87, 88, 89, 90, 91, 92, 93, 94, 95, 96, 97, 98, 99, 100, 101, 102, 103, 104, 105, 106, 107, 108, 109, 110, 111, 112, 113, 114, 115, 116, 117, 118, 119, 120, 121, 122, 5, 123, 124, 125, 126, 127, 128, 129, 130, 131, 132, 133, 134, 135, 136, 137, 138, 139, 140, 141, 142, 143, 144, 145, 146, 147, 148, 149, 150, 151, 152, 153, 154, 155, 156, 157, 158, 159, 160, 161, 162, 163, 164, 165, 166, 167, 168, 169, 170, 171, 172, 173, 174, 175, 176, 177, 178, 179, 180, 181, 182, 183, 184, 185, 186, 187] (by decide +kernel) (by decide +kernel)) (goodIn_sub (fun _ h => List.mem_cons_of_mem _ (List.mem_append_right _ h)) (by decide +kernel))
set_option maxRecDepth 20000 in
theorem gL_both_X11_both : GoodIn wsL_both (wsV RL 76 RX11 yX11_both wsX11_both) := goodIn_app (goodIn_of _ (by decide +kernel)) ggL_both_X11_both
theorem dL_both_0 : decode cL_both 0 = .ok (.aload_n 1, 1) := by decide +kernel
theorem dL_both_1 : decode cL_both 1 = .ok (.iconst 0, 1) := by decide +kernel
theorem dL_both_2 : decode cL_both 2 = .ok (.aload_n 0, 1) := by decide +kernel
theorem dL_both_3 : decode cL_both 3 = .ok (.invokevirtual 76, 3) := by decide +kernel
theorem dL_both_6 : decode cL_both 6 = .ok (.i2l, 1) := by decide +kernel
theorem dL_both_7 : decode cL_both 7 = .ok (.lastore, 1) := by decide +kernel
theorem dL_both_8 : decode cL_both 8 = .ok (.goto 6, 3) := by decide +kernel
theorem dL_both_11 : decode cL_both 11 = .ok (.astore_n 2, 1) := by decide +kernel
theorem dL_both_12 : decode cL_both 12 = .ok (.iconst 1, 1) := by decide +kernel
theorem dL_both_13 : decode cL_both 13 = .ok (.ireturn, 1) := by decide +kernel
theorem dL_both_14 : decode cL_both 14 = .ok (.iconst 0, 1) := by decide +kernel
theorem dL_both_15 : decode cL_both 15 = .ok (.ireturn, 1) := by decide +kernel
set_option maxRecDepth 20000 in
theorem ggL_searched_X11_searched : GoodIn wsL_searched wsX11_searched := goodIn_ca (goodIn_r _ [6, 7, 8, 9, 10, 11, 12, 13, 14, 15, 16, 17, 18, 19, 20, 21, 22, 23, 24, 25, 26, 27, 28] (by decide +kernel) (by decide +kernel)) (goodIn_sub (fun _ h => List.mem_cons_of_mem _ (List.mem_append_right _ h)) (by decide +kernel))
set_option maxRecDepth 20000 in
theorem gL_searched_X11_searched : GoodIn wsL_searched (wsV RL 80 RX11 yX11_searched wsX11_searched) := goodIn_app (goodIn_of _ (by decide +kernel)) ggL_searched_X11_searched
theorem dL_searched_0 : decode cL_searched 0 = .ok (.aload_n 2, 1) := by decide +kernel
theorem dL_searched_1 : decode cL_searched 1 = .ok (.iconst 0, 1) := by decide +kernel
theorem dL_searched_2 : decode cL_searched 2 = .ok (.aload_n 0, 1) := by decide +kernel
theorem dL_searched_3 : decode cL_searched 3 = .ok (.iload_n 1, 1) := by decide +kernel
theorem dL_searched_4 : decode cL_searched 4 = .ok (.invokevirtual 80, 3) := by decide +kernel
theorem dL_searched_7 : decode cL_searched 7 = .ok (.i2l, 1) := by decide +kernel
theorem dL_searched_8 : decode cL_searched 8 = .ok (.lastore, 1) := by decide +kernel
theorem dL_searched_9 : decode cL_searched 9 = .ok (.goto 6, 3) := by decide +kernel
theorem dL_searched_12 : decode cL_searched 12 = .ok (.astore_n 3, 1) := by decide +kernel
theorem dL_searched_13 : decode cL_searched 13 = .ok (.iconst 1, 1) := by decide +kernel
theorem dL_searched_14 : decode cL_searched 14 = .ok (.ireturn, 1) := by decide +kernel
theorem dL_searched_15 : decode cL_searched 15 = .ok (.iconst 0, 1) := by decide +kernel
theorem dL_searched_16 : decode cL_searched 16 = .ok (.ireturn, 1) := by decide +kernel
set_option maxRecDepth 20000 in
theorem ggL_wayAt_X11_wayAt : GoodIn wsL_wayAt wsX11_wayAt := goodIn_ca (goodIn_r _ [6, 7, 8, 9, 10, 11, 12, 13, 14, 15, 16, 17, 18, 19, 20, 21, 22, 23, 24, 25, 26, 27, 28, 29] (by decide +kernel) (by decide +kernel)) (goodIn_sub (fun _ h => List.mem_cons_of_mem _ (List.mem_append_right _ h)) (by decide +kernel))
set_option maxRecDepth 20000 in
theorem gL_wayAt_X11_wayAt : GoodIn wsL_wayAt (wsV RL 83 RX11 yX11_wayAt wsX11_wayAt) := goodIn_app (goodIn_of _ (by decide +kernel)) ggL_wayAt_X11_wayAt
theorem dL_wayAt_0 : decode cL_wayAt 0 = .ok (.aload_n 2, 1) := by decide +kernel
theorem dL_wayAt_1 : decode cL_wayAt 1 = .ok (.iconst 0, 1) := by decide +kernel
theorem dL_wayAt_2 : decode cL_wayAt 2 = .ok (.aload_n 0, 1) := by decide +kernel
theorem dL_wayAt_3 : decode cL_wayAt 3 = .ok (.iload_n 1, 1) := by decide +kernel
theorem dL_wayAt_4 : decode cL_wayAt 4 = .ok (.invokevirtual 83, 3) := by decide +kernel
theorem dL_wayAt_7 : decode cL_wayAt 7 = .ok (.i2l, 1) := by decide +kernel
theorem dL_wayAt_8 : decode cL_wayAt 8 = .ok (.lastore, 1) := by decide +kernel
theorem dL_wayAt_9 : decode cL_wayAt 9 = .ok (.goto 6, 3) := by decide +kernel
theorem dL_wayAt_12 : decode cL_wayAt 12 = .ok (.astore_n 3, 1) := by decide +kernel
theorem dL_wayAt_13 : decode cL_wayAt 13 = .ok (.iconst 1, 1) := by decide +kernel
theorem dL_wayAt_14 : decode cL_wayAt 14 = .ok (.ireturn, 1) := by decide +kernel
theorem dL_wayAt_15 : decode cL_wayAt 15 = .ok (.iconst 0, 1) := by decide +kernel
theorem dL_wayAt_16 : decode cL_wayAt 16 = .ok (.ireturn, 1) := by decide +kernel
set_option maxRecDepth 20000 in
theorem ggL_hint_X11_hint : GoodIn wsL_hint wsX11_hint := goodIn_ca (goodIn_r _ [6, 7, 8, 9, 10, 11, 12, 13, 14, 15, 16, 17, 18, 19, 20, 21, 22, 23, 24, 25, 26, 27, 28, 29, 30, 31, 32, 33, 34, 35, 36, 37, 38, 39, 40, 41, 42, 43, 44, 45, 46, 47, 48, 49, 50, 51, 52, 53, 54, 55, 56, 57, 58, 59, 60, 61, 62, 63, 64, 65, 66, 67, 68, 69, 70, 71, 72, 73, 74, 75, 76, 77, 78, 79, 80, 81, 82, 83, 84, 85, 86, 87, 88, 89, 90, 91, 92, 93, 94, 95, 96, 97, 98, 99, 100, 101, 102, 103, 104, 105, 106, 107, 108, 109, 110, 111, 112, 113, 114, 115, 116, 117, 118, 119, 120, 121, 122, 123, 124, 125, 126, 127, 128, 129, 130, 131, 132, 133, 134, 135, 136, 137, 138, 139, 140, 141, 142, 143, 144, 145, 146, 147, 148, 149, 150, 151, 152, 153, 154, 155, 156, 157, 158, 159, 160, 161, 162, 163, 164, 165, 166, 167, 168, 169, 170, 171, 172, 173, 174, 175, 176, 177, 178, 179, 180, 181, 182, 183, 184, 185, 186, 187, 188, 189, 190, 191, 192, 193, 194, 195, 196, 197, 198, 199, 200, 201, 202, 203, 204, 205, 206, 207, 208, 209, 210, 211, 212, 213, 214, 215, 216, 217, 218, 219, 220, 221, 222, 223, 224, 225, 226, 5, 227, 228, 229, 230, 231, 232, 233, 234, 235, 236, 237, 238, 239, 240, 241, 242, 243, 244, 245, 246, 247, 248, 249, 250, 251, 252, 253, 254, 255, 256, 257, 258, 259, 260, 261, 262, 263, 264, 265, 266, 267, 268, 269, 270, 271, 272, 273, 274, 275, 276, 277, 278, 279, 280, 281, 282, 283, 284, 285, 286, 287, 288, 289, 290, 291, 292, 293, 294, 295, 296, 297, 298, 299, 300] (by decide +kernel) (by decide +kernel)) (goodIn_sub (fun _ h => List.mem_cons_of_mem _ (List.mem_append_right _ h)) (by decide +kernel))
set_option maxRecDepth 20000 in
theorem gL_hint_X11_hint : GoodIn wsL_hint (wsV RL 86 RX11 yX11_hint wsX11_hint) := goodIn_app (goodIn_of _ (by decide +kernel)) ggL_hint_X11_hint
theorem dL_hint_0 : decode cL_hint 0 = .ok (.aload_n 1, 1) := by decide +kernel
theorem dL_hint_1 : decode cL_hint 1 = .ok (.iconst 0, 1) := by decide +kernel
theorem dL_hint_2 : decode cL_hint 2 = .ok (.aload_n 0, 1) := by decide +kernel
theorem dL_hint_3 : decode cL_hint 3 = .ok (.invokevirtual 86, 3) := by decide +kernel
theorem dL_hint_6 : decode cL_hint 6 = .ok (.i2l, 1) := by decide +kernel
theorem dL_hint_7 : decode cL_hint 7 = .ok (.lastore, 1) := by decide +kernel
