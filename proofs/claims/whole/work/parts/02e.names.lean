theorem dX12_makes_271 : decode cX12_makes 271 = .ok (.aload_n 0, 1) := by decide +kernel
theorem dX12_makes_272 : decode cX12_makes 272 = .ok (.iconst 0, 1) := by decide +kernel
theorem dX12_makes_273 : decode cX12_makes 273 = .ok (.putfield 187, 3) := by decide +kernel
theorem dX12_makes_276 : decode cX12_makes 276 = .ok (.aload_n 0, 1) := by decide +kernel
theorem dX12_makes_277 : decode cX12_makes 277 = .ok (.iconst 0, 1) := by decide +kernel
theorem dX12_makes_278 : decode cX12_makes 278 = .ok (.putfield 190, 3) := by decide +kernel
theorem dX12_makes_281 : decode cX12_makes 281 = .ok (.aload_n 0, 1) := by decide +kernel
theorem dX12_makes_282 : decode cX12_makes 282 = .ok (.iconst 0, 1) := by decide +kernel
theorem dX12_makes_283 : decode cX12_makes 283 = .ok (.putfield 193, 3) := by decide +kernel
theorem dX12_makes_286 : decode cX12_makes 286 = .ok (.aload_n 0, 1) := by decide +kernel
theorem dX12_makes_287 : decode cX12_makes 287 = .ok (.iconst 0, 1) := by decide +kernel
theorem dX12_makes_288 : decode cX12_makes 288 = .ok (.putfield 196, 3) := by decide +kernel
theorem dX12_makes_291 : decode cX12_makes 291 = .ok (.return_, 1) := by decide +kernel
theorem dX12_walksFrom_0 : decode cX12_walksFrom 0 = .ok (.iconst 0, 1) := by decide +kernel
theorem dX12_walksFrom_1 : decode cX12_walksFrom 1 = .ok (.istore_n 2, 1) := by decide +kernel
theorem dX12_walksFrom_2 : decode cX12_walksFrom 2 = .ok (.iload_n 2, 1) := by decide +kernel
theorem dX12_walksFrom_3 : decode cX12_walksFrom 3 = .ok (.aload_n 0, 1) := by decide +kernel
theorem dX12_walksFrom_4 : decode cX12_walksFrom 4 = .ok (.getfield 170, 3) := by decide +kernel
theorem dX12_walksFrom_7 : decode cX12_walksFrom 7 = .ok (.if_icmp .ge 22, 3) := by decide +kernel
theorem dX12_walksFrom_10 : decode cX12_walksFrom 10 = .ok (.aload_n 0, 1) := by decide +kernel
theorem dX12_walksFrom_11 : decode cX12_walksFrom 11 = .ok (.getfield 19, 3) := by decide +kernel
theorem dX12_walksFrom_14 : decode cX12_walksFrom 14 = .ok (.bipush 16, 2) := by decide +kernel
theorem dX12_walksFrom_16 : decode cX12_walksFrom 16 = .ok (.iload_n 1, 1) := by decide +kernel
theorem dX12_walksFrom_17 : decode cX12_walksFrom 17 = .ok (.imul, 1) := by decide +kernel
theorem dX12_walksFrom_18 : decode cX12_walksFrom 18 = .ok (.iload_n 2, 1) := by decide +kernel
theorem dX12_walksFrom_19 : decode cX12_walksFrom 19 = .ok (.iadd, 1) := by decide +kernel
theorem dX12_walksFrom_20 : decode cX12_walksFrom 20 = .ok (.ldc 199, 2) := by decide +kernel
theorem dX12_walksFrom_22 : decode cX12_walksFrom 22 = .ok (.iastore, 1) := by decide +kernel
theorem dX12_walksFrom_23 : decode cX12_walksFrom 23 = .ok (.iinc 2 1, 3) := by decide +kernel
theorem dX12_walksFrom_26 : decode cX12_walksFrom 26 = .ok (.goto (-24), 3) := by decide +kernel
theorem dX12_walksFrom_29 : decode cX12_walksFrom 29 = .ok (.aload_n 0, 1) := by decide +kernel
theorem dX12_walksFrom_30 : decode cX12_walksFrom 30 = .ok (.getfield 19, 3) := by decide +kernel
theorem dX12_walksFrom_33 : decode cX12_walksFrom 33 = .ok (.bipush 16, 2) := by decide +kernel
theorem dX12_walksFrom_35 : decode cX12_walksFrom 35 = .ok (.iload_n 1, 1) := by decide +kernel
theorem dX12_walksFrom_36 : decode cX12_walksFrom 36 = .ok (.imul, 1) := by decide +kernel
theorem dX12_walksFrom_37 : decode cX12_walksFrom 37 = .ok (.iload_n 1, 1) := by decide +kernel
theorem dX12_walksFrom_38 : decode cX12_walksFrom 38 = .ok (.iadd, 1) := by decide +kernel
theorem dX12_walksFrom_39 : decode cX12_walksFrom 39 = .ok (.iconst 0, 1) := by decide +kernel
theorem dX12_walksFrom_40 : decode cX12_walksFrom 40 = .ok (.iastore, 1) := by decide +kernel
theorem dX12_walksFrom_41 : decode cX12_walksFrom 41 = .ok (.iconst 0, 1) := by decide +kernel
theorem dX12_walksFrom_42 : decode cX12_walksFrom 42 = .ok (.istore_n 2, 1) := by decide +kernel
theorem dX12_walksFrom_43 : decode cX12_walksFrom 43 = .ok (.iload_n 2, 1) := by decide +kernel
theorem dX12_walksFrom_44 : decode cX12_walksFrom 44 = .ok (.aload_n 0, 1) := by decide +kernel
theorem dX12_walksFrom_45 : decode cX12_walksFrom 45 = .ok (.getfield 170, 3) := by decide +kernel
theorem dX12_walksFrom_48 : decode cX12_walksFrom 48 = .ok (.if_icmp .ge 112, 3) := by decide +kernel
theorem dX12_walksFrom_51 : decode cX12_walksFrom 51 = .ok (.iconst 0, 1) := by decide +kernel
theorem dX12_walksFrom_52 : decode cX12_walksFrom 52 = .ok (.istore_n 3, 1) := by decide +kernel
theorem dX12_walksFrom_53 : decode cX12_walksFrom 53 = .ok (.iload_n 3, 1) := by decide +kernel
theorem dX12_walksFrom_54 : decode cX12_walksFrom 54 = .ok (.aload_n 0, 1) := by decide +kernel
theorem dX12_walksFrom_55 : decode cX12_walksFrom 55 = .ok (.getfield 170, 3) := by decide +kernel
theorem dX12_walksFrom_58 : decode cX12_walksFrom 58 = .ok (.if_icmp .ge 96, 3) := by decide +kernel
theorem dX12_walksFrom_61 : decode cX12_walksFrom 61 = .ok (.iconst 0, 1) := by decide +kernel
theorem dX12_walksFrom_62 : decode cX12_walksFrom 62 = .ok (.istore 4, 2) := by decide +kernel
theorem dX12_walksFrom_64 : decode cX12_walksFrom 64 = .ok (.iload 4, 2) := by decide +kernel
theorem dX12_walksFrom_66 : decode cX12_walksFrom 66 = .ok (.iconst 4, 1) := by decide +kernel
theorem dX12_walksFrom_67 : decode cX12_walksFrom 67 = .ok (.if_icmp .ge 81, 3) := by decide +kernel
theorem dX12_walksFrom_70 : decode cX12_walksFrom 70 = .ok (.aload_n 0, 1) := by decide +kernel
theorem dX12_walksFrom_71 : decode cX12_walksFrom 71 = .ok (.getfield 16, 3) := by decide +kernel
theorem dX12_walksFrom_74 : decode cX12_walksFrom 74 = .ok (.iconst 4, 1) := by decide +kernel
theorem dX12_walksFrom_75 : decode cX12_walksFrom 75 = .ok (.iload_n 3, 1) := by decide +kernel
theorem dX12_walksFrom_76 : decode cX12_walksFrom 76 = .ok (.imul, 1) := by decide +kernel
theorem dX12_walksFrom_77 : decode cX12_walksFrom 77 = .ok (.iload 4, 2) := by decide +kernel
theorem dX12_walksFrom_79 : decode cX12_walksFrom 79 = .ok (.iadd, 1) := by decide +kernel
theorem dX12_walksFrom_80 : decode cX12_walksFrom 80 = .ok (.iaload, 1) := by decide +kernel
theorem dX12_walksFrom_81 : decode cX12_walksFrom 81 = .ok (.istore 5, 2) := by decide +kernel
theorem dX12_walksFrom_83 : decode cX12_walksFrom 83 = .ok (.iload 5, 2) := by decide +kernel
theorem dX12_walksFrom_85 : decode cX12_walksFrom 85 = .ok (.iconst (-1), 1) := by decide +kernel
theorem dX12_walksFrom_86 : decode cX12_walksFrom 86 = .ok (.if_icmp .eq 56, 3) := by decide +kernel
theorem dX12_walksFrom_89 : decode cX12_walksFrom 89 = .ok (.aload_n 0, 1) := by decide +kernel
theorem dX12_walksFrom_90 : decode cX12_walksFrom 90 = .ok (.getfield 19, 3) := by decide +kernel
theorem dX12_walksFrom_93 : decode cX12_walksFrom 93 = .ok (.bipush 16, 2) := by decide +kernel
theorem dX12_walksFrom_95 : decode cX12_walksFrom 95 = .ok (.iload_n 1, 1) := by decide +kernel
theorem dX12_walksFrom_96 : decode cX12_walksFrom 96 = .ok (.imul, 1) := by decide +kernel
theorem dX12_walksFrom_97 : decode cX12_walksFrom 97 = .ok (.iload_n 3, 1) := by decide +kernel
theorem dX12_walksFrom_98 : decode cX12_walksFrom 98 = .ok (.iadd, 1) := by decide +kernel
theorem dX12_walksFrom_99 : decode cX12_walksFrom 99 = .ok (.iaload, 1) := by decide +kernel
theorem dX12_walksFrom_100 : decode cX12_walksFrom 100 = .ok (.iconst 1, 1) := by decide +kernel
theorem dX12_walksFrom_101 : decode cX12_walksFrom 101 = .ok (.iadd, 1) := by decide +kernel
theorem dX12_walksFrom_102 : decode cX12_walksFrom 102 = .ok (.aload_n 0, 1) := by decide +kernel
theorem dX12_walksFrom_103 : decode cX12_walksFrom 103 = .ok (.getfield 19, 3) := by decide +kernel
theorem dX12_walksFrom_106 : decode cX12_walksFrom 106 = .ok (.bipush 16, 2) := by decide +kernel
theorem dX12_walksFrom_108 : decode cX12_walksFrom 108 = .ok (.iload_n 1, 1) := by decide +kernel
theorem dX12_walksFrom_109 : decode cX12_walksFrom 109 = .ok (.imul, 1) := by decide +kernel
theorem dX12_walksFrom_110 : decode cX12_walksFrom 110 = .ok (.iload 5, 2) := by decide +kernel
theorem dX12_walksFrom_112 : decode cX12_walksFrom 112 = .ok (.iadd, 1) := by decide +kernel
theorem dX12_walksFrom_113 : decode cX12_walksFrom 113 = .ok (.iaload, 1) := by decide +kernel
theorem dX12_walksFrom_114 : decode cX12_walksFrom 114 = .ok (.if_icmp .ge 28, 3) := by decide +kernel
theorem dX12_walksFrom_117 : decode cX12_walksFrom 117 = .ok (.aload_n 0, 1) := by decide +kernel
theorem dX12_walksFrom_118 : decode cX12_walksFrom 118 = .ok (.getfield 19, 3) := by decide +kernel
theorem dX12_walksFrom_121 : decode cX12_walksFrom 121 = .ok (.bipush 16, 2) := by decide +kernel
theorem dX12_walksFrom_123 : decode cX12_walksFrom 123 = .ok (.iload_n 1, 1) := by decide +kernel
theorem dX12_walksFrom_124 : decode cX12_walksFrom 124 = .ok (.imul, 1) := by decide +kernel
theorem dX12_walksFrom_125 : decode cX12_walksFrom 125 = .ok (.iload 5, 2) := by decide +kernel
theorem dX12_walksFrom_127 : decode cX12_walksFrom 127 = .ok (.iadd, 1) := by decide +kernel
theorem dX12_walksFrom_128 : decode cX12_walksFrom 128 = .ok (.aload_n 0, 1) := by decide +kernel
theorem dX12_walksFrom_129 : decode cX12_walksFrom 129 = .ok (.getfield 19, 3) := by decide +kernel
theorem dX12_walksFrom_132 : decode cX12_walksFrom 132 = .ok (.bipush 16, 2) := by decide +kernel
theorem dX12_walksFrom_134 : decode cX12_walksFrom 134 = .ok (.iload_n 1, 1) := by decide +kernel
theorem dX12_walksFrom_135 : decode cX12_walksFrom 135 = .ok (.imul, 1) := by decide +kernel
theorem dX12_walksFrom_136 : decode cX12_walksFrom 136 = .ok (.iload_n 3, 1) := by decide +kernel
theorem dX12_walksFrom_137 : decode cX12_walksFrom 137 = .ok (.iadd, 1) := by decide +kernel
theorem dX12_walksFrom_138 : decode cX12_walksFrom 138 = .ok (.iaload, 1) := by decide +kernel
theorem dX12_walksFrom_139 : decode cX12_walksFrom 139 = .ok (.iconst 1, 1) := by decide +kernel
theorem dX12_walksFrom_140 : decode cX12_walksFrom 140 = .ok (.iadd, 1) := by decide +kernel
theorem dX12_walksFrom_141 : decode cX12_walksFrom 141 = .ok (.iastore, 1) := by decide +kernel
theorem dX12_walksFrom_142 : decode cX12_walksFrom 142 = .ok (.iinc 4 1, 3) := by decide +kernel
theorem dX12_walksFrom_145 : decode cX12_walksFrom 145 = .ok (.goto (-81), 3) := by decide +kernel
theorem dX12_walksFrom_148 : decode cX12_walksFrom 148 = .ok (.iinc 3 1, 3) := by decide +kernel
theorem dX12_walksFrom_151 : decode cX12_walksFrom 151 = .ok (.goto (-98), 3) := by decide +kernel
theorem dX12_walksFrom_154 : decode cX12_walksFrom 154 = .ok (.iinc 2 1, 3) := by decide +kernel
theorem dX12_walksFrom_157 : decode cX12_walksFrom 157 = .ok (.goto (-114), 3) := by decide +kernel
theorem dX12_walksFrom_160 : decode cX12_walksFrom 160 = .ok (.return_, 1) := by decide +kernel
theorem dX12_tiles_0 : decode cX12_tiles 0 = .ok (.aload_n 0, 1) := by decide +kernel
theorem dX12_tiles_1 : decode cX12_tiles 1 = .ok (.getfield 170, 3) := by decide +kernel
theorem dX12_tiles_4 : decode cX12_tiles 4 = .ok (.iconst 1, 1) := by decide +kernel
theorem dX12_tiles_5 : decode cX12_tiles 5 = .ok (.isub, 1) := by decide +kernel
theorem dX12_tiles_6 : decode cX12_tiles 6 = .ok (.ireturn, 1) := by decide +kernel
theorem dX12_gapIn_0 : decode cX12_gapIn 0 = .ok (.iconst 0, 1) := by decide +kernel
theorem dX12_gapIn_1 : decode cX12_gapIn 1 = .ok (.istore_n 2, 1) := by decide +kernel
theorem dX12_gapIn_2 : decode cX12_gapIn 2 = .ok (.aload_n 1, 1) := by decide +kernel
theorem dX12_gapIn_3 : decode cX12_gapIn 3 = .ok (.iload_n 2, 1) := by decide +kernel
theorem dX12_gapIn_4 : decode cX12_gapIn 4 = .ok (.iaload, 1) := by decide +kernel
theorem dX12_gapIn_5 : decode cX12_gapIn 5 = .ok (.ifCond .eq 9, 3) := by decide +kernel
theorem dX12_gapIn_8 : decode cX12_gapIn 8 = .ok (.iinc 2 1, 3) := by decide +kernel
theorem dX12_gapIn_11 : decode cX12_gapIn 11 = .ok (.goto (-9), 3) := by decide +kernel
theorem dX12_gapIn_14 : decode cX12_gapIn 14 = .ok (.iload_n 2, 1) := by decide +kernel
theorem dX12_gapIn_15 : decode cX12_gapIn 15 = .ok (.ireturn, 1) := by decide +kernel
set_option maxRecDepth 20000 in
theorem ggX12_tray_X12_in : GoodIn wsX12_tray wsX12_in := goodIn_r _ [8] (by decide +kernel) (by decide +kernel)
set_option maxRecDepth 20000 in
theorem gX12_tray_X12_in : GoodIn wsX12_tray (va_wsS RX12 200 yX12_in wsX12_in) := goodIn_app (goodIn_of _ (by decide +kernel)) ggX12_tray_X12_in
set_option maxRecDepth 20000 in
theorem ggX12_tray_X12_refuse : GoodIn wsX12_tray wsX12_refuse := goodIn_r _ [12, 13, 57, 58, 59, 60, 61, 62, 63, 64, 65, 66, 67, 68, 69, 70, 71, 72, 73, 74, 75, 76, 77, 78, 79, 80, 81, 82, 83, 84, 85, 86, 87, 88, 89, 90, 91, 92, 93, 94, 95, 96, 97, 98, 99, 100, 101, 102, 103, 104, 105, 106, 107, 108, 109, 110, 111, 112, 113, 114, 115, 116, 117, 118, 119, 120, 121, 122, 123] (by decide +kernel) (by decide +kernel)
set_option maxRecDepth 20000 in
theorem gX12_tray_X12_refuse : GoodIn wsX12_tray (wsV RX12 204 RX12 yX12_refuse wsX12_refuse) := goodIn_app (goodIn_of _ (by decide +kernel)) ggX12_tray_X12_refuse
set_option maxRecDepth 20000 in
theorem ggX12_tray_X12_isWhole : GoodIn wsX12_tray wsX12_isWhole := goodIn_r _ [17, 1, 18, 57, 58, 59, 60, 61, 62, 63, 64, 65, 66, 67, 68, 69, 70, 71, 72, 73, 74, 75, 76, 77, 78, 79, 80, 81, 82, 83, 84, 85, 86, 87, 88, 89, 90, 91, 92, 93, 94, 95, 96, 97, 98, 99, 100, 101, 102, 103, 104, 105, 106, 107, 108, 109, 110, 111, 112, 113, 114, 115, 116, 117, 118, 119, 120, 121, 122, 123] (by decide +kernel) (by decide +kernel)
set_option maxRecDepth 20000 in
theorem gX12_tray_X12_isWhole : GoodIn wsX12_tray (wsV RX12 208 RX12 yX12_isWhole wsX12_isWhole) := goodIn_app (goodIn_of _ (by decide +kernel)) ggX12_tray_X12_isWhole
set_option maxRecDepth 20000 in
theorem ggX12_tray_X12_makes : GoodIn wsX12_tray wsX12_makes := goodIn_r _ [22, 23, 2, 3, 24, 4, 25, 26, 27, 28, 29, 30, 31, 32, 33, 34, 35, 36, 37, 38, 39, 40, 41, 7, 42, 43, 44, 45, 46, 47, 48, 57, 58, 59, 60, 61, 62, 63, 64, 65, 66, 67, 68, 69, 70, 71, 72, 73, 74, 75, 76, 77, 78, 79, 80, 81, 82, 83, 84, 85, 86, 87, 88, 89, 90, 91, 92, 93, 94, 95, 96, 97, 98, 99, 100, 101, 102, 103, 104, 105, 106, 107, 108, 109, 110, 111, 112, 113, 114, 115, 116, 117, 118, 119, 120, 121, 122, 123] (by decide +kernel) (by decide +kernel)
set_option maxRecDepth 20000 in
theorem gX12_tray_X12_makes : GoodIn wsX12_tray (wsV RX12 164 RX12 yX12_makes wsX12_makes) := goodIn_app (goodIn_of _ (by decide +kernel)) ggX12_tray_X12_makes
set_option maxRecDepth 20000 in
theorem ggX12_tray_X12_tiles : GoodIn wsX12_tray wsX12_tiles := goodIn_r _ [52, 23, 57, 58, 59, 60, 61, 62, 63, 64, 65, 66, 67, 68, 69, 70, 71, 72, 73, 74, 75, 76, 77, 78, 79, 80, 81, 82, 83, 84, 85, 86, 87, 88, 89, 90, 91, 92, 93, 94, 95, 96, 97, 98, 99, 100, 101, 102, 103, 104, 105, 106, 107, 108, 109, 110, 111, 112, 113, 114, 115, 116, 117, 118, 119, 120, 121, 122, 123] (by decide +kernel) (by decide +kernel)
set_option maxRecDepth 20000 in
theorem gX12_tray_X12_tiles : GoodIn wsX12_tray (wsV RX12 211 RX12 yX12_tiles wsX12_tiles) := goodIn_app (goodIn_of _ (by decide +kernel)) ggX12_tray_X12_tiles
set_option maxRecDepth 20000 in
theorem ggX12_tray_X12_told : GoodIn wsX12_tray wsX12_told := goodIn_r _ [56, 13, 57, 58, 59, 60, 61, 62, 63, 64, 65, 66, 67, 68, 69, 70, 71, 72, 73, 74, 75, 76, 77, 78, 79, 80, 81, 82, 83, 84, 85, 86, 87, 88, 89, 90, 91, 92, 93, 94, 95, 96, 97, 98, 99, 100, 101, 102, 103, 104, 105, 106, 107, 108, 109, 110, 111, 112, 113, 114, 115, 116, 117, 118, 119, 120, 121, 122, 123] (by decide +kernel) (by decide +kernel)
set_option maxRecDepth 20000 in
theorem gX12_tray_X12_told : GoodIn wsX12_tray (wsV RX12 215 RX12 yX12_told wsX12_told) := goodIn_app (goodIn_of _ (by decide +kernel)) ggX12_tray_X12_told
theorem dX12_tray_0 : decode cX12_tray 0 = .ok (.iload_n 1, 1) := by decide +kernel
theorem dX12_tray_1 : decode cX12_tray 1 = .ok (.iconst 2, 1) := by decide +kernel
theorem dX12_tray_2 : decode cX12_tray 2 = .ok (.iconst 4, 1) := by decide +kernel
theorem dX12_tray_3 : decode cX12_tray 3 = .ok (.invokestatic 200, 3) := by decide +kernel
theorem dX12_tray_6 : decode cX12_tray 6 = .ok (.ifCond .eq 25, 3) := by decide +kernel
theorem dX12_tray_9 : decode cX12_tray 9 = .ok (.iload_n 2, 1) := by decide +kernel
theorem dX12_tray_10 : decode cX12_tray 10 = .ok (.iconst 2, 1) := by decide +kernel
theorem dX12_tray_11 : decode cX12_tray 11 = .ok (.iconst 4, 1) := by decide +kernel
theorem dX12_tray_12 : decode cX12_tray 12 = .ok (.invokestatic 200, 3) := by decide +kernel
theorem dX12_tray_15 : decode cX12_tray 15 = .ok (.ifCond .eq 16, 3) := by decide +kernel
theorem dX12_tray_18 : decode cX12_tray 18 = .ok (.iload_n 3, 1) := by decide +kernel
theorem dX12_tray_19 : decode cX12_tray 19 = .ok (.ifCond .lt 12, 3) := by decide +kernel
theorem dX12_tray_22 : decode cX12_tray 22 = .ok (.iload_n 3, 1) := by decide +kernel
theorem dX12_tray_23 : decode cX12_tray 23 = .ok (.iconst 1, 1) := by decide +kernel
theorem dX12_tray_24 : decode cX12_tray 24 = .ok (.iload_n 1, 1) := by decide +kernel
theorem dX12_tray_25 : decode cX12_tray 25 = .ok (.iload_n 2, 1) := by decide +kernel
theorem dX12_tray_26 : decode cX12_tray 26 = .ok (.imul, 1) := by decide +kernel
theorem dX12_tray_27 : decode cX12_tray 27 = .ok (.ishl, 1) := by decide +kernel
theorem dX12_tray_28 : decode cX12_tray 28 = .ok (.if_icmp .lt 9, 3) := by decide +kernel
theorem dX12_tray_31 : decode cX12_tray 31 = .ok (.aload_n 0, 1) := by decide +kernel
theorem dX12_tray_32 : decode cX12_tray 32 = .ok (.iconst 1, 1) := by decide +kernel
theorem dX12_tray_33 : decode cX12_tray 33 = .ok (.invokevirtual 204, 3) := by decide +kernel
theorem dX12_tray_36 : decode cX12_tray 36 = .ok (.ireturn, 1) := by decide +kernel
theorem dX12_tray_37 : decode cX12_tray 37 = .ok (.iconst 0, 1) := by decide +kernel
theorem dX12_tray_38 : decode cX12_tray 38 = .ok (.istore 4, 2) := by decide +kernel
theorem dX12_tray_40 : decode cX12_tray 40 = .ok (.iconst 0, 1) := by decide +kernel
theorem dX12_tray_41 : decode cX12_tray 41 = .ok (.istore 5, 2) := by decide +kernel
theorem dX12_tray_43 : decode cX12_tray 43 = .ok (.iload 5, 2) := by decide +kernel
theorem dX12_tray_45 : decode cX12_tray 45 = .ok (.iload_n 1, 1) := by decide +kernel
theorem dX12_tray_46 : decode cX12_tray 46 = .ok (.iload_n 2, 1) := by decide +kernel
theorem dX12_tray_47 : decode cX12_tray 47 = .ok (.imul, 1) := by decide +kernel
theorem dX12_tray_48 : decode cX12_tray 48 = .ok (.if_icmp .ge 51, 3) := by decide +kernel
theorem dX12_tray_51 : decode cX12_tray 51 = .ok (.aload_n 0, 1) := by decide +kernel
theorem dX12_tray_52 : decode cX12_tray 52 = .ok (.getfield 72, 3) := by decide +kernel
theorem dX12_tray_55 : decode cX12_tray 55 = .ok (.iload 5, 2) := by decide +kernel
theorem dX12_tray_57 : decode cX12_tray 57 = .ok (.iload_n 3, 1) := by decide +kernel
theorem dX12_tray_58 : decode cX12_tray 58 = .ok (.iload 5, 2) := by decide +kernel
theorem dX12_tray_60 : decode cX12_tray 60 = .ok (.ishr, 1) := by decide +kernel
theorem dX12_tray_61 : decode cX12_tray 61 = .ok (.iconst 1, 1) := by decide +kernel
theorem dX12_tray_62 : decode cX12_tray 62 = .ok (.iand, 1) := by decide +kernel
theorem dX12_tray_63 : decode cX12_tray 63 = .ok (.iconst 1, 1) := by decide +kernel
theorem dX12_tray_64 : decode cX12_tray 64 = .ok (.if_icmp .ne 7, 3) := by decide +kernel
theorem dX12_tray_67 : decode cX12_tray 67 = .ok (.iconst 1, 1) := by decide +kernel
theorem dX12_tray_68 : decode cX12_tray 68 = .ok (.goto 4, 3) := by decide +kernel
theorem dX12_tray_71 : decode cX12_tray 71 = .ok (.iconst 0, 1) := by decide +kernel
theorem dX12_tray_72 : decode cX12_tray 72 = .ok (.bastore, 1) := by decide +kernel
theorem dX12_tray_73 : decode cX12_tray 73 = .ok (.iload 4, 2) := by decide +kernel
theorem dX12_tray_75 : decode cX12_tray 75 = .ok (.aload_n 0, 1) := by decide +kernel
theorem dX12_tray_76 : decode cX12_tray 76 = .ok (.getfield 72, 3) := by decide +kernel
theorem dX12_tray_79 : decode cX12_tray 79 = .ok (.iload 5, 2) := by decide +kernel
theorem dX12_tray_81 : decode cX12_tray 81 = .ok (.baload, 1) := by decide +kernel
theorem dX12_tray_82 : decode cX12_tray 82 = .ok (.ifCond .eq 7, 3) := by decide +kernel
theorem dX12_tray_85 : decode cX12_tray 85 = .ok (.iconst 0, 1) := by decide +kernel
theorem dX12_tray_86 : decode cX12_tray 86 = .ok (.goto 4, 3) := by decide +kernel
theorem dX12_tray_89 : decode cX12_tray 89 = .ok (.iconst 1, 1) := by decide +kernel
theorem dX12_tray_90 : decode cX12_tray 90 = .ok (.iadd, 1) := by decide +kernel
theorem dX12_tray_91 : decode cX12_tray 91 = .ok (.istore 4, 2) := by decide +kernel
theorem dX12_tray_93 : decode cX12_tray 93 = .ok (.iinc 5 1, 3) := by decide +kernel
theorem dX12_tray_96 : decode cX12_tray 96 = .ok (.goto (-53), 3) := by decide +kernel
theorem dX12_tray_99 : decode cX12_tray 99 = .ok (.iload 4, 2) := by decide +kernel
theorem dX12_tray_101 : decode cX12_tray 101 = .ok (.iconst 3, 1) := by decide +kernel
theorem dX12_tray_102 : decode cX12_tray 102 = .ok (.if_icmp .lt 14, 3) := by decide +kernel
theorem dX12_tray_105 : decode cX12_tray 105 = .ok (.aload_n 0, 1) := by decide +kernel
theorem dX12_tray_106 : decode cX12_tray 106 = .ok (.iload_n 1, 1) := by decide +kernel
theorem dX12_tray_107 : decode cX12_tray 107 = .ok (.iload_n 2, 1) := by decide +kernel
theorem dX12_tray_108 : decode cX12_tray 108 = .ok (.iload 4, 2) := by decide +kernel
theorem dX12_tray_110 : decode cX12_tray 110 = .ok (.invokevirtual 208, 3) := by decide +kernel
theorem dX12_tray_113 : decode cX12_tray 113 = .ok (.ifCond .ne 9, 3) := by decide +kernel
theorem dX12_tray_116 : decode cX12_tray 116 = .ok (.aload_n 0, 1) := by decide +kernel
theorem dX12_tray_117 : decode cX12_tray 117 = .ok (.iconst 1, 1) := by decide +kernel
theorem dX12_tray_118 : decode cX12_tray 118 = .ok (.invokevirtual 204, 3) := by decide +kernel
theorem dX12_tray_121 : decode cX12_tray 121 = .ok (.ireturn, 1) := by decide +kernel
theorem dX12_tray_122 : decode cX12_tray 122 = .ok (.aload_n 0, 1) := by decide +kernel
theorem dX12_tray_123 : decode cX12_tray 123 = .ok (.iload_n 1, 1) := by decide +kernel
theorem dX12_tray_124 : decode cX12_tray 124 = .ok (.putfield 26, 3) := by decide +kernel
theorem dX12_tray_127 : decode cX12_tray 127 = .ok (.aload_n 0, 1) := by decide +kernel
theorem dX12_tray_128 : decode cX12_tray 128 = .ok (.iload_n 2, 1) := by decide +kernel
theorem dX12_tray_129 : decode cX12_tray 129 = .ok (.putfield 30, 3) := by decide +kernel
theorem dX12_tray_132 : decode cX12_tray 132 = .ok (.iconst 0, 1) := by decide +kernel
theorem dX12_tray_133 : decode cX12_tray 133 = .ok (.istore 5, 2) := by decide +kernel
theorem dX12_tray_135 : decode cX12_tray 135 = .ok (.iload 5, 2) := by decide +kernel
theorem dX12_tray_137 : decode cX12_tray 137 = .ok (.bipush 16, 2) := by decide +kernel
theorem dX12_tray_139 : decode cX12_tray 139 = .ok (.if_icmp .ge 39, 3) := by decide +kernel
theorem dX12_tray_142 : decode cX12_tray 142 = .ok (.aload_n 0, 1) := by decide +kernel
theorem dX12_tray_143 : decode cX12_tray 143 = .ok (.getfield 22, 3) := by decide +kernel
theorem dX12_tray_146 : decode cX12_tray 146 = .ok (.iload 5, 2) := by decide +kernel
theorem dX12_tray_148 : decode cX12_tray 148 = .ok (.iload 5, 2) := by decide +kernel
theorem dX12_tray_150 : decode cX12_tray 150 = .ok (.iload_n 1, 1) := by decide +kernel
theorem dX12_tray_151 : decode cX12_tray 151 = .ok (.iload_n 2, 1) := by decide +kernel
theorem dX12_tray_152 : decode cX12_tray 152 = .ok (.imul, 1) := by decide +kernel
theorem dX12_tray_153 : decode cX12_tray 153 = .ok (.if_icmp .ge 17, 3) := by decide +kernel
theorem dX12_tray_156 : decode cX12_tray 156 = .ok (.aload_n 0, 1) := by decide +kernel
theorem dX12_tray_157 : decode cX12_tray 157 = .ok (.getfield 72, 3) := by decide +kernel
theorem dX12_tray_160 : decode cX12_tray 160 = .ok (.iload 5, 2) := by decide +kernel
theorem dX12_tray_162 : decode cX12_tray 162 = .ok (.baload, 1) := by decide +kernel
theorem dX12_tray_163 : decode cX12_tray 163 = .ok (.ifCond .eq 7, 3) := by decide +kernel
theorem dX12_tray_166 : decode cX12_tray 166 = .ok (.iconst 1, 1) := by decide +kernel
theorem dX12_tray_167 : decode cX12_tray 167 = .ok (.goto 4, 3) := by decide +kernel
theorem dX12_tray_170 : decode cX12_tray 170 = .ok (.iconst 0, 1) := by decide +kernel
theorem dX12_tray_171 : decode cX12_tray 171 = .ok (.bastore, 1) := by decide +kernel
theorem dX12_tray_172 : decode cX12_tray 172 = .ok (.iinc 5 1, 3) := by decide +kernel
theorem dX12_tray_175 : decode cX12_tray 175 = .ok (.goto (-40), 3) := by decide +kernel
theorem dX12_tray_178 : decode cX12_tray 178 = .ok (.aload_n 0, 1) := by decide +kernel
theorem dX12_tray_179 : decode cX12_tray 179 = .ok (.invokevirtual 164, 3) := by decide +kernel
theorem dX12_tray_182 : decode cX12_tray 182 = .ok (.aload_n 0, 1) := by decide +kernel
theorem dX12_tray_183 : decode cX12_tray 183 = .ok (.aload_n 0, 1) := by decide +kernel
theorem dX12_tray_184 : decode cX12_tray 184 = .ok (.invokevirtual 211, 3) := by decide +kernel
theorem dX12_tray_187 : decode cX12_tray 187 = .ok (.invokevirtual 215, 3) := by decide +kernel
theorem dX12_tray_190 : decode cX12_tray 190 = .ok (.ireturn, 1) := by decide +kernel
theorem dX12_isWhole_0 : decode cX12_isWhole 0 = .ok (.iconst 0, 1) := by decide +kernel
theorem dX12_isWhole_1 : decode cX12_isWhole 1 = .ok (.istore 4, 2) := by decide +kernel
theorem dX12_isWhole_3 : decode cX12_isWhole 3 = .ok (.aload_n 0, 1) := by decide +kernel
theorem dX12_isWhole_4 : decode cX12_isWhole 4 = .ok (.getfield 72, 3) := by decide +kernel
theorem dX12_isWhole_7 : decode cX12_isWhole 7 = .ok (.iload 4, 2) := by decide +kernel
theorem dX12_isWhole_9 : decode cX12_isWhole 9 = .ok (.baload, 1) := by decide +kernel
theorem dX12_isWhole_10 : decode cX12_isWhole 10 = .ok (.ifCond .eq 9, 3) := by decide +kernel
theorem dX12_isWhole_13 : decode cX12_isWhole 13 = .ok (.iinc 4 1, 3) := by decide +kernel
theorem dX12_isWhole_16 : decode cX12_isWhole 16 = .ok (.goto (-13), 3) := by decide +kernel
theorem dX12_isWhole_19 : decode cX12_isWhole 19 = .ok (.iconst 0, 1) := by decide +kernel
theorem dX12_isWhole_20 : decode cX12_isWhole 20 = .ok (.istore 5, 2) := by decide +kernel
theorem dX12_isWhole_22 : decode cX12_isWhole 22 = .ok (.iload 5, 2) := by decide +kernel
theorem dX12_isWhole_24 : decode cX12_isWhole 24 = .ok (.bipush 16, 2) := by decide +kernel
theorem dX12_isWhole_26 : decode cX12_isWhole 26 = .ok (.if_icmp .ge 28, 3) := by decide +kernel
theorem dX12_isWhole_29 : decode cX12_isWhole 29 = .ok (.aload_n 0, 1) := by decide +kernel
theorem dX12_isWhole_30 : decode cX12_isWhole 30 = .ok (.getfield 75, 3) := by decide +kernel
theorem dX12_isWhole_33 : decode cX12_isWhole 33 = .ok (.iload 5, 2) := by decide +kernel
theorem dX12_isWhole_35 : decode cX12_isWhole 35 = .ok (.iload 5, 2) := by decide +kernel
theorem dX12_isWhole_37 : decode cX12_isWhole 37 = .ok (.iload 4, 2) := by decide +kernel
theorem dX12_isWhole_39 : decode cX12_isWhole 39 = .ok (.if_icmp .ne 7, 3) := by decide +kernel
theorem dX12_isWhole_42 : decode cX12_isWhole 42 = .ok (.iconst 1, 1) := by decide +kernel
theorem dX12_isWhole_43 : decode cX12_isWhole 43 = .ok (.goto 4, 3) := by decide +kernel
theorem dX12_isWhole_46 : decode cX12_isWhole 46 = .ok (.iconst 0, 1) := by decide +kernel
theorem dX12_isWhole_47 : decode cX12_isWhole 47 = .ok (.bastore, 1) := by decide +kernel
theorem dX12_isWhole_48 : decode cX12_isWhole 48 = .ok (.iinc 5 1, 3) := by decide +kernel
theorem dX12_isWhole_51 : decode cX12_isWhole 51 = .ok (.goto (-29), 3) := by decide +kernel
theorem dX12_isWhole_54 : decode cX12_isWhole 54 = .ok (.iconst 0, 1) := by decide +kernel
theorem dX12_isWhole_55 : decode cX12_isWhole 55 = .ok (.istore 5, 2) := by decide +kernel
theorem dX12_isWhole_57 : decode cX12_isWhole 57 = .ok (.iload 5, 2) := by decide +kernel
theorem dX12_isWhole_59 : decode cX12_isWhole 59 = .ok (.bipush 16, 2) := by decide +kernel
theorem dX12_isWhole_61 : decode cX12_isWhole 61 = .ok (.if_icmp .ge 163, 3) := by decide +kernel
theorem dX12_isWhole_64 : decode cX12_isWhole 64 = .ok (.iconst 0, 1) := by decide +kernel
theorem dX12_isWhole_65 : decode cX12_isWhole 65 = .ok (.istore 6, 2) := by decide +kernel
theorem dX12_isWhole_67 : decode cX12_isWhole 67 = .ok (.iload 6, 2) := by decide +kernel
theorem dX12_isWhole_69 : decode cX12_isWhole 69 = .ok (.iload_n 1, 1) := by decide +kernel
theorem dX12_isWhole_70 : decode cX12_isWhole 70 = .ok (.iload_n 2, 1) := by decide +kernel
theorem dX12_isWhole_71 : decode cX12_isWhole 71 = .ok (.imul, 1) := by decide +kernel
theorem dX12_isWhole_72 : decode cX12_isWhole 72 = .ok (.if_icmp .ge 146, 3) := by decide +kernel
theorem dX12_isWhole_75 : decode cX12_isWhole 75 = .ok (.iload 6, 2) := by decide +kernel
theorem dX12_isWhole_77 : decode cX12_isWhole 77 = .ok (.iload_n 2, 1) := by decide +kernel
theorem dX12_isWhole_78 : decode cX12_isWhole 78 = .ok (.if_icmp .lt 15, 3) := by decide +kernel
theorem dX12_isWhole_81 : decode cX12_isWhole 81 = .ok (.aload_n 0, 1) := by decide +kernel
theorem dX12_isWhole_82 : decode cX12_isWhole 82 = .ok (.getfield 75, 3) := by decide +kernel
theorem dX12_isWhole_85 : decode cX12_isWhole 85 = .ok (.iload 6, 2) := by decide +kernel
theorem dX12_isWhole_87 : decode cX12_isWhole 87 = .ok (.iload_n 2, 1) := by decide +kernel
theorem dX12_isWhole_88 : decode cX12_isWhole 88 = .ok (.isub, 1) := by decide +kernel
theorem dX12_isWhole_89 : decode cX12_isWhole 89 = .ok (.baload, 1) := by decide +kernel
theorem dX12_isWhole_90 : decode cX12_isWhole 90 = .ok (.ifCond .ne 22, 3) := by decide +kernel
theorem dX12_isWhole_93 : decode cX12_isWhole 93 = .ok (.iload 6, 2) := by decide +kernel
theorem dX12_isWhole_95 : decode cX12_isWhole 95 = .ok (.iload_n 2, 1) := by decide +kernel
theorem dX12_isWhole_96 : decode cX12_isWhole 96 = .ok (.irem, 1) := by decide +kernel
theorem dX12_isWhole_97 : decode cX12_isWhole 97 = .ok (.ifCond .le 19, 3) := by decide +kernel
theorem dX12_isWhole_100 : decode cX12_isWhole 100 = .ok (.aload_n 0, 1) := by decide +kernel
theorem dX12_isWhole_101 : decode cX12_isWhole 101 = .ok (.getfield 75, 3) := by decide +kernel
theorem dX12_isWhole_104 : decode cX12_isWhole 104 = .ok (.iload 6, 2) := by decide +kernel
theorem dX12_isWhole_106 : decode cX12_isWhole 106 = .ok (.iconst 1, 1) := by decide +kernel
theorem dX12_isWhole_107 : decode cX12_isWhole 107 = .ok (.isub, 1) := by decide +kernel
theorem dX12_isWhole_108 : decode cX12_isWhole 108 = .ok (.baload, 1) := by decide +kernel
theorem dX12_isWhole_109 : decode cX12_isWhole 109 = .ok (.ifCond .eq 7, 3) := by decide +kernel
theorem dX12_isWhole_112 : decode cX12_isWhole 112 = .ok (.iconst 1, 1) := by decide +kernel
theorem dX12_isWhole_113 : decode cX12_isWhole 113 = .ok (.goto 4, 3) := by decide +kernel
theorem dX12_isWhole_116 : decode cX12_isWhole 116 = .ok (.iconst 0, 1) := by decide +kernel
theorem dX12_isWhole_117 : decode cX12_isWhole 117 = .ok (.istore 7, 2) := by decide +kernel
theorem dX12_isWhole_119 : decode cX12_isWhole 119 = .ok (.iload 7, 2) := by decide +kernel
theorem dX12_isWhole_121 : decode cX12_isWhole 121 = .ok (.ifCond .ne 47, 3) := by decide +kernel
theorem dX12_isWhole_124 : decode cX12_isWhole 124 = .ok (.iload 6, 2) := by decide +kernel
theorem dX12_isWhole_126 : decode cX12_isWhole 126 = .ok (.iload_n 2, 1) := by decide +kernel
theorem dX12_isWhole_127 : decode cX12_isWhole 127 = .ok (.irem, 1) := by decide +kernel
theorem dX12_isWhole_128 : decode cX12_isWhole 128 = .ok (.iconst 1, 1) := by decide +kernel
theorem dX12_isWhole_129 : decode cX12_isWhole 129 = .ok (.iadd, 1) := by decide +kernel
theorem dX12_isWhole_130 : decode cX12_isWhole 130 = .ok (.iload_n 2, 1) := by decide +kernel
theorem dX12_isWhole_131 : decode cX12_isWhole 131 = .ok (.if_icmp .ge 15, 3) := by decide +kernel
theorem dX12_isWhole_134 : decode cX12_isWhole 134 = .ok (.aload_n 0, 1) := by decide +kernel
theorem dX12_isWhole_135 : decode cX12_isWhole 135 = .ok (.getfield 75, 3) := by decide +kernel
theorem dX12_isWhole_138 : decode cX12_isWhole 138 = .ok (.iload 6, 2) := by decide +kernel
theorem dX12_isWhole_140 : decode cX12_isWhole 140 = .ok (.iconst 1, 1) := by decide +kernel
theorem dX12_isWhole_141 : decode cX12_isWhole 141 = .ok (.iadd, 1) := by decide +kernel
theorem dX12_isWhole_142 : decode cX12_isWhole 142 = .ok (.baload, 1) := by decide +kernel
theorem dX12_isWhole_143 : decode cX12_isWhole 143 = .ok (.ifCond .ne 25, 3) := by decide +kernel
theorem dX12_isWhole_146 : decode cX12_isWhole 146 = .ok (.iload 6, 2) := by decide +kernel
theorem dX12_isWhole_148 : decode cX12_isWhole 148 = .ok (.iload_n 2, 1) := by decide +kernel
theorem dX12_isWhole_149 : decode cX12_isWhole 149 = .ok (.iadd, 1) := by decide +kernel
theorem dX12_isWhole_150 : decode cX12_isWhole 150 = .ok (.iload_n 1, 1) := by decide +kernel
theorem dX12_isWhole_151 : decode cX12_isWhole 151 = .ok (.iload_n 2, 1) := by decide +kernel
theorem dX12_isWhole_152 : decode cX12_isWhole 152 = .ok (.imul, 1) := by decide +kernel
theorem dX12_isWhole_153 : decode cX12_isWhole 153 = .ok (.if_icmp .ge 19, 3) := by decide +kernel
theorem dX12_isWhole_156 : decode cX12_isWhole 156 = .ok (.aload_n 0, 1) := by decide +kernel
theorem dX12_isWhole_157 : decode cX12_isWhole 157 = .ok (.getfield 75, 3) := by decide +kernel
theorem dX12_isWhole_160 : decode cX12_isWhole 160 = .ok (.iload 6, 2) := by decide +kernel
theorem dX12_isWhole_162 : decode cX12_isWhole 162 = .ok (.iload_n 2, 1) := by decide +kernel
theorem dX12_isWhole_163 : decode cX12_isWhole 163 = .ok (.iadd, 1) := by decide +kernel
theorem dX12_isWhole_164 : decode cX12_isWhole 164 = .ok (.baload, 1) := by decide +kernel
theorem dX12_isWhole_165 : decode cX12_isWhole 165 = .ok (.ifCond .eq 7, 3) := by decide +kernel
theorem dX12_isWhole_168 : decode cX12_isWhole 168 = .ok (.iconst 1, 1) := by decide +kernel
theorem dX12_isWhole_169 : decode cX12_isWhole 169 = .ok (.goto 4, 3) := by decide +kernel
theorem dX12_isWhole_172 : decode cX12_isWhole 172 = .ok (.iconst 0, 1) := by decide +kernel
theorem dX12_isWhole_173 : decode cX12_isWhole 173 = .ok (.istore 7, 2) := by decide +kernel
theorem dX12_isWhole_175 : decode cX12_isWhole 175 = .ok (.aload_n 0, 1) := by decide +kernel
theorem dX12_isWhole_176 : decode cX12_isWhole 176 = .ok (.getfield 75, 3) := by decide +kernel
theorem dX12_isWhole_179 : decode cX12_isWhole 179 = .ok (.iload 6, 2) := by decide +kernel
theorem dX12_isWhole_181 : decode cX12_isWhole 181 = .ok (.aload_n 0, 1) := by decide +kernel
theorem dX12_isWhole_182 : decode cX12_isWhole 182 = .ok (.getfield 75, 3) := by decide +kernel
theorem dX12_isWhole_185 : decode cX12_isWhole 185 = .ok (.iload 6, 2) := by decide +kernel
theorem dX12_isWhole_187 : decode cX12_isWhole 187 = .ok (.baload, 1) := by decide +kernel
theorem dX12_isWhole_188 : decode cX12_isWhole 188 = .ok (.ifCond .ne 18, 3) := by decide +kernel
theorem dX12_isWhole_191 : decode cX12_isWhole 191 = .ok (.iload 7, 2) := by decide +kernel
theorem dX12_isWhole_193 : decode cX12_isWhole 193 = .ok (.ifCond .eq 17, 3) := by decide +kernel
theorem dX12_isWhole_196 : decode cX12_isWhole 196 = .ok (.aload_n 0, 1) := by decide +kernel
theorem dX12_isWhole_197 : decode cX12_isWhole 197 = .ok (.getfield 72, 3) := by decide +kernel
theorem dX12_isWhole_200 : decode cX12_isWhole 200 = .ok (.iload 6, 2) := by decide +kernel
theorem dX12_isWhole_202 : decode cX12_isWhole 202 = .ok (.baload, 1) := by decide +kernel
theorem dX12_isWhole_203 : decode cX12_isWhole 203 = .ok (.ifCond .ne 7, 3) := by decide +kernel
theorem dX12_isWhole_206 : decode cX12_isWhole 206 = .ok (.iconst 1, 1) := by decide +kernel
theorem dX12_isWhole_207 : decode cX12_isWhole 207 = .ok (.goto 4, 3) := by decide +kernel
theorem dX12_isWhole_210 : decode cX12_isWhole 210 = .ok (.iconst 0, 1) := by decide +kernel
theorem dX12_isWhole_211 : decode cX12_isWhole 211 = .ok (.bastore, 1) := by decide +kernel
theorem dX12_isWhole_212 : decode cX12_isWhole 212 = .ok (.iinc 6 1, 3) := by decide +kernel
theorem dX12_isWhole_215 : decode cX12_isWhole 215 = .ok (.goto (-148), 3) := by decide +kernel
theorem dX12_isWhole_218 : decode cX12_isWhole 218 = .ok (.iinc 5 1, 3) := by decide +kernel
theorem dX12_isWhole_221 : decode cX12_isWhole 221 = .ok (.goto (-164), 3) := by decide +kernel
theorem dX12_isWhole_224 : decode cX12_isWhole 224 = .ok (.iconst 0, 1) := by decide +kernel
theorem dX12_isWhole_225 : decode cX12_isWhole 225 = .ok (.istore 5, 2) := by decide +kernel
theorem dX12_isWhole_227 : decode cX12_isWhole 227 = .ok (.iconst 0, 1) := by decide +kernel
theorem dX12_isWhole_228 : decode cX12_isWhole 228 = .ok (.istore 6, 2) := by decide +kernel
theorem dX12_isWhole_230 : decode cX12_isWhole 230 = .ok (.iload 6, 2) := by decide +kernel
theorem dX12_isWhole_232 : decode cX12_isWhole 232 = .ok (.iload_n 1, 1) := by decide +kernel
theorem dX12_isWhole_233 : decode cX12_isWhole 233 = .ok (.iload_n 2, 1) := by decide +kernel
theorem dX12_isWhole_234 : decode cX12_isWhole 234 = .ok (.imul, 1) := by decide +kernel
theorem dX12_isWhole_235 : decode cX12_isWhole 235 = .ok (.if_icmp .ge 29, 3) := by decide +kernel
theorem dX12_isWhole_238 : decode cX12_isWhole 238 = .ok (.iload 5, 2) := by decide +kernel
theorem dX12_isWhole_240 : decode cX12_isWhole 240 = .ok (.aload_n 0, 1) := by decide +kernel
theorem dX12_isWhole_241 : decode cX12_isWhole 241 = .ok (.getfield 75, 3) := by decide +kernel
theorem dX12_isWhole_244 : decode cX12_isWhole 244 = .ok (.iload 6, 2) := by decide +kernel
theorem dX12_isWhole_246 : decode cX12_isWhole 246 = .ok (.baload, 1) := by decide +kernel
theorem dX12_isWhole_247 : decode cX12_isWhole 247 = .ok (.ifCond .eq 7, 3) := by decide +kernel
theorem dX12_isWhole_250 : decode cX12_isWhole 250 = .ok (.iconst 1, 1) := by decide +kernel
theorem dX12_isWhole_251 : decode cX12_isWhole 251 = .ok (.goto 4, 3) := by decide +kernel
theorem dX12_isWhole_254 : decode cX12_isWhole 254 = .ok (.iconst 0, 1) := by decide +kernel
theorem dX12_isWhole_255 : decode cX12_isWhole 255 = .ok (.iadd, 1) := by decide +kernel
theorem dX12_isWhole_256 : decode cX12_isWhole 256 = .ok (.istore 5, 2) := by decide +kernel
theorem dX12_isWhole_258 : decode cX12_isWhole 258 = .ok (.iinc 6 1, 3) := by decide +kernel
theorem dX12_isWhole_261 : decode cX12_isWhole 261 = .ok (.goto (-31), 3) := by decide +kernel
theorem dX12_isWhole_264 : decode cX12_isWhole 264 = .ok (.iload 5, 2) := by decide +kernel
theorem dX12_isWhole_266 : decode cX12_isWhole 266 = .ok (.iload_n 3, 1) := by decide +kernel
theorem dX12_isWhole_267 : decode cX12_isWhole 267 = .ok (.if_icmp .ne 7, 3) := by decide +kernel
theorem dX12_isWhole_270 : decode cX12_isWhole 270 = .ok (.iconst 1, 1) := by decide +kernel
theorem dX12_isWhole_271 : decode cX12_isWhole 271 = .ok (.goto 4, 3) := by decide +kernel
theorem dX12_isWhole_274 : decode cX12_isWhole 274 = .ok (.iconst 0, 1) := by decide +kernel
theorem dX12_isWhole_275 : decode cX12_isWhole 275 = .ok (.ireturn, 1) := by decide +kernel
theorem dX12_valueOf_0 : decode cX12_valueOf 0 = .ok (.iload_n 1, 1) := by decide +kernel
theorem dX12_valueOf_1 : decode cX12_valueOf 1 = .ok (.ifCond .ne 10, 3) := by decide +kernel
theorem dX12_valueOf_4 : decode cX12_valueOf 4 = .ok (.aload_n 0, 1) := by decide +kernel
theorem dX12_valueOf_5 : decode cX12_valueOf 5 = .ok (.getfield 170, 3) := by decide +kernel
theorem dX12_valueOf_8 : decode cX12_valueOf 8 = .ok (.goto 4, 3) := by decide +kernel
theorem dX12_valueOf_11 : decode cX12_valueOf 11 = .ok (.iload_n 1, 1) := by decide +kernel
theorem dX12_valueOf_12 : decode cX12_valueOf 12 = .ok (.ireturn, 1) := by decide +kernel
set_option maxRecDepth 20000 in
theorem ggX12_rankOf_X12_valueOf : GoodIn wsX12_rankOf wsX12_valueOf := goodIn_r _ [6, 1, 7, 8, 9, 10, 11, 12, 13, 14, 15, 16, 17, 18, 19, 20, 21, 22, 23, 24, 25, 26, 27, 28, 29, 30, 31, 32, 33, 34, 35, 36, 37, 38, 39, 40, 41, 42, 43, 44, 45, 46, 47, 48, 49, 50, 51, 52, 53, 54, 55, 56, 57, 58, 59, 60, 61, 62, 63, 64, 65, 66, 67, 68, 69, 70, 71, 72, 73] (by decide +kernel) (by decide +kernel)
set_option maxRecDepth 20000 in
theorem gX12_rankOf_X12_valueOf : GoodIn wsX12_rankOf (wsV RX12 218 RX12 yX12_valueOf wsX12_valueOf) := goodIn_app (goodIn_of _ (by decide +kernel)) ggX12_rankOf_X12_valueOf
theorem dX12_rankOf_0 : decode cX12_rankOf 0 = .ok (.lconst 0, 1) := by decide +kernel
theorem dX12_rankOf_1 : decode cX12_rankOf 1 = .ok (.lstore_n 2, 1) := by decide +kernel
theorem dX12_rankOf_2 : decode cX12_rankOf 2 = .ok (.iconst 0, 1) := by decide +kernel
theorem dX12_rankOf_3 : decode cX12_rankOf 3 = .ok (.istore 4, 2) := by decide +kernel
theorem dX12_rankOf_5 : decode cX12_rankOf 5 = .ok (.iload 4, 2) := by decide +kernel
theorem dX12_rankOf_7 : decode cX12_rankOf 7 = .ok (.aload_n 0, 1) := by decide +kernel
theorem dX12_rankOf_8 : decode cX12_rankOf 8 = .ok (.getfield 170, 3) := by decide +kernel
theorem dX12_rankOf_11 : decode cX12_rankOf 11 = .ok (.if_icmp .ge 77, 3) := by decide +kernel
theorem dX12_rankOf_14 : decode cX12_rankOf 14 = .ok (.iconst 0, 1) := by decide +kernel
theorem dX12_rankOf_15 : decode cX12_rankOf 15 = .ok (.istore 5, 2) := by decide +kernel
theorem dX12_rankOf_17 : decode cX12_rankOf 17 = .ok (.iload 4, 2) := by decide +kernel
theorem dX12_rankOf_19 : decode cX12_rankOf 19 = .ok (.iconst 1, 1) := by decide +kernel
theorem dX12_rankOf_20 : decode cX12_rankOf 20 = .ok (.iadd, 1) := by decide +kernel
theorem dX12_rankOf_21 : decode cX12_rankOf 21 = .ok (.istore 6, 2) := by decide +kernel
theorem dX12_rankOf_23 : decode cX12_rankOf 23 = .ok (.iload 6, 2) := by decide +kernel
theorem dX12_rankOf_25 : decode cX12_rankOf 25 = .ok (.aload_n 0, 1) := by decide +kernel
theorem dX12_rankOf_26 : decode cX12_rankOf 26 = .ok (.getfield 170, 3) := by decide +kernel
theorem dX12_rankOf_29 : decode cX12_rankOf 29 = .ok (.if_icmp .ge 38, 3) := by decide +kernel
theorem dX12_rankOf_32 : decode cX12_rankOf 32 = .ok (.iload 5, 2) := by decide +kernel
theorem dX12_rankOf_34 : decode cX12_rankOf 34 = .ok (.aload_n 0, 1) := by decide +kernel
theorem dX12_rankOf_35 : decode cX12_rankOf 35 = .ok (.aload_n 1, 1) := by decide +kernel
theorem dX12_rankOf_36 : decode cX12_rankOf 36 = .ok (.iload 6, 2) := by decide +kernel
theorem dX12_rankOf_38 : decode cX12_rankOf 38 = .ok (.iaload, 1) := by decide +kernel
theorem dX12_rankOf_39 : decode cX12_rankOf 39 = .ok (.invokevirtual 218, 3) := by decide +kernel
theorem dX12_rankOf_42 : decode cX12_rankOf 42 = .ok (.aload_n 0, 1) := by decide +kernel
theorem dX12_rankOf_43 : decode cX12_rankOf 43 = .ok (.aload_n 1, 1) := by decide +kernel
theorem dX12_rankOf_44 : decode cX12_rankOf 44 = .ok (.iload 4, 2) := by decide +kernel
theorem dX12_rankOf_46 : decode cX12_rankOf 46 = .ok (.iaload, 1) := by decide +kernel
theorem dX12_rankOf_47 : decode cX12_rankOf 47 = .ok (.invokevirtual 218, 3) := by decide +kernel
theorem dX12_rankOf_50 : decode cX12_rankOf 50 = .ok (.if_icmp .ge 7, 3) := by decide +kernel
theorem dX12_rankOf_53 : decode cX12_rankOf 53 = .ok (.iconst 1, 1) := by decide +kernel
theorem dX12_rankOf_54 : decode cX12_rankOf 54 = .ok (.goto 4, 3) := by decide +kernel
theorem dX12_rankOf_57 : decode cX12_rankOf 57 = .ok (.iconst 0, 1) := by decide +kernel
theorem dX12_rankOf_58 : decode cX12_rankOf 58 = .ok (.iadd, 1) := by decide +kernel
theorem dX12_rankOf_59 : decode cX12_rankOf 59 = .ok (.istore 5, 2) := by decide +kernel
theorem dX12_rankOf_61 : decode cX12_rankOf 61 = .ok (.iinc 6 1, 3) := by decide +kernel
theorem dX12_rankOf_64 : decode cX12_rankOf 64 = .ok (.goto (-41), 3) := by decide +kernel
theorem dX12_rankOf_67 : decode cX12_rankOf 67 = .ok (.lload_n 2, 1) := by decide +kernel
theorem dX12_rankOf_68 : decode cX12_rankOf 68 = .ok (.aload_n 0, 1) := by decide +kernel
theorem dX12_rankOf_69 : decode cX12_rankOf 69 = .ok (.getfield 170, 3) := by decide +kernel
theorem dX12_rankOf_72 : decode cX12_rankOf 72 = .ok (.iload 4, 2) := by decide +kernel
theorem dX12_rankOf_74 : decode cX12_rankOf 74 = .ok (.isub, 1) := by decide +kernel
theorem dX12_rankOf_75 : decode cX12_rankOf 75 = .ok (.i2l, 1) := by decide +kernel
theorem dX12_rankOf_76 : decode cX12_rankOf 76 = .ok (.lmul, 1) := by decide +kernel
theorem dX12_rankOf_77 : decode cX12_rankOf 77 = .ok (.iload 5, 2) := by decide +kernel
theorem dX12_rankOf_79 : decode cX12_rankOf 79 = .ok (.i2l, 1) := by decide +kernel
theorem dX12_rankOf_80 : decode cX12_rankOf 80 = .ok (.ladd, 1) := by decide +kernel
theorem dX12_rankOf_81 : decode cX12_rankOf 81 = .ok (.lstore_n 2, 1) := by decide +kernel
theorem dX12_rankOf_82 : decode cX12_rankOf 82 = .ok (.iinc 4 1, 3) := by decide +kernel
theorem dX12_rankOf_85 : decode cX12_rankOf 85 = .ok (.goto (-80), 3) := by decide +kernel
theorem dX12_rankOf_88 : decode cX12_rankOf 88 = .ok (.lload_n 2, 1) := by decide +kernel
theorem dX12_rankOf_89 : decode cX12_rankOf 89 = .ok (.lreturn, 1) := by decide +kernel
theorem dX12_arrangements_0 : decode cX12_arrangements 0 = .ok (.lconst 1, 1) := by decide +kernel
theorem dX12_arrangements_1 : decode cX12_arrangements 1 = .ok (.lstore_n 1, 1) := by decide +kernel
theorem dX12_arrangements_2 : decode cX12_arrangements 2 = .ok (.iconst 2, 1) := by decide +kernel
theorem dX12_arrangements_3 : decode cX12_arrangements 3 = .ok (.istore_n 3, 1) := by decide +kernel
theorem dX12_arrangements_4 : decode cX12_arrangements 4 = .ok (.iload_n 3, 1) := by decide +kernel
theorem dX12_arrangements_5 : decode cX12_arrangements 5 = .ok (.aload_n 0, 1) := by decide +kernel
theorem dX12_arrangements_6 : decode cX12_arrangements 6 = .ok (.getfield 170, 3) := by decide +kernel
theorem dX12_arrangements_9 : decode cX12_arrangements 9 = .ok (.if_icmp .gt 14, 3) := by decide +kernel
theorem dX12_arrangements_12 : decode cX12_arrangements 12 = .ok (.lload_n 1, 1) := by decide +kernel
theorem dX12_arrangements_13 : decode cX12_arrangements 13 = .ok (.iload_n 3, 1) := by decide +kernel
theorem dX12_arrangements_14 : decode cX12_arrangements 14 = .ok (.i2l, 1) := by decide +kernel
theorem dX12_arrangements_15 : decode cX12_arrangements 15 = .ok (.lmul, 1) := by decide +kernel
theorem dX12_arrangements_16 : decode cX12_arrangements 16 = .ok (.lstore_n 1, 1) := by decide +kernel
theorem dX12_arrangements_17 : decode cX12_arrangements 17 = .ok (.iinc 3 1, 3) := by decide +kernel
theorem dX12_arrangements_20 : decode cX12_arrangements 20 = .ok (.goto (-16), 3) := by decide +kernel
theorem dX12_arrangements_23 : decode cX12_arrangements 23 = .ok (.lload_n 1, 1) := by decide +kernel
theorem dX12_arrangements_24 : decode cX12_arrangements 24 = .ok (.lreturn, 1) := by decide +kernel
set_option maxRecDepth 20000 in
theorem ggX12_lays_X12_arrangements : GoodIn wsX12_lays wsX12_arrangements := goodIn_r _ [7, 1, 8, 9, 10, 11, 12, 13, 14, 15, 16, 17, 18, 19, 20, 21, 22, 23, 24, 25, 26, 27, 28, 29, 30, 31, 32, 33, 34, 35, 36, 37, 38, 39, 40, 41, 42, 43, 44, 45, 46, 47, 48, 49, 50, 51, 52, 53, 54, 55, 56, 57, 58, 59, 60, 61, 62, 63, 64, 65, 66, 67, 68, 69, 70, 71, 72, 73, 74] (by decide +kernel) (by decide +kernel)
set_option maxRecDepth 20000 in
theorem gX12_lays_X12_arrangements : GoodIn wsX12_lays (wsV RX12 221 RX12 yX12_arrangements wsX12_arrangements) := goodIn_app (goodIn_of _ (by decide +kernel)) ggX12_lays_X12_arrangements
theorem dX12_lays_0 : decode cX12_lays 0 = .ok (.lload_n 1, 1) := by decide +kernel
theorem dX12_lays_1 : decode cX12_lays 1 = .ok (.lstore 4, 2) := by decide +kernel
theorem dX12_lays_3 : decode cX12_lays 3 = .ok (.aload_n 0, 1) := by decide +kernel
theorem dX12_lays_4 : decode cX12_lays 4 = .ok (.invokevirtual 221, 3) := by decide +kernel
theorem dX12_lays_7 : decode cX12_lays 7 = .ok (.lstore 6, 2) := by decide +kernel
theorem dX12_lays_9 : decode cX12_lays 9 = .ok (.iconst 0, 1) := by decide +kernel
theorem dX12_lays_10 : decode cX12_lays 10 = .ok (.istore 8, 2) := by decide +kernel
theorem dX12_lays_12 : decode cX12_lays 12 = .ok (.iload 8, 2) := by decide +kernel
theorem dX12_lays_14 : decode cX12_lays 14 = .ok (.aload_n 0, 1) := by decide +kernel
theorem dX12_lays_15 : decode cX12_lays 15 = .ok (.getfield 170, 3) := by decide +kernel
theorem dX12_lays_18 : decode cX12_lays 18 = .ok (.if_icmp .ge 17, 3) := by decide +kernel
theorem dX12_lays_21 : decode cX12_lays 21 = .ok (.aload_n 0, 1) := by decide +kernel
theorem dX12_lays_22 : decode cX12_lays 22 = .ok (.getfield 78, 3) := by decide +kernel
theorem dX12_lays_25 : decode cX12_lays 25 = .ok (.iload 8, 2) := by decide +kernel
theorem dX12_lays_27 : decode cX12_lays 27 = .ok (.iconst 0, 1) := by decide +kernel
theorem dX12_lays_28 : decode cX12_lays 28 = .ok (.bastore, 1) := by decide +kernel
theorem dX12_lays_29 : decode cX12_lays 29 = .ok (.iinc 8 1, 3) := by decide +kernel
theorem dX12_lays_32 : decode cX12_lays 32 = .ok (.goto (-20), 3) := by decide +kernel
theorem dX12_lays_35 : decode cX12_lays 35 = .ok (.iconst 0, 1) := by decide +kernel
theorem dX12_lays_36 : decode cX12_lays 36 = .ok (.istore 8, 2) := by decide +kernel
theorem dX12_lays_38 : decode cX12_lays 38 = .ok (.iload 8, 2) := by decide +kernel
theorem dX12_lays_40 : decode cX12_lays 40 = .ok (.aload_n 0, 1) := by decide +kernel
theorem dX12_lays_41 : decode cX12_lays 41 = .ok (.getfield 170, 3) := by decide +kernel
theorem dX12_lays_44 : decode cX12_lays 44 = .ok (.if_icmp .ge 100, 3) := by decide +kernel
theorem dX12_lays_47 : decode cX12_lays 47 = .ok (.lload 6, 2) := by decide +kernel
theorem dX12_lays_49 : decode cX12_lays 49 = .ok (.aload_n 0, 1) := by decide +kernel
theorem dX12_lays_50 : decode cX12_lays 50 = .ok (.getfield 170, 3) := by decide +kernel
theorem dX12_lays_53 : decode cX12_lays 53 = .ok (.iload 8, 2) := by decide +kernel
theorem dX12_lays_55 : decode cX12_lays 55 = .ok (.isub, 1) := by decide +kernel
theorem dX12_lays_56 : decode cX12_lays 56 = .ok (.i2l, 1) := by decide +kernel
theorem dX12_lays_57 : decode cX12_lays 57 = .ok (.ldiv, 1) := by decide +kernel
theorem dX12_lays_58 : decode cX12_lays 58 = .ok (.lstore 6, 2) := by decide +kernel
theorem dX12_lays_60 : decode cX12_lays 60 = .ok (.lload 4, 2) := by decide +kernel
theorem dX12_lays_62 : decode cX12_lays 62 = .ok (.lload 6, 2) := by decide +kernel
theorem dX12_lays_64 : decode cX12_lays 64 = .ok (.ldiv, 1) := by decide +kernel
theorem dX12_lays_65 : decode cX12_lays 65 = .ok (.l2i, 1) := by decide +kernel
theorem dX12_lays_66 : decode cX12_lays 66 = .ok (.istore 9, 2) := by decide +kernel
theorem dX12_lays_68 : decode cX12_lays 68 = .ok (.lload 4, 2) := by decide +kernel
theorem dX12_lays_70 : decode cX12_lays 70 = .ok (.lload 6, 2) := by decide +kernel
theorem dX12_lays_72 : decode cX12_lays 72 = .ok (.lrem, 1) := by decide +kernel
theorem dX12_lays_73 : decode cX12_lays 73 = .ok (.lstore 4, 2) := by decide +kernel
theorem dX12_lays_75 : decode cX12_lays 75 = .ok (.iconst 0, 1) := by decide +kernel
theorem dX12_lays_76 : decode cX12_lays 76 = .ok (.istore 10, 2) := by decide +kernel
theorem dX12_lays_78 : decode cX12_lays 78 = .ok (.iload 9, 2) := by decide +kernel
theorem dX12_lays_80 : decode cX12_lays 80 = .ok (.ifCond .lt 34, 3) := by decide +kernel
theorem dX12_lays_83 : decode cX12_lays 83 = .ok (.iinc 10 1, 3) := by decide +kernel
theorem dX12_lays_86 : decode cX12_lays 86 = .ok (.iload 9, 2) := by decide +kernel
theorem dX12_lays_88 : decode cX12_lays 88 = .ok (.aload_n 0, 1) := by decide +kernel
theorem dX12_lays_89 : decode cX12_lays 89 = .ok (.getfield 78, 3) := by decide +kernel
theorem dX12_lays_92 : decode cX12_lays 92 = .ok (.iload 10, 2) := by decide +kernel
theorem dX12_lays_94 : decode cX12_lays 94 = .ok (.aload_n 0, 1) := by decide +kernel
theorem dX12_lays_95 : decode cX12_lays 95 = .ok (.getfield 170, 3) := by decide +kernel
theorem dX12_lays_98 : decode cX12_lays 98 = .ok (.irem, 1) := by decide +kernel
theorem dX12_lays_99 : decode cX12_lays 99 = .ok (.baload, 1) := by decide +kernel
theorem dX12_lays_100 : decode cX12_lays 100 = .ok (.ifCond .eq 7, 3) := by decide +kernel
theorem dX12_lays_103 : decode cX12_lays 103 = .ok (.iconst 0, 1) := by decide +kernel
theorem dX12_lays_104 : decode cX12_lays 104 = .ok (.goto 4, 3) := by decide +kernel
theorem dX12_lays_107 : decode cX12_lays 107 = .ok (.iconst 1, 1) := by decide +kernel
theorem dX12_lays_108 : decode cX12_lays 108 = .ok (.isub, 1) := by decide +kernel
theorem dX12_lays_109 : decode cX12_lays 109 = .ok (.istore 9, 2) := by decide +kernel
theorem dX12_lays_111 : decode cX12_lays 111 = .ok (.goto (-33), 3) := by decide +kernel
theorem dX12_lays_114 : decode cX12_lays 114 = .ok (.aload_n 0, 1) := by decide +kernel
theorem dX12_lays_115 : decode cX12_lays 115 = .ok (.getfield 78, 3) := by decide +kernel
theorem dX12_lays_118 : decode cX12_lays 118 = .ok (.iload 10, 2) := by decide +kernel
theorem dX12_lays_120 : decode cX12_lays 120 = .ok (.aload_n 0, 1) := by decide +kernel
theorem dX12_lays_121 : decode cX12_lays 121 = .ok (.getfield 170, 3) := by decide +kernel
theorem dX12_lays_124 : decode cX12_lays 124 = .ok (.irem, 1) := by decide +kernel
theorem dX12_lays_125 : decode cX12_lays 125 = .ok (.iconst 1, 1) := by decide +kernel
theorem dX12_lays_126 : decode cX12_lays 126 = .ok (.bastore, 1) := by decide +kernel
theorem dX12_lays_127 : decode cX12_lays 127 = .ok (.aload_n 3, 1) := by decide +kernel
theorem dX12_lays_128 : decode cX12_lays 128 = .ok (.iload 8, 2) := by decide +kernel
theorem dX12_lays_130 : decode cX12_lays 130 = .ok (.iload 10, 2) := by decide +kernel
theorem dX12_lays_132 : decode cX12_lays 132 = .ok (.aload_n 0, 1) := by decide +kernel
theorem dX12_lays_133 : decode cX12_lays 133 = .ok (.getfield 170, 3) := by decide +kernel
theorem dX12_lays_136 : decode cX12_lays 136 = .ok (.irem, 1) := by decide +kernel
theorem dX12_lays_137 : decode cX12_lays 137 = .ok (.iastore, 1) := by decide +kernel
theorem dX12_lays_138 : decode cX12_lays 138 = .ok (.iinc 8 1, 3) := by decide +kernel
theorem dX12_lays_141 : decode cX12_lays 141 = .ok (.goto (-103), 3) := by decide +kernel
theorem dX12_lays_144 : decode cX12_lays 144 = .ok (.return_, 1) := by decide +kernel
theorem dX12_displaced_0 : decode cX12_displaced 0 = .ok (.iconst 0, 1) := by decide +kernel
theorem dX12_displaced_1 : decode cX12_displaced 1 = .ok (.istore_n 2, 1) := by decide +kernel
theorem dX12_displaced_2 : decode cX12_displaced 2 = .ok (.iconst 0, 1) := by decide +kernel
theorem dX12_displaced_3 : decode cX12_displaced 3 = .ok (.istore_n 3, 1) := by decide +kernel
theorem dX12_displaced_4 : decode cX12_displaced 4 = .ok (.iload_n 3, 1) := by decide +kernel
theorem dX12_displaced_5 : decode cX12_displaced 5 = .ok (.aload_n 0, 1) := by decide +kernel
theorem dX12_displaced_6 : decode cX12_displaced 6 = .ok (.getfield 170, 3) := by decide +kernel
theorem dX12_displaced_9 : decode cX12_displaced 9 = .ok (.if_icmp .ge 54, 3) := by decide +kernel
theorem dX12_displaced_12 : decode cX12_displaced 12 = .ok (.aload_n 1, 1) := by decide +kernel
theorem dX12_displaced_13 : decode cX12_displaced 13 = .ok (.iload_n 3, 1) := by decide +kernel
theorem dX12_displaced_14 : decode cX12_displaced 14 = .ok (.iaload, 1) := by decide +kernel
theorem dX12_displaced_15 : decode cX12_displaced 15 = .ok (.istore 4, 2) := by decide +kernel
theorem dX12_displaced_17 : decode cX12_displaced 17 = .ok (.iload_n 2, 1) := by decide +kernel
theorem dX12_displaced_18 : decode cX12_displaced 18 = .ok (.iload 4, 2) := by decide +kernel
theorem dX12_displaced_20 : decode cX12_displaced 20 = .ok (.ifCond .le 34, 3) := by decide +kernel
theorem dX12_displaced_23 : decode cX12_displaced 23 = .ok (.aload_n 0, 1) := by decide +kernel
theorem dX12_displaced_24 : decode cX12_displaced 24 = .ok (.getfield 42, 3) := by decide +kernel
theorem dX12_displaced_27 : decode cX12_displaced 27 = .ok (.iload 4, 2) := by decide +kernel
theorem dX12_displaced_29 : decode cX12_displaced 29 = .ok (.baload, 1) := by decide +kernel
theorem dX12_displaced_30 : decode cX12_displaced 30 = .ok (.ifCond .ne 24, 3) := by decide +kernel
theorem dX12_displaced_33 : decode cX12_displaced 33 = .ok (.aload_n 0, 1) := by decide +kernel
theorem dX12_displaced_34 : decode cX12_displaced 34 = .ok (.getfield 36, 3) := by decide +kernel
theorem dX12_displaced_37 : decode cX12_displaced 37 = .ok (.iload 4, 2) := by decide +kernel
theorem dX12_displaced_39 : decode cX12_displaced 39 = .ok (.iaload, 1) := by decide +kernel
theorem dX12_displaced_40 : decode cX12_displaced 40 = .ok (.iload_n 3, 1) := by decide +kernel
theorem dX12_displaced_41 : decode cX12_displaced 41 = .ok (.if_icmp .eq 13, 3) := by decide +kernel
theorem dX12_displaced_44 : decode cX12_displaced 44 = .ok (.aload_n 0, 1) := by decide +kernel
theorem dX12_displaced_45 : decode cX12_displaced 45 = .ok (.getfield 39, 3) := by decide +kernel
theorem dX12_displaced_48 : decode cX12_displaced 48 = .ok (.iload 4, 2) := by decide +kernel
theorem dX12_displaced_50 : decode cX12_displaced 50 = .ok (.iaload, 1) := by decide +kernel
theorem dX12_displaced_51 : decode cX12_displaced 51 = .ok (.goto 4, 3) := by decide +kernel
theorem dX12_displaced_54 : decode cX12_displaced 54 = .ok (.iconst 0, 1) := by decide +kernel
theorem dX12_displaced_55 : decode cX12_displaced 55 = .ok (.iadd, 1) := by decide +kernel
theorem dX12_displaced_56 : decode cX12_displaced 56 = .ok (.istore_n 2, 1) := by decide +kernel
theorem dX12_displaced_57 : decode cX12_displaced 57 = .ok (.iinc 3 1, 3) := by decide +kernel
theorem dX12_displaced_60 : decode cX12_displaced 60 = .ok (.goto (-56), 3) := by decide +kernel
theorem dX12_displaced_63 : decode cX12_displaced 63 = .ok (.iload_n 2, 1) := by decide +kernel
theorem dX12_displaced_64 : decode cX12_displaced 64 = .ok (.ireturn, 1) := by decide +kernel
theorem dX12_ways_0 : decode cX12_ways 0 = .ok (.iconst 0, 1) := by decide +kernel
theorem dX12_ways_1 : decode cX12_ways 1 = .ok (.istore_n 2, 1) := by decide +kernel
theorem dX12_ways_2 : decode cX12_ways 2 = .ok (.iconst 0, 1) := by decide +kernel
theorem dX12_ways_3 : decode cX12_ways 3 = .ok (.istore_n 3, 1) := by decide +kernel
theorem dX12_ways_4 : decode cX12_ways 4 = .ok (.iload_n 3, 1) := by decide +kernel
theorem dX12_ways_5 : decode cX12_ways 5 = .ok (.aload_n 0, 1) := by decide +kernel
theorem dX12_ways_6 : decode cX12_ways 6 = .ok (.getfield 170, 3) := by decide +kernel
theorem dX12_ways_9 : decode cX12_ways 9 = .ok (.if_icmp .ge 61, 3) := by decide +kernel
theorem dX12_ways_12 : decode cX12_ways 12 = .ok (.aload_n 1, 1) := by decide +kernel
theorem dX12_ways_13 : decode cX12_ways 13 = .ok (.iload_n 3, 1) := by decide +kernel
theorem dX12_ways_14 : decode cX12_ways 14 = .ok (.iaload, 1) := by decide +kernel
theorem dX12_ways_15 : decode cX12_ways 15 = .ok (.istore 4, 2) := by decide +kernel
theorem dX12_ways_17 : decode cX12_ways 17 = .ok (.iload_n 2, 1) := by decide +kernel
theorem dX12_ways_18 : decode cX12_ways 18 = .ok (.iload 4, 2) := by decide +kernel
theorem dX12_ways_20 : decode cX12_ways 20 = .ok (.ifCond .le 41, 3) := by decide +kernel
theorem dX12_ways_23 : decode cX12_ways 23 = .ok (.aload_n 0, 1) := by decide +kernel
theorem dX12_ways_24 : decode cX12_ways 24 = .ok (.getfield 42, 3) := by decide +kernel
theorem dX12_ways_27 : decode cX12_ways 27 = .ok (.iload 4, 2) := by decide +kernel
theorem dX12_ways_29 : decode cX12_ways 29 = .ok (.baload, 1) := by decide +kernel
theorem dX12_ways_30 : decode cX12_ways 30 = .ok (.ifCond .ne 31, 3) := by decide +kernel
theorem dX12_ways_33 : decode cX12_ways 33 = .ok (.aload_n 0, 1) := by decide +kernel
theorem dX12_ways_34 : decode cX12_ways 34 = .ok (.getfield 39, 3) := by decide +kernel
theorem dX12_ways_37 : decode cX12_ways 37 = .ok (.iload 4, 2) := by decide +kernel
theorem dX12_ways_39 : decode cX12_ways 39 = .ok (.iaload, 1) := by decide +kernel
theorem dX12_ways_40 : decode cX12_ways 40 = .ok (.aload_n 0, 1) := by decide +kernel
theorem dX12_ways_41 : decode cX12_ways 41 = .ok (.getfield 19, 3) := by decide +kernel
theorem dX12_ways_44 : decode cX12_ways 44 = .ok (.bipush 16, 2) := by decide +kernel
theorem dX12_ways_46 : decode cX12_ways 46 = .ok (.iload_n 3, 1) := by decide +kernel
theorem dX12_ways_47 : decode cX12_ways 47 = .ok (.imul, 1) := by decide +kernel
theorem dX12_ways_48 : decode cX12_ways 48 = .ok (.aload_n 0, 1) := by decide +kernel
theorem dX12_ways_49 : decode cX12_ways 49 = .ok (.getfield 36, 3) := by decide +kernel
theorem dX12_ways_52 : decode cX12_ways 52 = .ok (.iload 4, 2) := by decide +kernel
theorem dX12_ways_54 : decode cX12_ways 54 = .ok (.iaload, 1) := by decide +kernel
theorem dX12_ways_55 : decode cX12_ways 55 = .ok (.iadd, 1) := by decide +kernel
theorem dX12_ways_56 : decode cX12_ways 56 = .ok (.iaload, 1) := by decide +kernel
theorem dX12_ways_57 : decode cX12_ways 57 = .ok (.imul, 1) := by decide +kernel
theorem dX12_ways_58 : decode cX12_ways 58 = .ok (.goto 4, 3) := by decide +kernel
theorem dX12_ways_61 : decode cX12_ways 61 = .ok (.iconst 0, 1) := by decide +kernel
theorem dX12_ways_62 : decode cX12_ways 62 = .ok (.iadd, 1) := by decide +kernel
theorem dX12_ways_63 : decode cX12_ways 63 = .ok (.istore_n 2, 1) := by decide +kernel
theorem dX12_ways_64 : decode cX12_ways 64 = .ok (.iinc 3 1, 3) := by decide +kernel
theorem dX12_ways_67 : decode cX12_ways 67 = .ok (.goto (-63), 3) := by decide +kernel
theorem dX12_ways_70 : decode cX12_ways 70 = .ok (.iload_n 2, 1) := by decide +kernel
theorem dX12_ways_71 : decode cX12_ways 71 = .ok (.ireturn, 1) := by decide +kernel
theorem dX12_adds_0 : decode cX12_adds 0 = .ok (.iconst 0, 1) := by decide +kernel
theorem dX12_adds_1 : decode cX12_adds 1 = .ok (.istore 4, 2) := by decide +kernel
theorem dX12_adds_3 : decode cX12_adds 3 = .ok (.iload_n 2, 1) := by decide +kernel
theorem dX12_adds_4 : decode cX12_adds 4 = .ok (.ifCond .eq 10, 3) := by decide +kernel
theorem dX12_adds_7 : decode cX12_adds 7 = .ok (.aload_n 0, 1) := by decide +kernel
theorem dX12_adds_8 : decode cX12_adds 8 = .ok (.getfield 30, 3) := by decide +kernel
theorem dX12_adds_11 : decode cX12_adds 11 = .ok (.goto 7, 3) := by decide +kernel
theorem dX12_adds_14 : decode cX12_adds 14 = .ok (.aload_n 0, 1) := by decide +kernel
theorem dX12_adds_15 : decode cX12_adds 15 = .ok (.getfield 26, 3) := by decide +kernel
theorem dX12_adds_18 : decode cX12_adds 18 = .ok (.istore 5, 2) := by decide +kernel
theorem dX12_adds_20 : decode cX12_adds 20 = .ok (.iconst 0, 1) := by decide +kernel
theorem dX12_adds_21 : decode cX12_adds 21 = .ok (.istore 6, 2) := by decide +kernel
theorem dX12_adds_23 : decode cX12_adds 23 = .ok (.iload 6, 2) := by decide +kernel
theorem dX12_adds_25 : decode cX12_adds 25 = .ok (.iload 5, 2) := by decide +kernel
theorem dX12_adds_27 : decode cX12_adds 27 = .ok (.if_icmp .ge 158, 3) := by decide +kernel
theorem dX12_adds_30 : decode cX12_adds 30 = .ok (.iload_n 2, 1) := by decide +kernel
theorem dX12_adds_31 : decode cX12_adds 31 = .ok (.ifCond .eq 15, 3) := by decide +kernel
theorem dX12_adds_34 : decode cX12_adds 34 = .ok (.iload_n 3, 1) := by decide +kernel
theorem dX12_adds_35 : decode cX12_adds 35 = .ok (.aload_n 0, 1) := by decide +kernel
theorem dX12_adds_36 : decode cX12_adds 36 = .ok (.getfield 30, 3) := by decide +kernel
theorem dX12_adds_39 : decode cX12_adds 39 = .ok (.imul, 1) := by decide +kernel
theorem dX12_adds_40 : decode cX12_adds 40 = .ok (.iload 6, 2) := by decide +kernel
theorem dX12_adds_42 : decode cX12_adds 42 = .ok (.iadd, 1) := by decide +kernel
theorem dX12_adds_43 : decode cX12_adds 43 = .ok (.goto 12, 3) := by decide +kernel
theorem dX12_adds_46 : decode cX12_adds 46 = .ok (.iload 6, 2) := by decide +kernel
theorem dX12_adds_48 : decode cX12_adds 48 = .ok (.aload_n 0, 1) := by decide +kernel
theorem dX12_adds_49 : decode cX12_adds 49 = .ok (.getfield 30, 3) := by decide +kernel
theorem dX12_adds_52 : decode cX12_adds 52 = .ok (.imul, 1) := by decide +kernel
theorem dX12_adds_53 : decode cX12_adds 53 = .ok (.iload_n 3, 1) := by decide +kernel
theorem dX12_adds_54 : decode cX12_adds 54 = .ok (.iadd, 1) := by decide +kernel
theorem dX12_adds_55 : decode cX12_adds 55 = .ok (.istore 7, 2) := by decide +kernel
theorem dX12_adds_57 : decode cX12_adds 57 = .ok (.aload_n 0, 1) := by decide +kernel
theorem dX12_adds_58 : decode cX12_adds 58 = .ok (.getfield 22, 3) := by decide +kernel
theorem dX12_adds_61 : decode cX12_adds 61 = .ok (.iload 7, 2) := by decide +kernel
theorem dX12_adds_63 : decode cX12_adds 63 = .ok (.baload, 1) := by decide +kernel
theorem dX12_adds_64 : decode cX12_adds 64 = .ok (.ifCond .eq 5, 3) := by decide +kernel
theorem dX12_adds_67 : decode cX12_adds 67 = .ok (.iconst 0, 1) := by decide +kernel
theorem dX12_adds_68 : decode cX12_adds 68 = .ok (.ireturn, 1) := by decide +kernel
theorem dX12_adds_69 : decode cX12_adds 69 = .ok (.aload_n 1, 1) := by decide +kernel
theorem dX12_adds_70 : decode cX12_adds 70 = .ok (.aload_n 0, 1) := by decide +kernel
theorem dX12_adds_71 : decode cX12_adds 71 = .ok (.getfield 13, 3) := by decide +kernel
theorem dX12_adds_74 : decode cX12_adds 74 = .ok (.iload 7, 2) := by decide +kernel
theorem dX12_adds_76 : decode cX12_adds 76 = .ok (.iaload, 1) := by decide +kernel
theorem dX12_adds_77 : decode cX12_adds 77 = .ok (.iaload, 1) := by decide +kernel
theorem dX12_adds_78 : decode cX12_adds 78 = .ok (.istore 8, 2) := by decide +kernel
theorem dX12_adds_80 : decode cX12_adds 80 = .ok (.aload_n 0, 1) := by decide +kernel
theorem dX12_adds_81 : decode cX12_adds 81 = .ok (.getfield 7, 3) := by decide +kernel
theorem dX12_adds_84 : decode cX12_adds 84 = .ok (.aload_n 0, 1) := by decide +kernel
theorem dX12_adds_85 : decode cX12_adds 85 = .ok (.getfield 36, 3) := by decide +kernel
theorem dX12_adds_88 : decode cX12_adds 88 = .ok (.iload 8, 2) := by decide +kernel
theorem dX12_adds_90 : decode cX12_adds 90 = .ok (.iaload, 1) := by decide +kernel
theorem dX12_adds_91 : decode cX12_adds 91 = .ok (.iaload, 1) := by decide +kernel
theorem dX12_adds_92 : decode cX12_adds 92 = .ok (.istore 9, 2) := by decide +kernel
theorem dX12_adds_94 : decode cX12_adds 94 = .ok (.iload 8, 2) := by decide +kernel
theorem dX12_adds_96 : decode cX12_adds 96 = .ok (.ifCond .le 83, 3) := by decide +kernel
theorem dX12_adds_99 : decode cX12_adds 99 = .ok (.aload_n 0, 1) := by decide +kernel
theorem dX12_adds_100 : decode cX12_adds 100 = .ok (.getfield 42, 3) := by decide +kernel
theorem dX12_adds_103 : decode cX12_adds 103 = .ok (.iload 8, 2) := by decide +kernel
theorem dX12_adds_105 : decode cX12_adds 105 = .ok (.baload, 1) := by decide +kernel
theorem dX12_adds_106 : decode cX12_adds 106 = .ok (.ifCond .ne 73, 3) := by decide +kernel
theorem dX12_adds_109 : decode cX12_adds 109 = .ok (.iload_n 2, 1) := by decide +kernel
theorem dX12_adds_110 : decode cX12_adds 110 = .ok (.ifCond .eq 13, 3) := by decide +kernel
theorem dX12_adds_113 : decode cX12_adds 113 = .ok (.iload 9, 2) := by decide +kernel
theorem dX12_adds_115 : decode cX12_adds 115 = .ok (.aload_n 0, 1) := by decide +kernel
theorem dX12_adds_116 : decode cX12_adds 116 = .ok (.getfield 30, 3) := by decide +kernel
theorem dX12_adds_119 : decode cX12_adds 119 = .ok (.idiv, 1) := by decide +kernel
theorem dX12_adds_120 : decode cX12_adds 120 = .ok (.goto 10, 3) := by decide +kernel
theorem dX12_adds_123 : decode cX12_adds 123 = .ok (.iload 9, 2) := by decide +kernel
theorem dX12_adds_125 : decode cX12_adds 125 = .ok (.aload_n 0, 1) := by decide +kernel
theorem dX12_adds_126 : decode cX12_adds 126 = .ok (.getfield 30, 3) := by decide +kernel
theorem dX12_adds_129 : decode cX12_adds 129 = .ok (.irem, 1) := by decide +kernel
theorem dX12_adds_130 : decode cX12_adds 130 = .ok (.iload_n 3, 1) := by decide +kernel
theorem dX12_adds_131 : decode cX12_adds 131 = .ok (.if_icmp .ne 48, 3) := by decide +kernel
theorem dX12_adds_134 : decode cX12_adds 134 = .ok (.aload_n 0, 1) := by decide +kernel
theorem dX12_adds_135 : decode cX12_adds 135 = .ok (.getfield 81, 3) := by decide +kernel
theorem dX12_adds_138 : decode cX12_adds 138 = .ok (.iload 4, 2) := by decide +kernel
theorem dX12_adds_140 : decode cX12_adds 140 = .ok (.aload_n 0, 1) := by decide +kernel
theorem dX12_adds_141 : decode cX12_adds 141 = .ok (.getfield 39, 3) := by decide +kernel
theorem dX12_adds_144 : decode cX12_adds 144 = .ok (.iload 8, 2) := by decide +kernel
theorem dX12_adds_146 : decode cX12_adds 146 = .ok (.iaload, 1) := by decide +kernel
theorem dX12_adds_147 : decode cX12_adds 147 = .ok (.iastore, 1) := by decide +kernel
theorem dX12_adds_148 : decode cX12_adds 148 = .ok (.aload_n 0, 1) := by decide +kernel
theorem dX12_adds_149 : decode cX12_adds 149 = .ok (.getfield 84, 3) := by decide +kernel
theorem dX12_adds_152 : decode cX12_adds 152 = .ok (.iload 4, 2) := by decide +kernel
theorem dX12_adds_154 : decode cX12_adds 154 = .ok (.iload_n 2, 1) := by decide +kernel
theorem dX12_adds_155 : decode cX12_adds 155 = .ok (.ifCond .eq 13, 3) := by decide +kernel
theorem dX12_adds_158 : decode cX12_adds 158 = .ok (.iload 9, 2) := by decide +kernel
theorem dX12_adds_160 : decode cX12_adds 160 = .ok (.aload_n 0, 1) := by decide +kernel
theorem dX12_adds_161 : decode cX12_adds 161 = .ok (.getfield 30, 3) := by decide +kernel
theorem dX12_adds_164 : decode cX12_adds 164 = .ok (.irem, 1) := by decide +kernel
theorem dX12_adds_165 : decode cX12_adds 165 = .ok (.goto 10, 3) := by decide +kernel
theorem dX12_adds_168 : decode cX12_adds 168 = .ok (.iload 9, 2) := by decide +kernel
theorem dX12_adds_170 : decode cX12_adds 170 = .ok (.aload_n 0, 1) := by decide +kernel
theorem dX12_adds_171 : decode cX12_adds 171 = .ok (.getfield 30, 3) := by decide +kernel
theorem dX12_adds_174 : decode cX12_adds 174 = .ok (.idiv, 1) := by decide +kernel
theorem dX12_adds_175 : decode cX12_adds 175 = .ok (.iastore, 1) := by decide +kernel
theorem dX12_adds_176 : decode cX12_adds 176 = .ok (.iinc 4 1, 3) := by decide +kernel
theorem dX12_adds_179 : decode cX12_adds 179 = .ok (.iinc 6 1, 3) := by decide +kernel
theorem dX12_adds_182 : decode cX12_adds 182 = .ok (.goto (-159), 3) := by decide +kernel
theorem dX12_adds_185 : decode cX12_adds 185 = .ok (.ldc 199, 2) := by decide +kernel
theorem dX12_adds_187 : decode cX12_adds 187 = .ok (.istore 6, 2) := by decide +kernel
theorem dX12_adds_189 : decode cX12_adds 189 = .ok (.iconst 0, 1) := by decide +kernel
theorem dX12_adds_190 : decode cX12_adds 190 = .ok (.istore 7, 2) := by decide +kernel
theorem dX12_adds_192 : decode cX12_adds 192 = .ok (.iload 7, 2) := by decide +kernel
theorem dX12_adds_194 : decode cX12_adds 194 = .ok (.iconst 1, 1) := by decide +kernel
theorem dX12_adds_195 : decode cX12_adds 195 = .ok (.iload 4, 2) := by decide +kernel
theorem dX12_adds_197 : decode cX12_adds 197 = .ok (.ishl, 1) := by decide +kernel
theorem dX12_adds_198 : decode cX12_adds 198 = .ok (.if_icmp .ge 152, 3) := by decide +kernel
theorem dX12_adds_201 : decode cX12_adds 201 = .ok (.iconst 0, 1) := by decide +kernel
theorem dX12_adds_202 : decode cX12_adds 202 = .ok (.istore 8, 2) := by decide +kernel
theorem dX12_adds_204 : decode cX12_adds 204 = .ok (.iconst 1, 1) := by decide +kernel
theorem dX12_adds_205 : decode cX12_adds 205 = .ok (.istore 9, 2) := by decide +kernel
theorem dX12_adds_207 : decode cX12_adds 207 = .ok (.iconst 0, 1) := by decide +kernel
theorem dX12_adds_208 : decode cX12_adds 208 = .ok (.istore 10, 2) := by decide +kernel
theorem dX12_adds_210 : decode cX12_adds 210 = .ok (.iload 10, 2) := by decide +kernel
theorem dX12_adds_212 : decode cX12_adds 212 = .ok (.iload 4, 2) := by decide +kernel
theorem dX12_adds_214 : decode cX12_adds 214 = .ok (.if_icmp .ge 109, 3) := by decide +kernel
theorem dX12_adds_217 : decode cX12_adds 217 = .ok (.iload 7, 2) := by decide +kernel
theorem dX12_adds_219 : decode cX12_adds 219 = .ok (.iload 10, 2) := by decide +kernel
theorem dX12_adds_221 : decode cX12_adds 221 = .ok (.ishr, 1) := by decide +kernel
theorem dX12_adds_222 : decode cX12_adds 222 = .ok (.iconst 1, 1) := by decide +kernel
theorem dX12_adds_223 : decode cX12_adds 223 = .ok (.iand, 1) := by decide +kernel
theorem dX12_adds_224 : decode cX12_adds 224 = .ok (.iconst 1, 1) := by decide +kernel
theorem dX12_adds_225 : decode cX12_adds 225 = .ok (.if_icmp .ne 7, 3) := by decide +kernel
theorem dX12_adds_228 : decode cX12_adds 228 = .ok (.iconst 1, 1) := by decide +kernel
theorem dX12_adds_229 : decode cX12_adds 229 = .ok (.goto 4, 3) := by decide +kernel
theorem dX12_adds_232 : decode cX12_adds 232 = .ok (.iconst 0, 1) := by decide +kernel
theorem dX12_adds_233 : decode cX12_adds 233 = .ok (.istore 11, 2) := by decide +kernel
theorem dX12_adds_235 : decode cX12_adds 235 = .ok (.iload 8, 2) := by decide +kernel
theorem dX12_adds_237 : decode cX12_adds 237 = .ok (.iload 11, 2) := by decide +kernel
theorem dX12_adds_239 : decode cX12_adds 239 = .ok (.ifCond .eq 13, 3) := by decide +kernel
theorem dX12_adds_242 : decode cX12_adds 242 = .ok (.aload_n 0, 1) := by decide +kernel
theorem dX12_adds_243 : decode cX12_adds 243 = .ok (.getfield 81, 3) := by decide +kernel
theorem dX12_adds_246 : decode cX12_adds 246 = .ok (.iload 10, 2) := by decide +kernel
theorem dX12_adds_248 : decode cX12_adds 248 = .ok (.iaload, 1) := by decide +kernel
theorem dX12_adds_249 : decode cX12_adds 249 = .ok (.goto 4, 3) := by decide +kernel
theorem dX12_adds_252 : decode cX12_adds 252 = .ok (.iconst 0, 1) := by decide +kernel
theorem dX12_adds_253 : decode cX12_adds 253 = .ok (.iadd, 1) := by decide +kernel
theorem dX12_adds_254 : decode cX12_adds 254 = .ok (.istore 8, 2) := by decide +kernel
theorem dX12_adds_256 : decode cX12_adds 256 = .ok (.iconst 0, 1) := by decide +kernel
theorem dX12_adds_257 : decode cX12_adds 257 = .ok (.istore 12, 2) := by decide +kernel
theorem dX12_adds_259 : decode cX12_adds 259 = .ok (.iload 12, 2) := by decide +kernel
theorem dX12_adds_261 : decode cX12_adds 261 = .ok (.iload 10, 2) := by decide +kernel
theorem dX12_adds_263 : decode cX12_adds 263 = .ok (.if_icmp .ge 54, 3) := by decide +kernel
theorem dX12_adds_266 : decode cX12_adds 266 = .ok (.iload 9, 2) := by decide +kernel
theorem dX12_adds_268 : decode cX12_adds 268 = .ok (.ifCond .eq 40, 3) := by decide +kernel
theorem dX12_adds_271 : decode cX12_adds 271 = .ok (.iload 11, 2) := by decide +kernel
theorem dX12_adds_273 : decode cX12_adds 273 = .ok (.ifCond .ne 31, 3) := by decide +kernel
theorem dX12_adds_276 : decode cX12_adds 276 = .ok (.iload 7, 2) := by decide +kernel
theorem dX12_adds_278 : decode cX12_adds 278 = .ok (.iload 12, 2) := by decide +kernel
theorem dX12_adds_280 : decode cX12_adds 280 = .ok (.ishr, 1) := by decide +kernel
theorem dX12_adds_281 : decode cX12_adds 281 = .ok (.iconst 1, 1) := by decide +kernel
theorem dX12_adds_282 : decode cX12_adds 282 = .ok (.iand, 1) := by decide +kernel
theorem dX12_adds_283 : decode cX12_adds 283 = .ok (.iconst 1, 1) := by decide +kernel
theorem dX12_adds_284 : decode cX12_adds 284 = .ok (.if_icmp .eq 20, 3) := by decide +kernel
theorem dX12_adds_287 : decode cX12_adds 287 = .ok (.aload_n 0, 1) := by decide +kernel
theorem dX12_adds_288 : decode cX12_adds 288 = .ok (.getfield 84, 3) := by decide +kernel
theorem dX12_adds_291 : decode cX12_adds 291 = .ok (.iload 12, 2) := by decide +kernel
theorem dX12_adds_293 : decode cX12_adds 293 = .ok (.iaload, 1) := by decide +kernel
theorem dX12_adds_294 : decode cX12_adds 294 = .ok (.aload_n 0, 1) := by decide +kernel
theorem dX12_adds_295 : decode cX12_adds 295 = .ok (.getfield 84, 3) := by decide +kernel
theorem dX12_adds_298 : decode cX12_adds 298 = .ok (.iload 10, 2) := by decide +kernel
theorem dX12_adds_300 : decode cX12_adds 300 = .ok (.iaload, 1) := by decide +kernel
theorem dX12_adds_301 : decode cX12_adds 301 = .ok (.if_icmp .ge 7, 3) := by decide +kernel
theorem dX12_adds_304 : decode cX12_adds 304 = .ok (.iconst 1, 1) := by decide +kernel
theorem dX12_adds_305 : decode cX12_adds 305 = .ok (.goto 4, 3) := by decide +kernel
theorem dX12_adds_308 : decode cX12_adds 308 = .ok (.iconst 0, 1) := by decide +kernel
theorem dX12_adds_309 : decode cX12_adds 309 = .ok (.istore 9, 2) := by decide +kernel
theorem dX12_adds_311 : decode cX12_adds 311 = .ok (.iinc 12 1, 3) := by decide +kernel
theorem dX12_adds_314 : decode cX12_adds 314 = .ok (.goto (-55), 3) := by decide +kernel
theorem dX12_adds_317 : decode cX12_adds 317 = .ok (.iinc 10 1, 3) := by decide +kernel
theorem dX12_adds_320 : decode cX12_adds 320 = .ok (.goto (-110), 3) := by decide +kernel
theorem dX12_adds_323 : decode cX12_adds 323 = .ok (.iload 9, 2) := by decide +kernel
theorem dX12_adds_325 : decode cX12_adds 325 = .ok (.ifCond .eq 15, 3) := by decide +kernel
theorem dX12_adds_328 : decode cX12_adds 328 = .ok (.iload 8, 2) := by decide +kernel
theorem dX12_adds_330 : decode cX12_adds 330 = .ok (.iload 6, 2) := by decide +kernel
theorem dX12_adds_332 : decode cX12_adds 332 = .ok (.if_icmp .ge 8, 3) := by decide +kernel
theorem dX12_adds_335 : decode cX12_adds 335 = .ok (.iload 8, 2) := by decide +kernel
theorem dX12_adds_337 : decode cX12_adds 337 = .ok (.goto 5, 3) := by decide +kernel
theorem dX12_adds_340 : decode cX12_adds 340 = .ok (.iload 6, 2) := by decide +kernel
theorem dX12_adds_342 : decode cX12_adds 342 = .ok (.istore 6, 2) := by decide +kernel
theorem dX12_adds_344 : decode cX12_adds 344 = .ok (.iinc 7 1, 3) := by decide +kernel
theorem dX12_adds_347 : decode cX12_adds 347 = .ok (.goto (-155), 3) := by decide +kernel
theorem dX12_adds_350 : decode cX12_adds 350 = .ok (.iload 6, 2) := by decide +kernel
theorem dX12_adds_352 : decode cX12_adds 352 = .ok (.ireturn, 1) := by decide +kernel
set_option maxRecDepth 20000 in
theorem ggX12_pairs_X12_adds : GoodIn wsX12_pairs wsX12_adds := goodIn_r _ [7, 2, 1, 8, 9, 10, 11, 12, 13, 14, 15, 16, 23, 24, 25, 26, 27, 28, 29, 30, 31, 32, 33, 34, 35, 36, 37, 38, 39, 40, 41, 42, 43, 44, 45, 46, 47, 48, 49, 50, 51, 52, 53, 54, 55, 56, 57, 58, 59, 60, 61, 62, 63, 64, 65, 66, 67, 68, 69, 70, 71, 72, 73, 74, 75, 76, 77, 78, 79, 80, 81, 82, 83, 84, 85, 86, 87, 88, 89] (by decide +kernel) (by decide +kernel)
set_option maxRecDepth 20000 in
theorem gX12_pairs_X12_adds : GoodIn wsX12_pairs (wsV RX12 225 RX12 yX12_adds wsX12_adds) := goodIn_app (goodIn_of _ (by decide +kernel)) ggX12_pairs_X12_adds
set_option maxRecDepth 20000 in
theorem ggX12_pairs_X12_ways : GoodIn wsX12_pairs wsX12_ways := goodIn_r _ [20, 21, 12, 14, 22, 11, 23, 24, 25, 26, 27, 28, 29, 30, 31, 32, 33, 34, 35, 36, 37, 38, 39, 40, 41, 42, 43, 44, 45, 46, 47, 48, 49, 50, 51, 52, 53, 54, 55, 56, 57, 58, 59, 60, 61, 62, 63, 64, 65, 66, 67, 68, 69, 70, 71, 72, 73, 74, 75, 76, 77, 78, 79, 80, 81, 82, 83, 84, 85, 86, 87, 88, 89] (by decide +kernel) (by decide +kernel)
set_option maxRecDepth 20000 in
theorem gX12_pairs_X12_ways : GoodIn wsX12_pairs (wsV RX12 229 RX12 yX12_ways wsX12_ways) := goodIn_app (goodIn_of _ (by decide +kernel)) ggX12_pairs_X12_ways
theorem dX12_pairs_0 : decode cX12_pairs 0 = .ok (.iconst 0, 1) := by decide +kernel
theorem dX12_pairs_1 : decode cX12_pairs 1 = .ok (.istore_n 2, 1) := by decide +kernel
theorem dX12_pairs_2 : decode cX12_pairs 2 = .ok (.iconst 0, 1) := by decide +kernel
theorem dX12_pairs_3 : decode cX12_pairs 3 = .ok (.istore_n 3, 1) := by decide +kernel
theorem dX12_pairs_4 : decode cX12_pairs 4 = .ok (.iload_n 3, 1) := by decide +kernel
theorem dX12_pairs_5 : decode cX12_pairs 5 = .ok (.aload_n 0, 1) := by decide +kernel
theorem dX12_pairs_6 : decode cX12_pairs 6 = .ok (.getfield 26, 3) := by decide +kernel
theorem dX12_pairs_9 : decode cX12_pairs 9 = .ok (.if_icmp .ge 19, 3) := by decide +kernel
theorem dX12_pairs_12 : decode cX12_pairs 12 = .ok (.iload_n 2, 1) := by decide +kernel
theorem dX12_pairs_13 : decode cX12_pairs 13 = .ok (.aload_n 0, 1) := by decide +kernel
theorem dX12_pairs_14 : decode cX12_pairs 14 = .ok (.aload_n 1, 1) := by decide +kernel
theorem dX12_pairs_15 : decode cX12_pairs 15 = .ok (.iconst 1, 1) := by decide +kernel
theorem dX12_pairs_16 : decode cX12_pairs 16 = .ok (.iload_n 3, 1) := by decide +kernel
theorem dX12_pairs_17 : decode cX12_pairs 17 = .ok (.invokevirtual 225, 3) := by decide +kernel
theorem dX12_pairs_20 : decode cX12_pairs 20 = .ok (.iadd, 1) := by decide +kernel
theorem dX12_pairs_21 : decode cX12_pairs 21 = .ok (.istore_n 2, 1) := by decide +kernel
theorem dX12_pairs_22 : decode cX12_pairs 22 = .ok (.iinc 3 1, 3) := by decide +kernel
theorem dX12_pairs_25 : decode cX12_pairs 25 = .ok (.goto (-21), 3) := by decide +kernel
theorem dX12_pairs_28 : decode cX12_pairs 28 = .ok (.iconst 0, 1) := by decide +kernel
theorem dX12_pairs_29 : decode cX12_pairs 29 = .ok (.istore_n 3, 1) := by decide +kernel
theorem dX12_pairs_30 : decode cX12_pairs 30 = .ok (.iload_n 3, 1) := by decide +kernel
theorem dX12_pairs_31 : decode cX12_pairs 31 = .ok (.aload_n 0, 1) := by decide +kernel
theorem dX12_pairs_32 : decode cX12_pairs 32 = .ok (.getfield 30, 3) := by decide +kernel
theorem dX12_pairs_35 : decode cX12_pairs 35 = .ok (.if_icmp .ge 19, 3) := by decide +kernel
theorem dX12_pairs_38 : decode cX12_pairs 38 = .ok (.iload_n 2, 1) := by decide +kernel
theorem dX12_pairs_39 : decode cX12_pairs 39 = .ok (.aload_n 0, 1) := by decide +kernel
theorem dX12_pairs_40 : decode cX12_pairs 40 = .ok (.aload_n 1, 1) := by decide +kernel
theorem dX12_pairs_41 : decode cX12_pairs 41 = .ok (.iconst 0, 1) := by decide +kernel
theorem dX12_pairs_42 : decode cX12_pairs 42 = .ok (.iload_n 3, 1) := by decide +kernel
theorem dX12_pairs_43 : decode cX12_pairs 43 = .ok (.invokevirtual 225, 3) := by decide +kernel
theorem dX12_pairs_46 : decode cX12_pairs 46 = .ok (.iadd, 1) := by decide +kernel
theorem dX12_pairs_47 : decode cX12_pairs 47 = .ok (.istore_n 2, 1) := by decide +kernel
theorem dX12_pairs_48 : decode cX12_pairs 48 = .ok (.iinc 3 1, 3) := by decide +kernel
theorem dX12_pairs_51 : decode cX12_pairs 51 = .ok (.goto (-21), 3) := by decide +kernel
theorem dX12_pairs_54 : decode cX12_pairs 54 = .ok (.aload_n 0, 1) := by decide +kernel
theorem dX12_pairs_55 : decode cX12_pairs 55 = .ok (.aload_n 1, 1) := by decide +kernel
theorem dX12_pairs_56 : decode cX12_pairs 56 = .ok (.invokevirtual 229, 3) := by decide +kernel
theorem dX12_pairs_59 : decode cX12_pairs 59 = .ok (.iconst 2, 1) := by decide +kernel
theorem dX12_pairs_60 : decode cX12_pairs 60 = .ok (.iload_n 2, 1) := by decide +kernel
theorem dX12_pairs_61 : decode cX12_pairs 61 = .ok (.imul, 1) := by decide +kernel
theorem dX12_pairs_62 : decode cX12_pairs 62 = .ok (.iadd, 1) := by decide +kernel
theorem dX12_pairs_63 : decode cX12_pairs 63 = .ok (.ireturn, 1) := by decide +kernel
set_option maxRecDepth 20000 in
theorem ggX12_estimates_X12_displaced : GoodIn wsX12_estimates wsX12_displaced := goodIn_r _ [5, 6, 7, 8, 9, 43, 44, 45, 46, 47, 48, 49, 50, 51, 52, 53, 54, 55, 56, 57, 58, 59, 60, 61, 62, 63, 64, 65, 66, 67, 68, 69, 70, 71, 72, 73, 74, 75, 76, 77, 78, 79, 80, 81, 82, 83, 84, 85, 86, 87, 88, 89, 90, 91, 92, 93, 94, 95, 96, 97, 98, 99, 100, 101, 102, 103, 104, 105, 106, 107, 108, 109] (by decide +kernel) (by decide +kernel)
set_option maxRecDepth 20000 in
theorem gX12_estimates_X12_displaced : GoodIn wsX12_estimates (wsV RX12 233 RX12 yX12_displaced wsX12_displaced) := goodIn_app (goodIn_of _ (by decide +kernel)) ggX12_estimates_X12_displaced
set_option maxRecDepth 20000 in
theorem ggX12_estimates_X12_ways : GoodIn wsX12_estimates wsX12_ways := goodIn_r _ [13, 6, 7, 9, 14, 8, 43, 44, 45, 46, 47, 48, 49, 50, 51, 52, 53, 54, 55, 56, 57, 58, 59, 60, 61, 62, 63, 64, 65, 66, 67, 68, 69, 70, 71, 72, 73, 74, 75, 76, 77, 78, 79, 80, 81, 82, 83, 84, 85, 86, 87, 88, 89, 90, 91, 92, 93, 94, 95, 96, 97, 98, 99, 100, 101, 102, 103, 104, 105, 106, 107, 108, 109] (by decide +kernel) (by decide +kernel)
set_option maxRecDepth 20000 in
theorem gX12_estimates_X12_ways : GoodIn wsX12_estimates (wsV RX12 229 RX12 yX12_ways wsX12_ways) := goodIn_app (goodIn_of _ (by decide +kernel)) ggX12_estimates_X12_ways
set_option maxRecDepth 20000 in
theorem ggX12_estimates_X12_pairs : GoodIn wsX12_estimates wsX12_pairs := goodIn_r _ [18, 19, 20, 21, 22, 23, 4, 24, 25, 26, 27, 8, 7, 28, 9, 29, 30, 10, 11, 12, 13, 6, 14, 43, 44, 45, 46, 47, 48, 49, 50, 51, 52, 53, 54, 55, 56, 57, 58, 59, 60, 61, 62, 63, 64, 65, 66, 67, 68, 69, 70, 71, 72, 73, 74, 75, 76, 77, 78, 79, 80, 81, 82, 83, 84, 85, 86, 87, 88, 89, 90, 91, 92, 93, 94, 95, 96, 97, 98, 99, 100, 101, 102, 103, 104, 105, 106, 107, 108, 109] (by decide +kernel) (by decide +kernel)
set_option maxRecDepth 20000 in
theorem gX12_estimates_X12_pairs : GoodIn wsX12_estimates (wsV RX12 236 RX12 yX12_pairs wsX12_pairs) := goodIn_app (goodIn_of _ (by decide +kernel)) ggX12_estimates_X12_pairs
set_option maxRecDepth 20000 in
theorem ggX12_estimates_X12_fromParts : GoodIn wsX12_estimates wsX12_fromParts := goodIn_r _ [34, 35, 36, 37, 38, 30, 39, 40, 41, 4, 42, 43, 44, 45, 46, 47, 48, 49, 50, 51, 52, 53, 54, 55, 56, 57, 58, 59, 60, 61, 62, 63, 64, 65, 66, 67, 68, 69, 70, 71, 72, 73, 74, 75, 76, 77, 78, 79, 80, 81, 82, 83, 84, 85, 86, 87, 88, 89, 90, 91, 92, 93, 94, 95, 96, 97, 98, 99, 100, 101, 102, 103, 104, 105, 106, 107, 108, 109] (by decide +kernel) (by decide +kernel)
set_option maxRecDepth 20000 in
theorem gX12_estimates_X12_fromParts : GoodIn wsX12_estimates (wsV RX12 239 RX12 yX12_fromParts wsX12_fromParts) := goodIn_app (goodIn_of _ (by decide +kernel)) ggX12_estimates_X12_fromParts
theorem dX12_estimates_0 : decode cX12_estimates 0 = .ok (.iload_n 2, 1) := by decide +kernel
theorem dX12_estimates_1 : decode cX12_estimates 1 = .ok (.tableswitch 51 0 3 #[31, 33, 39, 45], 31) := by decide +kernel
theorem dX12_estimates_32 : decode cX12_estimates 32 = .ok (.iconst 0, 1) := by decide +kernel
theorem dX12_estimates_33 : decode cX12_estimates 33 = .ok (.ireturn, 1) := by decide +kernel
theorem dX12_estimates_34 : decode cX12_estimates 34 = .ok (.aload_n 0, 1) := by decide +kernel
theorem dX12_estimates_35 : decode cX12_estimates 35 = .ok (.aload_n 1, 1) := by decide +kernel
theorem dX12_estimates_36 : decode cX12_estimates 36 = .ok (.invokevirtual 233, 3) := by decide +kernel
theorem dX12_estimates_39 : decode cX12_estimates 39 = .ok (.ireturn, 1) := by decide +kernel
theorem dX12_estimates_40 : decode cX12_estimates 40 = .ok (.aload_n 0, 1) := by decide +kernel
theorem dX12_estimates_41 : decode cX12_estimates 41 = .ok (.aload_n 1, 1) := by decide +kernel
theorem dX12_estimates_42 : decode cX12_estimates 42 = .ok (.invokevirtual 229, 3) := by decide +kernel
theorem dX12_estimates_45 : decode cX12_estimates 45 = .ok (.ireturn, 1) := by decide +kernel
theorem dX12_estimates_46 : decode cX12_estimates 46 = .ok (.aload_n 0, 1) := by decide +kernel
theorem dX12_estimates_47 : decode cX12_estimates 47 = .ok (.aload_n 1, 1) := by decide +kernel
theorem dX12_estimates_48 : decode cX12_estimates 48 = .ok (.invokevirtual 236, 3) := by decide +kernel
theorem dX12_estimates_51 : decode cX12_estimates 51 = .ok (.ireturn, 1) := by decide +kernel
theorem dX12_estimates_52 : decode cX12_estimates 52 = .ok (.aload_n 0, 1) := by decide +kernel
theorem dX12_estimates_53 : decode cX12_estimates 53 = .ok (.aload_n 1, 1) := by decide +kernel
theorem dX12_estimates_54 : decode cX12_estimates 54 = .ok (.invokevirtual 239, 3) := by decide +kernel
theorem dX12_estimates_57 : decode cX12_estimates 57 = .ok (.ireturn, 1) := by decide +kernel
set_option maxRecDepth 20000 in
theorem ggX12_fromParts_X12_gapIn : GoodIn wsX12_fromParts wsX12_gapIn := goodIn_r _ [10] (by decide +kernel) (by decide +kernel)
set_option maxRecDepth 20000 in
theorem gX12_fromParts_X12_gapIn : GoodIn wsX12_fromParts (wsV RX12 242 RX12 yX12_gapIn wsX12_gapIn) := goodIn_app (goodIn_of _ (by decide +kernel)) ggX12_fromParts_X12_gapIn
theorem dX12_fromParts_0 : decode cX12_fromParts 0 = .ok (.iconst 0, 1) := by decide +kernel
theorem dX12_fromParts_1 : decode cX12_fromParts 1 = .ok (.istore_n 2, 1) := by decide +kernel
theorem dX12_fromParts_2 : decode cX12_fromParts 2 = .ok (.iconst 0, 1) := by decide +kernel
theorem dX12_fromParts_3 : decode cX12_fromParts 3 = .ok (.istore_n 3, 1) := by decide +kernel
theorem dX12_fromParts_4 : decode cX12_fromParts 4 = .ok (.iload_n 3, 1) := by decide +kernel
theorem dX12_fromParts_5 : decode cX12_fromParts 5 = .ok (.aload_n 0, 1) := by decide +kernel
theorem dX12_fromParts_6 : decode cX12_fromParts 6 = .ok (.getfield 181, 3) := by decide +kernel
theorem dX12_fromParts_9 : decode cX12_fromParts 9 = .ok (.if_icmp .ge 109, 3) := by decide +kernel
theorem dX12_fromParts_12 : decode cX12_fromParts 12 = .ok (.iconst 0, 1) := by decide +kernel
theorem dX12_fromParts_13 : decode cX12_fromParts 13 = .ok (.istore 4, 2) := by decide +kernel
theorem dX12_fromParts_15 : decode cX12_fromParts 15 = .ok (.iconst 0, 1) := by decide +kernel
theorem dX12_fromParts_16 : decode cX12_fromParts 16 = .ok (.istore 5, 2) := by decide +kernel
theorem dX12_fromParts_18 : decode cX12_fromParts 18 = .ok (.iload 5, 2) := by decide +kernel
theorem dX12_fromParts_20 : decode cX12_fromParts 20 = .ok (.aload_n 0, 1) := by decide +kernel
theorem dX12_fromParts_21 : decode cX12_fromParts 21 = .ok (.getfield 90, 3) := by decide +kernel
theorem dX12_fromParts_24 : decode cX12_fromParts 24 = .ok (.iload_n 3, 1) := by decide +kernel
theorem dX12_fromParts_25 : decode cX12_fromParts 25 = .ok (.iaload, 1) := by decide +kernel
theorem dX12_fromParts_26 : decode cX12_fromParts 26 = .ok (.if_icmp .ge 46, 3) := by decide +kernel
theorem dX12_fromParts_29 : decode cX12_fromParts 29 = .ok (.iconst 0, 1) := by decide +kernel
theorem dX12_fromParts_30 : decode cX12_fromParts 30 = .ok (.istore 6, 2) := by decide +kernel
theorem dX12_fromParts_32 : decode cX12_fromParts 32 = .ok (.aload_n 1, 1) := by decide +kernel
theorem dX12_fromParts_33 : decode cX12_fromParts 33 = .ok (.iload 6, 2) := by decide +kernel
theorem dX12_fromParts_35 : decode cX12_fromParts 35 = .ok (.iaload, 1) := by decide +kernel
theorem dX12_fromParts_36 : decode cX12_fromParts 36 = .ok (.aload_n 0, 1) := by decide +kernel
theorem dX12_fromParts_37 : decode cX12_fromParts 37 = .ok (.getfield 87, 3) := by decide +kernel
theorem dX12_fromParts_40 : decode cX12_fromParts 40 = .ok (.iconst 3, 1) := by decide +kernel
theorem dX12_fromParts_41 : decode cX12_fromParts 41 = .ok (.iload_n 3, 1) := by decide +kernel
theorem dX12_fromParts_42 : decode cX12_fromParts 42 = .ok (.imul, 1) := by decide +kernel
theorem dX12_fromParts_43 : decode cX12_fromParts 43 = .ok (.iload 5, 2) := by decide +kernel
theorem dX12_fromParts_45 : decode cX12_fromParts 45 = .ok (.iadd, 1) := by decide +kernel
theorem dX12_fromParts_46 : decode cX12_fromParts 46 = .ok (.iaload, 1) := by decide +kernel
theorem dX12_fromParts_47 : decode cX12_fromParts 47 = .ok (.if_icmp .eq 9, 3) := by decide +kernel
theorem dX12_fromParts_50 : decode cX12_fromParts 50 = .ok (.iinc 6 1, 3) := by decide +kernel
theorem dX12_fromParts_53 : decode cX12_fromParts 53 = .ok (.goto (-21), 3) := by decide +kernel
theorem dX12_fromParts_56 : decode cX12_fromParts 56 = .ok (.bipush 9, 2) := by decide +kernel
theorem dX12_fromParts_58 : decode cX12_fromParts 58 = .ok (.iload 4, 2) := by decide +kernel
theorem dX12_fromParts_60 : decode cX12_fromParts 60 = .ok (.imul, 1) := by decide +kernel
theorem dX12_fromParts_61 : decode cX12_fromParts 61 = .ok (.iload 6, 2) := by decide +kernel
theorem dX12_fromParts_63 : decode cX12_fromParts 63 = .ok (.iadd, 1) := by decide +kernel
theorem dX12_fromParts_64 : decode cX12_fromParts 64 = .ok (.istore 4, 2) := by decide +kernel
theorem dX12_fromParts_66 : decode cX12_fromParts 66 = .ok (.iinc 5 1, 3) := by decide +kernel
theorem dX12_fromParts_69 : decode cX12_fromParts 69 = .ok (.goto (-51), 3) := by decide +kernel
theorem dX12_fromParts_72 : decode cX12_fromParts 72 = .ok (.aload_n 0, 1) := by decide +kernel
theorem dX12_fromParts_73 : decode cX12_fromParts 73 = .ok (.getfield 93, 3) := by decide +kernel
theorem dX12_fromParts_76 : decode cX12_fromParts 76 = .ok (.sipush 6561, 3) := by decide +kernel
theorem dX12_fromParts_79 : decode cX12_fromParts 79 = .ok (.iload_n 3, 1) := by decide +kernel
theorem dX12_fromParts_80 : decode cX12_fromParts 80 = .ok (.imul, 1) := by decide +kernel
theorem dX12_fromParts_81 : decode cX12_fromParts 81 = .ok (.bipush 9, 2) := by decide +kernel
theorem dX12_fromParts_83 : decode cX12_fromParts 83 = .ok (.iload 4, 2) := by decide +kernel
theorem dX12_fromParts_85 : decode cX12_fromParts 85 = .ok (.imul, 1) := by decide +kernel
theorem dX12_fromParts_86 : decode cX12_fromParts 86 = .ok (.iadd, 1) := by decide +kernel
theorem dX12_fromParts_87 : decode cX12_fromParts 87 = .ok (.aload_n 0, 1) := by decide +kernel
theorem dX12_fromParts_88 : decode cX12_fromParts 88 = .ok (.aload_n 1, 1) := by decide +kernel
theorem dX12_fromParts_89 : decode cX12_fromParts 89 = .ok (.invokevirtual 242, 3) := by decide +kernel
theorem dX12_fromParts_92 : decode cX12_fromParts 92 = .ok (.iadd, 1) := by decide +kernel
theorem dX12_fromParts_93 : decode cX12_fromParts 93 = .ok (.iaload, 1) := by decide +kernel
theorem dX12_fromParts_94 : decode cX12_fromParts 94 = .ok (.istore 5, 2) := by decide +kernel
theorem dX12_fromParts_96 : decode cX12_fromParts 96 = .ok (.iload_n 2, 1) := by decide +kernel
theorem dX12_fromParts_97 : decode cX12_fromParts 97 = .ok (.iload 5, 2) := by decide +kernel
theorem dX12_fromParts_99 : decode cX12_fromParts 99 = .ok (.ldc 199, 2) := by decide +kernel
theorem dX12_fromParts_101 : decode cX12_fromParts 101 = .ok (.if_icmp .ne 7, 3) := by decide +kernel
theorem dX12_fromParts_104 : decode cX12_fromParts 104 = .ok (.iconst 0, 1) := by decide +kernel
theorem dX12_fromParts_105 : decode cX12_fromParts 105 = .ok (.goto 5, 3) := by decide +kernel
theorem dX12_fromParts_108 : decode cX12_fromParts 108 = .ok (.iload 5, 2) := by decide +kernel
theorem dX12_fromParts_110 : decode cX12_fromParts 110 = .ok (.iadd, 1) := by decide +kernel
theorem dX12_fromParts_111 : decode cX12_fromParts 111 = .ok (.istore_n 2, 1) := by decide +kernel
theorem dX12_fromParts_112 : decode cX12_fromParts 112 = .ok (.iinc 3 1, 3) := by decide +kernel
theorem dX12_fromParts_115 : decode cX12_fromParts 115 = .ok (.goto (-111), 3) := by decide +kernel
theorem dX12_fromParts_118 : decode cX12_fromParts 118 = .ok (.iload_n 2, 1) := by decide +kernel
theorem dX12_fromParts_119 : decode cX12_fromParts 119 = .ok (.ireturn, 1) := by decide +kernel
theorem dX12_isPlace_0 : decode cX12_isPlace 0 = .ok (.iload_n 2, 1) := by decide +kernel
theorem dX12_isPlace_1 : decode cX12_isPlace 1 = .ok (.istore_n 3, 1) := by decide +kernel
theorem dX12_isPlace_2 : decode cX12_isPlace 2 = .ok (.iconst 1, 1) := by decide +kernel
theorem dX12_isPlace_3 : decode cX12_isPlace 3 = .ok (.istore 4, 2) := by decide +kernel
theorem dX12_isPlace_5 : decode cX12_isPlace 5 = .ok (.aload_n 0, 1) := by decide +kernel
theorem dX12_isPlace_6 : decode cX12_isPlace 6 = .ok (.getfield 90, 3) := by decide +kernel
theorem dX12_isPlace_9 : decode cX12_isPlace 9 = .ok (.iload_n 1, 1) := by decide +kernel
theorem dX12_isPlace_10 : decode cX12_isPlace 10 = .ok (.iaload, 1) := by decide +kernel
theorem dX12_isPlace_11 : decode cX12_isPlace 11 = .ok (.istore 5, 2) := by decide +kernel
theorem dX12_isPlace_13 : decode cX12_isPlace 13 = .ok (.iload 5, 2) := by decide +kernel
theorem dX12_isPlace_15 : decode cX12_isPlace 15 = .ok (.ifCond .lt 51, 3) := by decide +kernel
theorem dX12_isPlace_18 : decode cX12_isPlace 18 = .ok (.aload_n 0, 1) := by decide +kernel
theorem dX12_isPlace_19 : decode cX12_isPlace 19 = .ok (.getfield 96, 3) := by decide +kernel
theorem dX12_isPlace_22 : decode cX12_isPlace 22 = .ok (.iload 5, 2) := by decide +kernel
theorem dX12_isPlace_24 : decode cX12_isPlace 24 = .ok (.iload_n 3, 1) := by decide +kernel
theorem dX12_isPlace_25 : decode cX12_isPlace 25 = .ok (.bipush 9, 2) := by decide +kernel
theorem dX12_isPlace_27 : decode cX12_isPlace 27 = .ok (.irem, 1) := by decide +kernel
theorem dX12_isPlace_28 : decode cX12_isPlace 28 = .ok (.iastore, 1) := by decide +kernel
theorem dX12_isPlace_29 : decode cX12_isPlace 29 = .ok (.iload_n 3, 1) := by decide +kernel
theorem dX12_isPlace_30 : decode cX12_isPlace 30 = .ok (.bipush 9, 2) := by decide +kernel
theorem dX12_isPlace_32 : decode cX12_isPlace 32 = .ok (.idiv, 1) := by decide +kernel
theorem dX12_isPlace_33 : decode cX12_isPlace 33 = .ok (.istore_n 3, 1) := by decide +kernel
theorem dX12_isPlace_34 : decode cX12_isPlace 34 = .ok (.iload 4, 2) := by decide +kernel
theorem dX12_isPlace_36 : decode cX12_isPlace 36 = .ok (.ifCond .eq 21, 3) := by decide +kernel
theorem dX12_isPlace_39 : decode cX12_isPlace 39 = .ok (.aload_n 0, 1) := by decide +kernel
theorem dX12_isPlace_40 : decode cX12_isPlace 40 = .ok (.getfield 96, 3) := by decide +kernel
theorem dX12_isPlace_43 : decode cX12_isPlace 43 = .ok (.iload 5, 2) := by decide +kernel
theorem dX12_isPlace_45 : decode cX12_isPlace 45 = .ok (.iaload, 1) := by decide +kernel
theorem dX12_isPlace_46 : decode cX12_isPlace 46 = .ok (.aload_n 0, 1) := by decide +kernel
theorem dX12_isPlace_47 : decode cX12_isPlace 47 = .ok (.getfield 170, 3) := by decide +kernel
theorem dX12_isPlace_50 : decode cX12_isPlace 50 = .ok (.if_icmp .ge 7, 3) := by decide +kernel
theorem dX12_isPlace_53 : decode cX12_isPlace 53 = .ok (.iconst 1, 1) := by decide +kernel
theorem dX12_isPlace_54 : decode cX12_isPlace 54 = .ok (.goto 4, 3) := by decide +kernel
theorem dX12_isPlace_57 : decode cX12_isPlace 57 = .ok (.iconst 0, 1) := by decide +kernel
theorem dX12_isPlace_58 : decode cX12_isPlace 58 = .ok (.istore 4, 2) := by decide +kernel
theorem dX12_isPlace_60 : decode cX12_isPlace 60 = .ok (.iinc 5 (-1), 3) := by decide +kernel
theorem dX12_isPlace_63 : decode cX12_isPlace 63 = .ok (.goto (-50), 3) := by decide +kernel
theorem dX12_isPlace_66 : decode cX12_isPlace 66 = .ok (.iconst 0, 1) := by decide +kernel
theorem dX12_isPlace_67 : decode cX12_isPlace 67 = .ok (.istore 5, 2) := by decide +kernel
theorem dX12_isPlace_69 : decode cX12_isPlace 69 = .ok (.iload 5, 2) := by decide +kernel
theorem dX12_isPlace_71 : decode cX12_isPlace 71 = .ok (.aload_n 0, 1) := by decide +kernel
theorem dX12_isPlace_72 : decode cX12_isPlace 72 = .ok (.getfield 90, 3) := by decide +kernel
theorem dX12_isPlace_75 : decode cX12_isPlace 75 = .ok (.iload_n 1, 1) := by decide +kernel
theorem dX12_isPlace_76 : decode cX12_isPlace 76 = .ok (.iaload, 1) := by decide +kernel
theorem dX12_isPlace_77 : decode cX12_isPlace 77 = .ok (.if_icmp .gt 54, 3) := by decide +kernel
theorem dX12_isPlace_80 : decode cX12_isPlace 80 = .ok (.iconst 0, 1) := by decide +kernel
theorem dX12_isPlace_81 : decode cX12_isPlace 81 = .ok (.istore 6, 2) := by decide +kernel
theorem dX12_isPlace_83 : decode cX12_isPlace 83 = .ok (.iload 6, 2) := by decide +kernel
theorem dX12_isPlace_85 : decode cX12_isPlace 85 = .ok (.iload 5, 2) := by decide +kernel
theorem dX12_isPlace_87 : decode cX12_isPlace 87 = .ok (.if_icmp .ge 38, 3) := by decide +kernel
theorem dX12_isPlace_90 : decode cX12_isPlace 90 = .ok (.iload 4, 2) := by decide +kernel
theorem dX12_isPlace_92 : decode cX12_isPlace 92 = .ok (.ifCond .eq 24, 3) := by decide +kernel
theorem dX12_isPlace_95 : decode cX12_isPlace 95 = .ok (.aload_n 0, 1) := by decide +kernel
theorem dX12_isPlace_96 : decode cX12_isPlace 96 = .ok (.getfield 96, 3) := by decide +kernel
theorem dX12_isPlace_99 : decode cX12_isPlace 99 = .ok (.iload 6, 2) := by decide +kernel
theorem dX12_isPlace_101 : decode cX12_isPlace 101 = .ok (.iaload, 1) := by decide +kernel
theorem dX12_isPlace_102 : decode cX12_isPlace 102 = .ok (.aload_n 0, 1) := by decide +kernel
theorem dX12_isPlace_103 : decode cX12_isPlace 103 = .ok (.getfield 96, 3) := by decide +kernel
theorem dX12_isPlace_106 : decode cX12_isPlace 106 = .ok (.iload 5, 2) := by decide +kernel
theorem dX12_isPlace_108 : decode cX12_isPlace 108 = .ok (.iaload, 1) := by decide +kernel
theorem dX12_isPlace_109 : decode cX12_isPlace 109 = .ok (.if_icmp .eq 7, 3) := by decide +kernel
theorem dX12_isPlace_112 : decode cX12_isPlace 112 = .ok (.iconst 1, 1) := by decide +kernel
theorem dX12_isPlace_113 : decode cX12_isPlace 113 = .ok (.goto 4, 3) := by decide +kernel
theorem dX12_isPlace_116 : decode cX12_isPlace 116 = .ok (.iconst 0, 1) := by decide +kernel
theorem dX12_isPlace_117 : decode cX12_isPlace 117 = .ok (.istore 4, 2) := by decide +kernel
theorem dX12_isPlace_119 : decode cX12_isPlace 119 = .ok (.iinc 6 1, 3) := by decide +kernel
theorem dX12_isPlace_122 : decode cX12_isPlace 122 = .ok (.goto (-39), 3) := by decide +kernel
theorem dX12_isPlace_125 : decode cX12_isPlace 125 = .ok (.iinc 5 1, 3) := by decide +kernel
theorem dX12_isPlace_128 : decode cX12_isPlace 128 = .ok (.goto (-59), 3) := by decide +kernel
theorem dX12_isPlace_131 : decode cX12_isPlace 131 = .ok (.iload 4, 2) := by decide +kernel
theorem dX12_isPlace_133 : decode cX12_isPlace 133 = .ok (.ifCond .eq 11, 3) := by decide +kernel
theorem dX12_isPlace_136 : decode cX12_isPlace 136 = .ok (.iload_n 3, 1) := by decide +kernel
theorem dX12_isPlace_137 : decode cX12_isPlace 137 = .ok (.ifCond .ne 7, 3) := by decide +kernel
theorem dX12_isPlace_140 : decode cX12_isPlace 140 = .ok (.iconst 1, 1) := by decide +kernel
theorem dX12_isPlace_141 : decode cX12_isPlace 141 = .ok (.goto 4, 3) := by decide +kernel
theorem dX12_isPlace_144 : decode cX12_isPlace 144 = .ok (.iconst 0, 1) := by decide +kernel
theorem dX12_isPlace_145 : decode cX12_isPlace 145 = .ok (.ireturn, 1) := by decide +kernel
theorem dX12_placeAt_0 : decode cX12_placeAt 0 = .ok (.iconst 0, 1) := by decide +kernel
theorem dX12_placeAt_1 : decode cX12_placeAt 1 = .ok (.istore_n 2, 1) := by decide +kernel
theorem dX12_placeAt_2 : decode cX12_placeAt 2 = .ok (.iconst 0, 1) := by decide +kernel
theorem dX12_placeAt_3 : decode cX12_placeAt 3 = .ok (.istore_n 3, 1) := by decide +kernel
theorem dX12_placeAt_4 : decode cX12_placeAt 4 = .ok (.iload_n 3, 1) := by decide +kernel
theorem dX12_placeAt_5 : decode cX12_placeAt 5 = .ok (.aload_n 0, 1) := by decide +kernel
theorem dX12_placeAt_6 : decode cX12_placeAt 6 = .ok (.getfield 90, 3) := by decide +kernel
theorem dX12_placeAt_9 : decode cX12_placeAt 9 = .ok (.iload_n 1, 1) := by decide +kernel
theorem dX12_placeAt_10 : decode cX12_placeAt 10 = .ok (.iaload, 1) := by decide +kernel
theorem dX12_placeAt_11 : decode cX12_placeAt 11 = .ok (.if_icmp .gt 21, 3) := by decide +kernel
theorem dX12_placeAt_14 : decode cX12_placeAt 14 = .ok (.bipush 9, 2) := by decide +kernel
theorem dX12_placeAt_16 : decode cX12_placeAt 16 = .ok (.iload_n 2, 1) := by decide +kernel
theorem dX12_placeAt_17 : decode cX12_placeAt 17 = .ok (.imul, 1) := by decide +kernel
theorem dX12_placeAt_18 : decode cX12_placeAt 18 = .ok (.aload_n 0, 1) := by decide +kernel
theorem dX12_placeAt_19 : decode cX12_placeAt 19 = .ok (.getfield 96, 3) := by decide +kernel
theorem dX12_placeAt_22 : decode cX12_placeAt 22 = .ok (.iload_n 3, 1) := by decide +kernel
theorem dX12_placeAt_23 : decode cX12_placeAt 23 = .ok (.iaload, 1) := by decide +kernel
theorem dX12_placeAt_24 : decode cX12_placeAt 24 = .ok (.iadd, 1) := by decide +kernel
theorem dX12_placeAt_25 : decode cX12_placeAt 25 = .ok (.istore_n 2, 1) := by decide +kernel
theorem dX12_placeAt_26 : decode cX12_placeAt 26 = .ok (.iinc 3 1, 3) := by decide +kernel
theorem dX12_placeAt_29 : decode cX12_placeAt 29 = .ok (.goto (-25), 3) := by decide +kernel
theorem dX12_placeAt_32 : decode cX12_placeAt 32 = .ok (.iload_n 2, 1) := by decide +kernel
theorem dX12_placeAt_33 : decode cX12_placeAt 33 = .ok (.ireturn, 1) := by decide +kernel
theorem dX12_moves_0 : decode cX12_moves 0 = .ok (.aload_n 0, 1) := by decide +kernel
theorem dX12_moves_1 : decode cX12_moves 1 = .ok (.getfield 90, 3) := by decide +kernel
theorem dX12_moves_4 : decode cX12_moves 4 = .ok (.iload_n 1, 1) := by decide +kernel
theorem dX12_moves_5 : decode cX12_moves 5 = .ok (.iaload, 1) := by decide +kernel
theorem dX12_moves_6 : decode cX12_moves 6 = .ok (.istore_n 3, 1) := by decide +kernel
theorem dX12_moves_7 : decode cX12_moves 7 = .ok (.aload_n 0, 1) := by decide +kernel
theorem dX12_moves_8 : decode cX12_moves 8 = .ok (.getfield 16, 3) := by decide +kernel
theorem dX12_moves_11 : decode cX12_moves 11 = .ok (.iconst 4, 1) := by decide +kernel
theorem dX12_moves_12 : decode cX12_moves 12 = .ok (.aload_n 0, 1) := by decide +kernel
theorem dX12_moves_13 : decode cX12_moves 13 = .ok (.getfield 96, 3) := by decide +kernel
theorem dX12_moves_16 : decode cX12_moves 16 = .ok (.iload_n 3, 1) := by decide +kernel
theorem dX12_moves_17 : decode cX12_moves 17 = .ok (.iaload, 1) := by decide +kernel
theorem dX12_moves_18 : decode cX12_moves 18 = .ok (.imul, 1) := by decide +kernel
theorem dX12_moves_19 : decode cX12_moves 19 = .ok (.iload_n 2, 1) := by decide +kernel
theorem dX12_moves_20 : decode cX12_moves 20 = .ok (.iadd, 1) := by decide +kernel
theorem dX12_moves_21 : decode cX12_moves 21 = .ok (.iaload, 1) := by decide +kernel
theorem dX12_moves_22 : decode cX12_moves 22 = .ok (.istore 4, 2) := by decide +kernel
theorem dX12_moves_24 : decode cX12_moves 24 = .ok (.iload 4, 2) := by decide +kernel
theorem dX12_moves_26 : decode cX12_moves 26 = .ok (.iconst (-1), 1) := by decide +kernel
theorem dX12_moves_27 : decode cX12_moves 27 = .ok (.if_icmp .ne 5, 3) := by decide +kernel
theorem dX12_moves_30 : decode cX12_moves 30 = .ok (.iconst (-1), 1) := by decide +kernel
theorem dX12_moves_31 : decode cX12_moves 31 = .ok (.ireturn, 1) := by decide +kernel
theorem dX12_moves_32 : decode cX12_moves 32 = .ok (.iconst 0, 1) := by decide +kernel
theorem dX12_moves_33 : decode cX12_moves 33 = .ok (.istore 5, 2) := by decide +kernel
theorem dX12_moves_35 : decode cX12_moves 35 = .ok (.iconst 0, 1) := by decide +kernel
theorem dX12_moves_36 : decode cX12_moves 36 = .ok (.istore 6, 2) := by decide +kernel
theorem dX12_moves_38 : decode cX12_moves 38 = .ok (.iload 6, 2) := by decide +kernel
theorem dX12_moves_40 : decode cX12_moves 40 = .ok (.iload_n 3, 1) := by decide +kernel
theorem dX12_moves_41 : decode cX12_moves 41 = .ok (.if_icmp .ge 52, 3) := by decide +kernel
theorem dX12_moves_44 : decode cX12_moves 44 = .ok (.aload_n 0, 1) := by decide +kernel
theorem dX12_moves_45 : decode cX12_moves 45 = .ok (.getfield 96, 3) := by decide +kernel
theorem dX12_moves_48 : decode cX12_moves 48 = .ok (.iload 6, 2) := by decide +kernel
theorem dX12_moves_50 : decode cX12_moves 50 = .ok (.iaload, 1) := by decide +kernel
theorem dX12_moves_51 : decode cX12_moves 51 = .ok (.iload 4, 2) := by decide +kernel
theorem dX12_moves_53 : decode cX12_moves 53 = .ok (.if_icmp .ne 34, 3) := by decide +kernel
theorem dX12_moves_56 : decode cX12_moves 56 = .ok (.aload_n 0, 1) := by decide +kernel
theorem dX12_moves_57 : decode cX12_moves 57 = .ok (.getfield 39, 3) := by decide +kernel
theorem dX12_moves_60 : decode cX12_moves 60 = .ok (.aload_n 0, 1) := by decide +kernel
theorem dX12_moves_61 : decode cX12_moves 61 = .ok (.getfield 87, 3) := by decide +kernel
theorem dX12_moves_64 : decode cX12_moves 64 = .ok (.iconst 3, 1) := by decide +kernel
theorem dX12_moves_65 : decode cX12_moves 65 = .ok (.iload_n 1, 1) := by decide +kernel
theorem dX12_moves_66 : decode cX12_moves 66 = .ok (.imul, 1) := by decide +kernel
theorem dX12_moves_67 : decode cX12_moves 67 = .ok (.iload 6, 2) := by decide +kernel
theorem dX12_moves_69 : decode cX12_moves 69 = .ok (.iadd, 1) := by decide +kernel
theorem dX12_moves_70 : decode cX12_moves 70 = .ok (.iaload, 1) := by decide +kernel
theorem dX12_moves_71 : decode cX12_moves 71 = .ok (.iaload, 1) := by decide +kernel
theorem dX12_moves_72 : decode cX12_moves 72 = .ok (.istore 5, 2) := by decide +kernel
theorem dX12_moves_74 : decode cX12_moves 74 = .ok (.aload_n 0, 1) := by decide +kernel
theorem dX12_moves_75 : decode cX12_moves 75 = .ok (.getfield 96, 3) := by decide +kernel
theorem dX12_moves_78 : decode cX12_moves 78 = .ok (.iload 6, 2) := by decide +kernel
theorem dX12_moves_80 : decode cX12_moves 80 = .ok (.aload_n 0, 1) := by decide +kernel
theorem dX12_moves_81 : decode cX12_moves 81 = .ok (.getfield 96, 3) := by decide +kernel
theorem dX12_moves_84 : decode cX12_moves 84 = .ok (.iload_n 3, 1) := by decide +kernel
theorem dX12_moves_85 : decode cX12_moves 85 = .ok (.iaload, 1) := by decide +kernel
theorem dX12_moves_86 : decode cX12_moves 86 = .ok (.iastore, 1) := by decide +kernel
theorem dX12_moves_87 : decode cX12_moves 87 = .ok (.iinc 6 1, 3) := by decide +kernel
theorem dX12_moves_90 : decode cX12_moves 90 = .ok (.goto (-52), 3) := by decide +kernel
theorem dX12_moves_93 : decode cX12_moves 93 = .ok (.aload_n 0, 1) := by decide +kernel
theorem dX12_moves_94 : decode cX12_moves 94 = .ok (.getfield 96, 3) := by decide +kernel
theorem dX12_moves_97 : decode cX12_moves 97 = .ok (.iload_n 3, 1) := by decide +kernel
theorem dX12_moves_98 : decode cX12_moves 98 = .ok (.iload 4, 2) := by decide +kernel
theorem dX12_moves_100 : decode cX12_moves 100 = .ok (.iastore, 1) := by decide +kernel
theorem dX12_moves_101 : decode cX12_moves 101 = .ok (.iload 5, 2) := by decide +kernel
theorem dX12_moves_103 : decode cX12_moves 103 = .ok (.ireturn, 1) := by decide +kernel
theorem dX12_isPartGoal_0 : decode cX12_isPartGoal 0 = .ok (.iconst 1, 1) := by decide +kernel
theorem dX12_isPartGoal_1 : decode cX12_isPartGoal 1 = .ok (.istore_n 2, 1) := by decide +kernel
theorem dX12_isPartGoal_2 : decode cX12_isPartGoal 2 = .ok (.iconst 0, 1) := by decide +kernel
theorem dX12_isPartGoal_3 : decode cX12_isPartGoal 3 = .ok (.istore_n 3, 1) := by decide +kernel
theorem dX12_isPartGoal_4 : decode cX12_isPartGoal 4 = .ok (.iload_n 3, 1) := by decide +kernel
theorem dX12_isPartGoal_5 : decode cX12_isPartGoal 5 = .ok (.aload_n 0, 1) := by decide +kernel
theorem dX12_isPartGoal_6 : decode cX12_isPartGoal 6 = .ok (.getfield 90, 3) := by decide +kernel
theorem dX12_isPartGoal_9 : decode cX12_isPartGoal 9 = .ok (.iload_n 1, 1) := by decide +kernel
theorem dX12_isPartGoal_10 : decode cX12_isPartGoal 10 = .ok (.iaload, 1) := by decide +kernel
theorem dX12_isPartGoal_11 : decode cX12_isPartGoal 11 = .ok (.if_icmp .ge 43, 3) := by decide +kernel
theorem dX12_isPartGoal_14 : decode cX12_isPartGoal 14 = .ok (.iload_n 2, 1) := by decide +kernel
theorem dX12_isPartGoal_15 : decode cX12_isPartGoal 15 = .ok (.ifCond .eq 31, 3) := by decide +kernel
theorem dX12_isPartGoal_18 : decode cX12_isPartGoal 18 = .ok (.aload_n 0, 1) := by decide +kernel
theorem dX12_isPartGoal_19 : decode cX12_isPartGoal 19 = .ok (.getfield 96, 3) := by decide +kernel
theorem dX12_isPartGoal_22 : decode cX12_isPartGoal 22 = .ok (.iload_n 3, 1) := by decide +kernel
theorem dX12_isPartGoal_23 : decode cX12_isPartGoal 23 = .ok (.iaload, 1) := by decide +kernel
theorem dX12_isPartGoal_24 : decode cX12_isPartGoal 24 = .ok (.aload_n 0, 1) := by decide +kernel
theorem dX12_isPartGoal_25 : decode cX12_isPartGoal 25 = .ok (.getfield 36, 3) := by decide +kernel
theorem dX12_isPartGoal_28 : decode cX12_isPartGoal 28 = .ok (.aload_n 0, 1) := by decide +kernel
theorem dX12_isPartGoal_29 : decode cX12_isPartGoal 29 = .ok (.getfield 87, 3) := by decide +kernel
theorem dX12_isPartGoal_32 : decode cX12_isPartGoal 32 = .ok (.iconst 3, 1) := by decide +kernel
theorem dX12_isPartGoal_33 : decode cX12_isPartGoal 33 = .ok (.iload_n 1, 1) := by decide +kernel
theorem dX12_isPartGoal_34 : decode cX12_isPartGoal 34 = .ok (.imul, 1) := by decide +kernel
theorem dX12_isPartGoal_35 : decode cX12_isPartGoal 35 = .ok (.iload_n 3, 1) := by decide +kernel
theorem dX12_isPartGoal_36 : decode cX12_isPartGoal 36 = .ok (.iadd, 1) := by decide +kernel
theorem dX12_isPartGoal_37 : decode cX12_isPartGoal 37 = .ok (.iaload, 1) := by decide +kernel
theorem dX12_isPartGoal_38 : decode cX12_isPartGoal 38 = .ok (.iaload, 1) := by decide +kernel
theorem dX12_isPartGoal_39 : decode cX12_isPartGoal 39 = .ok (.if_icmp .ne 7, 3) := by decide +kernel
theorem dX12_isPartGoal_42 : decode cX12_isPartGoal 42 = .ok (.iconst 1, 1) := by decide +kernel
theorem dX12_isPartGoal_43 : decode cX12_isPartGoal 43 = .ok (.goto 4, 3) := by decide +kernel
theorem dX12_isPartGoal_46 : decode cX12_isPartGoal 46 = .ok (.iconst 0, 1) := by decide +kernel
theorem dX12_isPartGoal_47 : decode cX12_isPartGoal 47 = .ok (.istore_n 2, 1) := by decide +kernel
theorem dX12_isPartGoal_48 : decode cX12_isPartGoal 48 = .ok (.iinc 3 1, 3) := by decide +kernel
theorem dX12_isPartGoal_51 : decode cX12_isPartGoal 51 = .ok (.goto (-47), 3) := by decide +kernel
theorem dX12_isPartGoal_54 : decode cX12_isPartGoal 54 = .ok (.iload_n 2, 1) := by decide +kernel
theorem dX12_isPartGoal_55 : decode cX12_isPartGoal 55 = .ok (.ireturn, 1) := by decide +kernel
set_option maxRecDepth 20000 in
theorem ggX12_fills_X12_isPlace : GoodIn wsX12_fills wsX12_isPlace := goodIn_r _ [8, 1, 9, 10, 27, 28, 29, 30, 31, 32, 33, 34, 35, 36, 37, 38, 39, 40, 41, 42, 43, 44, 45, 46, 47, 48, 49, 50, 51, 52, 53, 54, 55, 56, 57, 58, 59, 60, 61, 62, 63, 64, 65, 66, 67, 68, 69, 70, 71, 72, 73, 74, 75, 76, 77, 78, 79, 80, 81, 82, 83, 84, 85, 86, 87, 88, 89, 90, 91, 92, 93] (by decide +kernel) (by decide +kernel)
set_option maxRecDepth 20000 in
theorem gX12_fills_X12_isPlace : GoodIn wsX12_fills (wsV RX12 245 RX12 yX12_isPlace wsX12_isPlace) := goodIn_app (goodIn_of _ (by decide +kernel)) ggX12_fills_X12_isPlace
set_option maxRecDepth 20000 in
theorem ggX12_fills_X12_isPartGoal : GoodIn wsX12_fills wsX12_isPartGoal := goodIn_r _ [14, 1, 9, 15, 16, 27, 28, 29, 30, 31, 32, 33, 34, 35, 36, 37, 38, 39, 40, 41, 42, 43, 44, 45, 46, 47, 48, 49, 50, 51, 52, 53, 54, 55, 56, 57, 58, 59, 60, 61, 62, 63, 64, 65, 66, 67, 68, 69, 70, 71, 72, 73, 74, 75, 76, 77, 78, 79, 80, 81, 82, 83, 84, 85, 86, 87, 88, 89, 90, 91, 92, 93] (by decide +kernel) (by decide +kernel)
set_option maxRecDepth 20000 in
theorem gX12_fills_X12_isPartGoal : GoodIn wsX12_fills (wsV RX12 249 RX12 yX12_isPartGoal wsX12_isPartGoal) := goodIn_app (goodIn_of _ (by decide +kernel)) ggX12_fills_X12_isPartGoal
set_option maxRecDepth 20000 in
theorem ggX12_fills_X12_moves : GoodIn wsX12_fills wsX12_moves := goodIn_r _ [20, 1, 21, 9, 22, 16, 27, 28, 29, 30, 31, 32, 33, 34, 35, 36, 37, 38, 39, 40, 41, 42, 43, 44, 45, 46, 47, 48, 49, 50, 51, 52, 53, 54, 55, 56, 57, 58, 59, 60, 61, 62, 63, 64, 65, 66, 67, 68, 69, 70, 71, 72, 73, 74, 75, 76, 77, 78, 79, 80, 81, 82, 83, 84, 85, 86, 87, 88, 89, 90, 91, 92, 93] (by decide +kernel) (by decide +kernel)
set_option maxRecDepth 20000 in
theorem gX12_fills_X12_moves : GoodIn wsX12_fills (wsV RX12 253 RX12 yX12_moves wsX12_moves) := goodIn_app (goodIn_of _ (by decide +kernel)) ggX12_fills_X12_moves
set_option maxRecDepth 20000 in
theorem ggX12_fills_X12_placeAt : GoodIn wsX12_fills wsX12_placeAt := goodIn_r _ [26, 1, 9, 27, 28, 29, 30, 31, 32, 33, 34, 35, 36, 37, 38, 39, 40, 41, 42, 43, 44, 45, 46, 47, 48, 49, 50, 51, 52, 53, 54, 55, 56, 57, 58, 59, 60, 61, 62, 63, 64, 65, 66, 67, 68, 69, 70, 71, 72, 73, 74, 75, 76, 77, 78, 79, 80, 81, 82, 83, 84, 85, 86, 87, 88, 89, 90, 91, 92, 93] (by decide +kernel) (by decide +kernel)
set_option maxRecDepth 20000 in
theorem gX12_fills_X12_placeAt : GoodIn wsX12_fills (wsV RX12 256 RX12 yX12_placeAt wsX12_placeAt) := goodIn_app (goodIn_of _ (by decide +kernel)) ggX12_fills_X12_placeAt
theorem dX12_fills_0 : decode cX12_fills 0 = .ok (.bipush 9, 2) := by decide +kernel
theorem dX12_fills_2 : decode cX12_fills 2 = .ok (.istore_n 2, 1) := by decide +kernel
theorem dX12_fills_3 : decode cX12_fills 3 = .ok (.iconst 0, 1) := by decide +kernel
theorem dX12_fills_4 : decode cX12_fills 4 = .ok (.istore_n 3, 1) := by decide +kernel
theorem dX12_fills_5 : decode cX12_fills 5 = .ok (.iload_n 3, 1) := by decide +kernel
theorem dX12_fills_6 : decode cX12_fills 6 = .ok (.aload_n 0, 1) := by decide +kernel
theorem dX12_fills_7 : decode cX12_fills 7 = .ok (.getfield 90, 3) := by decide +kernel
theorem dX12_fills_10 : decode cX12_fills 10 = .ok (.iload_n 1, 1) := by decide +kernel
theorem dX12_fills_11 : decode cX12_fills 11 = .ok (.iaload, 1) := by decide +kernel
theorem dX12_fills_12 : decode cX12_fills 12 = .ok (.if_icmp .ge 14, 3) := by decide +kernel
theorem dX12_fills_15 : decode cX12_fills 15 = .ok (.iload_n 2, 1) := by decide +kernel
theorem dX12_fills_16 : decode cX12_fills 16 = .ok (.bipush 9, 2) := by decide +kernel
theorem dX12_fills_18 : decode cX12_fills 18 = .ok (.imul, 1) := by decide +kernel
theorem dX12_fills_19 : decode cX12_fills 19 = .ok (.istore_n 2, 1) := by decide +kernel
theorem dX12_fills_20 : decode cX12_fills 20 = .ok (.iinc 3 1, 3) := by decide +kernel
theorem dX12_fills_23 : decode cX12_fills 23 = .ok (.goto (-18), 3) := by decide +kernel
theorem dX12_fills_26 : decode cX12_fills 26 = .ok (.sipush 6561, 3) := by decide +kernel
theorem dX12_fills_29 : decode cX12_fills 29 = .ok (.iload_n 1, 1) := by decide +kernel
theorem dX12_fills_30 : decode cX12_fills 30 = .ok (.imul, 1) := by decide +kernel
theorem dX12_fills_31 : decode cX12_fills 31 = .ok (.istore_n 3, 1) := by decide +kernel
theorem dX12_fills_32 : decode cX12_fills 32 = .ok (.iconst 0, 1) := by decide +kernel
theorem dX12_fills_33 : decode cX12_fills 33 = .ok (.istore 4, 2) := by decide +kernel
theorem dX12_fills_35 : decode cX12_fills 35 = .ok (.iload 4, 2) := by decide +kernel
theorem dX12_fills_37 : decode cX12_fills 37 = .ok (.iload_n 2, 1) := by decide +kernel
theorem dX12_fills_38 : decode cX12_fills 38 = .ok (.if_icmp .ge 42, 3) := by decide +kernel
theorem dX12_fills_41 : decode cX12_fills 41 = .ok (.aload_n 0, 1) := by decide +kernel
theorem dX12_fills_42 : decode cX12_fills 42 = .ok (.getfield 93, 3) := by decide +kernel
theorem dX12_fills_45 : decode cX12_fills 45 = .ok (.iload_n 3, 1) := by decide +kernel
theorem dX12_fills_46 : decode cX12_fills 46 = .ok (.iload 4, 2) := by decide +kernel
theorem dX12_fills_48 : decode cX12_fills 48 = .ok (.iadd, 1) := by decide +kernel
theorem dX12_fills_49 : decode cX12_fills 49 = .ok (.aload_n 0, 1) := by decide +kernel
theorem dX12_fills_50 : decode cX12_fills 50 = .ok (.iload_n 1, 1) := by decide +kernel
theorem dX12_fills_51 : decode cX12_fills 51 = .ok (.iload 4, 2) := by decide +kernel
theorem dX12_fills_53 : decode cX12_fills 53 = .ok (.invokevirtual 245, 3) := by decide +kernel
theorem dX12_fills_56 : decode cX12_fills 56 = .ok (.ifCond .eq 15, 3) := by decide +kernel
theorem dX12_fills_59 : decode cX12_fills 59 = .ok (.aload_n 0, 1) := by decide +kernel
theorem dX12_fills_60 : decode cX12_fills 60 = .ok (.iload_n 1, 1) := by decide +kernel
theorem dX12_fills_61 : decode cX12_fills 61 = .ok (.invokevirtual 249, 3) := by decide +kernel
theorem dX12_fills_64 : decode cX12_fills 64 = .ok (.ifCond .eq 7, 3) := by decide +kernel
theorem dX12_fills_67 : decode cX12_fills 67 = .ok (.iconst 0, 1) := by decide +kernel
theorem dX12_fills_68 : decode cX12_fills 68 = .ok (.goto 5, 3) := by decide +kernel
theorem dX12_fills_71 : decode cX12_fills 71 = .ok (.ldc 199, 2) := by decide +kernel
theorem dX12_fills_73 : decode cX12_fills 73 = .ok (.iastore, 1) := by decide +kernel
theorem dX12_fills_74 : decode cX12_fills 74 = .ok (.iinc 4 1, 3) := by decide +kernel
theorem dX12_fills_77 : decode cX12_fills 77 = .ok (.goto (-42), 3) := by decide +kernel
theorem dX12_fills_80 : decode cX12_fills 80 = .ok (.iconst 1, 1) := by decide +kernel
theorem dX12_fills_81 : decode cX12_fills 81 = .ok (.istore 4, 2) := by decide +kernel
theorem dX12_fills_83 : decode cX12_fills 83 = .ok (.iload 4, 2) := by decide +kernel
theorem dX12_fills_85 : decode cX12_fills 85 = .ok (.ifCond .eq 124, 3) := by decide +kernel
theorem dX12_fills_88 : decode cX12_fills 88 = .ok (.iconst 0, 1) := by decide +kernel
theorem dX12_fills_89 : decode cX12_fills 89 = .ok (.istore 4, 2) := by decide +kernel
theorem dX12_fills_91 : decode cX12_fills 91 = .ok (.iconst 0, 1) := by decide +kernel
theorem dX12_fills_92 : decode cX12_fills 92 = .ok (.istore 5, 2) := by decide +kernel
theorem dX12_fills_94 : decode cX12_fills 94 = .ok (.iload 5, 2) := by decide +kernel
theorem dX12_fills_96 : decode cX12_fills 96 = .ok (.iload_n 2, 1) := by decide +kernel
theorem dX12_fills_97 : decode cX12_fills 97 = .ok (.if_icmp .ge 109, 3) := by decide +kernel
theorem dX12_fills_100 : decode cX12_fills 100 = .ok (.iconst 0, 1) := by decide +kernel
theorem dX12_fills_101 : decode cX12_fills 101 = .ok (.istore 6, 2) := by decide +kernel
theorem dX12_fills_103 : decode cX12_fills 103 = .ok (.iload 6, 2) := by decide +kernel
theorem dX12_fills_105 : decode cX12_fills 105 = .ok (.iconst 4, 1) := by decide +kernel
theorem dX12_fills_106 : decode cX12_fills 106 = .ok (.if_icmp .ge 94, 3) := by decide +kernel
theorem dX12_fills_109 : decode cX12_fills 109 = .ok (.aload_n 0, 1) := by decide +kernel
theorem dX12_fills_110 : decode cX12_fills 110 = .ok (.iload_n 1, 1) := by decide +kernel
theorem dX12_fills_111 : decode cX12_fills 111 = .ok (.iload 5, 2) := by decide +kernel
theorem dX12_fills_113 : decode cX12_fills 113 = .ok (.invokevirtual 245, 3) := by decide +kernel
theorem dX12_fills_116 : decode cX12_fills 116 = .ok (.ifCond .eq 84, 3) := by decide +kernel
theorem dX12_fills_119 : decode cX12_fills 119 = .ok (.aload_n 0, 1) := by decide +kernel
theorem dX12_fills_120 : decode cX12_fills 120 = .ok (.iload_n 1, 1) := by decide +kernel
theorem dX12_fills_121 : decode cX12_fills 121 = .ok (.iload 6, 2) := by decide +kernel
theorem dX12_fills_123 : decode cX12_fills 123 = .ok (.invokevirtual 253, 3) := by decide +kernel
theorem dX12_fills_126 : decode cX12_fills 126 = .ok (.istore 7, 2) := by decide +kernel
theorem dX12_fills_128 : decode cX12_fills 128 = .ok (.iload 7, 2) := by decide +kernel
theorem dX12_fills_130 : decode cX12_fills 130 = .ok (.iconst (-1), 1) := by decide +kernel
theorem dX12_fills_131 : decode cX12_fills 131 = .ok (.if_icmp .ne 8, 3) := by decide +kernel
theorem dX12_fills_134 : decode cX12_fills 134 = .ok (.ldc 199, 2) := by decide +kernel
theorem dX12_fills_136 : decode cX12_fills 136 = .ok (.goto 15, 3) := by decide +kernel
theorem dX12_fills_139 : decode cX12_fills 139 = .ok (.aload_n 0, 1) := by decide +kernel
theorem dX12_fills_140 : decode cX12_fills 140 = .ok (.getfield 93, 3) := by decide +kernel
theorem dX12_fills_143 : decode cX12_fills 143 = .ok (.iload_n 3, 1) := by decide +kernel
theorem dX12_fills_144 : decode cX12_fills 144 = .ok (.aload_n 0, 1) := by decide +kernel
theorem dX12_fills_145 : decode cX12_fills 145 = .ok (.iload_n 1, 1) := by decide +kernel
theorem dX12_fills_146 : decode cX12_fills 146 = .ok (.invokevirtual 256, 3) := by decide +kernel
theorem dX12_fills_149 : decode cX12_fills 149 = .ok (.iadd, 1) := by decide +kernel
theorem dX12_fills_150 : decode cX12_fills 150 = .ok (.iaload, 1) := by decide +kernel
theorem dX12_fills_151 : decode cX12_fills 151 = .ok (.istore 8, 2) := by decide +kernel
theorem dX12_fills_153 : decode cX12_fills 153 = .ok (.iload 8, 2) := by decide +kernel
theorem dX12_fills_155 : decode cX12_fills 155 = .ok (.ldc 199, 2) := by decide +kernel
theorem dX12_fills_157 : decode cX12_fills 157 = .ok (.if_icmp .ge 37, 3) := by decide +kernel
theorem dX12_fills_160 : decode cX12_fills 160 = .ok (.iload 8, 2) := by decide +kernel
theorem dX12_fills_162 : decode cX12_fills 162 = .ok (.iload 7, 2) := by decide +kernel
theorem dX12_fills_164 : decode cX12_fills 164 = .ok (.iadd, 1) := by decide +kernel
theorem dX12_fills_165 : decode cX12_fills 165 = .ok (.aload_n 0, 1) := by decide +kernel
theorem dX12_fills_166 : decode cX12_fills 166 = .ok (.getfield 93, 3) := by decide +kernel
theorem dX12_fills_169 : decode cX12_fills 169 = .ok (.iload_n 3, 1) := by decide +kernel
theorem dX12_fills_170 : decode cX12_fills 170 = .ok (.iload 5, 2) := by decide +kernel
theorem dX12_fills_172 : decode cX12_fills 172 = .ok (.iadd, 1) := by decide +kernel
theorem dX12_fills_173 : decode cX12_fills 173 = .ok (.iaload, 1) := by decide +kernel
theorem dX12_fills_174 : decode cX12_fills 174 = .ok (.if_icmp .ge 20, 3) := by decide +kernel
theorem dX12_fills_177 : decode cX12_fills 177 = .ok (.aload_n 0, 1) := by decide +kernel
theorem dX12_fills_178 : decode cX12_fills 178 = .ok (.getfield 93, 3) := by decide +kernel
theorem dX12_fills_181 : decode cX12_fills 181 = .ok (.iload_n 3, 1) := by decide +kernel
theorem dX12_fills_182 : decode cX12_fills 182 = .ok (.iload 5, 2) := by decide +kernel
theorem dX12_fills_184 : decode cX12_fills 184 = .ok (.iadd, 1) := by decide +kernel
theorem dX12_fills_185 : decode cX12_fills 185 = .ok (.iload 8, 2) := by decide +kernel
theorem dX12_fills_187 : decode cX12_fills 187 = .ok (.iload 7, 2) := by decide +kernel
theorem dX12_fills_189 : decode cX12_fills 189 = .ok (.iadd, 1) := by decide +kernel
theorem dX12_fills_190 : decode cX12_fills 190 = .ok (.iastore, 1) := by decide +kernel
theorem dX12_fills_191 : decode cX12_fills 191 = .ok (.iconst 1, 1) := by decide +kernel
theorem dX12_fills_192 : decode cX12_fills 192 = .ok (.istore 4, 2) := by decide +kernel
theorem dX12_fills_194 : decode cX12_fills 194 = .ok (.iinc 6 1, 3) := by decide +kernel
theorem dX12_fills_197 : decode cX12_fills 197 = .ok (.goto (-94), 3) := by decide +kernel
theorem dX12_fills_200 : decode cX12_fills 200 = .ok (.iinc 5 1, 3) := by decide +kernel
theorem dX12_fills_203 : decode cX12_fills 203 = .ok (.goto (-109), 3) := by decide +kernel
theorem dX12_fills_206 : decode cX12_fills 206 = .ok (.goto (-123), 3) := by decide +kernel
theorem dX12_fills_209 : decode cX12_fills 209 = .ok (.iconst 0, 1) := by decide +kernel
theorem dX12_fills_210 : decode cX12_fills 210 = .ok (.istore 5, 2) := by decide +kernel
theorem dX12_fills_212 : decode cX12_fills 212 = .ok (.iconst 0, 1) := by decide +kernel
theorem dX12_fills_213 : decode cX12_fills 213 = .ok (.istore 6, 2) := by decide +kernel
theorem dX12_fills_215 : decode cX12_fills 215 = .ok (.iload 6, 2) := by decide +kernel
theorem dX12_fills_217 : decode cX12_fills 217 = .ok (.iload_n 2, 1) := by decide +kernel
theorem dX12_fills_218 : decode cX12_fills 218 = .ok (.if_icmp .ge 33, 3) := by decide +kernel
theorem dX12_fills_221 : decode cX12_fills 221 = .ok (.iload 5, 2) := by decide +kernel
theorem dX12_fills_223 : decode cX12_fills 223 = .ok (.aload_n 0, 1) := by decide +kernel
theorem dX12_fills_224 : decode cX12_fills 224 = .ok (.getfield 93, 3) := by decide +kernel
theorem dX12_fills_227 : decode cX12_fills 227 = .ok (.iload_n 3, 1) := by decide +kernel
theorem dX12_fills_228 : decode cX12_fills 228 = .ok (.iload 6, 2) := by decide +kernel
theorem dX12_fills_230 : decode cX12_fills 230 = .ok (.iadd, 1) := by decide +kernel
theorem dX12_fills_231 : decode cX12_fills 231 = .ok (.iaload, 1) := by decide +kernel
theorem dX12_fills_232 : decode cX12_fills 232 = .ok (.ldc 199, 2) := by decide +kernel
theorem dX12_fills_234 : decode cX12_fills 234 = .ok (.if_icmp .ge 7, 3) := by decide +kernel
theorem dX12_fills_237 : decode cX12_fills 237 = .ok (.iconst 1, 1) := by decide +kernel
theorem dX12_fills_238 : decode cX12_fills 238 = .ok (.goto 4, 3) := by decide +kernel
theorem dX12_fills_241 : decode cX12_fills 241 = .ok (.iconst 0, 1) := by decide +kernel
theorem dX12_fills_242 : decode cX12_fills 242 = .ok (.iadd, 1) := by decide +kernel
theorem dX12_fills_243 : decode cX12_fills 243 = .ok (.istore 5, 2) := by decide +kernel
theorem dX12_fills_245 : decode cX12_fills 245 = .ok (.iinc 6 1, 3) := by decide +kernel
theorem dX12_fills_248 : decode cX12_fills 248 = .ok (.goto (-33), 3) := by decide +kernel
theorem dX12_fills_251 : decode cX12_fills 251 = .ok (.iload 5, 2) := by decide +kernel
theorem dX12_fills_253 : decode cX12_fills 253 = .ok (.ireturn, 1) := by decide +kernel
theorem dX12_bits_0 : decode cX12_bits 0 = .ok (.iconst 0, 1) := by decide +kernel
theorem dX12_bits_1 : decode cX12_bits 1 = .ok (.istore_n 1, 1) := by decide +kernel
theorem dX12_bits_2 : decode cX12_bits 2 = .ok (.iconst 0, 1) := by decide +kernel
theorem dX12_bits_3 : decode cX12_bits 3 = .ok (.istore_n 2, 1) := by decide +kernel
theorem dX12_bits_4 : decode cX12_bits 4 = .ok (.iload_n 2, 1) := by decide +kernel
theorem dX12_bits_5 : decode cX12_bits 5 = .ok (.bipush 31, 2) := by decide +kernel
theorem dX12_bits_7 : decode cX12_bits 7 = .ok (.if_icmp .ge 17, 3) := by decide +kernel
theorem dX12_bits_10 : decode cX12_bits 10 = .ok (.iload_n 1, 1) := by decide +kernel
theorem dX12_bits_11 : decode cX12_bits 11 = .ok (.iload_n 0, 1) := by decide +kernel
theorem dX12_bits_12 : decode cX12_bits 12 = .ok (.iload_n 2, 1) := by decide +kernel
theorem dX12_bits_13 : decode cX12_bits 13 = .ok (.ishr, 1) := by decide +kernel
theorem dX12_bits_14 : decode cX12_bits 14 = .ok (.iconst 1, 1) := by decide +kernel
theorem dX12_bits_15 : decode cX12_bits 15 = .ok (.iand, 1) := by decide +kernel
theorem dX12_bits_16 : decode cX12_bits 16 = .ok (.iadd, 1) := by decide +kernel
theorem dX12_bits_17 : decode cX12_bits 17 = .ok (.istore_n 1, 1) := by decide +kernel
theorem dX12_bits_18 : decode cX12_bits 18 = .ok (.iinc 2 1, 3) := by decide +kernel
theorem dX12_bits_21 : decode cX12_bits 21 = .ok (.goto (-17), 3) := by decide +kernel
theorem dX12_bits_24 : decode cX12_bits 24 = .ok (.iload_n 1, 1) := by decide +kernel
theorem dX12_bits_25 : decode cX12_bits 25 = .ok (.ireturn, 1) := by decide +kernel
set_option maxRecDepth 20000 in
theorem ggX12_part_X12_bits : GoodIn wsX12_part wsX12_bits := goodIn_r _ [9] (by decide +kernel) (by decide +kernel)
set_option maxRecDepth 20000 in
theorem gX12_part_X12_bits : GoodIn wsX12_part (va_wsS RX12 259 yX12_bits wsX12_bits) := goodIn_app (goodIn_of _ (by decide +kernel)) ggX12_part_X12_bits
set_option maxRecDepth 20000 in
theorem ggX12_part_X12_refuse : GoodIn wsX12_part wsX12_refuse := goodIn_r _ [13, 14, 45, 46, 47, 48, 49, 50, 51, 52, 53, 54, 55, 56, 57, 58, 59, 60, 61, 62, 63, 64, 65, 66, 67, 68, 69, 70, 71, 72, 73, 74, 75, 76, 77, 78, 79, 80, 81, 82, 83, 84, 85, 86, 87, 88, 89, 90, 91, 92, 93, 94, 95, 96, 97, 98, 99, 100, 101, 102, 103, 104, 105, 106, 107, 108, 109, 110, 111] (by decide +kernel) (by decide +kernel)
set_option maxRecDepth 20000 in
theorem gX12_part_X12_refuse : GoodIn wsX12_part (wsV RX12 204 RX12 yX12_refuse wsX12_refuse) := goodIn_app (goodIn_of _ (by decide +kernel)) ggX12_part_X12_refuse
set_option maxRecDepth 20000 in
theorem ggX12_part_X12_fills : GoodIn wsX12_part wsX12_fills := goodIn_r _ [18, 4, 19, 20, 21, 22, 23, 8, 24, 25, 1, 26, 27, 28, 29, 30, 5, 31, 32, 33, 34, 35, 36, 37, 38, 39, 40, 45, 46, 47, 48, 49, 50, 51, 52, 53, 54, 55, 56, 57, 58, 59, 60, 61, 62, 63, 64, 65, 66, 67, 68, 69, 70, 71, 72, 73, 74, 75, 76, 77, 78, 79, 80, 81, 82, 83, 84, 85, 86, 87, 88, 89, 90, 91, 92, 93, 94, 95, 96, 97, 98, 99, 100, 101, 102, 103, 104, 105, 106, 107, 108, 109, 110, 111] (by decide +kernel) (by decide +kernel)
set_option maxRecDepth 20000 in
theorem gX12_part_X12_fills : GoodIn wsX12_part (wsV RX12 262 RX12 yX12_fills wsX12_fills) := goodIn_app (goodIn_of _ (by decide +kernel)) ggX12_part_X12_fills
set_option maxRecDepth 20000 in
theorem ggX12_part_X12_told : GoodIn wsX12_part wsX12_told := goodIn_r _ [44, 14, 45, 46, 47, 48, 49, 50, 51, 52, 53, 54, 55, 56, 57, 58, 59, 60, 61, 62, 63, 64, 65, 66, 67, 68, 69, 70, 71, 72, 73, 74, 75, 76, 77, 78, 79, 80, 81, 82, 83, 84, 85, 86, 87, 88, 89, 90, 91, 92, 93, 94, 95, 96, 97, 98, 99, 100, 101, 102, 103, 104, 105, 106, 107, 108, 109, 110, 111] (by decide +kernel) (by decide +kernel)
set_option maxRecDepth 20000 in
theorem gX12_part_X12_told : GoodIn wsX12_part (wsV RX12 215 RX12 yX12_told wsX12_told) := goodIn_app (goodIn_of _ (by decide +kernel)) ggX12_part_X12_told
theorem dX12_part_0 : decode cX12_part 0 = .ok (.iload_n 1, 1) := by decide +kernel
theorem dX12_part_1 : decode cX12_part 1 = .ok (.ifCond .le 31, 3) := by decide +kernel
theorem dX12_part_4 : decode cX12_part 4 = .ok (.iload_n 1, 1) := by decide +kernel
theorem dX12_part_5 : decode cX12_part 5 = .ok (.iconst 1, 1) := by decide +kernel
theorem dX12_part_6 : decode cX12_part 6 = .ok (.iand, 1) := by decide +kernel
theorem dX12_part_7 : decode cX12_part 7 = .ok (.ifCond .ne 25, 3) := by decide +kernel
theorem dX12_part_10 : decode cX12_part 10 = .ok (.iload_n 1, 1) := by decide +kernel
theorem dX12_part_11 : decode cX12_part 11 = .ok (.iconst 1, 1) := by decide +kernel
theorem dX12_part_12 : decode cX12_part 12 = .ok (.aload_n 0, 1) := by decide +kernel
theorem dX12_part_13 : decode cX12_part 13 = .ok (.getfield 170, 3) := by decide +kernel
theorem dX12_part_16 : decode cX12_part 16 = .ok (.ishl, 1) := by decide +kernel
theorem dX12_part_17 : decode cX12_part 17 = .ok (.if_icmp .ge 15, 3) := by decide +kernel
theorem dX12_part_20 : decode cX12_part 20 = .ok (.iload_n 1, 1) := by decide +kernel
theorem dX12_part_21 : decode cX12_part 21 = .ok (.invokestatic 259, 3) := by decide +kernel
theorem dX12_part_24 : decode cX12_part 24 = .ok (.iconst 3, 1) := by decide +kernel
theorem dX12_part_25 : decode cX12_part 25 = .ok (.if_icmp .gt 7, 3) := by decide +kernel
theorem dX12_part_28 : decode cX12_part 28 = .ok (.iconst 1, 1) := by decide +kernel
theorem dX12_part_29 : decode cX12_part 29 = .ok (.goto 4, 3) := by decide +kernel
theorem dX12_part_32 : decode cX12_part 32 = .ok (.iconst 0, 1) := by decide +kernel
theorem dX12_part_33 : decode cX12_part 33 = .ok (.istore_n 2, 1) := by decide +kernel
theorem dX12_part_34 : decode cX12_part 34 = .ok (.iconst 1, 1) := by decide +kernel
theorem dX12_part_35 : decode cX12_part 35 = .ok (.istore_n 3, 1) := by decide +kernel
theorem dX12_part_36 : decode cX12_part 36 = .ok (.iload_n 3, 1) := by decide +kernel
theorem dX12_part_37 : decode cX12_part 37 = .ok (.aload_n 0, 1) := by decide +kernel
theorem dX12_part_38 : decode cX12_part 38 = .ok (.getfield 170, 3) := by decide +kernel
theorem dX12_part_41 : decode cX12_part 41 = .ok (.if_icmp .ge 36, 3) := by decide +kernel
theorem dX12_part_44 : decode cX12_part 44 = .ok (.iload_n 2, 1) := by decide +kernel
theorem dX12_part_45 : decode cX12_part 45 = .ok (.ifCond .eq 32, 3) := by decide +kernel
theorem dX12_part_48 : decode cX12_part 48 = .ok (.iload_n 1, 1) := by decide +kernel
theorem dX12_part_49 : decode cX12_part 49 = .ok (.iload_n 3, 1) := by decide +kernel
theorem dX12_part_50 : decode cX12_part 50 = .ok (.ishr, 1) := by decide +kernel
theorem dX12_part_51 : decode cX12_part 51 = .ok (.iconst 1, 1) := by decide +kernel
theorem dX12_part_52 : decode cX12_part 52 = .ok (.iand, 1) := by decide +kernel
theorem dX12_part_53 : decode cX12_part 53 = .ok (.ifCond .eq 12, 3) := by decide +kernel
theorem dX12_part_56 : decode cX12_part 56 = .ok (.aload_n 0, 1) := by decide +kernel
theorem dX12_part_57 : decode cX12_part 57 = .ok (.getfield 42, 3) := by decide +kernel
theorem dX12_part_60 : decode cX12_part 60 = .ok (.iload_n 3, 1) := by decide +kernel
theorem dX12_part_61 : decode cX12_part 61 = .ok (.baload, 1) := by decide +kernel
theorem dX12_part_62 : decode cX12_part 62 = .ok (.ifCond .ne 7, 3) := by decide +kernel
theorem dX12_part_65 : decode cX12_part 65 = .ok (.iconst 1, 1) := by decide +kernel
theorem dX12_part_66 : decode cX12_part 66 = .ok (.goto 4, 3) := by decide +kernel
theorem dX12_part_69 : decode cX12_part 69 = .ok (.iconst 0, 1) := by decide +kernel
theorem dX12_part_70 : decode cX12_part 70 = .ok (.istore_n 2, 1) := by decide +kernel
theorem dX12_part_71 : decode cX12_part 71 = .ok (.iinc 3 1, 3) := by decide +kernel
theorem dX12_part_74 : decode cX12_part 74 = .ok (.goto (-38), 3) := by decide +kernel
theorem dX12_part_77 : decode cX12_part 77 = .ok (.iload_n 2, 1) := by decide +kernel
theorem dX12_part_78 : decode cX12_part 78 = .ok (.ifCond .ne 9, 3) := by decide +kernel
theorem dX12_part_81 : decode cX12_part 81 = .ok (.aload_n 0, 1) := by decide +kernel
theorem dX12_part_82 : decode cX12_part 82 = .ok (.iconst 1, 1) := by decide +kernel
theorem dX12_part_83 : decode cX12_part 83 = .ok (.invokevirtual 204, 3) := by decide +kernel
theorem dX12_part_86 : decode cX12_part 86 = .ok (.ireturn, 1) := by decide +kernel
theorem dX12_part_87 : decode cX12_part 87 = .ok (.iconst 0, 1) := by decide +kernel
theorem dX12_part_88 : decode cX12_part 88 = .ok (.istore_n 3, 1) := by decide +kernel
theorem dX12_part_89 : decode cX12_part 89 = .ok (.iconst 0, 1) := by decide +kernel
theorem dX12_part_90 : decode cX12_part 90 = .ok (.istore 4, 2) := by decide +kernel
theorem dX12_part_92 : decode cX12_part 92 = .ok (.iload 4, 2) := by decide +kernel
theorem dX12_part_94 : decode cX12_part 94 = .ok (.aload_n 0, 1) := by decide +kernel
theorem dX12_part_95 : decode cX12_part 95 = .ok (.getfield 181, 3) := by decide +kernel
theorem dX12_part_98 : decode cX12_part 98 = .ok (.if_icmp .ge 60, 3) := by decide +kernel
theorem dX12_part_101 : decode cX12_part 101 = .ok (.iconst 0, 1) := by decide +kernel
theorem dX12_part_102 : decode cX12_part 102 = .ok (.istore 5, 2) := by decide +kernel
theorem dX12_part_104 : decode cX12_part 104 = .ok (.iload 5, 2) := by decide +kernel
theorem dX12_part_106 : decode cX12_part 106 = .ok (.aload_n 0, 1) := by decide +kernel
theorem dX12_part_107 : decode cX12_part 107 = .ok (.getfield 90, 3) := by decide +kernel
theorem dX12_part_110 : decode cX12_part 110 = .ok (.iload 4, 2) := by decide +kernel
theorem dX12_part_112 : decode cX12_part 112 = .ok (.iaload, 1) := by decide +kernel
theorem dX12_part_113 : decode cX12_part 113 = .ok (.if_icmp .ge 39, 3) := by decide +kernel
theorem dX12_part_116 : decode cX12_part 116 = .ok (.iload_n 3, 1) := by decide +kernel
theorem dX12_part_117 : decode cX12_part 117 = .ok (.ifCond .ne 23, 3) := by decide +kernel
theorem dX12_part_120 : decode cX12_part 120 = .ok (.iload_n 1, 1) := by decide +kernel
theorem dX12_part_121 : decode cX12_part 121 = .ok (.aload_n 0, 1) := by decide +kernel
theorem dX12_part_122 : decode cX12_part 122 = .ok (.getfield 87, 3) := by decide +kernel
theorem dX12_part_125 : decode cX12_part 125 = .ok (.iconst 3, 1) := by decide +kernel
theorem dX12_part_126 : decode cX12_part 126 = .ok (.iload 4, 2) := by decide +kernel
theorem dX12_part_128 : decode cX12_part 128 = .ok (.imul, 1) := by decide +kernel
theorem dX12_part_129 : decode cX12_part 129 = .ok (.iload 5, 2) := by decide +kernel
theorem dX12_part_131 : decode cX12_part 131 = .ok (.iadd, 1) := by decide +kernel
theorem dX12_part_132 : decode cX12_part 132 = .ok (.iaload, 1) := by decide +kernel
theorem dX12_part_133 : decode cX12_part 133 = .ok (.ishr, 1) := by decide +kernel
theorem dX12_part_134 : decode cX12_part 134 = .ok (.iconst 1, 1) := by decide +kernel
theorem dX12_part_135 : decode cX12_part 135 = .ok (.iand, 1) := by decide +kernel
theorem dX12_part_136 : decode cX12_part 136 = .ok (.iconst 1, 1) := by decide +kernel
theorem dX12_part_137 : decode cX12_part 137 = .ok (.if_icmp .ne 7, 3) := by decide +kernel
theorem dX12_part_140 : decode cX12_part 140 = .ok (.iconst 1, 1) := by decide +kernel
theorem dX12_part_141 : decode cX12_part 141 = .ok (.goto 4, 3) := by decide +kernel
theorem dX12_part_144 : decode cX12_part 144 = .ok (.iconst 0, 1) := by decide +kernel
theorem dX12_part_145 : decode cX12_part 145 = .ok (.istore_n 3, 1) := by decide +kernel
theorem dX12_part_146 : decode cX12_part 146 = .ok (.iinc 5 1, 3) := by decide +kernel
theorem dX12_part_149 : decode cX12_part 149 = .ok (.goto (-45), 3) := by decide +kernel
theorem dX12_part_152 : decode cX12_part 152 = .ok (.iinc 4 1, 3) := by decide +kernel
theorem dX12_part_155 : decode cX12_part 155 = .ok (.goto (-63), 3) := by decide +kernel
theorem dX12_part_158 : decode cX12_part 158 = .ok (.aload_n 0, 1) := by decide +kernel
theorem dX12_part_159 : decode cX12_part 159 = .ok (.getfield 181, 3) := by decide +kernel
theorem dX12_part_162 : decode cX12_part 162 = .ok (.iconst 2, 1) := by decide +kernel
theorem dX12_part_163 : decode cX12_part 163 = .ok (.if_icmp .eq 16, 3) := by decide +kernel
theorem dX12_part_166 : decode cX12_part 166 = .ok (.iload_n 3, 1) := by decide +kernel
theorem dX12_part_167 : decode cX12_part 167 = .ok (.ifCond .ne 12, 3) := by decide +kernel
theorem dX12_part_170 : decode cX12_part 170 = .ok (.aload_n 0, 1) := by decide +kernel
theorem dX12_part_171 : decode cX12_part 171 = .ok (.getfield 170, 3) := by decide +kernel
theorem dX12_part_174 : decode cX12_part 174 = .ok (.bipush 9, 2) := by decide +kernel
theorem dX12_part_176 : decode cX12_part 176 = .ok (.if_icmp .le 9, 3) := by decide +kernel
theorem dX12_part_179 : decode cX12_part 179 = .ok (.aload_n 0, 1) := by decide +kernel
theorem dX12_part_180 : decode cX12_part 180 = .ok (.iconst 2, 1) := by decide +kernel
theorem dX12_part_181 : decode cX12_part 181 = .ok (.invokevirtual 204, 3) := by decide +kernel
theorem dX12_part_184 : decode cX12_part 184 = .ok (.ireturn, 1) := by decide +kernel
theorem dX12_part_185 : decode cX12_part 185 = .ok (.aload_n 0, 1) := by decide +kernel
theorem dX12_part_186 : decode cX12_part 186 = .ok (.getfield 90, 3) := by decide +kernel
theorem dX12_part_189 : decode cX12_part 189 = .ok (.aload_n 0, 1) := by decide +kernel
theorem dX12_part_190 : decode cX12_part 190 = .ok (.getfield 181, 3) := by decide +kernel
theorem dX12_part_193 : decode cX12_part 193 = .ok (.iconst 0, 1) := by decide +kernel
theorem dX12_part_194 : decode cX12_part 194 = .ok (.iastore, 1) := by decide +kernel
theorem dX12_part_195 : decode cX12_part 195 = .ok (.iconst 1, 1) := by decide +kernel
theorem dX12_part_196 : decode cX12_part 196 = .ok (.istore 4, 2) := by decide +kernel
theorem dX12_part_198 : decode cX12_part 198 = .ok (.iload 4, 2) := by decide +kernel
theorem dX12_part_200 : decode cX12_part 200 = .ok (.aload_n 0, 1) := by decide +kernel
theorem dX12_part_201 : decode cX12_part 201 = .ok (.getfield 170, 3) := by decide +kernel
theorem dX12_part_204 : decode cX12_part 204 = .ok (.if_icmp .ge 55, 3) := by decide +kernel
theorem dX12_part_207 : decode cX12_part 207 = .ok (.iload_n 1, 1) := by decide +kernel
theorem dX12_part_208 : decode cX12_part 208 = .ok (.iload 4, 2) := by decide +kernel
theorem dX12_part_210 : decode cX12_part 210 = .ok (.ishr, 1) := by decide +kernel
theorem dX12_part_211 : decode cX12_part 211 = .ok (.iconst 1, 1) := by decide +kernel
theorem dX12_part_212 : decode cX12_part 212 = .ok (.iand, 1) := by decide +kernel
theorem dX12_part_213 : decode cX12_part 213 = .ok (.iconst 1, 1) := by decide +kernel
theorem dX12_part_214 : decode cX12_part 214 = .ok (.if_icmp .ne 39, 3) := by decide +kernel
theorem dX12_part_217 : decode cX12_part 217 = .ok (.aload_n 0, 1) := by decide +kernel
theorem dX12_part_218 : decode cX12_part 218 = .ok (.getfield 87, 3) := by decide +kernel
theorem dX12_part_221 : decode cX12_part 221 = .ok (.iconst 3, 1) := by decide +kernel
theorem dX12_part_222 : decode cX12_part 222 = .ok (.aload_n 0, 1) := by decide +kernel
theorem dX12_part_223 : decode cX12_part 223 = .ok (.getfield 181, 3) := by decide +kernel
theorem dX12_part_226 : decode cX12_part 226 = .ok (.imul, 1) := by decide +kernel
theorem dX12_part_227 : decode cX12_part 227 = .ok (.aload_n 0, 1) := by decide +kernel
theorem dX12_part_228 : decode cX12_part 228 = .ok (.getfield 90, 3) := by decide +kernel
theorem dX12_part_231 : decode cX12_part 231 = .ok (.aload_n 0, 1) := by decide +kernel
theorem dX12_part_232 : decode cX12_part 232 = .ok (.getfield 181, 3) := by decide +kernel
theorem dX12_part_235 : decode cX12_part 235 = .ok (.iaload, 1) := by decide +kernel
theorem dX12_part_236 : decode cX12_part 236 = .ok (.iadd, 1) := by decide +kernel
theorem dX12_part_237 : decode cX12_part 237 = .ok (.iload 4, 2) := by decide +kernel
theorem dX12_part_239 : decode cX12_part 239 = .ok (.iastore, 1) := by decide +kernel
theorem dX12_part_240 : decode cX12_part 240 = .ok (.aload_n 0, 1) := by decide +kernel
theorem dX12_part_241 : decode cX12_part 241 = .ok (.getfield 90, 3) := by decide +kernel
theorem dX12_part_244 : decode cX12_part 244 = .ok (.aload_n 0, 1) := by decide +kernel
theorem dX12_part_245 : decode cX12_part 245 = .ok (.getfield 181, 3) := by decide +kernel
theorem dX12_part_248 : decode cX12_part 248 = .ok (.dup2, 1) := by decide +kernel
theorem dX12_part_249 : decode cX12_part 249 = .ok (.iaload, 1) := by decide +kernel
theorem dX12_part_250 : decode cX12_part 250 = .ok (.iconst 1, 1) := by decide +kernel
theorem dX12_part_251 : decode cX12_part 251 = .ok (.iadd, 1) := by decide +kernel
theorem dX12_part_252 : decode cX12_part 252 = .ok (.iastore, 1) := by decide +kernel
theorem dX12_part_253 : decode cX12_part 253 = .ok (.iinc 4 1, 3) := by decide +kernel
theorem dX12_part_256 : decode cX12_part 256 = .ok (.goto (-58), 3) := by decide +kernel
theorem dX12_part_259 : decode cX12_part 259 = .ok (.aload_n 0, 1) := by decide +kernel
theorem dX12_part_260 : decode cX12_part 260 = .ok (.aload_n 0, 1) := by decide +kernel
theorem dX12_part_261 : decode cX12_part 261 = .ok (.getfield 181, 3) := by decide +kernel
theorem dX12_part_264 : decode cX12_part 264 = .ok (.invokevirtual 262, 3) := by decide +kernel
theorem dX12_part_267 : decode cX12_part 267 = .ok (.istore 4, 2) := by decide +kernel
theorem dX12_part_269 : decode cX12_part 269 = .ok (.aload_n 0, 1) := by decide +kernel
theorem dX12_part_270 : decode cX12_part 270 = .ok (.dup, 1) := by decide +kernel
theorem dX12_part_271 : decode cX12_part 271 = .ok (.getfield 181, 3) := by decide +kernel
theorem dX12_part_274 : decode cX12_part 274 = .ok (.iconst 1, 1) := by decide +kernel
theorem dX12_part_275 : decode cX12_part 275 = .ok (.iadd, 1) := by decide +kernel
theorem dX12_part_276 : decode cX12_part 276 = .ok (.putfield 181, 3) := by decide +kernel
theorem dX12_part_279 : decode cX12_part 279 = .ok (.aload_n 0, 1) := by decide +kernel
theorem dX12_part_280 : decode cX12_part 280 = .ok (.iload 4, 2) := by decide +kernel
theorem dX12_part_282 : decode cX12_part 282 = .ok (.invokevirtual 215, 3) := by decide +kernel
theorem dX12_part_285 : decode cX12_part 285 = .ok (.ireturn, 1) := by decide +kernel
theorem dX12_isGoal_0 : decode cX12_isGoal 0 = .ok (.iconst 1, 1) := by decide +kernel
theorem dX12_isGoal_1 : decode cX12_isGoal 1 = .ok (.istore_n 2, 1) := by decide +kernel
theorem dX12_isGoal_2 : decode cX12_isGoal 2 = .ok (.iconst 0, 1) := by decide +kernel
theorem dX12_isGoal_3 : decode cX12_isGoal 3 = .ok (.istore_n 3, 1) := by decide +kernel
theorem dX12_isGoal_4 : decode cX12_isGoal 4 = .ok (.iload_n 3, 1) := by decide +kernel
theorem dX12_isGoal_5 : decode cX12_isGoal 5 = .ok (.aload_n 0, 1) := by decide +kernel
theorem dX12_isGoal_6 : decode cX12_isGoal 6 = .ok (.getfield 170, 3) := by decide +kernel
theorem dX12_isGoal_9 : decode cX12_isGoal 9 = .ok (.if_icmp .ge 42, 3) := by decide +kernel
theorem dX12_isGoal_12 : decode cX12_isGoal 12 = .ok (.iload_n 2, 1) := by decide +kernel
theorem dX12_isGoal_13 : decode cX12_isGoal 13 = .ok (.ifCond .eq 30, 3) := by decide +kernel
theorem dX12_isGoal_16 : decode cX12_isGoal 16 = .ok (.aload_n 0, 1) := by decide +kernel
theorem dX12_isGoal_17 : decode cX12_isGoal 17 = .ok (.getfield 42, 3) := by decide +kernel
theorem dX12_isGoal_20 : decode cX12_isGoal 20 = .ok (.aload_n 1, 1) := by decide +kernel
theorem dX12_isGoal_21 : decode cX12_isGoal 21 = .ok (.iload_n 3, 1) := by decide +kernel
theorem dX12_isGoal_22 : decode cX12_isGoal 22 = .ok (.iaload, 1) := by decide +kernel
theorem dX12_isGoal_23 : decode cX12_isGoal 23 = .ok (.baload, 1) := by decide +kernel
theorem dX12_isGoal_24 : decode cX12_isGoal 24 = .ok (.ifCond .ne 15, 3) := by decide +kernel
theorem dX12_isGoal_27 : decode cX12_isGoal 27 = .ok (.aload_n 0, 1) := by decide +kernel
theorem dX12_isGoal_28 : decode cX12_isGoal 28 = .ok (.getfield 36, 3) := by decide +kernel
theorem dX12_isGoal_31 : decode cX12_isGoal 31 = .ok (.aload_n 1, 1) := by decide +kernel
theorem dX12_isGoal_32 : decode cX12_isGoal 32 = .ok (.iload_n 3, 1) := by decide +kernel
theorem dX12_isGoal_33 : decode cX12_isGoal 33 = .ok (.iaload, 1) := by decide +kernel
theorem dX12_isGoal_34 : decode cX12_isGoal 34 = .ok (.iaload, 1) := by decide +kernel
theorem dX12_isGoal_35 : decode cX12_isGoal 35 = .ok (.iload_n 3, 1) := by decide +kernel
theorem dX12_isGoal_36 : decode cX12_isGoal 36 = .ok (.if_icmp .ne 7, 3) := by decide +kernel
theorem dX12_isGoal_39 : decode cX12_isGoal 39 = .ok (.iconst 1, 1) := by decide +kernel
theorem dX12_isGoal_40 : decode cX12_isGoal 40 = .ok (.goto 4, 3) := by decide +kernel
theorem dX12_isGoal_43 : decode cX12_isGoal 43 = .ok (.iconst 0, 1) := by decide +kernel
theorem dX12_isGoal_44 : decode cX12_isGoal 44 = .ok (.istore_n 2, 1) := by decide +kernel
theorem dX12_isGoal_45 : decode cX12_isGoal 45 = .ok (.iinc 3 1, 3) := by decide +kernel
theorem dX12_isGoal_48 : decode cX12_isGoal 48 = .ok (.goto (-44), 3) := by decide +kernel
theorem dX12_isGoal_51 : decode cX12_isGoal 51 = .ok (.iload_n 2, 1) := by decide +kernel
theorem dX12_isGoal_52 : decode cX12_isGoal 52 = .ok (.ireturn, 1) := by decide +kernel
set_option maxRecDepth 20000 in
theorem ggX12_goes_X12_gapIn : GoodIn wsX12_goes wsX12_gapIn := goodIn_r _ [7] (by decide +kernel) (by decide +kernel)
set_option maxRecDepth 20000 in
theorem gX12_goes_X12_gapIn : GoodIn wsX12_goes (wsV RX12 242 RX12 yX12_gapIn wsX12_gapIn) := goodIn_app (goodIn_of _ (by decide +kernel)) ggX12_goes_X12_gapIn
theorem dX12_goes_0 : decode cX12_goes 0 = .ok (.aload_n 0, 1) := by decide +kernel
theorem dX12_goes_1 : decode cX12_goes 1 = .ok (.aload_n 1, 1) := by decide +kernel
theorem dX12_goes_2 : decode cX12_goes 2 = .ok (.invokevirtual 242, 3) := by decide +kernel
theorem dX12_goes_5 : decode cX12_goes 5 = .ok (.istore_n 3, 1) := by decide +kernel
theorem dX12_goes_6 : decode cX12_goes 6 = .ok (.aload_n 0, 1) := by decide +kernel
theorem dX12_goes_7 : decode cX12_goes 7 = .ok (.getfield 16, 3) := by decide +kernel
theorem dX12_goes_10 : decode cX12_goes 10 = .ok (.iconst 4, 1) := by decide +kernel
theorem dX12_goes_11 : decode cX12_goes 11 = .ok (.iload_n 3, 1) := by decide +kernel
theorem dX12_goes_12 : decode cX12_goes 12 = .ok (.imul, 1) := by decide +kernel
theorem dX12_goes_13 : decode cX12_goes 13 = .ok (.iload_n 2, 1) := by decide +kernel
theorem dX12_goes_14 : decode cX12_goes 14 = .ok (.iadd, 1) := by decide +kernel
theorem dX12_goes_15 : decode cX12_goes 15 = .ok (.iaload, 1) := by decide +kernel
theorem dX12_goes_16 : decode cX12_goes 16 = .ok (.istore 4, 2) := by decide +kernel
theorem dX12_goes_18 : decode cX12_goes 18 = .ok (.iload 4, 2) := by decide +kernel
theorem dX12_goes_20 : decode cX12_goes 20 = .ok (.iconst (-1), 1) := by decide +kernel
theorem dX12_goes_21 : decode cX12_goes 21 = .ok (.if_icmp .ne 5, 3) := by decide +kernel
theorem dX12_goes_24 : decode cX12_goes 24 = .ok (.iconst (-1), 1) := by decide +kernel
theorem dX12_goes_25 : decode cX12_goes 25 = .ok (.ireturn, 1) := by decide +kernel
theorem dX12_goes_26 : decode cX12_goes 26 = .ok (.aload_n 1, 1) := by decide +kernel
theorem dX12_goes_27 : decode cX12_goes 27 = .ok (.iload 4, 2) := by decide +kernel
theorem dX12_goes_29 : decode cX12_goes 29 = .ok (.iaload, 1) := by decide +kernel
theorem dX12_goes_30 : decode cX12_goes 30 = .ok (.istore 5, 2) := by decide +kernel
theorem dX12_goes_32 : decode cX12_goes 32 = .ok (.aload_n 1, 1) := by decide +kernel
theorem dX12_goes_33 : decode cX12_goes 33 = .ok (.iload_n 3, 1) := by decide +kernel
theorem dX12_goes_34 : decode cX12_goes 34 = .ok (.iload 5, 2) := by decide +kernel
theorem dX12_goes_36 : decode cX12_goes 36 = .ok (.iastore, 1) := by decide +kernel
theorem dX12_goes_37 : decode cX12_goes 37 = .ok (.aload_n 1, 1) := by decide +kernel
theorem dX12_goes_38 : decode cX12_goes 38 = .ok (.iload 4, 2) := by decide +kernel
theorem dX12_goes_40 : decode cX12_goes 40 = .ok (.iconst 0, 1) := by decide +kernel
theorem dX12_goes_41 : decode cX12_goes 41 = .ok (.iastore, 1) := by decide +kernel
theorem dX12_goes_42 : decode cX12_goes 42 = .ok (.aload_n 0, 1) := by decide +kernel
theorem dX12_goes_43 : decode cX12_goes 43 = .ok (.getfield 39, 3) := by decide +kernel
theorem dX12_goes_46 : decode cX12_goes 46 = .ok (.iload 5, 2) := by decide +kernel
theorem dX12_goes_48 : decode cX12_goes 48 = .ok (.iaload, 1) := by decide +kernel
theorem dX12_goes_49 : decode cX12_goes 49 = .ok (.ireturn, 1) := by decide +kernel
set_option maxRecDepth 20000 in
theorem ggX12_lay_X12_arrangements : GoodIn wsX12_lay wsX12_arrangements := goodIn_r _ [8, 9, 28, 29, 30, 31, 32, 33, 34, 35, 36, 37, 38, 39, 40, 41, 42, 43, 44, 45, 46, 47, 48, 49, 50, 51, 52, 53, 54, 55, 56, 57, 58, 59, 60, 61, 62, 63, 64, 65, 66, 67, 68, 69, 70, 71, 72, 73, 74, 75, 76, 77, 78, 79, 80, 81, 82, 83, 84, 85, 86, 87, 88, 89, 90, 91, 92, 93, 94] (by decide +kernel) (by decide +kernel)
set_option maxRecDepth 20000 in
theorem gX12_lay_X12_arrangements : GoodIn wsX12_lay (wsV RX12 221 RX12 yX12_arrangements wsX12_arrangements) := goodIn_app (goodIn_of _ (by decide +kernel)) ggX12_lay_X12_arrangements
set_option maxRecDepth 20000 in
theorem ggX12_lay_X12_refuse : GoodIn wsX12_lay wsX12_refuse := goodIn_r _ [13, 14, 28, 29, 30, 31, 32, 33, 34, 35, 36, 37, 38, 39, 40, 41, 42, 43, 44, 45, 46, 47, 48, 49, 50, 51, 52, 53, 54, 55, 56, 57, 58, 59, 60, 61, 62, 63, 64, 65, 66, 67, 68, 69, 70, 71, 72, 73, 74, 75, 76, 77, 78, 79, 80, 81, 82, 83, 84, 85, 86, 87, 88, 89, 90, 91, 92, 93, 94] (by decide +kernel) (by decide +kernel)
set_option maxRecDepth 20000 in
theorem gX12_lay_X12_refuse : GoodIn wsX12_lay (wsV RX12 204 RX12 yX12_refuse wsX12_refuse) := goodIn_app (goodIn_of _ (by decide +kernel)) ggX12_lay_X12_refuse
set_option maxRecDepth 20000 in
theorem ggX12_lay_X12_lays : GoodIn wsX12_lay wsX12_lays := goodIn_r _ [18, 9, 19, 4, 5, 6, 7, 8, 28, 29, 30, 31, 32, 33, 34, 35, 36, 37, 38, 39, 40, 41, 42, 43, 44, 45, 46, 47, 48, 49, 50, 51, 52, 53, 54, 55, 56, 57, 58, 59, 60, 61, 62, 63, 64, 65, 66, 67, 68, 69, 70, 71, 72, 73, 74, 75, 76, 77, 78, 79, 80, 81, 82, 83, 84, 85, 86, 87, 88, 89, 90, 91, 92, 93, 94] (by decide +kernel) (by decide +kernel)
set_option maxRecDepth 20000 in
theorem gX12_lay_X12_lays : GoodIn wsX12_lay (wsV RX12 265 RX12 yX12_lays wsX12_lays) := goodIn_app (goodIn_of _ (by decide +kernel)) ggX12_lay_X12_lays
set_option maxRecDepth 20000 in
theorem ggX12_lay_X12_gapIn : GoodIn wsX12_lay wsX12_gapIn := goodIn_r _ [23] (by decide +kernel) (by decide +kernel)
set_option maxRecDepth 20000 in
theorem gX12_lay_X12_gapIn : GoodIn wsX12_lay (wsV RX12 242 RX12 yX12_gapIn wsX12_gapIn) := goodIn_app (goodIn_of _ (by decide +kernel)) ggX12_lay_X12_gapIn
set_option maxRecDepth 20000 in
theorem ggX12_lay_X12_told : GoodIn wsX12_lay wsX12_told := goodIn_r _ [27, 14, 28, 29, 30, 31, 32, 33, 34, 35, 36, 37, 38, 39, 40, 41, 42, 43, 44, 45, 46, 47, 48, 49, 50, 51, 52, 53, 54, 55, 56, 57, 58, 59, 60, 61, 62, 63, 64, 65, 66, 67, 68, 69, 70, 71, 72, 73, 74, 75, 76, 77, 78, 79, 80, 81, 82, 83, 84, 85, 86, 87, 88, 89, 90, 91, 92, 93, 94] (by decide +kernel) (by decide +kernel)
set_option maxRecDepth 20000 in
theorem gX12_lay_X12_told : GoodIn wsX12_lay (wsV RX12 215 RX12 yX12_told wsX12_told) := goodIn_app (goodIn_of _ (by decide +kernel)) ggX12_lay_X12_told
theorem dX12_lay_0 : decode cX12_lay 0 = .ok (.lload_n 1, 1) := by decide +kernel
theorem dX12_lay_1 : decode cX12_lay 1 = .ok (.lconst 0, 1) := by decide +kernel
theorem dX12_lay_2 : decode cX12_lay 2 = .ok (.lcmp, 1) := by decide +kernel
theorem dX12_lay_3 : decode cX12_lay 3 = .ok (.ifCond .lt 12, 3) := by decide +kernel
theorem dX12_lay_6 : decode cX12_lay 6 = .ok (.lload_n 1, 1) := by decide +kernel
theorem dX12_lay_7 : decode cX12_lay 7 = .ok (.aload_n 0, 1) := by decide +kernel
theorem dX12_lay_8 : decode cX12_lay 8 = .ok (.invokevirtual 221, 3) := by decide +kernel
theorem dX12_lay_11 : decode cX12_lay 11 = .ok (.lcmp, 1) := by decide +kernel
theorem dX12_lay_12 : decode cX12_lay 12 = .ok (.ifCond .lt 9, 3) := by decide +kernel
theorem dX12_lay_15 : decode cX12_lay 15 = .ok (.aload_n 0, 1) := by decide +kernel
theorem dX12_lay_16 : decode cX12_lay 16 = .ok (.iconst 1, 1) := by decide +kernel
theorem dX12_lay_17 : decode cX12_lay 17 = .ok (.invokevirtual 204, 3) := by decide +kernel
theorem dX12_lay_20 : decode cX12_lay 20 = .ok (.ireturn, 1) := by decide +kernel
theorem dX12_lay_21 : decode cX12_lay 21 = .ok (.aload_n 0, 1) := by decide +kernel
theorem dX12_lay_22 : decode cX12_lay 22 = .ok (.lload_n 1, 1) := by decide +kernel
theorem dX12_lay_23 : decode cX12_lay 23 = .ok (.aload_n 0, 1) := by decide +kernel
theorem dX12_lay_24 : decode cX12_lay 24 = .ok (.getfield 33, 3) := by decide +kernel
theorem dX12_lay_27 : decode cX12_lay 27 = .ok (.invokevirtual 265, 3) := by decide +kernel
theorem dX12_lay_30 : decode cX12_lay 30 = .ok (.aload_n 0, 1) := by decide +kernel
theorem dX12_lay_31 : decode cX12_lay 31 = .ok (.iconst 0, 1) := by decide +kernel
theorem dX12_lay_32 : decode cX12_lay 32 = .ok (.putfield 184, 3) := by decide +kernel
theorem dX12_lay_35 : decode cX12_lay 35 = .ok (.aload_n 0, 1) := by decide +kernel
theorem dX12_lay_36 : decode cX12_lay 36 = .ok (.aload_n 0, 1) := by decide +kernel
theorem dX12_lay_37 : decode cX12_lay 37 = .ok (.getfield 7, 3) := by decide +kernel
theorem dX12_lay_40 : decode cX12_lay 40 = .ok (.aload_n 0, 1) := by decide +kernel
theorem dX12_lay_41 : decode cX12_lay 41 = .ok (.aload_n 0, 1) := by decide +kernel
theorem dX12_lay_42 : decode cX12_lay 42 = .ok (.getfield 33, 3) := by decide +kernel
theorem dX12_lay_45 : decode cX12_lay 45 = .ok (.invokevirtual 242, 3) := by decide +kernel
theorem dX12_lay_48 : decode cX12_lay 48 = .ok (.iaload, 1) := by decide +kernel
theorem dX12_lay_49 : decode cX12_lay 49 = .ok (.invokevirtual 215, 3) := by decide +kernel
theorem dX12_lay_52 : decode cX12_lay 52 = .ok (.ireturn, 1) := by decide +kernel
set_option maxRecDepth 20000 in
theorem ggX12_mix_X12_in : GoodIn wsX12_mix wsX12_in := goodIn_r _ [9] (by decide +kernel) (by decide +kernel)
set_option maxRecDepth 20000 in
theorem gX12_mix_X12_in : GoodIn wsX12_mix (va_wsS RX12 200 yX12_in wsX12_in) := goodIn_app (goodIn_of _ (by decide +kernel)) ggX12_mix_X12_in
set_option maxRecDepth 20000 in
theorem ggX12_mix_X12_refuse : GoodIn wsX12_mix wsX12_refuse := goodIn_r _ [13, 14, 28, 29, 30, 31, 32, 33, 34, 35, 36, 37, 38, 39, 40, 41, 42, 43, 44, 45, 46, 47, 48, 49, 50, 51, 52, 53, 54, 55, 56, 57, 58, 59, 60, 61, 62, 63, 64, 65, 66, 67, 68, 69, 70, 71, 72, 73, 74, 75, 76, 77, 78, 79, 80, 81, 82, 83, 84, 85, 86, 87, 88, 89, 90, 91, 92, 93, 94] (by decide +kernel) (by decide +kernel)
set_option maxRecDepth 20000 in
theorem gX12_mix_X12_refuse : GoodIn wsX12_mix (wsV RX12 204 RX12 yX12_refuse wsX12_refuse) := goodIn_app (goodIn_of _ (by decide +kernel)) ggX12_mix_X12_refuse
set_option maxRecDepth 20000 in
theorem ggX12_mix_X12_gapIn : GoodIn wsX12_mix wsX12_gapIn := goodIn_r _ [18] (by decide +kernel) (by decide +kernel)
set_option maxRecDepth 20000 in
theorem gX12_mix_X12_gapIn : GoodIn wsX12_mix (wsV RX12 242 RX12 yX12_gapIn wsX12_gapIn) := goodIn_app (goodIn_of _ (by decide +kernel)) ggX12_mix_X12_gapIn
set_option maxRecDepth 20000 in
theorem ggX12_mix_X12_goes : GoodIn wsX12_mix wsX12_goes := goodIn_r _ [22, 2, 23, 15, 16, 17, 8, 18, 28, 29, 30, 31, 32, 33, 34, 35, 36, 37, 38, 39, 40, 41, 42, 43, 44, 45, 46, 47, 48, 49, 50, 51, 52, 53, 54, 55, 56, 57, 58, 59, 60, 61, 62, 63, 64, 65, 66, 67, 68, 69, 70, 71, 72, 73, 74, 75, 76, 77, 78, 79, 80, 81, 82, 83, 84, 85, 86, 87, 88, 89, 90, 91, 92, 93, 94] (by decide +kernel) (by decide +kernel)
set_option maxRecDepth 20000 in
theorem gX12_mix_X12_goes : GoodIn wsX12_mix (wsV RX12 270 RX12 yX12_goes wsX12_goes) := goodIn_app (goodIn_of _ (by decide +kernel)) ggX12_mix_X12_goes
set_option maxRecDepth 20000 in
theorem ggX12_mix_X12_told : GoodIn wsX12_mix wsX12_told := goodIn_r _ [27, 14, 28, 29, 30, 31, 32, 33, 34, 35, 36, 37, 38, 39, 40, 41, 42, 43, 44, 45, 46, 47, 48, 49, 50, 51, 52, 53, 54, 55, 56, 57, 58, 59, 60, 61, 62, 63, 64, 65, 66, 67, 68, 69, 70, 71, 72, 73, 74, 75, 76, 77, 78, 79, 80, 81, 82, 83, 84, 85, 86, 87, 88, 89, 90, 91, 92, 93, 94] (by decide +kernel) (by decide +kernel)
set_option maxRecDepth 20000 in
theorem gX12_mix_X12_told : GoodIn wsX12_mix (wsV RX12 215 RX12 yX12_told wsX12_told) := goodIn_app (goodIn_of _ (by decide +kernel)) ggX12_mix_X12_told
theorem dX12_mix_0 : decode cX12_mix 0 = .ok (.iload_n 2, 1) := by decide +kernel
theorem dX12_mix_1 : decode cX12_mix 1 = .ok (.iconst 0, 1) := by decide +kernel
theorem dX12_mix_2 : decode cX12_mix 2 = .ok (.sipush 200, 3) := by decide +kernel
theorem dX12_mix_5 : decode cX12_mix 5 = .ok (.invokestatic 200, 3) := by decide +kernel
theorem dX12_mix_8 : decode cX12_mix 8 = .ok (.ifCond .ne 9, 3) := by decide +kernel
theorem dX12_mix_11 : decode cX12_mix 11 = .ok (.aload_n 0, 1) := by decide +kernel
theorem dX12_mix_12 : decode cX12_mix 12 = .ok (.iconst 1, 1) := by decide +kernel
theorem dX12_mix_13 : decode cX12_mix 13 = .ok (.invokevirtual 204, 3) := by decide +kernel
theorem dX12_mix_16 : decode cX12_mix 16 = .ok (.ireturn, 1) := by decide +kernel
theorem dX12_mix_17 : decode cX12_mix 17 = .ok (.iload_n 1, 1) := by decide +kernel
theorem dX12_mix_18 : decode cX12_mix 18 = .ok (.istore_n 3, 1) := by decide +kernel
theorem dX12_mix_19 : decode cX12_mix 19 = .ok (.iconst 0, 1) := by decide +kernel
theorem dX12_mix_20 : decode cX12_mix 20 = .ok (.istore 4, 2) := by decide +kernel
theorem dX12_mix_22 : decode cX12_mix 22 = .ok (.iload 4, 2) := by decide +kernel
theorem dX12_mix_24 : decode cX12_mix 24 = .ok (.iload_n 2, 1) := by decide +kernel
theorem dX12_mix_25 : decode cX12_mix 25 = .ok (.if_icmp .ge 134, 3) := by decide +kernel
theorem dX12_mix_28 : decode cX12_mix 28 = .ok (.aload_n 0, 1) := by decide +kernel
theorem dX12_mix_29 : decode cX12_mix 29 = .ok (.aload_n 0, 1) := by decide +kernel
theorem dX12_mix_30 : decode cX12_mix 30 = .ok (.getfield 33, 3) := by decide +kernel
theorem dX12_mix_33 : decode cX12_mix 33 = .ok (.invokevirtual 242, 3) := by decide +kernel
theorem dX12_mix_36 : decode cX12_mix 36 = .ok (.istore 5, 2) := by decide +kernel
theorem dX12_mix_38 : decode cX12_mix 38 = .ok (.iconst 0, 1) := by decide +kernel
theorem dX12_mix_39 : decode cX12_mix 39 = .ok (.istore 6, 2) := by decide +kernel
theorem dX12_mix_41 : decode cX12_mix 41 = .ok (.iconst 0, 1) := by decide +kernel
theorem dX12_mix_42 : decode cX12_mix 42 = .ok (.istore 7, 2) := by decide +kernel
theorem dX12_mix_44 : decode cX12_mix 44 = .ok (.iload 7, 2) := by decide +kernel
theorem dX12_mix_46 : decode cX12_mix 46 = .ok (.iconst 4, 1) := by decide +kernel
theorem dX12_mix_47 : decode cX12_mix 47 = .ok (.if_icmp .ge 35, 3) := by decide +kernel
theorem dX12_mix_50 : decode cX12_mix 50 = .ok (.iload 6, 2) := by decide +kernel
theorem dX12_mix_52 : decode cX12_mix 52 = .ok (.aload_n 0, 1) := by decide +kernel
theorem dX12_mix_53 : decode cX12_mix 53 = .ok (.getfield 16, 3) := by decide +kernel
theorem dX12_mix_56 : decode cX12_mix 56 = .ok (.iconst 4, 1) := by decide +kernel
theorem dX12_mix_57 : decode cX12_mix 57 = .ok (.iload 5, 2) := by decide +kernel
theorem dX12_mix_59 : decode cX12_mix 59 = .ok (.imul, 1) := by decide +kernel
theorem dX12_mix_60 : decode cX12_mix 60 = .ok (.iload 7, 2) := by decide +kernel
theorem dX12_mix_62 : decode cX12_mix 62 = .ok (.iadd, 1) := by decide +kernel
theorem dX12_mix_63 : decode cX12_mix 63 = .ok (.iaload, 1) := by decide +kernel
theorem dX12_mix_64 : decode cX12_mix 64 = .ok (.iconst (-1), 1) := by decide +kernel
theorem dX12_mix_65 : decode cX12_mix 65 = .ok (.if_icmp .ne 7, 3) := by decide +kernel
theorem dX12_mix_68 : decode cX12_mix 68 = .ok (.iconst 0, 1) := by decide +kernel
theorem dX12_mix_69 : decode cX12_mix 69 = .ok (.goto 4, 3) := by decide +kernel
theorem dX12_mix_72 : decode cX12_mix 72 = .ok (.iconst 1, 1) := by decide +kernel
theorem dX12_mix_73 : decode cX12_mix 73 = .ok (.iadd, 1) := by decide +kernel
theorem dX12_mix_74 : decode cX12_mix 74 = .ok (.istore 6, 2) := by decide +kernel
theorem dX12_mix_76 : decode cX12_mix 76 = .ok (.iinc 7 1, 3) := by decide +kernel
theorem dX12_mix_79 : decode cX12_mix 79 = .ok (.goto (-35), 3) := by decide +kernel
theorem dX12_mix_82 : decode cX12_mix 82 = .ok (.iload_n 3, 1) := by decide +kernel
theorem dX12_mix_83 : decode cX12_mix 83 = .ok (.ldc_w 269, 3) := by decide +kernel
theorem dX12_mix_86 : decode cX12_mix 86 = .ok (.imul, 1) := by decide +kernel
theorem dX12_mix_87 : decode cX12_mix 87 = .ok (.sipush 12345, 3) := by decide +kernel
theorem dX12_mix_90 : decode cX12_mix 90 = .ok (.iadd, 1) := by decide +kernel
theorem dX12_mix_91 : decode cX12_mix 91 = .ok (.istore_n 3, 1) := by decide +kernel
theorem dX12_mix_92 : decode cX12_mix 92 = .ok (.iload_n 3, 1) := by decide +kernel
theorem dX12_mix_93 : decode cX12_mix 93 = .ok (.bipush 16, 2) := by decide +kernel
theorem dX12_mix_95 : decode cX12_mix 95 = .ok (.iushr, 1) := by decide +kernel
theorem dX12_mix_96 : decode cX12_mix 96 = .ok (.iload 6, 2) := by decide +kernel
theorem dX12_mix_98 : decode cX12_mix 98 = .ok (.irem, 1) := by decide +kernel
theorem dX12_mix_99 : decode cX12_mix 99 = .ok (.istore 7, 2) := by decide +kernel
theorem dX12_mix_101 : decode cX12_mix 101 = .ok (.iconst (-1), 1) := by decide +kernel
theorem dX12_mix_102 : decode cX12_mix 102 = .ok (.istore 8, 2) := by decide +kernel
theorem dX12_mix_104 : decode cX12_mix 104 = .ok (.iload 7, 2) := by decide +kernel
theorem dX12_mix_106 : decode cX12_mix 106 = .ok (.ifCond .lt 35, 3) := by decide +kernel
theorem dX12_mix_109 : decode cX12_mix 109 = .ok (.iinc 8 1, 3) := by decide +kernel
theorem dX12_mix_112 : decode cX12_mix 112 = .ok (.iload 7, 2) := by decide +kernel
theorem dX12_mix_114 : decode cX12_mix 114 = .ok (.aload_n 0, 1) := by decide +kernel
theorem dX12_mix_115 : decode cX12_mix 115 = .ok (.getfield 16, 3) := by decide +kernel
theorem dX12_mix_118 : decode cX12_mix 118 = .ok (.iconst 4, 1) := by decide +kernel
theorem dX12_mix_119 : decode cX12_mix 119 = .ok (.iload 5, 2) := by decide +kernel
theorem dX12_mix_121 : decode cX12_mix 121 = .ok (.imul, 1) := by decide +kernel
theorem dX12_mix_122 : decode cX12_mix 122 = .ok (.iload 8, 2) := by decide +kernel
theorem dX12_mix_124 : decode cX12_mix 124 = .ok (.iadd, 1) := by decide +kernel
theorem dX12_mix_125 : decode cX12_mix 125 = .ok (.iaload, 1) := by decide +kernel
theorem dX12_mix_126 : decode cX12_mix 126 = .ok (.iconst (-1), 1) := by decide +kernel
theorem dX12_mix_127 : decode cX12_mix 127 = .ok (.if_icmp .ne 7, 3) := by decide +kernel
theorem dX12_mix_130 : decode cX12_mix 130 = .ok (.iconst 0, 1) := by decide +kernel
theorem dX12_mix_131 : decode cX12_mix 131 = .ok (.goto 4, 3) := by decide +kernel
theorem dX12_mix_134 : decode cX12_mix 134 = .ok (.iconst 1, 1) := by decide +kernel
theorem dX12_mix_135 : decode cX12_mix 135 = .ok (.isub, 1) := by decide +kernel
theorem dX12_mix_136 : decode cX12_mix 136 = .ok (.istore 7, 2) := by decide +kernel
theorem dX12_mix_138 : decode cX12_mix 138 = .ok (.goto (-34), 3) := by decide +kernel
theorem dX12_mix_141 : decode cX12_mix 141 = .ok (.aload_n 0, 1) := by decide +kernel
theorem dX12_mix_142 : decode cX12_mix 142 = .ok (.aload_n 0, 1) := by decide +kernel
theorem dX12_mix_143 : decode cX12_mix 143 = .ok (.getfield 33, 3) := by decide +kernel
theorem dX12_mix_146 : decode cX12_mix 146 = .ok (.iload 8, 2) := by decide +kernel
theorem dX12_mix_148 : decode cX12_mix 148 = .ok (.invokevirtual 270, 3) := by decide +kernel
theorem dX12_mix_151 : decode cX12_mix 151 = .ok (.istore 9, 2) := by decide +kernel
theorem dX12_mix_153 : decode cX12_mix 153 = .ok (.iinc 4 1, 3) := by decide +kernel
theorem dX12_mix_156 : decode cX12_mix 156 = .ok (.goto (-134), 3) := by decide +kernel
theorem dX12_mix_159 : decode cX12_mix 159 = .ok (.aload_n 0, 1) := by decide +kernel
theorem dX12_mix_160 : decode cX12_mix 160 = .ok (.iconst 0, 1) := by decide +kernel
theorem dX12_mix_161 : decode cX12_mix 161 = .ok (.putfield 184, 3) := by decide +kernel
theorem dX12_mix_164 : decode cX12_mix 164 = .ok (.aload_n 0, 1) := by decide +kernel
theorem dX12_mix_165 : decode cX12_mix 165 = .ok (.aload_n 0, 1) := by decide +kernel
theorem dX12_mix_166 : decode cX12_mix 166 = .ok (.getfield 7, 3) := by decide +kernel
theorem dX12_mix_169 : decode cX12_mix 169 = .ok (.aload_n 0, 1) := by decide +kernel
theorem dX12_mix_170 : decode cX12_mix 170 = .ok (.aload_n 0, 1) := by decide +kernel
theorem dX12_mix_171 : decode cX12_mix 171 = .ok (.getfield 33, 3) := by decide +kernel
theorem dX12_mix_174 : decode cX12_mix 174 = .ok (.invokevirtual 242, 3) := by decide +kernel
theorem dX12_mix_177 : decode cX12_mix 177 = .ok (.iaload, 1) := by decide +kernel
theorem dX12_mix_178 : decode cX12_mix 178 = .ok (.invokevirtual 215, 3) := by decide +kernel
theorem dX12_mix_181 : decode cX12_mix 181 = .ok (.ireturn, 1) := by decide +kernel
set_option maxRecDepth 20000 in
theorem ggX12_setGoal_X12_rankOf : GoodIn wsX12_setGoal wsX12_rankOf := goodIn_r _ [10, 2, 11, 12, 13, 9, 14, 15, 16, 17, 18, 19, 20, 21, 22, 23, 24, 25, 26, 27, 28, 29, 30, 31, 32, 33, 34, 35, 36, 37, 38, 39, 40, 41, 42, 43, 44, 45, 46, 47, 48, 49, 50, 51, 52, 53, 54, 55, 56, 57, 58, 59, 60, 61, 62, 63, 64, 65, 66, 67, 68, 69, 70, 71, 72, 73, 74, 75, 76, 77, 78, 79, 80, 81] (by decide +kernel) (by decide +kernel)
set_option maxRecDepth 20000 in
theorem gX12_setGoal_X12_rankOf : GoodIn wsX12_setGoal (wsV RX12 274 RX12 yX12_rankOf wsX12_rankOf) := goodIn_app (goodIn_of _ (by decide +kernel)) ggX12_setGoal_X12_rankOf
theorem dX12_setGoal_0 : decode cX12_setGoal 0 = .ok (.aload_n 0, 1) := by decide +kernel
theorem dX12_setGoal_1 : decode cX12_setGoal 1 = .ok (.iconst 0, 1) := by decide +kernel
theorem dX12_setGoal_2 : decode cX12_setGoal 2 = .ok (.putfield 167, 3) := by decide +kernel
theorem dX12_setGoal_5 : decode cX12_setGoal 5 = .ok (.iconst 0, 1) := by decide +kernel
theorem dX12_setGoal_6 : decode cX12_setGoal 6 = .ok (.istore_n 1, 1) := by decide +kernel
theorem dX12_setGoal_7 : decode cX12_setGoal 7 = .ok (.iload_n 1, 1) := by decide +kernel
theorem dX12_setGoal_8 : decode cX12_setGoal 8 = .ok (.aload_n 0, 1) := by decide +kernel
theorem dX12_setGoal_9 : decode cX12_setGoal 9 = .ok (.getfield 170, 3) := by decide +kernel
theorem dX12_setGoal_12 : decode cX12_setGoal 12 = .ok (.if_icmp .ge 21, 3) := by decide +kernel
theorem dX12_setGoal_15 : decode cX12_setGoal 15 = .ok (.aload_n 0, 1) := by decide +kernel
theorem dX12_setGoal_16 : decode cX12_setGoal 16 = .ok (.getfield 36, 3) := by decide +kernel
theorem dX12_setGoal_19 : decode cX12_setGoal 19 = .ok (.aload_n 0, 1) := by decide +kernel
theorem dX12_setGoal_20 : decode cX12_setGoal 20 = .ok (.getfield 33, 3) := by decide +kernel
theorem dX12_setGoal_23 : decode cX12_setGoal 23 = .ok (.iload_n 1, 1) := by decide +kernel
theorem dX12_setGoal_24 : decode cX12_setGoal 24 = .ok (.iaload, 1) := by decide +kernel
theorem dX12_setGoal_25 : decode cX12_setGoal 25 = .ok (.iload_n 1, 1) := by decide +kernel
theorem dX12_setGoal_26 : decode cX12_setGoal 26 = .ok (.iastore, 1) := by decide +kernel
theorem dX12_setGoal_27 : decode cX12_setGoal 27 = .ok (.iinc 1 1, 3) := by decide +kernel
theorem dX12_setGoal_30 : decode cX12_setGoal 30 = .ok (.goto (-23), 3) := by decide +kernel
theorem dX12_setGoal_33 : decode cX12_setGoal 33 = .ok (.aload_n 0, 1) := by decide +kernel
theorem dX12_setGoal_34 : decode cX12_setGoal 34 = .ok (.iconst 0, 1) := by decide +kernel
theorem dX12_setGoal_35 : decode cX12_setGoal 35 = .ok (.putfield 181, 3) := by decide +kernel
theorem dX12_setGoal_38 : decode cX12_setGoal 38 = .ok (.aload_n 0, 1) := by decide +kernel
theorem dX12_setGoal_39 : decode cX12_setGoal 39 = .ok (.aload_n 0, 1) := by decide +kernel
theorem dX12_setGoal_40 : decode cX12_setGoal 40 = .ok (.getfield 33, 3) := by decide +kernel
theorem dX12_setGoal_43 : decode cX12_setGoal 43 = .ok (.invokevirtual 274, 3) := by decide +kernel
theorem dX12_setGoal_46 : decode cX12_setGoal 46 = .ok (.lreturn, 1) := by decide +kernel
set_option maxRecDepth 20000 in
theorem ggX12_setFree_X12_tiles : GoodIn wsX12_setFree wsX12_tiles := goodIn_r _ [7, 8, 21, 22, 23, 24, 25, 26, 27, 28, 29, 30, 31, 32, 33, 34, 35, 36, 37, 38, 39, 40, 41, 42, 43, 44, 45, 46, 47, 48, 49, 50, 51, 52, 53, 54, 55, 56, 57, 58, 59, 60, 61, 62, 63, 64, 65, 66, 67, 68, 69, 70, 71, 72, 73, 74, 75, 76, 77, 78, 79, 80, 81, 82, 83, 84, 85, 86, 87] (by decide +kernel) (by decide +kernel)
set_option maxRecDepth 20000 in
theorem gX12_setFree_X12_tiles : GoodIn wsX12_setFree (wsV RX12 211 RX12 yX12_tiles wsX12_tiles) := goodIn_app (goodIn_of _ (by decide +kernel)) ggX12_setFree_X12_tiles
set_option maxRecDepth 20000 in
theorem ggX12_setFree_X12_in : GoodIn wsX12_setFree wsX12_in := goodIn_r _ [11] (by decide +kernel) (by decide +kernel)
set_option maxRecDepth 20000 in
theorem gX12_setFree_X12_in : GoodIn wsX12_setFree (va_wsS RX12 200 yX12_in wsX12_in) := goodIn_app (goodIn_of _ (by decide +kernel)) ggX12_setFree_X12_in
set_option maxRecDepth 20000 in
theorem ggX12_setFree_X12_denies : GoodIn wsX12_setFree wsX12_denies := goodIn_r _ [15, 16, 21, 22, 23, 24, 25, 26, 27, 28, 29, 30, 31, 32, 33, 34, 35, 36, 37, 38, 39, 40, 41, 42, 43, 44, 45, 46, 47, 48, 49, 50, 51, 52, 53, 54, 55, 56, 57, 58, 59, 60, 61, 62, 63, 64, 65, 66, 67, 68, 69, 70, 71, 72, 73, 74, 75, 76, 77, 78, 79, 80, 81, 82, 83, 84, 85, 86, 87] (by decide +kernel) (by decide +kernel)
set_option maxRecDepth 20000 in
theorem gX12_setFree_X12_denies : GoodIn wsX12_setFree (wsV RX12 278 RX12 yX12_denies wsX12_denies) := goodIn_app (goodIn_of _ (by decide +kernel)) ggX12_setFree_X12_denies
set_option maxRecDepth 20000 in
theorem ggX12_setFree_X12_says : GoodIn wsX12_setFree wsX12_says := goodIn_r _ [20, 16, 21, 22, 23, 24, 25, 26, 27, 28, 29, 30, 31, 32, 33, 34, 35, 36, 37, 38, 39, 40, 41, 42, 43, 44, 45, 46, 47, 48, 49, 50, 51, 52, 53, 54, 55, 56, 57, 58, 59, 60, 61, 62, 63, 64, 65, 66, 67, 68, 69, 70, 71, 72, 73, 74, 75, 76, 77, 78, 79, 80, 81, 82, 83, 84, 85, 86, 87] (by decide +kernel) (by decide +kernel)
set_option maxRecDepth 20000 in
theorem gX12_setFree_X12_says : GoodIn wsX12_setFree (wsV RX12 281 RX12 yX12_says wsX12_says) := goodIn_app (goodIn_of _ (by decide +kernel)) ggX12_setFree_X12_says
theorem dX12_setFree_0 : decode cX12_setFree 0 = .ok (.iload_n 1, 1) := by decide +kernel
theorem dX12_setFree_1 : decode cX12_setFree 1 = .ok (.iconst 0, 1) := by decide +kernel
theorem dX12_setFree_2 : decode cX12_setFree 2 = .ok (.aload_n 0, 1) := by decide +kernel
theorem dX12_setFree_3 : decode cX12_setFree 3 = .ok (.invokevirtual 211, 3) := by decide +kernel
theorem dX12_setFree_6 : decode cX12_setFree 6 = .ok (.invokestatic 200, 3) := by decide +kernel
theorem dX12_setFree_9 : decode cX12_setFree 9 = .ok (.ifCond .ne 9, 3) := by decide +kernel
theorem dX12_setFree_12 : decode cX12_setFree 12 = .ok (.aload_n 0, 1) := by decide +kernel
theorem dX12_setFree_13 : decode cX12_setFree 13 = .ok (.iconst 1, 1) := by decide +kernel
theorem dX12_setFree_14 : decode cX12_setFree 14 = .ok (.invokevirtual 278, 3) := by decide +kernel
theorem dX12_setFree_17 : decode cX12_setFree 17 = .ok (.ireturn, 1) := by decide +kernel
theorem dX12_setFree_18 : decode cX12_setFree 18 = .ok (.aload_n 0, 1) := by decide +kernel
theorem dX12_setFree_19 : decode cX12_setFree 19 = .ok (.getfield 42, 3) := by decide +kernel
theorem dX12_setFree_22 : decode cX12_setFree 22 = .ok (.iload_n 1, 1) := by decide +kernel
theorem dX12_setFree_23 : decode cX12_setFree 23 = .ok (.baload, 1) := by decide +kernel
theorem dX12_setFree_24 : decode cX12_setFree 24 = .ok (.istore_n 3, 1) := by decide +kernel
theorem dX12_setFree_25 : decode cX12_setFree 25 = .ok (.aload_n 0, 1) := by decide +kernel
theorem dX12_setFree_26 : decode cX12_setFree 26 = .ok (.getfield 42, 3) := by decide +kernel
theorem dX12_setFree_29 : decode cX12_setFree 29 = .ok (.iload_n 1, 1) := by decide +kernel
theorem dX12_setFree_30 : decode cX12_setFree 30 = .ok (.iload_n 2, 1) := by decide +kernel
theorem dX12_setFree_31 : decode cX12_setFree 31 = .ok (.bastore, 1) := by decide +kernel
theorem dX12_setFree_32 : decode cX12_setFree 32 = .ok (.aload_n 0, 1) := by decide +kernel
theorem dX12_setFree_33 : decode cX12_setFree 33 = .ok (.iconst 0, 1) := by decide +kernel
theorem dX12_setFree_34 : decode cX12_setFree 34 = .ok (.putfield 181, 3) := by decide +kernel
theorem dX12_setFree_37 : decode cX12_setFree 37 = .ok (.aload_n 0, 1) := by decide +kernel
theorem dX12_setFree_38 : decode cX12_setFree 38 = .ok (.iload_n 3, 1) := by decide +kernel
theorem dX12_setFree_39 : decode cX12_setFree 39 = .ok (.invokevirtual 281, 3) := by decide +kernel
theorem dX12_setFree_42 : decode cX12_setFree 42 = .ok (.ireturn, 1) := by decide +kernel
set_option maxRecDepth 20000 in
theorem ggX12_setWeight_X12_tiles : GoodIn wsX12_setWeight wsX12_tiles := goodIn_r _ [7, 8, 21, 22, 23, 24, 25, 26, 27, 28, 29, 30, 31, 32, 33, 34, 35, 36, 37, 38, 39, 40, 41, 42, 43, 44, 45, 46, 47, 48, 49, 50, 51, 52, 53, 54, 55, 56, 57, 58, 59, 60, 61, 62, 63, 64, 65, 66, 67, 68, 69, 70, 71, 72, 73, 74, 75, 76, 77, 78, 79, 80, 81, 82, 83, 84, 85, 86, 87] (by decide +kernel) (by decide +kernel)
set_option maxRecDepth 20000 in
theorem gX12_setWeight_X12_tiles : GoodIn wsX12_setWeight (wsV RX12 211 RX12 yX12_tiles wsX12_tiles) := goodIn_app (goodIn_of _ (by decide +kernel)) ggX12_setWeight_X12_tiles
set_option maxRecDepth 20000 in
theorem ggX12_setWeight_X12_in : GoodIn wsX12_setWeight wsX12_in := goodIn_r _ [11] (by decide +kernel) (by decide +kernel)
set_option maxRecDepth 20000 in
theorem gX12_setWeight_X12_in : GoodIn wsX12_setWeight (va_wsS RX12 200 yX12_in wsX12_in) := goodIn_app (goodIn_of _ (by decide +kernel)) ggX12_setWeight_X12_in
set_option maxRecDepth 20000 in
theorem ggX12_setWeight_X12_refuse : GoodIn wsX12_setWeight wsX12_refuse := goodIn_r _ [15, 16, 21, 22, 23, 24, 25, 26, 27, 28, 29, 30, 31, 32, 33, 34, 35, 36, 37, 38, 39, 40, 41, 42, 43, 44, 45, 46, 47, 48, 49, 50, 51, 52, 53, 54, 55, 56, 57, 58, 59, 60, 61, 62, 63, 64, 65, 66, 67, 68, 69, 70, 71, 72, 73, 74, 75, 76, 77, 78, 79, 80, 81, 82, 83, 84, 85, 86, 87] (by decide +kernel) (by decide +kernel)
set_option maxRecDepth 20000 in
theorem gX12_setWeight_X12_refuse : GoodIn wsX12_setWeight (wsV RX12 204 RX12 yX12_refuse wsX12_refuse) := goodIn_app (goodIn_of _ (by decide +kernel)) ggX12_setWeight_X12_refuse
set_option maxRecDepth 20000 in
theorem ggX12_setWeight_X12_told : GoodIn wsX12_setWeight wsX12_told := goodIn_r _ [20, 16, 21, 22, 23, 24, 25, 26, 27, 28, 29, 30, 31, 32, 33, 34, 35, 36, 37, 38, 39, 40, 41, 42, 43, 44, 45, 46, 47, 48, 49, 50, 51, 52, 53, 54, 55, 56, 57, 58, 59, 60, 61, 62, 63, 64, 65, 66, 67, 68, 69, 70, 71, 72, 73, 74, 75, 76, 77, 78, 79, 80, 81, 82, 83, 84, 85, 86, 87] (by decide +kernel) (by decide +kernel)
set_option maxRecDepth 20000 in
theorem gX12_setWeight_X12_told : GoodIn wsX12_setWeight (wsV RX12 215 RX12 yX12_told wsX12_told) := goodIn_app (goodIn_of _ (by decide +kernel)) ggX12_setWeight_X12_told
theorem dX12_setWeight_0 : decode cX12_setWeight 0 = .ok (.iload_n 1, 1) := by decide +kernel
theorem dX12_setWeight_1 : decode cX12_setWeight 1 = .ok (.iconst 1, 1) := by decide +kernel
theorem dX12_setWeight_2 : decode cX12_setWeight 2 = .ok (.aload_n 0, 1) := by decide +kernel
theorem dX12_setWeight_3 : decode cX12_setWeight 3 = .ok (.invokevirtual 211, 3) := by decide +kernel
theorem dX12_setWeight_6 : decode cX12_setWeight 6 = .ok (.invokestatic 200, 3) := by decide +kernel
theorem dX12_setWeight_9 : decode cX12_setWeight 9 = .ok (.ifCond .ne 9, 3) := by decide +kernel
theorem dX12_setWeight_12 : decode cX12_setWeight 12 = .ok (.aload_n 0, 1) := by decide +kernel
theorem dX12_setWeight_13 : decode cX12_setWeight 13 = .ok (.iconst 1, 1) := by decide +kernel
theorem dX12_setWeight_14 : decode cX12_setWeight 14 = .ok (.invokevirtual 204, 3) := by decide +kernel
theorem dX12_setWeight_17 : decode cX12_setWeight 17 = .ok (.ireturn, 1) := by decide +kernel
theorem dX12_setWeight_18 : decode cX12_setWeight 18 = .ok (.iload_n 2, 1) := by decide +kernel
theorem dX12_setWeight_19 : decode cX12_setWeight 19 = .ok (.iconst 1, 1) := by decide +kernel
theorem dX12_setWeight_20 : decode cX12_setWeight 20 = .ok (.bipush 9, 2) := by decide +kernel
theorem dX12_setWeight_22 : decode cX12_setWeight 22 = .ok (.invokestatic 200, 3) := by decide +kernel
theorem dX12_setWeight_25 : decode cX12_setWeight 25 = .ok (.ifCond .ne 9, 3) := by decide +kernel
theorem dX12_setWeight_28 : decode cX12_setWeight 28 = .ok (.aload_n 0, 1) := by decide +kernel
theorem dX12_setWeight_29 : decode cX12_setWeight 29 = .ok (.iconst 2, 1) := by decide +kernel
theorem dX12_setWeight_30 : decode cX12_setWeight 30 = .ok (.invokevirtual 204, 3) := by decide +kernel
theorem dX12_setWeight_33 : decode cX12_setWeight 33 = .ok (.ireturn, 1) := by decide +kernel
theorem dX12_setWeight_34 : decode cX12_setWeight 34 = .ok (.aload_n 0, 1) := by decide +kernel
theorem dX12_setWeight_35 : decode cX12_setWeight 35 = .ok (.getfield 39, 3) := by decide +kernel
theorem dX12_setWeight_38 : decode cX12_setWeight 38 = .ok (.iload_n 1, 1) := by decide +kernel
theorem dX12_setWeight_39 : decode cX12_setWeight 39 = .ok (.iaload, 1) := by decide +kernel
theorem dX12_setWeight_40 : decode cX12_setWeight 40 = .ok (.istore_n 3, 1) := by decide +kernel
theorem dX12_setWeight_41 : decode cX12_setWeight 41 = .ok (.aload_n 0, 1) := by decide +kernel
theorem dX12_setWeight_42 : decode cX12_setWeight 42 = .ok (.getfield 39, 3) := by decide +kernel
theorem dX12_setWeight_45 : decode cX12_setWeight 45 = .ok (.iload_n 1, 1) := by decide +kernel
theorem dX12_setWeight_46 : decode cX12_setWeight 46 = .ok (.iload_n 2, 1) := by decide +kernel
theorem dX12_setWeight_47 : decode cX12_setWeight 47 = .ok (.iastore, 1) := by decide +kernel
theorem dX12_setWeight_48 : decode cX12_setWeight 48 = .ok (.aload_n 0, 1) := by decide +kernel
theorem dX12_setWeight_49 : decode cX12_setWeight 49 = .ok (.iconst 0, 1) := by decide +kernel
theorem dX12_setWeight_50 : decode cX12_setWeight 50 = .ok (.putfield 181, 3) := by decide +kernel
theorem dX12_setWeight_53 : decode cX12_setWeight 53 = .ok (.aload_n 0, 1) := by decide +kernel
theorem dX12_setWeight_54 : decode cX12_setWeight 54 = .ok (.iload_n 3, 1) := by decide +kernel
theorem dX12_setWeight_55 : decode cX12_setWeight 55 = .ok (.invokevirtual 215, 3) := by decide +kernel
theorem dX12_setWeight_58 : decode cX12_setWeight 58 = .ok (.ireturn, 1) := by decide +kernel
set_option maxRecDepth 20000 in
theorem ggX12_setLimit_X12_in : GoodIn wsX12_setLimit wsX12_in := goodIn_r _ [5] (by decide +kernel) (by decide +kernel)
set_option maxRecDepth 20000 in
theorem gX12_setLimit_X12_in : GoodIn wsX12_setLimit (va_wsS RX12 200 yX12_in wsX12_in) := goodIn_app (goodIn_of _ (by decide +kernel)) ggX12_setLimit_X12_in
set_option maxRecDepth 20000 in
theorem ggX12_setLimit_X12_refuse : GoodIn wsX12_setLimit wsX12_refuse := goodIn_r _ [9, 10, 15, 16, 17, 18, 19, 20, 21, 22, 23, 24, 25, 26, 27, 28, 29, 30, 31, 32, 33, 34, 35, 36, 37, 38, 39, 40, 41, 42, 43, 44, 45, 46, 47, 48, 49, 50, 51, 52, 53, 54, 55, 56, 57, 58, 59, 60, 61, 62, 63, 64, 65, 66, 67, 68, 69, 70, 71, 72, 73, 74, 75, 76, 77, 78, 79, 80, 81] (by decide +kernel) (by decide +kernel)
set_option maxRecDepth 20000 in
theorem gX12_setLimit_X12_refuse : GoodIn wsX12_setLimit (wsV RX12 204 RX12 yX12_refuse wsX12_refuse) := goodIn_app (goodIn_of _ (by decide +kernel)) ggX12_setLimit_X12_refuse
set_option maxRecDepth 20000 in
theorem ggX12_setLimit_X12_told : GoodIn wsX12_setLimit wsX12_told := goodIn_r _ [14, 10, 15, 16, 17, 18, 19, 20, 21, 22, 23, 24, 25, 26, 27, 28, 29, 30, 31, 32, 33, 34, 35, 36, 37, 38, 39, 40, 41, 42, 43, 44, 45, 46, 47, 48, 49, 50, 51, 52, 53, 54, 55, 56, 57, 58, 59, 60, 61, 62, 63, 64, 65, 66, 67, 68, 69, 70, 71, 72, 73, 74, 75, 76, 77, 78, 79, 80, 81] (by decide +kernel) (by decide +kernel)
set_option maxRecDepth 20000 in
theorem gX12_setLimit_X12_told : GoodIn wsX12_setLimit (wsV RX12 215 RX12 yX12_told wsX12_told) := goodIn_app (goodIn_of _ (by decide +kernel)) ggX12_setLimit_X12_told
theorem dX12_setLimit_0 : decode cX12_setLimit 0 = .ok (.iload_n 1, 1) := by decide +kernel
theorem dX12_setLimit_1 : decode cX12_setLimit 1 = .ok (.iconst 1, 1) := by decide +kernel
theorem dX12_setLimit_2 : decode cX12_setLimit 2 = .ok (.sipush 1000, 3) := by decide +kernel
theorem dX12_setLimit_5 : decode cX12_setLimit 5 = .ok (.invokestatic 200, 3) := by decide +kernel
theorem dX12_setLimit_8 : decode cX12_setLimit 8 = .ok (.ifCond .ne 9, 3) := by decide +kernel
theorem dX12_setLimit_11 : decode cX12_setLimit 11 = .ok (.aload_n 0, 1) := by decide +kernel
theorem dX12_setLimit_12 : decode cX12_setLimit 12 = .ok (.iconst 1, 1) := by decide +kernel
theorem dX12_setLimit_13 : decode cX12_setLimit 13 = .ok (.invokevirtual 204, 3) := by decide +kernel
theorem dX12_setLimit_16 : decode cX12_setLimit 16 = .ok (.ireturn, 1) := by decide +kernel
theorem dX12_setLimit_17 : decode cX12_setLimit 17 = .ok (.aload_n 0, 1) := by decide +kernel
theorem dX12_setLimit_18 : decode cX12_setLimit 18 = .ok (.getfield 45, 3) := by decide +kernel
theorem dX12_setLimit_21 : decode cX12_setLimit 21 = .ok (.istore_n 2, 1) := by decide +kernel
theorem dX12_setLimit_22 : decode cX12_setLimit 22 = .ok (.aload_n 0, 1) := by decide +kernel
theorem dX12_setLimit_23 : decode cX12_setLimit 23 = .ok (.iload_n 1, 1) := by decide +kernel
theorem dX12_setLimit_24 : decode cX12_setLimit 24 = .ok (.putfield 45, 3) := by decide +kernel
theorem dX12_setLimit_27 : decode cX12_setLimit 27 = .ok (.aload_n 0, 1) := by decide +kernel
theorem dX12_setLimit_28 : decode cX12_setLimit 28 = .ok (.iload_n 2, 1) := by decide +kernel
theorem dX12_setLimit_29 : decode cX12_setLimit 29 = .ok (.invokevirtual 215, 3) := by decide +kernel
theorem dX12_setLimit_32 : decode cX12_setLimit 32 = .ok (.ireturn, 1) := by decide +kernel
set_option maxRecDepth 20000 in
theorem ggX12_makes__X12_goes : GoodIn wsX12_makes_ wsX12_goes := goodIn_r _ [8, 9, 10, 11, 12, 13, 7, 14, 15, 16, 17, 18, 19, 20, 21, 22, 23, 24, 25, 26, 27, 28, 29, 30, 31, 32, 33, 34, 35, 36, 37, 38, 39, 40, 41, 42, 43, 44, 45, 46, 47, 48, 49, 50, 51, 52, 53, 54, 55, 56, 57, 58, 59, 60, 61, 62, 63, 64, 65, 66, 67, 68, 69, 70, 71, 72, 73, 74, 75, 76, 77, 78, 79, 80, 81] (by decide +kernel) (by decide +kernel)
set_option maxRecDepth 20000 in
theorem gX12_makes__X12_goes : GoodIn wsX12_makes_ (wsV RX12 270 RX12 yX12_goes wsX12_goes) := goodIn_app (goodIn_of _ (by decide +kernel)) ggX12_makes__X12_goes
theorem dX12_makes__0 : decode cX12_makes_ 0 = .ok (.aload_n 0, 1) := by decide +kernel
theorem dX12_makes__1 : decode cX12_makes_ 1 = .ok (.aload_n 0, 1) := by decide +kernel
theorem dX12_makes__2 : decode cX12_makes_ 2 = .ok (.getfield 33, 3) := by decide +kernel
theorem dX12_makes__5 : decode cX12_makes_ 5 = .ok (.iload_n 1, 1) := by decide +kernel
theorem dX12_makes__6 : decode cX12_makes_ 6 = .ok (.invokevirtual 270, 3) := by decide +kernel
theorem dX12_makes__9 : decode cX12_makes_ 9 = .ok (.istore_n 2, 1) := by decide +kernel
theorem dX12_makes__10 : decode cX12_makes_ 10 = .ok (.iload_n 2, 1) := by decide +kernel
theorem dX12_makes__11 : decode cX12_makes_ 11 = .ok (.iconst (-1), 1) := by decide +kernel
theorem dX12_makes__12 : decode cX12_makes_ 12 = .ok (.if_icmp .ne 5, 3) := by decide +kernel
theorem dX12_makes__15 : decode cX12_makes_ 15 = .ok (.iconst (-1), 1) := by decide +kernel
theorem dX12_makes__16 : decode cX12_makes_ 16 = .ok (.ireturn, 1) := by decide +kernel
theorem dX12_makes__17 : decode cX12_makes_ 17 = .ok (.aload_n 0, 1) := by decide +kernel
theorem dX12_makes__18 : decode cX12_makes_ 18 = .ok (.getfield 184, 3) := by decide +kernel
theorem dX12_makes__21 : decode cX12_makes_ 21 = .ok (.sipush 200, 3) := by decide +kernel
theorem dX12_makes__24 : decode cX12_makes_ 24 = .ok (.if_icmp .ne 42, 3) := by decide +kernel
theorem dX12_makes__27 : decode cX12_makes_ 27 = .ok (.iconst 1, 1) := by decide +kernel
theorem dX12_makes__28 : decode cX12_makes_ 28 = .ok (.istore_n 3, 1) := by decide +kernel
theorem dX12_makes__29 : decode cX12_makes_ 29 = .ok (.iload_n 3, 1) := by decide +kernel
theorem dX12_makes__30 : decode cX12_makes_ 30 = .ok (.sipush 200, 3) := by decide +kernel
theorem dX12_makes__33 : decode cX12_makes_ 33 = .ok (.if_icmp .ge 23, 3) := by decide +kernel
theorem dX12_makes__36 : decode cX12_makes_ 36 = .ok (.aload_n 0, 1) := by decide +kernel
theorem dX12_makes__37 : decode cX12_makes_ 37 = .ok (.getfield 48, 3) := by decide +kernel
theorem dX12_makes__40 : decode cX12_makes_ 40 = .ok (.iload_n 3, 1) := by decide +kernel
theorem dX12_makes__41 : decode cX12_makes_ 41 = .ok (.iconst 1, 1) := by decide +kernel
theorem dX12_makes__42 : decode cX12_makes_ 42 = .ok (.isub, 1) := by decide +kernel
theorem dX12_makes__43 : decode cX12_makes_ 43 = .ok (.aload_n 0, 1) := by decide +kernel
theorem dX12_makes__44 : decode cX12_makes_ 44 = .ok (.getfield 48, 3) := by decide +kernel
theorem dX12_makes__47 : decode cX12_makes_ 47 = .ok (.iload_n 3, 1) := by decide +kernel
theorem dX12_makes__48 : decode cX12_makes_ 48 = .ok (.iaload, 1) := by decide +kernel
theorem dX12_makes__49 : decode cX12_makes_ 49 = .ok (.iastore, 1) := by decide +kernel
theorem dX12_makes__50 : decode cX12_makes_ 50 = .ok (.iinc 3 1, 3) := by decide +kernel
theorem dX12_makes__53 : decode cX12_makes_ 53 = .ok (.goto (-24), 3) := by decide +kernel
theorem dX12_makes__56 : decode cX12_makes_ 56 = .ok (.aload_n 0, 1) := by decide +kernel
theorem dX12_makes__57 : decode cX12_makes_ 57 = .ok (.dup, 1) := by decide +kernel
theorem dX12_makes__58 : decode cX12_makes_ 58 = .ok (.getfield 184, 3) := by decide +kernel
theorem dX12_makes__61 : decode cX12_makes_ 61 = .ok (.iconst 1, 1) := by decide +kernel
theorem dX12_makes__62 : decode cX12_makes_ 62 = .ok (.isub, 1) := by decide +kernel
theorem dX12_makes__63 : decode cX12_makes_ 63 = .ok (.putfield 184, 3) := by decide +kernel
theorem dX12_makes__66 : decode cX12_makes_ 66 = .ok (.aload_n 0, 1) := by decide +kernel
theorem dX12_makes__67 : decode cX12_makes_ 67 = .ok (.getfield 48, 3) := by decide +kernel
theorem dX12_makes__70 : decode cX12_makes_ 70 = .ok (.aload_n 0, 1) := by decide +kernel
theorem dX12_makes__71 : decode cX12_makes_ 71 = .ok (.getfield 184, 3) := by decide +kernel
theorem dX12_makes__74 : decode cX12_makes_ 74 = .ok (.iconst 3, 1) := by decide +kernel
theorem dX12_makes__75 : decode cX12_makes_ 75 = .ok (.iload_n 1, 1) := by decide +kernel
theorem dX12_makes__76 : decode cX12_makes_ 76 = .ok (.isub, 1) := by decide +kernel
theorem dX12_makes__77 : decode cX12_makes_ 77 = .ok (.iastore, 1) := by decide +kernel
theorem dX12_makes__78 : decode cX12_makes_ 78 = .ok (.aload_n 0, 1) := by decide +kernel
theorem dX12_makes__79 : decode cX12_makes_ 79 = .ok (.dup, 1) := by decide +kernel
theorem dX12_makes__80 : decode cX12_makes_ 80 = .ok (.getfield 184, 3) := by decide +kernel
theorem dX12_makes__83 : decode cX12_makes_ 83 = .ok (.iconst 1, 1) := by decide +kernel
theorem dX12_makes__84 : decode cX12_makes_ 84 = .ok (.iadd, 1) := by decide +kernel
theorem dX12_makes__85 : decode cX12_makes_ 85 = .ok (.putfield 184, 3) := by decide +kernel
theorem dX12_makes__88 : decode cX12_makes_ 88 = .ok (.iload_n 2, 1) := by decide +kernel
theorem dX12_makes__89 : decode cX12_makes_ 89 = .ok (.ireturn, 1) := by decide +kernel
set_option maxRecDepth 20000 in
theorem ggX12_move_X12_in : GoodIn wsX12_move wsX12_in := goodIn_r _ [6] (by decide +kernel) (by decide +kernel)
set_option maxRecDepth 20000 in
theorem gX12_move_X12_in : GoodIn wsX12_move (va_wsS RX12 200 yX12_in wsX12_in) := goodIn_app (goodIn_of _ (by decide +kernel)) ggX12_move_X12_in
set_option maxRecDepth 20000 in
theorem ggX12_move_X12_refuse : GoodIn wsX12_move wsX12_refuse := goodIn_r _ [10, 11, 31, 32, 33, 34, 35, 36, 37, 38, 39, 40, 41, 42, 43, 44, 45, 46, 47, 48, 49, 50, 51, 52, 53, 54, 55, 56, 57, 58, 59, 60, 61, 62, 63, 64, 65, 66, 67, 68, 69, 70, 71, 72, 73, 74, 75, 76, 77, 78, 79, 80, 81, 82, 83, 84, 85, 86, 87, 88, 89, 90, 91, 92, 93, 94, 95, 96, 97] (by decide +kernel) (by decide +kernel)
set_option maxRecDepth 20000 in
theorem gX12_move_X12_refuse : GoodIn wsX12_move (wsV RX12 204 RX12 yX12_refuse wsX12_refuse) := goodIn_app (goodIn_of _ (by decide +kernel)) ggX12_move_X12_refuse
set_option maxRecDepth 20000 in
theorem ggX12_move_X12_gapIn : GoodIn wsX12_move wsX12_gapIn := goodIn_r _ [15] (by decide +kernel) (by decide +kernel)
set_option maxRecDepth 20000 in
theorem gX12_move_X12_gapIn : GoodIn wsX12_move (wsV RX12 242 RX12 yX12_gapIn wsX12_gapIn) := goodIn_app (goodIn_of _ (by decide +kernel)) ggX12_move_X12_gapIn
set_option maxRecDepth 20000 in
theorem ggX12_move_X12_makes_ : GoodIn wsX12_move wsX12_makes_ := goodIn_r _ [19, 1, 20, 21, 22, 23, 24, 5, 25, 2, 26, 12, 13, 14, 15, 31, 32, 33, 34, 35, 36, 37, 38, 39, 40, 41, 42, 43, 44, 45, 46, 47, 48, 49, 50, 51, 52, 53, 54, 55, 56, 57, 58, 59, 60, 61, 62, 63, 64, 65, 66, 67, 68, 69, 70, 71, 72, 73, 74, 75, 76, 77, 78, 79, 80, 81, 82, 83, 84, 85, 86, 87, 88, 89, 90, 91, 92, 93, 94, 95, 96, 97] (by decide +kernel) (by decide +kernel)
set_option maxRecDepth 20000 in
theorem gX12_move_X12_makes_ : GoodIn wsX12_move (wsV RX12 285 RX12 yX12_makes_ wsX12_makes_) := goodIn_app (goodIn_of _ (by decide +kernel)) ggX12_move_X12_makes_
set_option maxRecDepth 20000 in
theorem ggX12_move_X12_told : GoodIn wsX12_move wsX12_told := goodIn_r _ [30, 11, 31, 32, 33, 34, 35, 36, 37, 38, 39, 40, 41, 42, 43, 44, 45, 46, 47, 48, 49, 50, 51, 52, 53, 54, 55, 56, 57, 58, 59, 60, 61, 62, 63, 64, 65, 66, 67, 68, 69, 70, 71, 72, 73, 74, 75, 76, 77, 78, 79, 80, 81, 82, 83, 84, 85, 86, 87, 88, 89, 90, 91, 92, 93, 94, 95, 96, 97] (by decide +kernel) (by decide +kernel)
set_option maxRecDepth 20000 in
theorem gX12_move_X12_told : GoodIn wsX12_move (wsV RX12 215 RX12 yX12_told wsX12_told) := goodIn_app (goodIn_of _ (by decide +kernel)) ggX12_move_X12_told
theorem dX12_move_0 : decode cX12_move 0 = .ok (.iload_n 1, 1) := by decide +kernel
theorem dX12_move_1 : decode cX12_move 1 = .ok (.iconst 0, 1) := by decide +kernel
theorem dX12_move_2 : decode cX12_move 2 = .ok (.iconst 3, 1) := by decide +kernel
theorem dX12_move_3 : decode cX12_move 3 = .ok (.invokestatic 200, 3) := by decide +kernel
theorem dX12_move_6 : decode cX12_move 6 = .ok (.ifCond .eq 12, 3) := by decide +kernel
theorem dX12_move_9 : decode cX12_move 9 = .ok (.iload_n 2, 1) := by decide +kernel
theorem dX12_move_10 : decode cX12_move 10 = .ok (.iconst 1, 1) := by decide +kernel
theorem dX12_move_11 : decode cX12_move 11 = .ok (.iconst 3, 1) := by decide +kernel
theorem dX12_move_12 : decode cX12_move 12 = .ok (.invokestatic 200, 3) := by decide +kernel
theorem dX12_move_15 : decode cX12_move 15 = .ok (.ifCond .ne 9, 3) := by decide +kernel
theorem dX12_move_18 : decode cX12_move 18 = .ok (.aload_n 0, 1) := by decide +kernel
theorem dX12_move_19 : decode cX12_move 19 = .ok (.iconst 1, 1) := by decide +kernel
theorem dX12_move_20 : decode cX12_move 20 = .ok (.invokevirtual 204, 3) := by decide +kernel
theorem dX12_move_23 : decode cX12_move 23 = .ok (.ireturn, 1) := by decide +kernel
theorem dX12_move_24 : decode cX12_move 24 = .ok (.aload_n 0, 1) := by decide +kernel
theorem dX12_move_25 : decode cX12_move 25 = .ok (.aload_n 0, 1) := by decide +kernel
theorem dX12_move_26 : decode cX12_move 26 = .ok (.getfield 33, 3) := by decide +kernel
theorem dX12_move_29 : decode cX12_move 29 = .ok (.invokevirtual 242, 3) := by decide +kernel
theorem dX12_move_32 : decode cX12_move 32 = .ok (.istore_n 3, 1) := by decide +kernel
theorem dX12_move_33 : decode cX12_move 33 = .ok (.iconst 0, 1) := by decide +kernel
theorem dX12_move_34 : decode cX12_move 34 = .ok (.istore 4, 2) := by decide +kernel
theorem dX12_move_36 : decode cX12_move 36 = .ok (.iload 4, 2) := by decide +kernel
theorem dX12_move_38 : decode cX12_move 38 = .ok (.iload_n 2, 1) := by decide +kernel
theorem dX12_move_39 : decode cX12_move 39 = .ok (.if_icmp .ge 29, 3) := by decide +kernel
theorem dX12_move_42 : decode cX12_move 42 = .ok (.iload_n 3, 1) := by decide +kernel
theorem dX12_move_43 : decode cX12_move 43 = .ok (.iconst (-1), 1) := by decide +kernel
theorem dX12_move_44 : decode cX12_move 44 = .ok (.if_icmp .ne 7, 3) := by decide +kernel
theorem dX12_move_47 : decode cX12_move 47 = .ok (.iconst (-1), 1) := by decide +kernel
theorem dX12_move_48 : decode cX12_move 48 = .ok (.goto 13, 3) := by decide +kernel
theorem dX12_move_51 : decode cX12_move 51 = .ok (.aload_n 0, 1) := by decide +kernel
theorem dX12_move_52 : decode cX12_move 52 = .ok (.getfield 16, 3) := by decide +kernel
theorem dX12_move_55 : decode cX12_move 55 = .ok (.iconst 4, 1) := by decide +kernel
theorem dX12_move_56 : decode cX12_move 56 = .ok (.iload_n 3, 1) := by decide +kernel
theorem dX12_move_57 : decode cX12_move 57 = .ok (.imul, 1) := by decide +kernel
theorem dX12_move_58 : decode cX12_move 58 = .ok (.iload_n 1, 1) := by decide +kernel
theorem dX12_move_59 : decode cX12_move 59 = .ok (.iadd, 1) := by decide +kernel
theorem dX12_move_60 : decode cX12_move 60 = .ok (.iaload, 1) := by decide +kernel
theorem dX12_move_61 : decode cX12_move 61 = .ok (.istore_n 3, 1) := by decide +kernel
theorem dX12_move_62 : decode cX12_move 62 = .ok (.iinc 4 1, 3) := by decide +kernel
theorem dX12_move_65 : decode cX12_move 65 = .ok (.goto (-29), 3) := by decide +kernel
theorem dX12_move_68 : decode cX12_move 68 = .ok (.iload_n 3, 1) := by decide +kernel
theorem dX12_move_69 : decode cX12_move 69 = .ok (.iconst (-1), 1) := by decide +kernel
theorem dX12_move_70 : decode cX12_move 70 = .ok (.if_icmp .ne 9, 3) := by decide +kernel
theorem dX12_move_73 : decode cX12_move 73 = .ok (.aload_n 0, 1) := by decide +kernel
theorem dX12_move_74 : decode cX12_move 74 = .ok (.iconst 2, 1) := by decide +kernel
theorem dX12_move_75 : decode cX12_move 75 = .ok (.invokevirtual 204, 3) := by decide +kernel
theorem dX12_move_78 : decode cX12_move 78 = .ok (.ireturn, 1) := by decide +kernel
theorem dX12_move_79 : decode cX12_move 79 = .ok (.iconst 0, 1) := by decide +kernel
theorem dX12_move_80 : decode cX12_move 80 = .ok (.istore 4, 2) := by decide +kernel
theorem dX12_move_82 : decode cX12_move 82 = .ok (.iconst 0, 1) := by decide +kernel
theorem dX12_move_83 : decode cX12_move 83 = .ok (.istore 5, 2) := by decide +kernel
theorem dX12_move_85 : decode cX12_move 85 = .ok (.iload 5, 2) := by decide +kernel
theorem dX12_move_87 : decode cX12_move 87 = .ok (.iload_n 2, 1) := by decide +kernel
theorem dX12_move_88 : decode cX12_move 88 = .ok (.if_icmp .ge 19, 3) := by decide +kernel
theorem dX12_move_91 : decode cX12_move 91 = .ok (.iload 4, 2) := by decide +kernel
theorem dX12_move_93 : decode cX12_move 93 = .ok (.aload_n 0, 1) := by decide +kernel
theorem dX12_move_94 : decode cX12_move 94 = .ok (.iload_n 1, 1) := by decide +kernel
theorem dX12_move_95 : decode cX12_move 95 = .ok (.invokevirtual 285, 3) := by decide +kernel
theorem dX12_move_98 : decode cX12_move 98 = .ok (.iadd, 1) := by decide +kernel
theorem dX12_move_99 : decode cX12_move 99 = .ok (.istore 4, 2) := by decide +kernel
theorem dX12_move_101 : decode cX12_move 101 = .ok (.iinc 5 1, 3) := by decide +kernel
theorem dX12_move_104 : decode cX12_move 104 = .ok (.goto (-19), 3) := by decide +kernel
theorem dX12_move_107 : decode cX12_move 107 = .ok (.aload_n 0, 1) := by decide +kernel
theorem dX12_move_108 : decode cX12_move 108 = .ok (.iload 4, 2) := by decide +kernel
theorem dX12_move_110 : decode cX12_move 110 = .ok (.invokevirtual 215, 3) := by decide +kernel
theorem dX12_move_113 : decode cX12_move 113 = .ok (.ireturn, 1) := by decide +kernel
set_option maxRecDepth 20000 in
theorem ggX12_undo_X12_in : GoodIn wsX12_undo wsX12_in := goodIn_r _ [7] (by decide +kernel) (by decide +kernel)
set_option maxRecDepth 20000 in
theorem gX12_undo_X12_in : GoodIn wsX12_undo (va_wsS RX12 200 yX12_in wsX12_in) := goodIn_app (goodIn_of _ (by decide +kernel)) ggX12_undo_X12_in
set_option maxRecDepth 20000 in
theorem ggX12_undo_X12_refuse : GoodIn wsX12_undo wsX12_refuse := goodIn_r _ [11, 12, 27, 28, 29, 30, 31, 32, 33, 34, 35, 36, 37, 38, 39, 40, 41, 42, 43, 44, 45, 46, 47, 48, 49, 50, 51, 52, 53, 54, 55, 56, 57, 58, 59, 60, 61, 62, 63, 64, 65, 66, 67, 68, 69, 70, 71, 72, 73, 74, 75, 76, 77, 78, 79, 80, 81, 82, 83, 84, 85, 86, 87, 88, 89, 90, 91, 92, 93] (by decide +kernel) (by decide +kernel)
set_option maxRecDepth 20000 in
theorem gX12_undo_X12_refuse : GoodIn wsX12_undo (wsV RX12 204 RX12 yX12_refuse wsX12_refuse) := goodIn_app (goodIn_of _ (by decide +kernel)) ggX12_undo_X12_refuse
set_option maxRecDepth 20000 in
theorem ggX12_undo_X12_goes : GoodIn wsX12_undo wsX12_goes := goodIn_r _ [16, 17, 18, 19, 20, 21, 6, 22, 27, 28, 29, 30, 31, 32, 33, 34, 35, 36, 37, 38, 39, 40, 41, 42, 43, 44, 45, 46, 47, 48, 49, 50, 51, 52, 53, 54, 55, 56, 57, 58, 59, 60, 61, 62, 63, 64, 65, 66, 67, 68, 69, 70, 71, 72, 73, 74, 75, 76, 77, 78, 79, 80, 81, 82, 83, 84, 85, 86, 87, 88, 89, 90, 91, 92, 93] (by decide +kernel) (by decide +kernel)
set_option maxRecDepth 20000 in
theorem gX12_undo_X12_goes : GoodIn wsX12_undo (wsV RX12 270 RX12 yX12_goes wsX12_goes) := goodIn_app (goodIn_of _ (by decide +kernel)) ggX12_undo_X12_goes
set_option maxRecDepth 20000 in
theorem ggX12_undo_X12_told : GoodIn wsX12_undo wsX12_told := goodIn_r _ [26, 12, 27, 28, 29, 30, 31, 32, 33, 34, 35, 36, 37, 38, 39, 40, 41, 42, 43, 44, 45, 46, 47, 48, 49, 50, 51, 52, 53, 54, 55, 56, 57, 58, 59, 60, 61, 62, 63, 64, 65, 66, 67, 68, 69, 70, 71, 72, 73, 74, 75, 76, 77, 78, 79, 80, 81, 82, 83, 84, 85, 86, 87, 88, 89, 90, 91, 92, 93] (by decide +kernel) (by decide +kernel)
set_option maxRecDepth 20000 in
theorem gX12_undo_X12_told : GoodIn wsX12_undo (wsV RX12 215 RX12 yX12_told wsX12_told) := goodIn_app (goodIn_of _ (by decide +kernel)) ggX12_undo_X12_told
theorem dX12_undo_0 : decode cX12_undo 0 = .ok (.iload_n 1, 1) := by decide +kernel
theorem dX12_undo_1 : decode cX12_undo 1 = .ok (.iconst 1, 1) := by decide +kernel
theorem dX12_undo_2 : decode cX12_undo 2 = .ok (.sipush 200, 3) := by decide +kernel
theorem dX12_undo_5 : decode cX12_undo 5 = .ok (.invokestatic 200, 3) := by decide +kernel
theorem dX12_undo_8 : decode cX12_undo 8 = .ok (.ifCond .ne 9, 3) := by decide +kernel
theorem dX12_undo_11 : decode cX12_undo 11 = .ok (.aload_n 0, 1) := by decide +kernel
theorem dX12_undo_12 : decode cX12_undo 12 = .ok (.iconst 1, 1) := by decide +kernel
theorem dX12_undo_13 : decode cX12_undo 13 = .ok (.invokevirtual 204, 3) := by decide +kernel
theorem dX12_undo_16 : decode cX12_undo 16 = .ok (.ireturn, 1) := by decide +kernel
theorem dX12_undo_17 : decode cX12_undo 17 = .ok (.iconst 0, 1) := by decide +kernel
theorem dX12_undo_18 : decode cX12_undo 18 = .ok (.istore_n 2, 1) := by decide +kernel
theorem dX12_undo_19 : decode cX12_undo 19 = .ok (.iload_n 2, 1) := by decide +kernel
theorem dX12_undo_20 : decode cX12_undo 20 = .ok (.iload_n 1, 1) := by decide +kernel
theorem dX12_undo_21 : decode cX12_undo 21 = .ok (.if_icmp .ge 44, 3) := by decide +kernel
theorem dX12_undo_24 : decode cX12_undo 24 = .ok (.aload_n 0, 1) := by decide +kernel
theorem dX12_undo_25 : decode cX12_undo 25 = .ok (.getfield 184, 3) := by decide +kernel
theorem dX12_undo_28 : decode cX12_undo 28 = .ok (.ifCond .le 37, 3) := by decide +kernel
theorem dX12_undo_31 : decode cX12_undo 31 = .ok (.aload_n 0, 1) := by decide +kernel
theorem dX12_undo_32 : decode cX12_undo 32 = .ok (.dup, 1) := by decide +kernel
theorem dX12_undo_33 : decode cX12_undo 33 = .ok (.getfield 184, 3) := by decide +kernel
theorem dX12_undo_36 : decode cX12_undo 36 = .ok (.iconst 1, 1) := by decide +kernel
theorem dX12_undo_37 : decode cX12_undo 37 = .ok (.isub, 1) := by decide +kernel
theorem dX12_undo_38 : decode cX12_undo 38 = .ok (.putfield 184, 3) := by decide +kernel
theorem dX12_undo_41 : decode cX12_undo 41 = .ok (.aload_n 0, 1) := by decide +kernel
theorem dX12_undo_42 : decode cX12_undo 42 = .ok (.aload_n 0, 1) := by decide +kernel
theorem dX12_undo_43 : decode cX12_undo 43 = .ok (.getfield 33, 3) := by decide +kernel
theorem dX12_undo_46 : decode cX12_undo 46 = .ok (.aload_n 0, 1) := by decide +kernel
theorem dX12_undo_47 : decode cX12_undo 47 = .ok (.getfield 48, 3) := by decide +kernel
theorem dX12_undo_50 : decode cX12_undo 50 = .ok (.aload_n 0, 1) := by decide +kernel
theorem dX12_undo_51 : decode cX12_undo 51 = .ok (.getfield 184, 3) := by decide +kernel
theorem dX12_undo_54 : decode cX12_undo 54 = .ok (.iaload, 1) := by decide +kernel
theorem dX12_undo_55 : decode cX12_undo 55 = .ok (.invokevirtual 270, 3) := by decide +kernel
theorem dX12_undo_58 : decode cX12_undo 58 = .ok (.istore_n 3, 1) := by decide +kernel
theorem dX12_undo_59 : decode cX12_undo 59 = .ok (.iinc 2 1, 3) := by decide +kernel
theorem dX12_undo_62 : decode cX12_undo 62 = .ok (.goto (-43), 3) := by decide +kernel
theorem dX12_undo_65 : decode cX12_undo 65 = .ok (.aload_n 0, 1) := by decide +kernel
theorem dX12_undo_66 : decode cX12_undo 66 = .ok (.iload_n 2, 1) := by decide +kernel
theorem dX12_undo_67 : decode cX12_undo 67 = .ok (.invokevirtual 215, 3) := by decide +kernel
theorem dX12_undo_70 : decode cX12_undo 70 = .ok (.ireturn, 1) := by decide +kernel
theorem dX12_directionOf_0 : decode cX12_directionOf 0 = .ok (.iload_n 0, 1) := by decide +kernel
theorem dX12_directionOf_1 : decode cX12_directionOf 1 = .ok (.bipush 117, 2) := by decide +kernel
theorem dX12_directionOf_3 : decode cX12_directionOf 3 = .ok (.if_icmp .ne 7, 3) := by decide +kernel
theorem dX12_directionOf_6 : decode cX12_directionOf 6 = .ok (.iconst 0, 1) := by decide +kernel
theorem dX12_directionOf_7 : decode cX12_directionOf 7 = .ok (.goto 34, 3) := by decide +kernel
theorem dX12_directionOf_10 : decode cX12_directionOf 10 = .ok (.iload_n 0, 1) := by decide +kernel
theorem dX12_directionOf_11 : decode cX12_directionOf 11 = .ok (.bipush 108, 2) := by decide +kernel
theorem dX12_directionOf_13 : decode cX12_directionOf 13 = .ok (.if_icmp .ne 7, 3) := by decide +kernel
theorem dX12_directionOf_16 : decode cX12_directionOf 16 = .ok (.iconst 1, 1) := by decide +kernel
theorem dX12_directionOf_17 : decode cX12_directionOf 17 = .ok (.goto 24, 3) := by decide +kernel
theorem dX12_directionOf_20 : decode cX12_directionOf 20 = .ok (.iload_n 0, 1) := by decide +kernel
theorem dX12_directionOf_21 : decode cX12_directionOf 21 = .ok (.bipush 114, 2) := by decide +kernel
theorem dX12_directionOf_23 : decode cX12_directionOf 23 = .ok (.if_icmp .ne 7, 3) := by decide +kernel
theorem dX12_directionOf_26 : decode cX12_directionOf 26 = .ok (.iconst 2, 1) := by decide +kernel
theorem dX12_directionOf_27 : decode cX12_directionOf 27 = .ok (.goto 14, 3) := by decide +kernel
theorem dX12_directionOf_30 : decode cX12_directionOf 30 = .ok (.iload_n 0, 1) := by decide +kernel
theorem dX12_directionOf_31 : decode cX12_directionOf 31 = .ok (.bipush 100, 2) := by decide +kernel
theorem dX12_directionOf_33 : decode cX12_directionOf 33 = .ok (.if_icmp .ne 7, 3) := by decide +kernel
theorem dX12_directionOf_36 : decode cX12_directionOf 36 = .ok (.iconst 3, 1) := by decide +kernel
theorem dX12_directionOf_37 : decode cX12_directionOf 37 = .ok (.goto 4, 3) := by decide +kernel
theorem dX12_directionOf_40 : decode cX12_directionOf 40 = .ok (.iconst (-1), 1) := by decide +kernel
theorem dX12_directionOf_41 : decode cX12_directionOf 41 = .ok (.ireturn, 1) := by decide +kernel
set_option maxRecDepth 20000 in
theorem ggX12_setMacro_X12_in : GoodIn wsX12_setMacro wsX12_in := goodIn_r _ [7] (by decide +kernel) (by decide +kernel)
set_option maxRecDepth 20000 in
theorem gX12_setMacro_X12_in : GoodIn wsX12_setMacro (va_wsS RX12 200 yX12_in wsX12_in) := goodIn_app (goodIn_of _ (by decide +kernel)) ggX12_setMacro_X12_in
set_option maxRecDepth 20000 in
theorem ggX12_setMacro_X12_refuse : GoodIn wsX12_setMacro wsX12_refuse := goodIn_r _ [11, 12, 20, 21, 22, 23, 24, 25, 26, 27, 28, 29, 30, 31, 32, 33, 34, 35, 36, 37, 38, 39, 40, 41, 42, 43, 44, 45, 46, 47, 48, 49, 50, 51, 52, 53, 54, 55, 56, 57, 58, 59, 60, 61, 62, 63, 64, 65, 66, 67, 68, 69, 70, 71, 72, 73, 74, 75, 76, 77, 78, 79, 80, 81, 82, 83, 84, 85, 86] (by decide +kernel) (by decide +kernel)
set_option maxRecDepth 20000 in
theorem gX12_setMacro_X12_refuse : GoodIn wsX12_setMacro (wsV RX12 204 RX12 yX12_refuse wsX12_refuse) := goodIn_app (goodIn_of _ (by decide +kernel)) ggX12_setMacro_X12_refuse
set_option maxRecDepth 20000 in
theorem ggX12_setMacro_X12_directionOf : GoodIn wsX12_setMacro wsX12_directionOf := goodIn_r _ [15] (by decide +kernel) (by decide +kernel)
set_option maxRecDepth 20000 in
theorem gX12_setMacro_X12_directionOf : GoodIn wsX12_setMacro (va_wsS RX12 289 yX12_directionOf wsX12_directionOf) := goodIn_app (goodIn_of _ (by decide +kernel)) ggX12_setMacro_X12_directionOf
set_option maxRecDepth 20000 in
theorem ggX12_setMacro_X12_told : GoodIn wsX12_setMacro wsX12_told := goodIn_r _ [19, 12, 20, 21, 22, 23, 24, 25, 26, 27, 28, 29, 30, 31, 32, 33, 34, 35, 36, 37, 38, 39, 40, 41, 42, 43, 44, 45, 46, 47, 48, 49, 50, 51, 52, 53, 54, 55, 56, 57, 58, 59, 60, 61, 62, 63, 64, 65, 66, 67, 68, 69, 70, 71, 72, 73, 74, 75, 76, 77, 78, 79, 80, 81, 82, 83, 84, 85, 86] (by decide +kernel) (by decide +kernel)
set_option maxRecDepth 20000 in
theorem gX12_setMacro_X12_told : GoodIn wsX12_setMacro (wsV RX12 215 RX12 yX12_told wsX12_told) := goodIn_app (goodIn_of _ (by decide +kernel)) ggX12_setMacro_X12_told
theorem dX12_setMacro_0 : decode cX12_setMacro 0 = .ok (.iload_n 1, 1) := by decide +kernel
theorem dX12_setMacro_1 : decode cX12_setMacro 1 = .ok (.iconst 0, 1) := by decide +kernel
theorem dX12_setMacro_2 : decode cX12_setMacro 2 = .ok (.iconst 3, 1) := by decide +kernel
theorem dX12_setMacro_3 : decode cX12_setMacro 3 = .ok (.invokestatic 200, 3) := by decide +kernel
theorem dX12_setMacro_6 : decode cX12_setMacro 6 = .ok (.ifCond .ne 9, 3) := by decide +kernel
theorem dX12_setMacro_9 : decode cX12_setMacro 9 = .ok (.aload_n 0, 1) := by decide +kernel
theorem dX12_setMacro_10 : decode cX12_setMacro 10 = .ok (.iconst 1, 1) := by decide +kernel
theorem dX12_setMacro_11 : decode cX12_setMacro 11 = .ok (.invokevirtual 204, 3) := by decide +kernel
theorem dX12_setMacro_14 : decode cX12_setMacro 14 = .ok (.ireturn, 1) := by decide +kernel
