theorem dX12_setMacro_15 : decode cX12_setMacro 15 = .ok (.iconst 1, 1) := by decide +kernel
theorem dX12_setMacro_16 : decode cX12_setMacro 16 = .ok (.istore 4, 2) := by decide +kernel
theorem dX12_setMacro_18 : decode cX12_setMacro 18 = .ok (.iconst 0, 1) := by decide +kernel
theorem dX12_setMacro_19 : decode cX12_setMacro 19 = .ok (.istore 5, 2) := by decide +kernel
theorem dX12_setMacro_21 : decode cX12_setMacro 21 = .ok (.iload 5, 2) := by decide +kernel
theorem dX12_setMacro_23 : decode cX12_setMacro 23 = .ok (.bipush 8, 2) := by decide +kernel
theorem dX12_setMacro_25 : decode cX12_setMacro 25 = .ok (.if_icmp .ge 49, 3) := by decide +kernel
theorem dX12_setMacro_28 : decode cX12_setMacro 28 = .ok (.lload_n 2, 1) := by decide +kernel
theorem dX12_setMacro_29 : decode cX12_setMacro 29 = .ok (.bipush 8, 2) := by decide +kernel
theorem dX12_setMacro_31 : decode cX12_setMacro 31 = .ok (.iload 5, 2) := by decide +kernel
theorem dX12_setMacro_33 : decode cX12_setMacro 33 = .ok (.imul, 1) := by decide +kernel
theorem dX12_setMacro_34 : decode cX12_setMacro 34 = .ok (.lushr, 1) := by decide +kernel
theorem dX12_setMacro_35 : decode cX12_setMacro 35 = .ok (.ldc2_w 287, 3) := by decide +kernel
theorem dX12_setMacro_38 : decode cX12_setMacro 38 = .ok (.land, 1) := by decide +kernel
theorem dX12_setMacro_39 : decode cX12_setMacro 39 = .ok (.l2i, 1) := by decide +kernel
theorem dX12_setMacro_40 : decode cX12_setMacro 40 = .ok (.istore 6, 2) := by decide +kernel
theorem dX12_setMacro_42 : decode cX12_setMacro 42 = .ok (.iload 4, 2) := by decide +kernel
theorem dX12_setMacro_44 : decode cX12_setMacro 44 = .ok (.ifCond .eq 21, 3) := by decide +kernel
theorem dX12_setMacro_47 : decode cX12_setMacro 47 = .ok (.iload 6, 2) := by decide +kernel
theorem dX12_setMacro_49 : decode cX12_setMacro 49 = .ok (.ifCond .eq 12, 3) := by decide +kernel
theorem dX12_setMacro_52 : decode cX12_setMacro 52 = .ok (.iload 6, 2) := by decide +kernel
theorem dX12_setMacro_54 : decode cX12_setMacro 54 = .ok (.invokestatic 289, 3) := by decide +kernel
theorem dX12_setMacro_57 : decode cX12_setMacro 57 = .ok (.iconst (-1), 1) := by decide +kernel
theorem dX12_setMacro_58 : decode cX12_setMacro 58 = .ok (.if_icmp .eq 7, 3) := by decide +kernel
theorem dX12_setMacro_61 : decode cX12_setMacro 61 = .ok (.iconst 1, 1) := by decide +kernel
theorem dX12_setMacro_62 : decode cX12_setMacro 62 = .ok (.goto 4, 3) := by decide +kernel
theorem dX12_setMacro_65 : decode cX12_setMacro 65 = .ok (.iconst 0, 1) := by decide +kernel
theorem dX12_setMacro_66 : decode cX12_setMacro 66 = .ok (.istore 4, 2) := by decide +kernel
theorem dX12_setMacro_68 : decode cX12_setMacro 68 = .ok (.iinc 5 1, 3) := by decide +kernel
theorem dX12_setMacro_71 : decode cX12_setMacro 71 = .ok (.goto (-50), 3) := by decide +kernel
theorem dX12_setMacro_74 : decode cX12_setMacro 74 = .ok (.iload 4, 2) := by decide +kernel
theorem dX12_setMacro_76 : decode cX12_setMacro 76 = .ok (.ifCond .ne 9, 3) := by decide +kernel
theorem dX12_setMacro_79 : decode cX12_setMacro 79 = .ok (.aload_n 0, 1) := by decide +kernel
theorem dX12_setMacro_80 : decode cX12_setMacro 80 = .ok (.iconst 2, 1) := by decide +kernel
theorem dX12_setMacro_81 : decode cX12_setMacro 81 = .ok (.invokevirtual 204, 3) := by decide +kernel
theorem dX12_setMacro_84 : decode cX12_setMacro 84 = .ok (.ireturn, 1) := by decide +kernel
theorem dX12_setMacro_85 : decode cX12_setMacro 85 = .ok (.iconst 0, 1) := by decide +kernel
theorem dX12_setMacro_86 : decode cX12_setMacro 86 = .ok (.istore 5, 2) := by decide +kernel
theorem dX12_setMacro_88 : decode cX12_setMacro 88 = .ok (.bipush 7, 2) := by decide +kernel
theorem dX12_setMacro_90 : decode cX12_setMacro 90 = .ok (.istore 6, 2) := by decide +kernel
theorem dX12_setMacro_92 : decode cX12_setMacro 92 = .ok (.iload 6, 2) := by decide +kernel
theorem dX12_setMacro_94 : decode cX12_setMacro 94 = .ok (.ifCond .lt 48, 3) := by decide +kernel
theorem dX12_setMacro_97 : decode cX12_setMacro 97 = .ok (.lload_n 2, 1) := by decide +kernel
theorem dX12_setMacro_98 : decode cX12_setMacro 98 = .ok (.bipush 8, 2) := by decide +kernel
theorem dX12_setMacro_100 : decode cX12_setMacro 100 = .ok (.iload 6, 2) := by decide +kernel
theorem dX12_setMacro_102 : decode cX12_setMacro 102 = .ok (.imul, 1) := by decide +kernel
theorem dX12_setMacro_103 : decode cX12_setMacro 103 = .ok (.lushr, 1) := by decide +kernel
theorem dX12_setMacro_104 : decode cX12_setMacro 104 = .ok (.ldc2_w 287, 3) := by decide +kernel
theorem dX12_setMacro_107 : decode cX12_setMacro 107 = .ok (.land, 1) := by decide +kernel
theorem dX12_setMacro_108 : decode cX12_setMacro 108 = .ok (.l2i, 1) := by decide +kernel
theorem dX12_setMacro_109 : decode cX12_setMacro 109 = .ok (.istore 7, 2) := by decide +kernel
theorem dX12_setMacro_111 : decode cX12_setMacro 111 = .ok (.iload 7, 2) := by decide +kernel
theorem dX12_setMacro_113 : decode cX12_setMacro 113 = .ok (.ifCond .eq 23, 3) := by decide +kernel
theorem dX12_setMacro_116 : decode cX12_setMacro 116 = .ok (.aload_n 0, 1) := by decide +kernel
theorem dX12_setMacro_117 : decode cX12_setMacro 117 = .ok (.getfield 54, 3) := by decide +kernel
theorem dX12_setMacro_120 : decode cX12_setMacro 120 = .ok (.bipush 8, 2) := by decide +kernel
theorem dX12_setMacro_122 : decode cX12_setMacro 122 = .ok (.iload_n 1, 1) := by decide +kernel
theorem dX12_setMacro_123 : decode cX12_setMacro 123 = .ok (.imul, 1) := by decide +kernel
theorem dX12_setMacro_124 : decode cX12_setMacro 124 = .ok (.iload 5, 2) := by decide +kernel
theorem dX12_setMacro_126 : decode cX12_setMacro 126 = .ok (.iadd, 1) := by decide +kernel
theorem dX12_setMacro_127 : decode cX12_setMacro 127 = .ok (.iload 7, 2) := by decide +kernel
theorem dX12_setMacro_129 : decode cX12_setMacro 129 = .ok (.invokestatic 289, 3) := by decide +kernel
theorem dX12_setMacro_132 : decode cX12_setMacro 132 = .ok (.iastore, 1) := by decide +kernel
theorem dX12_setMacro_133 : decode cX12_setMacro 133 = .ok (.iinc 5 1, 3) := by decide +kernel
theorem dX12_setMacro_136 : decode cX12_setMacro 136 = .ok (.iinc 6 (-1), 3) := by decide +kernel
theorem dX12_setMacro_139 : decode cX12_setMacro 139 = .ok (.goto (-47), 3) := by decide +kernel
theorem dX12_setMacro_142 : decode cX12_setMacro 142 = .ok (.aload_n 0, 1) := by decide +kernel
theorem dX12_setMacro_143 : decode cX12_setMacro 143 = .ok (.getfield 51, 3) := by decide +kernel
theorem dX12_setMacro_146 : decode cX12_setMacro 146 = .ok (.iload_n 1, 1) := by decide +kernel
theorem dX12_setMacro_147 : decode cX12_setMacro 147 = .ok (.iload 5, 2) := by decide +kernel
theorem dX12_setMacro_149 : decode cX12_setMacro 149 = .ok (.iastore, 1) := by decide +kernel
theorem dX12_setMacro_150 : decode cX12_setMacro 150 = .ok (.aload_n 0, 1) := by decide +kernel
theorem dX12_setMacro_151 : decode cX12_setMacro 151 = .ok (.iload 5, 2) := by decide +kernel
theorem dX12_setMacro_153 : decode cX12_setMacro 153 = .ok (.invokevirtual 215, 3) := by decide +kernel
theorem dX12_setMacro_156 : decode cX12_setMacro 156 = .ok (.ireturn, 1) := by decide +kernel
set_option maxRecDepth 20000 in
theorem ggX12_play_X12_in : GoodIn wsX12_play wsX12_in := goodIn_r _ [6] (by decide +kernel) (by decide +kernel)
set_option maxRecDepth 20000 in
theorem gX12_play_X12_in : GoodIn wsX12_play (va_wsS RX12 200 yX12_in wsX12_in) := goodIn_app (goodIn_of _ (by decide +kernel)) ggX12_play_X12_in
set_option maxRecDepth 20000 in
theorem ggX12_play_X12_refuse : GoodIn wsX12_play wsX12_refuse := goodIn_r _ [10, 11, 33, 34, 35, 36, 37, 38, 39, 40, 41, 42, 43, 44, 45, 46, 47, 48, 49, 50, 51, 52, 53, 54, 55, 56, 57, 58, 59, 60, 61, 62, 63, 64, 65, 66, 67, 68, 69, 70, 71, 72, 73, 74, 75, 76, 77, 78, 79, 80, 81, 82, 83, 84, 85, 86, 87, 88, 89, 90, 91, 92, 93, 94, 95, 96, 97, 98, 99] (by decide +kernel) (by decide +kernel)
set_option maxRecDepth 20000 in
theorem gX12_play_X12_refuse : GoodIn wsX12_play (wsV RX12 204 RX12 yX12_refuse wsX12_refuse) := goodIn_app (goodIn_of _ (by decide +kernel)) ggX12_play_X12_refuse
set_option maxRecDepth 20000 in
theorem ggX12_play_X12_makes_ : GoodIn wsX12_play wsX12_makes_ := goodIn_r _ [15, 16, 17, 18, 19, 20, 21, 5, 22, 23, 24, 25, 26, 27, 28, 33, 34, 35, 36, 37, 38, 39, 40, 41, 42, 43, 44, 45, 46, 47, 48, 49, 50, 51, 52, 53, 54, 55, 56, 57, 58, 59, 60, 61, 62, 63, 64, 65, 66, 67, 68, 69, 70, 71, 72, 73, 74, 75, 76, 77, 78, 79, 80, 81, 82, 83, 84, 85, 86, 87, 88, 89, 90, 91, 92, 93, 94, 95, 96, 97, 98, 99] (by decide +kernel) (by decide +kernel)
set_option maxRecDepth 20000 in
theorem gX12_play_X12_makes_ : GoodIn wsX12_play (wsV RX12 285 RX12 yX12_makes_ wsX12_makes_) := goodIn_app (goodIn_of _ (by decide +kernel)) ggX12_play_X12_makes_
set_option maxRecDepth 20000 in
theorem ggX12_play_X12_told : GoodIn wsX12_play wsX12_told := goodIn_r _ [32, 11, 33, 34, 35, 36, 37, 38, 39, 40, 41, 42, 43, 44, 45, 46, 47, 48, 49, 50, 51, 52, 53, 54, 55, 56, 57, 58, 59, 60, 61, 62, 63, 64, 65, 66, 67, 68, 69, 70, 71, 72, 73, 74, 75, 76, 77, 78, 79, 80, 81, 82, 83, 84, 85, 86, 87, 88, 89, 90, 91, 92, 93, 94, 95, 96, 97, 98, 99] (by decide +kernel) (by decide +kernel)
set_option maxRecDepth 20000 in
theorem gX12_play_X12_told : GoodIn wsX12_play (wsV RX12 215 RX12 yX12_told wsX12_told) := goodIn_app (goodIn_of _ (by decide +kernel)) ggX12_play_X12_told
theorem dX12_play_0 : decode cX12_play 0 = .ok (.iload_n 1, 1) := by decide +kernel
theorem dX12_play_1 : decode cX12_play 1 = .ok (.iconst 0, 1) := by decide +kernel
theorem dX12_play_2 : decode cX12_play 2 = .ok (.iconst 3, 1) := by decide +kernel
theorem dX12_play_3 : decode cX12_play 3 = .ok (.invokestatic 200, 3) := by decide +kernel
theorem dX12_play_6 : decode cX12_play 6 = .ok (.ifCond .ne 9, 3) := by decide +kernel
theorem dX12_play_9 : decode cX12_play 9 = .ok (.aload_n 0, 1) := by decide +kernel
theorem dX12_play_10 : decode cX12_play 10 = .ok (.iconst 1, 1) := by decide +kernel
theorem dX12_play_11 : decode cX12_play 11 = .ok (.invokevirtual 204, 3) := by decide +kernel
theorem dX12_play_14 : decode cX12_play 14 = .ok (.ireturn, 1) := by decide +kernel
theorem dX12_play_15 : decode cX12_play 15 = .ok (.iload_n 2, 1) := by decide +kernel
theorem dX12_play_16 : decode cX12_play 16 = .ok (.iconst 1, 1) := by decide +kernel
theorem dX12_play_17 : decode cX12_play 17 = .ok (.bipush 20, 2) := by decide +kernel
theorem dX12_play_19 : decode cX12_play 19 = .ok (.invokestatic 200, 3) := by decide +kernel
theorem dX12_play_22 : decode cX12_play 22 = .ok (.ifCond .ne 9, 3) := by decide +kernel
theorem dX12_play_25 : decode cX12_play 25 = .ok (.aload_n 0, 1) := by decide +kernel
theorem dX12_play_26 : decode cX12_play 26 = .ok (.iconst 2, 1) := by decide +kernel
theorem dX12_play_27 : decode cX12_play 27 = .ok (.invokevirtual 204, 3) := by decide +kernel
theorem dX12_play_30 : decode cX12_play 30 = .ok (.ireturn, 1) := by decide +kernel
theorem dX12_play_31 : decode cX12_play 31 = .ok (.aload_n 0, 1) := by decide +kernel
theorem dX12_play_32 : decode cX12_play 32 = .ok (.getfield 51, 3) := by decide +kernel
theorem dX12_play_35 : decode cX12_play 35 = .ok (.iload_n 1, 1) := by decide +kernel
theorem dX12_play_36 : decode cX12_play 36 = .ok (.iaload, 1) := by decide +kernel
theorem dX12_play_37 : decode cX12_play 37 = .ok (.ifCond .ne 9, 3) := by decide +kernel
theorem dX12_play_40 : decode cX12_play 40 = .ok (.aload_n 0, 1) := by decide +kernel
theorem dX12_play_41 : decode cX12_play 41 = .ok (.iconst 3, 1) := by decide +kernel
theorem dX12_play_42 : decode cX12_play 42 = .ok (.invokevirtual 204, 3) := by decide +kernel
theorem dX12_play_45 : decode cX12_play 45 = .ok (.ireturn, 1) := by decide +kernel
theorem dX12_play_46 : decode cX12_play 46 = .ok (.iconst 0, 1) := by decide +kernel
theorem dX12_play_47 : decode cX12_play 47 = .ok (.istore_n 3, 1) := by decide +kernel
theorem dX12_play_48 : decode cX12_play 48 = .ok (.iload_n 3, 1) := by decide +kernel
theorem dX12_play_49 : decode cX12_play 49 = .ok (.iload_n 2, 1) := by decide +kernel
theorem dX12_play_50 : decode cX12_play 50 = .ok (.aload_n 0, 1) := by decide +kernel
theorem dX12_play_51 : decode cX12_play 51 = .ok (.getfield 51, 3) := by decide +kernel
theorem dX12_play_54 : decode cX12_play 54 = .ok (.iload_n 1, 1) := by decide +kernel
theorem dX12_play_55 : decode cX12_play 55 = .ok (.iaload, 1) := by decide +kernel
theorem dX12_play_56 : decode cX12_play 56 = .ok (.imul, 1) := by decide +kernel
theorem dX12_play_57 : decode cX12_play 57 = .ok (.if_icmp .ge 35, 3) := by decide +kernel
theorem dX12_play_60 : decode cX12_play 60 = .ok (.aload_n 0, 1) := by decide +kernel
theorem dX12_play_61 : decode cX12_play 61 = .ok (.aload_n 0, 1) := by decide +kernel
theorem dX12_play_62 : decode cX12_play 62 = .ok (.getfield 54, 3) := by decide +kernel
theorem dX12_play_65 : decode cX12_play 65 = .ok (.bipush 8, 2) := by decide +kernel
theorem dX12_play_67 : decode cX12_play 67 = .ok (.iload_n 1, 1) := by decide +kernel
theorem dX12_play_68 : decode cX12_play 68 = .ok (.imul, 1) := by decide +kernel
theorem dX12_play_69 : decode cX12_play 69 = .ok (.iload_n 3, 1) := by decide +kernel
theorem dX12_play_70 : decode cX12_play 70 = .ok (.aload_n 0, 1) := by decide +kernel
theorem dX12_play_71 : decode cX12_play 71 = .ok (.getfield 51, 3) := by decide +kernel
theorem dX12_play_74 : decode cX12_play 74 = .ok (.iload_n 1, 1) := by decide +kernel
theorem dX12_play_75 : decode cX12_play 75 = .ok (.iaload, 1) := by decide +kernel
theorem dX12_play_76 : decode cX12_play 76 = .ok (.irem, 1) := by decide +kernel
theorem dX12_play_77 : decode cX12_play 77 = .ok (.iadd, 1) := by decide +kernel
theorem dX12_play_78 : decode cX12_play 78 = .ok (.iaload, 1) := by decide +kernel
theorem dX12_play_79 : decode cX12_play 79 = .ok (.invokevirtual 285, 3) := by decide +kernel
theorem dX12_play_82 : decode cX12_play 82 = .ok (.iconst (-1), 1) := by decide +kernel
theorem dX12_play_83 : decode cX12_play 83 = .ok (.if_icmp .eq 9, 3) := by decide +kernel
theorem dX12_play_86 : decode cX12_play 86 = .ok (.iinc 3 1, 3) := by decide +kernel
theorem dX12_play_89 : decode cX12_play 89 = .ok (.goto (-41), 3) := by decide +kernel
theorem dX12_play_92 : decode cX12_play 92 = .ok (.aload_n 0, 1) := by decide +kernel
theorem dX12_play_93 : decode cX12_play 93 = .ok (.iload_n 3, 1) := by decide +kernel
theorem dX12_play_94 : decode cX12_play 94 = .ok (.invokevirtual 215, 3) := by decide +kernel
theorem dX12_play_97 : decode cX12_play 97 = .ok (.ireturn, 1) := by decide +kernel
set_option maxRecDepth 20000 in
theorem ggX12_keep_X12_in : GoodIn wsX12_keep wsX12_in := goodIn_r _ [14] (by decide +kernel) (by decide +kernel)
set_option maxRecDepth 20000 in
theorem gX12_keep_X12_in : GoodIn wsX12_keep (va_wsS RX12 200 yX12_in wsX12_in) := goodIn_app (goodIn_of _ (by decide +kernel)) ggX12_keep_X12_in
set_option maxRecDepth 20000 in
theorem ggX12_keep_X12_rankOf : GoodIn wsX12_keep wsX12_rankOf := goodIn_r _ [18, 19, 20, 21, 22, 13, 23, 24, 25, 26, 27, 28, 29, 30, 31, 32, 33, 34, 35, 36, 37, 38, 39, 40, 41, 42, 43, 44, 45, 46, 47, 48, 49, 50, 51, 52, 53, 54, 55, 56, 57, 58, 59, 60, 61, 62, 63, 64, 65, 66, 67, 68, 69, 70, 71, 72, 73, 74, 75, 76, 77, 78, 79, 80, 81, 82, 83, 84, 85, 86, 87, 88, 89, 90] (by decide +kernel) (by decide +kernel)
set_option maxRecDepth 20000 in
theorem gX12_keep_X12_rankOf : GoodIn wsX12_keep (wsV RX12 274 RX12 yX12_rankOf wsX12_rankOf) := goodIn_app (goodIn_of _ (by decide +kernel)) ggX12_keep_X12_rankOf
theorem dX12_keep_0 : decode cX12_keep 0 = .ok (.aload_n 0, 1) := by decide +kernel
theorem dX12_keep_1 : decode cX12_keep 1 = .ok (.iload_n 1, 1) := by decide +kernel
theorem dX12_keep_2 : decode cX12_keep 2 = .ok (.iconst 0, 1) := by decide +kernel
theorem dX12_keep_3 : decode cX12_keep 3 = .ok (.iconst 1, 1) := by decide +kernel
theorem dX12_keep_4 : decode cX12_keep 4 = .ok (.invokestatic 200, 3) := by decide +kernel
theorem dX12_keep_7 : decode cX12_keep 7 = .ok (.ifCond .eq 7, 3) := by decide +kernel
theorem dX12_keep_10 : decode cX12_keep 10 = .ok (.iconst 0, 1) := by decide +kernel
theorem dX12_keep_11 : decode cX12_keep 11 = .ok (.goto 4, 3) := by decide +kernel
theorem dX12_keep_14 : decode cX12_keep 14 = .ok (.iconst 1, 1) := by decide +kernel
theorem dX12_keep_15 : decode cX12_keep 15 = .ok (.putfield 167, 3) := by decide +kernel
theorem dX12_keep_18 : decode cX12_keep 18 = .ok (.aload_n 0, 1) := by decide +kernel
theorem dX12_keep_19 : decode cX12_keep 19 = .ok (.getfield 167, 3) := by decide +kernel
theorem dX12_keep_22 : decode cX12_keep 22 = .ok (.ifCond .eq 5, 3) := by decide +kernel
theorem dX12_keep_25 : decode cX12_keep 25 = .ok (.lconst 0, 1) := by decide +kernel
theorem dX12_keep_26 : decode cX12_keep 26 = .ok (.lreturn, 1) := by decide +kernel
theorem dX12_keep_27 : decode cX12_keep 27 = .ok (.iconst 0, 1) := by decide +kernel
theorem dX12_keep_28 : decode cX12_keep 28 = .ok (.istore_n 2, 1) := by decide +kernel
theorem dX12_keep_29 : decode cX12_keep 29 = .ok (.iload_n 2, 1) := by decide +kernel
theorem dX12_keep_30 : decode cX12_keep 30 = .ok (.bipush 16, 2) := by decide +kernel
theorem dX12_keep_32 : decode cX12_keep 32 = .ok (.if_icmp .ge 77, 3) := by decide +kernel
theorem dX12_keep_35 : decode cX12_keep 35 = .ok (.aload_n 0, 1) := by decide +kernel
theorem dX12_keep_36 : decode cX12_keep 36 = .ok (.getfield 57, 3) := by decide +kernel
theorem dX12_keep_39 : decode cX12_keep 39 = .ok (.bipush 16, 2) := by decide +kernel
theorem dX12_keep_41 : decode cX12_keep 41 = .ok (.iload_n 1, 1) := by decide +kernel
theorem dX12_keep_42 : decode cX12_keep 42 = .ok (.imul, 1) := by decide +kernel
theorem dX12_keep_43 : decode cX12_keep 43 = .ok (.iload_n 2, 1) := by decide +kernel
theorem dX12_keep_44 : decode cX12_keep 44 = .ok (.iadd, 1) := by decide +kernel
theorem dX12_keep_45 : decode cX12_keep 45 = .ok (.aload_n 0, 1) := by decide +kernel
theorem dX12_keep_46 : decode cX12_keep 46 = .ok (.getfield 33, 3) := by decide +kernel
theorem dX12_keep_49 : decode cX12_keep 49 = .ok (.iload_n 2, 1) := by decide +kernel
theorem dX12_keep_50 : decode cX12_keep 50 = .ok (.iaload, 1) := by decide +kernel
theorem dX12_keep_51 : decode cX12_keep 51 = .ok (.iastore, 1) := by decide +kernel
theorem dX12_keep_52 : decode cX12_keep 52 = .ok (.aload_n 0, 1) := by decide +kernel
theorem dX12_keep_53 : decode cX12_keep 53 = .ok (.getfield 60, 3) := by decide +kernel
theorem dX12_keep_56 : decode cX12_keep 56 = .ok (.bipush 16, 2) := by decide +kernel
theorem dX12_keep_58 : decode cX12_keep 58 = .ok (.iload_n 1, 1) := by decide +kernel
theorem dX12_keep_59 : decode cX12_keep 59 = .ok (.imul, 1) := by decide +kernel
theorem dX12_keep_60 : decode cX12_keep 60 = .ok (.iload_n 2, 1) := by decide +kernel
theorem dX12_keep_61 : decode cX12_keep 61 = .ok (.iadd, 1) := by decide +kernel
theorem dX12_keep_62 : decode cX12_keep 62 = .ok (.aload_n 0, 1) := by decide +kernel
theorem dX12_keep_63 : decode cX12_keep 63 = .ok (.getfield 36, 3) := by decide +kernel
theorem dX12_keep_66 : decode cX12_keep 66 = .ok (.iload_n 2, 1) := by decide +kernel
theorem dX12_keep_67 : decode cX12_keep 67 = .ok (.iaload, 1) := by decide +kernel
theorem dX12_keep_68 : decode cX12_keep 68 = .ok (.iastore, 1) := by decide +kernel
theorem dX12_keep_69 : decode cX12_keep 69 = .ok (.aload_n 0, 1) := by decide +kernel
theorem dX12_keep_70 : decode cX12_keep 70 = .ok (.getfield 63, 3) := by decide +kernel
theorem dX12_keep_73 : decode cX12_keep 73 = .ok (.bipush 16, 2) := by decide +kernel
theorem dX12_keep_75 : decode cX12_keep 75 = .ok (.iload_n 1, 1) := by decide +kernel
theorem dX12_keep_76 : decode cX12_keep 76 = .ok (.imul, 1) := by decide +kernel
theorem dX12_keep_77 : decode cX12_keep 77 = .ok (.iload_n 2, 1) := by decide +kernel
theorem dX12_keep_78 : decode cX12_keep 78 = .ok (.iadd, 1) := by decide +kernel
theorem dX12_keep_79 : decode cX12_keep 79 = .ok (.aload_n 0, 1) := by decide +kernel
theorem dX12_keep_80 : decode cX12_keep 80 = .ok (.getfield 39, 3) := by decide +kernel
theorem dX12_keep_83 : decode cX12_keep 83 = .ok (.iload_n 2, 1) := by decide +kernel
theorem dX12_keep_84 : decode cX12_keep 84 = .ok (.iaload, 1) := by decide +kernel
theorem dX12_keep_85 : decode cX12_keep 85 = .ok (.iastore, 1) := by decide +kernel
theorem dX12_keep_86 : decode cX12_keep 86 = .ok (.aload_n 0, 1) := by decide +kernel
theorem dX12_keep_87 : decode cX12_keep 87 = .ok (.getfield 66, 3) := by decide +kernel
theorem dX12_keep_90 : decode cX12_keep 90 = .ok (.bipush 16, 2) := by decide +kernel
theorem dX12_keep_92 : decode cX12_keep 92 = .ok (.iload_n 1, 1) := by decide +kernel
theorem dX12_keep_93 : decode cX12_keep 93 = .ok (.imul, 1) := by decide +kernel
theorem dX12_keep_94 : decode cX12_keep 94 = .ok (.iload_n 2, 1) := by decide +kernel
theorem dX12_keep_95 : decode cX12_keep 95 = .ok (.iadd, 1) := by decide +kernel
theorem dX12_keep_96 : decode cX12_keep 96 = .ok (.aload_n 0, 1) := by decide +kernel
theorem dX12_keep_97 : decode cX12_keep 97 = .ok (.getfield 42, 3) := by decide +kernel
theorem dX12_keep_100 : decode cX12_keep 100 = .ok (.iload_n 2, 1) := by decide +kernel
theorem dX12_keep_101 : decode cX12_keep 101 = .ok (.baload, 1) := by decide +kernel
theorem dX12_keep_102 : decode cX12_keep 102 = .ok (.bastore, 1) := by decide +kernel
theorem dX12_keep_103 : decode cX12_keep 103 = .ok (.iinc 2 1, 3) := by decide +kernel
theorem dX12_keep_106 : decode cX12_keep 106 = .ok (.goto (-77), 3) := by decide +kernel
theorem dX12_keep_109 : decode cX12_keep 109 = .ok (.aload_n 0, 1) := by decide +kernel
theorem dX12_keep_110 : decode cX12_keep 110 = .ok (.getfield 69, 3) := by decide +kernel
theorem dX12_keep_113 : decode cX12_keep 113 = .ok (.iload_n 1, 1) := by decide +kernel
theorem dX12_keep_114 : decode cX12_keep 114 = .ok (.iconst 1, 1) := by decide +kernel
theorem dX12_keep_115 : decode cX12_keep 115 = .ok (.bastore, 1) := by decide +kernel
theorem dX12_keep_116 : decode cX12_keep 116 = .ok (.aload_n 0, 1) := by decide +kernel
theorem dX12_keep_117 : decode cX12_keep 117 = .ok (.aload_n 0, 1) := by decide +kernel
theorem dX12_keep_118 : decode cX12_keep 118 = .ok (.getfield 33, 3) := by decide +kernel
theorem dX12_keep_121 : decode cX12_keep 121 = .ok (.invokevirtual 274, 3) := by decide +kernel
theorem dX12_keep_124 : decode cX12_keep 124 = .ok (.lreturn, 1) := by decide +kernel
set_option maxRecDepth 20000 in
theorem ggX12_restore_X12_in : GoodIn wsX12_restore wsX12_in := goodIn_r _ [16] (by decide +kernel) (by decide +kernel)
set_option maxRecDepth 20000 in
theorem gX12_restore_X12_in : GoodIn wsX12_restore (va_wsS RX12 200 yX12_in wsX12_in) := goodIn_app (goodIn_of _ (by decide +kernel)) ggX12_restore_X12_in
set_option maxRecDepth 20000 in
theorem ggX12_restore_X12_refuse : GoodIn wsX12_restore wsX12_refuse := goodIn_r _ [20, 21, 30, 31, 32, 33, 34, 35, 36, 37, 38, 39, 40, 41, 42, 43, 44, 45, 46, 47, 48, 49, 50, 51, 52, 53, 54, 55, 56, 57, 58, 59, 60, 61, 62, 63, 64, 65, 66, 67, 68, 69, 70, 71, 72, 73, 74, 75, 76, 77, 78, 79, 80, 81, 82, 83, 84, 85, 86, 87, 88, 89, 90, 91, 92, 93, 94, 95, 96] (by decide +kernel) (by decide +kernel)
set_option maxRecDepth 20000 in
theorem gX12_restore_X12_refuse : GoodIn wsX12_restore (wsV RX12 204 RX12 yX12_refuse wsX12_refuse) := goodIn_app (goodIn_of _ (by decide +kernel)) ggX12_restore_X12_refuse
set_option maxRecDepth 20000 in
theorem ggX12_restore_X12_gapIn : GoodIn wsX12_restore wsX12_gapIn := goodIn_r _ [25] (by decide +kernel) (by decide +kernel)
set_option maxRecDepth 20000 in
theorem gX12_restore_X12_gapIn : GoodIn wsX12_restore (wsV RX12 242 RX12 yX12_gapIn wsX12_gapIn) := goodIn_app (goodIn_of _ (by decide +kernel)) ggX12_restore_X12_gapIn
set_option maxRecDepth 20000 in
theorem ggX12_restore_X12_told : GoodIn wsX12_restore wsX12_told := goodIn_r _ [29, 21, 30, 31, 32, 33, 34, 35, 36, 37, 38, 39, 40, 41, 42, 43, 44, 45, 46, 47, 48, 49, 50, 51, 52, 53, 54, 55, 56, 57, 58, 59, 60, 61, 62, 63, 64, 65, 66, 67, 68, 69, 70, 71, 72, 73, 74, 75, 76, 77, 78, 79, 80, 81, 82, 83, 84, 85, 86, 87, 88, 89, 90, 91, 92, 93, 94, 95, 96] (by decide +kernel) (by decide +kernel)
set_option maxRecDepth 20000 in
theorem gX12_restore_X12_told : GoodIn wsX12_restore (wsV RX12 215 RX12 yX12_told wsX12_told) := goodIn_app (goodIn_of _ (by decide +kernel)) ggX12_restore_X12_told
theorem dX12_restore_0 : decode cX12_restore 0 = .ok (.iload_n 1, 1) := by decide +kernel
theorem dX12_restore_1 : decode cX12_restore 1 = .ok (.iconst 0, 1) := by decide +kernel
theorem dX12_restore_2 : decode cX12_restore 2 = .ok (.iconst 1, 1) := by decide +kernel
theorem dX12_restore_3 : decode cX12_restore 3 = .ok (.invokestatic 200, 3) := by decide +kernel
theorem dX12_restore_6 : decode cX12_restore 6 = .ok (.ifCond .ne 9, 3) := by decide +kernel
theorem dX12_restore_9 : decode cX12_restore 9 = .ok (.aload_n 0, 1) := by decide +kernel
theorem dX12_restore_10 : decode cX12_restore 10 = .ok (.iconst 1, 1) := by decide +kernel
theorem dX12_restore_11 : decode cX12_restore 11 = .ok (.invokevirtual 204, 3) := by decide +kernel
theorem dX12_restore_14 : decode cX12_restore 14 = .ok (.ireturn, 1) := by decide +kernel
theorem dX12_restore_15 : decode cX12_restore 15 = .ok (.aload_n 0, 1) := by decide +kernel
theorem dX12_restore_16 : decode cX12_restore 16 = .ok (.getfield 69, 3) := by decide +kernel
theorem dX12_restore_19 : decode cX12_restore 19 = .ok (.iload_n 1, 1) := by decide +kernel
theorem dX12_restore_20 : decode cX12_restore 20 = .ok (.baload, 1) := by decide +kernel
theorem dX12_restore_21 : decode cX12_restore 21 = .ok (.ifCond .ne 9, 3) := by decide +kernel
theorem dX12_restore_24 : decode cX12_restore 24 = .ok (.aload_n 0, 1) := by decide +kernel
theorem dX12_restore_25 : decode cX12_restore 25 = .ok (.iconst 2, 1) := by decide +kernel
theorem dX12_restore_26 : decode cX12_restore 26 = .ok (.invokevirtual 204, 3) := by decide +kernel
theorem dX12_restore_29 : decode cX12_restore 29 = .ok (.ireturn, 1) := by decide +kernel
theorem dX12_restore_30 : decode cX12_restore 30 = .ok (.iconst 0, 1) := by decide +kernel
theorem dX12_restore_31 : decode cX12_restore 31 = .ok (.istore_n 2, 1) := by decide +kernel
theorem dX12_restore_32 : decode cX12_restore 32 = .ok (.iload_n 2, 1) := by decide +kernel
theorem dX12_restore_33 : decode cX12_restore 33 = .ok (.bipush 16, 2) := by decide +kernel
theorem dX12_restore_35 : decode cX12_restore 35 = .ok (.if_icmp .ge 77, 3) := by decide +kernel
theorem dX12_restore_38 : decode cX12_restore 38 = .ok (.aload_n 0, 1) := by decide +kernel
theorem dX12_restore_39 : decode cX12_restore 39 = .ok (.getfield 33, 3) := by decide +kernel
theorem dX12_restore_42 : decode cX12_restore 42 = .ok (.iload_n 2, 1) := by decide +kernel
theorem dX12_restore_43 : decode cX12_restore 43 = .ok (.aload_n 0, 1) := by decide +kernel
theorem dX12_restore_44 : decode cX12_restore 44 = .ok (.getfield 57, 3) := by decide +kernel
theorem dX12_restore_47 : decode cX12_restore 47 = .ok (.bipush 16, 2) := by decide +kernel
theorem dX12_restore_49 : decode cX12_restore 49 = .ok (.iload_n 1, 1) := by decide +kernel
theorem dX12_restore_50 : decode cX12_restore 50 = .ok (.imul, 1) := by decide +kernel
theorem dX12_restore_51 : decode cX12_restore 51 = .ok (.iload_n 2, 1) := by decide +kernel
theorem dX12_restore_52 : decode cX12_restore 52 = .ok (.iadd, 1) := by decide +kernel
theorem dX12_restore_53 : decode cX12_restore 53 = .ok (.iaload, 1) := by decide +kernel
theorem dX12_restore_54 : decode cX12_restore 54 = .ok (.iastore, 1) := by decide +kernel
theorem dX12_restore_55 : decode cX12_restore 55 = .ok (.aload_n 0, 1) := by decide +kernel
theorem dX12_restore_56 : decode cX12_restore 56 = .ok (.getfield 36, 3) := by decide +kernel
theorem dX12_restore_59 : decode cX12_restore 59 = .ok (.iload_n 2, 1) := by decide +kernel
theorem dX12_restore_60 : decode cX12_restore 60 = .ok (.aload_n 0, 1) := by decide +kernel
theorem dX12_restore_61 : decode cX12_restore 61 = .ok (.getfield 60, 3) := by decide +kernel
theorem dX12_restore_64 : decode cX12_restore 64 = .ok (.bipush 16, 2) := by decide +kernel
theorem dX12_restore_66 : decode cX12_restore 66 = .ok (.iload_n 1, 1) := by decide +kernel
theorem dX12_restore_67 : decode cX12_restore 67 = .ok (.imul, 1) := by decide +kernel
theorem dX12_restore_68 : decode cX12_restore 68 = .ok (.iload_n 2, 1) := by decide +kernel
theorem dX12_restore_69 : decode cX12_restore 69 = .ok (.iadd, 1) := by decide +kernel
theorem dX12_restore_70 : decode cX12_restore 70 = .ok (.iaload, 1) := by decide +kernel
theorem dX12_restore_71 : decode cX12_restore 71 = .ok (.iastore, 1) := by decide +kernel
theorem dX12_restore_72 : decode cX12_restore 72 = .ok (.aload_n 0, 1) := by decide +kernel
theorem dX12_restore_73 : decode cX12_restore 73 = .ok (.getfield 39, 3) := by decide +kernel
theorem dX12_restore_76 : decode cX12_restore 76 = .ok (.iload_n 2, 1) := by decide +kernel
theorem dX12_restore_77 : decode cX12_restore 77 = .ok (.aload_n 0, 1) := by decide +kernel
theorem dX12_restore_78 : decode cX12_restore 78 = .ok (.getfield 63, 3) := by decide +kernel
theorem dX12_restore_81 : decode cX12_restore 81 = .ok (.bipush 16, 2) := by decide +kernel
theorem dX12_restore_83 : decode cX12_restore 83 = .ok (.iload_n 1, 1) := by decide +kernel
theorem dX12_restore_84 : decode cX12_restore 84 = .ok (.imul, 1) := by decide +kernel
theorem dX12_restore_85 : decode cX12_restore 85 = .ok (.iload_n 2, 1) := by decide +kernel
theorem dX12_restore_86 : decode cX12_restore 86 = .ok (.iadd, 1) := by decide +kernel
theorem dX12_restore_87 : decode cX12_restore 87 = .ok (.iaload, 1) := by decide +kernel
theorem dX12_restore_88 : decode cX12_restore 88 = .ok (.iastore, 1) := by decide +kernel
theorem dX12_restore_89 : decode cX12_restore 89 = .ok (.aload_n 0, 1) := by decide +kernel
theorem dX12_restore_90 : decode cX12_restore 90 = .ok (.getfield 42, 3) := by decide +kernel
theorem dX12_restore_93 : decode cX12_restore 93 = .ok (.iload_n 2, 1) := by decide +kernel
theorem dX12_restore_94 : decode cX12_restore 94 = .ok (.aload_n 0, 1) := by decide +kernel
theorem dX12_restore_95 : decode cX12_restore 95 = .ok (.getfield 66, 3) := by decide +kernel
theorem dX12_restore_98 : decode cX12_restore 98 = .ok (.bipush 16, 2) := by decide +kernel
theorem dX12_restore_100 : decode cX12_restore 100 = .ok (.iload_n 1, 1) := by decide +kernel
theorem dX12_restore_101 : decode cX12_restore 101 = .ok (.imul, 1) := by decide +kernel
theorem dX12_restore_102 : decode cX12_restore 102 = .ok (.iload_n 2, 1) := by decide +kernel
theorem dX12_restore_103 : decode cX12_restore 103 = .ok (.iadd, 1) := by decide +kernel
theorem dX12_restore_104 : decode cX12_restore 104 = .ok (.baload, 1) := by decide +kernel
theorem dX12_restore_105 : decode cX12_restore 105 = .ok (.bastore, 1) := by decide +kernel
theorem dX12_restore_106 : decode cX12_restore 106 = .ok (.iinc 2 1, 3) := by decide +kernel
theorem dX12_restore_109 : decode cX12_restore 109 = .ok (.goto (-77), 3) := by decide +kernel
theorem dX12_restore_112 : decode cX12_restore 112 = .ok (.aload_n 0, 1) := by decide +kernel
theorem dX12_restore_113 : decode cX12_restore 113 = .ok (.iconst 0, 1) := by decide +kernel
theorem dX12_restore_114 : decode cX12_restore 114 = .ok (.putfield 181, 3) := by decide +kernel
theorem dX12_restore_117 : decode cX12_restore 117 = .ok (.aload_n 0, 1) := by decide +kernel
theorem dX12_restore_118 : decode cX12_restore 118 = .ok (.iconst 0, 1) := by decide +kernel
theorem dX12_restore_119 : decode cX12_restore 119 = .ok (.putfield 184, 3) := by decide +kernel
theorem dX12_restore_122 : decode cX12_restore 122 = .ok (.aload_n 0, 1) := by decide +kernel
theorem dX12_restore_123 : decode cX12_restore 123 = .ok (.aload_n 0, 1) := by decide +kernel
theorem dX12_restore_124 : decode cX12_restore 124 = .ok (.getfield 7, 3) := by decide +kernel
theorem dX12_restore_127 : decode cX12_restore 127 = .ok (.aload_n 0, 1) := by decide +kernel
theorem dX12_restore_128 : decode cX12_restore 128 = .ok (.aload_n 0, 1) := by decide +kernel
theorem dX12_restore_129 : decode cX12_restore 129 = .ok (.getfield 33, 3) := by decide +kernel
theorem dX12_restore_132 : decode cX12_restore 132 = .ok (.invokevirtual 242, 3) := by decide +kernel
theorem dX12_restore_135 : decode cX12_restore 135 = .ok (.iaload, 1) := by decide +kernel
theorem dX12_restore_136 : decode cX12_restore 136 = .ok (.invokevirtual 215, 3) := by decide +kernel
theorem dX12_restore_139 : decode cX12_restore 139 = .ok (.ireturn, 1) := by decide +kernel
set_option maxRecDepth 20000 in
theorem ggX12_tileAt_X12_in : GoodIn wsX12_tileAt wsX12_in := goodIn_r _ [9] (by decide +kernel) (by decide +kernel)
set_option maxRecDepth 20000 in
theorem gX12_tileAt_X12_in : GoodIn wsX12_tileAt (va_wsS RX12 200 yX12_in wsX12_in) := goodIn_app (goodIn_of _ (by decide +kernel)) ggX12_tileAt_X12_in
set_option maxRecDepth 20000 in
theorem ggX12_tileAt_X12_refuse : GoodIn wsX12_tileAt wsX12_refuse := goodIn_r _ [13, 14, 19, 20, 21, 22, 23, 24, 25, 26, 27, 28, 29, 30, 31, 32, 33, 34, 35, 36, 37, 38, 39, 40, 41, 42, 43, 44, 45, 46, 47, 48, 49, 50, 51, 52, 53, 54, 55, 56, 57, 58, 59, 60, 61, 62, 63, 64, 65, 66, 67, 68, 69, 70, 71, 72, 73, 74, 75, 76, 77, 78, 79, 80, 81, 82, 83, 84, 85] (by decide +kernel) (by decide +kernel)
set_option maxRecDepth 20000 in
theorem gX12_tileAt_X12_refuse : GoodIn wsX12_tileAt (wsV RX12 204 RX12 yX12_refuse wsX12_refuse) := goodIn_app (goodIn_of _ (by decide +kernel)) ggX12_tileAt_X12_refuse
set_option maxRecDepth 20000 in
theorem ggX12_tileAt_X12_told : GoodIn wsX12_tileAt wsX12_told := goodIn_r _ [18, 14, 19, 20, 21, 22, 23, 24, 25, 26, 27, 28, 29, 30, 31, 32, 33, 34, 35, 36, 37, 38, 39, 40, 41, 42, 43, 44, 45, 46, 47, 48, 49, 50, 51, 52, 53, 54, 55, 56, 57, 58, 59, 60, 61, 62, 63, 64, 65, 66, 67, 68, 69, 70, 71, 72, 73, 74, 75, 76, 77, 78, 79, 80, 81, 82, 83, 84, 85] (by decide +kernel) (by decide +kernel)
set_option maxRecDepth 20000 in
theorem gX12_tileAt_X12_told : GoodIn wsX12_tileAt (wsV RX12 215 RX12 yX12_told wsX12_told) := goodIn_app (goodIn_of _ (by decide +kernel)) ggX12_tileAt_X12_told
theorem dX12_tileAt_0 : decode cX12_tileAt 0 = .ok (.iload_n 1, 1) := by decide +kernel
theorem dX12_tileAt_1 : decode cX12_tileAt 1 = .ok (.iconst 0, 1) := by decide +kernel
theorem dX12_tileAt_2 : decode cX12_tileAt 2 = .ok (.aload_n 0, 1) := by decide +kernel
theorem dX12_tileAt_3 : decode cX12_tileAt 3 = .ok (.getfield 26, 3) := by decide +kernel
theorem dX12_tileAt_6 : decode cX12_tileAt 6 = .ok (.aload_n 0, 1) := by decide +kernel
theorem dX12_tileAt_7 : decode cX12_tileAt 7 = .ok (.getfield 30, 3) := by decide +kernel
theorem dX12_tileAt_10 : decode cX12_tileAt 10 = .ok (.imul, 1) := by decide +kernel
theorem dX12_tileAt_11 : decode cX12_tileAt 11 = .ok (.iconst 1, 1) := by decide +kernel
theorem dX12_tileAt_12 : decode cX12_tileAt 12 = .ok (.isub, 1) := by decide +kernel
theorem dX12_tileAt_13 : decode cX12_tileAt 13 = .ok (.invokestatic 200, 3) := by decide +kernel
theorem dX12_tileAt_16 : decode cX12_tileAt 16 = .ok (.ifCond .ne 9, 3) := by decide +kernel
theorem dX12_tileAt_19 : decode cX12_tileAt 19 = .ok (.aload_n 0, 1) := by decide +kernel
theorem dX12_tileAt_20 : decode cX12_tileAt 20 = .ok (.iconst 1, 1) := by decide +kernel
theorem dX12_tileAt_21 : decode cX12_tileAt 21 = .ok (.invokevirtual 204, 3) := by decide +kernel
theorem dX12_tileAt_24 : decode cX12_tileAt 24 = .ok (.ireturn, 1) := by decide +kernel
theorem dX12_tileAt_25 : decode cX12_tileAt 25 = .ok (.aload_n 0, 1) := by decide +kernel
theorem dX12_tileAt_26 : decode cX12_tileAt 26 = .ok (.aload_n 0, 1) := by decide +kernel
theorem dX12_tileAt_27 : decode cX12_tileAt 27 = .ok (.getfield 22, 3) := by decide +kernel
theorem dX12_tileAt_30 : decode cX12_tileAt 30 = .ok (.iload_n 1, 1) := by decide +kernel
theorem dX12_tileAt_31 : decode cX12_tileAt 31 = .ok (.baload, 1) := by decide +kernel
theorem dX12_tileAt_32 : decode cX12_tileAt 32 = .ok (.ifCond .eq 7, 3) := by decide +kernel
theorem dX12_tileAt_35 : decode cX12_tileAt 35 = .ok (.iconst (-1), 1) := by decide +kernel
theorem dX12_tileAt_36 : decode cX12_tileAt 36 = .ok (.goto 14, 3) := by decide +kernel
theorem dX12_tileAt_39 : decode cX12_tileAt 39 = .ok (.aload_n 0, 1) := by decide +kernel
theorem dX12_tileAt_40 : decode cX12_tileAt 40 = .ok (.getfield 33, 3) := by decide +kernel
theorem dX12_tileAt_43 : decode cX12_tileAt 43 = .ok (.aload_n 0, 1) := by decide +kernel
theorem dX12_tileAt_44 : decode cX12_tileAt 44 = .ok (.getfield 13, 3) := by decide +kernel
theorem dX12_tileAt_47 : decode cX12_tileAt 47 = .ok (.iload_n 1, 1) := by decide +kernel
theorem dX12_tileAt_48 : decode cX12_tileAt 48 = .ok (.iaload, 1) := by decide +kernel
theorem dX12_tileAt_49 : decode cX12_tileAt 49 = .ok (.iaload, 1) := by decide +kernel
theorem dX12_tileAt_50 : decode cX12_tileAt 50 = .ok (.invokevirtual 215, 3) := by decide +kernel
theorem dX12_tileAt_53 : decode cX12_tileAt 53 = .ok (.ireturn, 1) := by decide +kernel
set_option maxRecDepth 20000 in
theorem ggX12_rank_X12_rankOf : GoodIn wsX12_rank wsX12_rankOf := goodIn_r _ [7, 8, 9, 10, 11, 6, 12, 13, 14, 15, 16, 17, 18, 19, 20, 21, 22, 23, 24, 25, 26, 27, 28, 29, 30, 31, 32, 33, 34, 35, 36, 37, 38, 39, 40, 41, 42, 43, 44, 45, 46, 47, 48, 49, 50, 51, 52, 53, 54, 55, 56, 57, 58, 59, 60, 61, 62, 63, 64, 65, 66, 67, 68, 69, 70, 71, 72, 73, 74, 75, 76, 77, 78, 79] (by decide +kernel) (by decide +kernel)
set_option maxRecDepth 20000 in
theorem gX12_rank_X12_rankOf : GoodIn wsX12_rank (wsV RX12 274 RX12 yX12_rankOf wsX12_rankOf) := goodIn_app (goodIn_of _ (by decide +kernel)) ggX12_rank_X12_rankOf
theorem dX12_rank_0 : decode cX12_rank 0 = .ok (.aload_n 0, 1) := by decide +kernel
theorem dX12_rank_1 : decode cX12_rank 1 = .ok (.iconst 0, 1) := by decide +kernel
theorem dX12_rank_2 : decode cX12_rank 2 = .ok (.putfield 167, 3) := by decide +kernel
theorem dX12_rank_5 : decode cX12_rank 5 = .ok (.aload_n 0, 1) := by decide +kernel
theorem dX12_rank_6 : decode cX12_rank 6 = .ok (.aload_n 0, 1) := by decide +kernel
theorem dX12_rank_7 : decode cX12_rank 7 = .ok (.getfield 33, 3) := by decide +kernel
theorem dX12_rank_10 : decode cX12_rank 10 = .ok (.invokevirtual 274, 3) := by decide +kernel
theorem dX12_rank_13 : decode cX12_rank 13 = .ok (.lreturn, 1) := by decide +kernel
set_option maxRecDepth 20000 in
theorem ggX12_inversionsOf_X12_valueOf : GoodIn wsX12_inversionsOf wsX12_valueOf := goodIn_r _ [6, 1, 7, 8, 9, 10, 11, 12, 13, 14, 15, 16, 17, 18, 19, 20, 21, 22, 23, 24, 25, 26, 27, 28, 29, 30, 31, 32, 33, 34, 35, 36, 37, 38, 39, 40, 41, 42, 43, 44, 45, 46, 47, 48, 49, 50, 51, 52, 53, 54, 55, 56, 57, 58, 59, 60, 61, 62, 63, 64, 65, 66, 67, 68, 69, 70, 71, 72, 73] (by decide +kernel) (by decide +kernel)
set_option maxRecDepth 20000 in
theorem gX12_inversionsOf_X12_valueOf : GoodIn wsX12_inversionsOf (wsV RX12 218 RX12 yX12_valueOf wsX12_valueOf) := goodIn_app (goodIn_of _ (by decide +kernel)) ggX12_inversionsOf_X12_valueOf
theorem dX12_inversionsOf_0 : decode cX12_inversionsOf 0 = .ok (.iconst 0, 1) := by decide +kernel
theorem dX12_inversionsOf_1 : decode cX12_inversionsOf 1 = .ok (.istore_n 2, 1) := by decide +kernel
theorem dX12_inversionsOf_2 : decode cX12_inversionsOf 2 = .ok (.iconst 0, 1) := by decide +kernel
theorem dX12_inversionsOf_3 : decode cX12_inversionsOf 3 = .ok (.istore_n 3, 1) := by decide +kernel
theorem dX12_inversionsOf_4 : decode cX12_inversionsOf 4 = .ok (.iload_n 3, 1) := by decide +kernel
theorem dX12_inversionsOf_5 : decode cX12_inversionsOf 5 = .ok (.aload_n 0, 1) := by decide +kernel
theorem dX12_inversionsOf_6 : decode cX12_inversionsOf 6 = .ok (.getfield 170, 3) := by decide +kernel
theorem dX12_inversionsOf_9 : decode cX12_inversionsOf 9 = .ok (.if_icmp .ge 50, 3) := by decide +kernel
theorem dX12_inversionsOf_12 : decode cX12_inversionsOf 12 = .ok (.iconst 0, 1) := by decide +kernel
theorem dX12_inversionsOf_13 : decode cX12_inversionsOf 13 = .ok (.istore 4, 2) := by decide +kernel
theorem dX12_inversionsOf_15 : decode cX12_inversionsOf 15 = .ok (.iload 4, 2) := by decide +kernel
theorem dX12_inversionsOf_17 : decode cX12_inversionsOf 17 = .ok (.iload_n 3, 1) := by decide +kernel
theorem dX12_inversionsOf_18 : decode cX12_inversionsOf 18 = .ok (.if_icmp .ge 35, 3) := by decide +kernel
theorem dX12_inversionsOf_21 : decode cX12_inversionsOf 21 = .ok (.iload_n 2, 1) := by decide +kernel
theorem dX12_inversionsOf_22 : decode cX12_inversionsOf 22 = .ok (.aload_n 0, 1) := by decide +kernel
theorem dX12_inversionsOf_23 : decode cX12_inversionsOf 23 = .ok (.aload_n 1, 1) := by decide +kernel
theorem dX12_inversionsOf_24 : decode cX12_inversionsOf 24 = .ok (.iload 4, 2) := by decide +kernel
theorem dX12_inversionsOf_26 : decode cX12_inversionsOf 26 = .ok (.iaload, 1) := by decide +kernel
theorem dX12_inversionsOf_27 : decode cX12_inversionsOf 27 = .ok (.invokevirtual 218, 3) := by decide +kernel
theorem dX12_inversionsOf_30 : decode cX12_inversionsOf 30 = .ok (.aload_n 0, 1) := by decide +kernel
theorem dX12_inversionsOf_31 : decode cX12_inversionsOf 31 = .ok (.aload_n 1, 1) := by decide +kernel
theorem dX12_inversionsOf_32 : decode cX12_inversionsOf 32 = .ok (.iload_n 3, 1) := by decide +kernel
theorem dX12_inversionsOf_33 : decode cX12_inversionsOf 33 = .ok (.iaload, 1) := by decide +kernel
theorem dX12_inversionsOf_34 : decode cX12_inversionsOf 34 = .ok (.invokevirtual 218, 3) := by decide +kernel
theorem dX12_inversionsOf_37 : decode cX12_inversionsOf 37 = .ok (.if_icmp .le 7, 3) := by decide +kernel
theorem dX12_inversionsOf_40 : decode cX12_inversionsOf 40 = .ok (.iconst 1, 1) := by decide +kernel
theorem dX12_inversionsOf_41 : decode cX12_inversionsOf 41 = .ok (.goto 4, 3) := by decide +kernel
theorem dX12_inversionsOf_44 : decode cX12_inversionsOf 44 = .ok (.iconst 0, 1) := by decide +kernel
theorem dX12_inversionsOf_45 : decode cX12_inversionsOf 45 = .ok (.iadd, 1) := by decide +kernel
theorem dX12_inversionsOf_46 : decode cX12_inversionsOf 46 = .ok (.istore_n 2, 1) := by decide +kernel
theorem dX12_inversionsOf_47 : decode cX12_inversionsOf 47 = .ok (.iinc 4 1, 3) := by decide +kernel
theorem dX12_inversionsOf_50 : decode cX12_inversionsOf 50 = .ok (.goto (-35), 3) := by decide +kernel
theorem dX12_inversionsOf_53 : decode cX12_inversionsOf 53 = .ok (.iinc 3 1, 3) := by decide +kernel
theorem dX12_inversionsOf_56 : decode cX12_inversionsOf 56 = .ok (.goto (-52), 3) := by decide +kernel
theorem dX12_inversionsOf_59 : decode cX12_inversionsOf 59 = .ok (.iload_n 2, 1) := by decide +kernel
theorem dX12_inversionsOf_60 : decode cX12_inversionsOf 60 = .ok (.ireturn, 1) := by decide +kernel
set_option maxRecDepth 20000 in
theorem ggX12_inversions_X12_inversionsOf : GoodIn wsX12_inversions wsX12_inversionsOf := goodIn_r _ [6, 7, 8, 9, 10, 5, 11, 17, 18, 19, 20, 21, 22, 23, 24, 25, 26, 27, 28, 29, 30, 31, 32, 33, 34, 35, 36, 37, 38, 39, 40, 41, 42, 43, 44, 45, 46, 47, 48, 49, 50, 51, 52, 53, 54, 55, 56, 57, 58, 59, 60, 61, 62, 63, 64, 65, 66, 67, 68, 69, 70, 71, 72, 73, 74, 75, 76, 77, 78, 79, 80, 81, 82, 83] (by decide +kernel) (by decide +kernel)
set_option maxRecDepth 20000 in
theorem gX12_inversions_X12_inversionsOf : GoodIn wsX12_inversions (wsV RX12 292 RX12 yX12_inversionsOf wsX12_inversionsOf) := goodIn_app (goodIn_of _ (by decide +kernel)) ggX12_inversions_X12_inversionsOf
set_option maxRecDepth 20000 in
theorem ggX12_inversions_X12_told : GoodIn wsX12_inversions wsX12_told := goodIn_r _ [15, 16, 17, 18, 19, 20, 21, 22, 23, 24, 25, 26, 27, 28, 29, 30, 31, 32, 33, 34, 35, 36, 37, 38, 39, 40, 41, 42, 43, 44, 45, 46, 47, 48, 49, 50, 51, 52, 53, 54, 55, 56, 57, 58, 59, 60, 61, 62, 63, 64, 65, 66, 67, 68, 69, 70, 71, 72, 73, 74, 75, 76, 77, 78, 79, 80, 81, 82, 83] (by decide +kernel) (by decide +kernel)
set_option maxRecDepth 20000 in
theorem gX12_inversions_X12_told : GoodIn wsX12_inversions (wsV RX12 215 RX12 yX12_told wsX12_told) := goodIn_app (goodIn_of _ (by decide +kernel)) ggX12_inversions_X12_told
theorem dX12_inversions_0 : decode cX12_inversions 0 = .ok (.aload_n 0, 1) := by decide +kernel
theorem dX12_inversions_1 : decode cX12_inversions 1 = .ok (.aload_n 0, 1) := by decide +kernel
theorem dX12_inversions_2 : decode cX12_inversions 2 = .ok (.aload_n 0, 1) := by decide +kernel
theorem dX12_inversions_3 : decode cX12_inversions 3 = .ok (.getfield 33, 3) := by decide +kernel
theorem dX12_inversions_6 : decode cX12_inversions 6 = .ok (.invokevirtual 292, 3) := by decide +kernel
theorem dX12_inversions_9 : decode cX12_inversions 9 = .ok (.invokevirtual 215, 3) := by decide +kernel
theorem dX12_inversions_12 : decode cX12_inversions 12 = .ok (.ireturn, 1) := by decide +kernel
theorem dX12_isAnyFree_0 : decode cX12_isAnyFree 0 = .ok (.iconst 0, 1) := by decide +kernel
theorem dX12_isAnyFree_1 : decode cX12_isAnyFree 1 = .ok (.istore_n 1, 1) := by decide +kernel
theorem dX12_isAnyFree_2 : decode cX12_isAnyFree 2 = .ok (.iconst 0, 1) := by decide +kernel
theorem dX12_isAnyFree_3 : decode cX12_isAnyFree 3 = .ok (.istore_n 2, 1) := by decide +kernel
theorem dX12_isAnyFree_4 : decode cX12_isAnyFree 4 = .ok (.iload_n 2, 1) := by decide +kernel
theorem dX12_isAnyFree_5 : decode cX12_isAnyFree 5 = .ok (.aload_n 0, 1) := by decide +kernel
theorem dX12_isAnyFree_6 : decode cX12_isAnyFree 6 = .ok (.getfield 170, 3) := by decide +kernel
theorem dX12_isAnyFree_9 : decode cX12_isAnyFree 9 = .ok (.if_icmp .ge 28, 3) := by decide +kernel
theorem dX12_isAnyFree_12 : decode cX12_isAnyFree 12 = .ok (.iload_n 1, 1) := by decide +kernel
theorem dX12_isAnyFree_13 : decode cX12_isAnyFree 13 = .ok (.ifCond .ne 12, 3) := by decide +kernel
theorem dX12_isAnyFree_16 : decode cX12_isAnyFree 16 = .ok (.aload_n 0, 1) := by decide +kernel
theorem dX12_isAnyFree_17 : decode cX12_isAnyFree 17 = .ok (.getfield 42, 3) := by decide +kernel
theorem dX12_isAnyFree_20 : decode cX12_isAnyFree 20 = .ok (.iload_n 2, 1) := by decide +kernel
theorem dX12_isAnyFree_21 : decode cX12_isAnyFree 21 = .ok (.baload, 1) := by decide +kernel
theorem dX12_isAnyFree_22 : decode cX12_isAnyFree 22 = .ok (.ifCond .eq 7, 3) := by decide +kernel
theorem dX12_isAnyFree_25 : decode cX12_isAnyFree 25 = .ok (.iconst 1, 1) := by decide +kernel
theorem dX12_isAnyFree_26 : decode cX12_isAnyFree 26 = .ok (.goto 4, 3) := by decide +kernel
theorem dX12_isAnyFree_29 : decode cX12_isAnyFree 29 = .ok (.iconst 0, 1) := by decide +kernel
theorem dX12_isAnyFree_30 : decode cX12_isAnyFree 30 = .ok (.istore_n 1, 1) := by decide +kernel
theorem dX12_isAnyFree_31 : decode cX12_isAnyFree 31 = .ok (.iinc 2 1, 3) := by decide +kernel
theorem dX12_isAnyFree_34 : decode cX12_isAnyFree 34 = .ok (.goto (-30), 3) := by decide +kernel
theorem dX12_isAnyFree_37 : decode cX12_isAnyFree 37 = .ok (.iload_n 1, 1) := by decide +kernel
theorem dX12_isAnyFree_38 : decode cX12_isAnyFree 38 = .ok (.ireturn, 1) := by decide +kernel
theorem dX12_laysGoal_0 : decode cX12_laysGoal 0 = .ok (.iconst 0, 1) := by decide +kernel
theorem dX12_laysGoal_1 : decode cX12_laysGoal 1 = .ok (.istore_n 1, 1) := by decide +kernel
theorem dX12_laysGoal_2 : decode cX12_laysGoal 2 = .ok (.iload_n 1, 1) := by decide +kernel
theorem dX12_laysGoal_3 : decode cX12_laysGoal 3 = .ok (.aload_n 0, 1) := by decide +kernel
theorem dX12_laysGoal_4 : decode cX12_laysGoal 4 = .ok (.getfield 170, 3) := by decide +kernel
theorem dX12_laysGoal_7 : decode cX12_laysGoal 7 = .ok (.if_icmp .ge 21, 3) := by decide +kernel
theorem dX12_laysGoal_10 : decode cX12_laysGoal 10 = .ok (.aload_n 0, 1) := by decide +kernel
theorem dX12_laysGoal_11 : decode cX12_laysGoal 11 = .ok (.getfield 99, 3) := by decide +kernel
theorem dX12_laysGoal_14 : decode cX12_laysGoal 14 = .ok (.aload_n 0, 1) := by decide +kernel
theorem dX12_laysGoal_15 : decode cX12_laysGoal 15 = .ok (.getfield 36, 3) := by decide +kernel
theorem dX12_laysGoal_18 : decode cX12_laysGoal 18 = .ok (.iload_n 1, 1) := by decide +kernel
theorem dX12_laysGoal_19 : decode cX12_laysGoal 19 = .ok (.iaload, 1) := by decide +kernel
theorem dX12_laysGoal_20 : decode cX12_laysGoal 20 = .ok (.iload_n 1, 1) := by decide +kernel
theorem dX12_laysGoal_21 : decode cX12_laysGoal 21 = .ok (.iastore, 1) := by decide +kernel
theorem dX12_laysGoal_22 : decode cX12_laysGoal 22 = .ok (.iinc 1 1, 3) := by decide +kernel
theorem dX12_laysGoal_25 : decode cX12_laysGoal 25 = .ok (.goto (-23), 3) := by decide +kernel
theorem dX12_laysGoal_28 : decode cX12_laysGoal 28 = .ok (.return_, 1) := by decide +kernel
set_option maxRecDepth 20000 in
theorem ggX12_reaches_X12_isAnyFree : GoodIn wsX12_reaches wsX12_isAnyFree := goodIn_r _ [11, 1, 12, 39, 40, 41, 42, 43, 44, 45, 46, 47, 48, 49, 50, 51, 52, 53, 54, 55, 56, 57, 58, 59, 60, 61, 62, 63, 64, 65, 66, 67, 68, 69, 70, 71, 72, 73, 74, 75, 76, 77, 78, 79, 80, 81, 82, 83, 84, 85, 86, 87, 88, 89, 90, 91, 92, 93, 94, 95, 96, 97, 98, 99, 100, 101, 102, 103, 104, 105] (by decide +kernel) (by decide +kernel)
set_option maxRecDepth 20000 in
theorem gX12_reaches_X12_isAnyFree : GoodIn wsX12_reaches (wsV RX12 295 RX12 yX12_isAnyFree wsX12_isAnyFree) := goodIn_app (goodIn_of _ (by decide +kernel)) ggX12_reaches_X12_isAnyFree
set_option maxRecDepth 20000 in
theorem ggX12_reaches_X12_denies : GoodIn wsX12_reaches wsX12_denies := goodIn_r _ [16, 17, 39, 40, 41, 42, 43, 44, 45, 46, 47, 48, 49, 50, 51, 52, 53, 54, 55, 56, 57, 58, 59, 60, 61, 62, 63, 64, 65, 66, 67, 68, 69, 70, 71, 72, 73, 74, 75, 76, 77, 78, 79, 80, 81, 82, 83, 84, 85, 86, 87, 88, 89, 90, 91, 92, 93, 94, 95, 96, 97, 98, 99, 100, 101, 102, 103, 104, 105] (by decide +kernel) (by decide +kernel)
set_option maxRecDepth 20000 in
theorem gX12_reaches_X12_denies : GoodIn wsX12_reaches (wsV RX12 278 RX12 yX12_denies wsX12_denies) := goodIn_app (goodIn_of _ (by decide +kernel)) ggX12_reaches_X12_denies
set_option maxRecDepth 20000 in
theorem ggX12_reaches_X12_laysGoal : GoodIn wsX12_reaches wsX12_laysGoal := goodIn_r _ [21, 1, 6, 22, 39, 40, 41, 42, 43, 44, 45, 46, 47, 48, 49, 50, 51, 52, 53, 54, 55, 56, 57, 58, 59, 60, 61, 62, 63, 64, 65, 66, 67, 68, 69, 70, 71, 72, 73, 74, 75, 76, 77, 78, 79, 80, 81, 82, 83, 84, 85, 86, 87, 88, 89, 90, 91, 92, 93, 94, 95, 96, 97, 98, 99, 100, 101, 102, 103, 104, 105] (by decide +kernel) (by decide +kernel)
set_option maxRecDepth 20000 in
theorem gX12_reaches_X12_laysGoal : GoodIn wsX12_reaches (wsV RX12 299 RX12 yX12_laysGoal wsX12_laysGoal) := goodIn_app (goodIn_of _ (by decide +kernel)) ggX12_reaches_X12_laysGoal
set_option maxRecDepth 20000 in
theorem ggX12_reaches_X12_gapIn : GoodIn wsX12_reaches wsX12_gapIn := goodIn_r _ [26] (by decide +kernel) (by decide +kernel)
set_option maxRecDepth 20000 in
theorem gX12_reaches_X12_gapIn : GoodIn wsX12_reaches (wsV RX12 242 RX12 yX12_gapIn wsX12_gapIn) := goodIn_app (goodIn_of _ (by decide +kernel)) ggX12_reaches_X12_gapIn
set_option maxRecDepth 20000 in
theorem ggX12_reaches_X12_inversionsOf : GoodIn wsX12_reaches wsX12_inversionsOf := goodIn_r _ [30, 1, 31, 32, 33, 10, 34, 39, 40, 41, 42, 43, 44, 45, 46, 47, 48, 49, 50, 51, 52, 53, 54, 55, 56, 57, 58, 59, 60, 61, 62, 63, 64, 65, 66, 67, 68, 69, 70, 71, 72, 73, 74, 75, 76, 77, 78, 79, 80, 81, 82, 83, 84, 85, 86, 87, 88, 89, 90, 91, 92, 93, 94, 95, 96, 97, 98, 99, 100, 101, 102, 103, 104, 105] (by decide +kernel) (by decide +kernel)
set_option maxRecDepth 20000 in
theorem gX12_reaches_X12_inversionsOf : GoodIn wsX12_reaches (wsV RX12 292 RX12 yX12_inversionsOf wsX12_inversionsOf) := goodIn_app (goodIn_of _ (by decide +kernel)) ggX12_reaches_X12_inversionsOf
set_option maxRecDepth 20000 in
theorem ggX12_reaches_X12_says : GoodIn wsX12_reaches wsX12_says := goodIn_r _ [38, 17, 39, 40, 41, 42, 43, 44, 45, 46, 47, 48, 49, 50, 51, 52, 53, 54, 55, 56, 57, 58, 59, 60, 61, 62, 63, 64, 65, 66, 67, 68, 69, 70, 71, 72, 73, 74, 75, 76, 77, 78, 79, 80, 81, 82, 83, 84, 85, 86, 87, 88, 89, 90, 91, 92, 93, 94, 95, 96, 97, 98, 99, 100, 101, 102, 103, 104, 105] (by decide +kernel) (by decide +kernel)
set_option maxRecDepth 20000 in
theorem gX12_reaches_X12_says : GoodIn wsX12_reaches (wsV RX12 281 RX12 yX12_says wsX12_says) := goodIn_app (goodIn_of _ (by decide +kernel)) ggX12_reaches_X12_says
theorem dX12_reaches_0 : decode cX12_reaches 0 = .ok (.aload_n 0, 1) := by decide +kernel
theorem dX12_reaches_1 : decode cX12_reaches 1 = .ok (.getfield 170, 3) := by decide +kernel
theorem dX12_reaches_4 : decode cX12_reaches 4 = .ok (.aload_n 0, 1) := by decide +kernel
theorem dX12_reaches_5 : decode cX12_reaches 5 = .ok (.getfield 26, 3) := by decide +kernel
theorem dX12_reaches_8 : decode cX12_reaches 8 = .ok (.aload_n 0, 1) := by decide +kernel
theorem dX12_reaches_9 : decode cX12_reaches 9 = .ok (.getfield 30, 3) := by decide +kernel
theorem dX12_reaches_12 : decode cX12_reaches 12 = .ok (.imul, 1) := by decide +kernel
theorem dX12_reaches_13 : decode cX12_reaches 13 = .ok (.if_icmp .lt 10, 3) := by decide +kernel
theorem dX12_reaches_16 : decode cX12_reaches 16 = .ok (.aload_n 0, 1) := by decide +kernel
theorem dX12_reaches_17 : decode cX12_reaches 17 = .ok (.invokevirtual 295, 3) := by decide +kernel
theorem dX12_reaches_20 : decode cX12_reaches 20 = .ok (.ifCond .eq 9, 3) := by decide +kernel
theorem dX12_reaches_23 : decode cX12_reaches 23 = .ok (.aload_n 0, 1) := by decide +kernel
theorem dX12_reaches_24 : decode cX12_reaches 24 = .ok (.iconst 1, 1) := by decide +kernel
theorem dX12_reaches_25 : decode cX12_reaches 25 = .ok (.invokevirtual 278, 3) := by decide +kernel
theorem dX12_reaches_28 : decode cX12_reaches 28 = .ok (.ireturn, 1) := by decide +kernel
theorem dX12_reaches_29 : decode cX12_reaches 29 = .ok (.aload_n 0, 1) := by decide +kernel
theorem dX12_reaches_30 : decode cX12_reaches 30 = .ok (.invokevirtual 299, 3) := by decide +kernel
theorem dX12_reaches_33 : decode cX12_reaches 33 = .ok (.aload_n 0, 1) := by decide +kernel
theorem dX12_reaches_34 : decode cX12_reaches 34 = .ok (.getfield 7, 3) := by decide +kernel
theorem dX12_reaches_37 : decode cX12_reaches 37 = .ok (.aload_n 0, 1) := by decide +kernel
theorem dX12_reaches_38 : decode cX12_reaches 38 = .ok (.aload_n 0, 1) := by decide +kernel
theorem dX12_reaches_39 : decode cX12_reaches 39 = .ok (.getfield 33, 3) := by decide +kernel
theorem dX12_reaches_42 : decode cX12_reaches 42 = .ok (.invokevirtual 242, 3) := by decide +kernel
theorem dX12_reaches_45 : decode cX12_reaches 45 = .ok (.iaload, 1) := by decide +kernel
theorem dX12_reaches_46 : decode cX12_reaches 46 = .ok (.istore_n 1, 1) := by decide +kernel
theorem dX12_reaches_47 : decode cX12_reaches 47 = .ok (.aload_n 0, 1) := by decide +kernel
theorem dX12_reaches_48 : decode cX12_reaches 48 = .ok (.getfield 7, 3) := by decide +kernel
theorem dX12_reaches_51 : decode cX12_reaches 51 = .ok (.aload_n 0, 1) := by decide +kernel
theorem dX12_reaches_52 : decode cX12_reaches 52 = .ok (.aload_n 0, 1) := by decide +kernel
theorem dX12_reaches_53 : decode cX12_reaches 53 = .ok (.getfield 99, 3) := by decide +kernel
theorem dX12_reaches_56 : decode cX12_reaches 56 = .ok (.invokevirtual 242, 3) := by decide +kernel
theorem dX12_reaches_59 : decode cX12_reaches 59 = .ok (.iaload, 1) := by decide +kernel
theorem dX12_reaches_60 : decode cX12_reaches 60 = .ok (.istore_n 2, 1) := by decide +kernel
theorem dX12_reaches_61 : decode cX12_reaches 61 = .ok (.iload_n 1, 1) := by decide +kernel
theorem dX12_reaches_62 : decode cX12_reaches 62 = .ok (.aload_n 0, 1) := by decide +kernel
theorem dX12_reaches_63 : decode cX12_reaches 63 = .ok (.getfield 30, 3) := by decide +kernel
theorem dX12_reaches_66 : decode cX12_reaches 66 = .ok (.idiv, 1) := by decide +kernel
theorem dX12_reaches_67 : decode cX12_reaches 67 = .ok (.iload_n 2, 1) := by decide +kernel
theorem dX12_reaches_68 : decode cX12_reaches 68 = .ok (.aload_n 0, 1) := by decide +kernel
theorem dX12_reaches_69 : decode cX12_reaches 69 = .ok (.getfield 30, 3) := by decide +kernel
theorem dX12_reaches_72 : decode cX12_reaches 72 = .ok (.idiv, 1) := by decide +kernel
theorem dX12_reaches_73 : decode cX12_reaches 73 = .ok (.iadd, 1) := by decide +kernel
theorem dX12_reaches_74 : decode cX12_reaches 74 = .ok (.iload_n 1, 1) := by decide +kernel
theorem dX12_reaches_75 : decode cX12_reaches 75 = .ok (.aload_n 0, 1) := by decide +kernel
theorem dX12_reaches_76 : decode cX12_reaches 76 = .ok (.getfield 30, 3) := by decide +kernel
theorem dX12_reaches_79 : decode cX12_reaches 79 = .ok (.irem, 1) := by decide +kernel
theorem dX12_reaches_80 : decode cX12_reaches 80 = .ok (.iadd, 1) := by decide +kernel
theorem dX12_reaches_81 : decode cX12_reaches 81 = .ok (.iload_n 2, 1) := by decide +kernel
theorem dX12_reaches_82 : decode cX12_reaches 82 = .ok (.aload_n 0, 1) := by decide +kernel
theorem dX12_reaches_83 : decode cX12_reaches 83 = .ok (.getfield 30, 3) := by decide +kernel
theorem dX12_reaches_86 : decode cX12_reaches 86 = .ok (.irem, 1) := by decide +kernel
theorem dX12_reaches_87 : decode cX12_reaches 87 = .ok (.iadd, 1) := by decide +kernel
theorem dX12_reaches_88 : decode cX12_reaches 88 = .ok (.istore_n 3, 1) := by decide +kernel
theorem dX12_reaches_89 : decode cX12_reaches 89 = .ok (.aload_n 0, 1) := by decide +kernel
theorem dX12_reaches_90 : decode cX12_reaches 90 = .ok (.aload_n 0, 1) := by decide +kernel
theorem dX12_reaches_91 : decode cX12_reaches 91 = .ok (.aload_n 0, 1) := by decide +kernel
theorem dX12_reaches_92 : decode cX12_reaches 92 = .ok (.getfield 33, 3) := by decide +kernel
theorem dX12_reaches_95 : decode cX12_reaches 95 = .ok (.invokevirtual 292, 3) := by decide +kernel
theorem dX12_reaches_98 : decode cX12_reaches 98 = .ok (.aload_n 0, 1) := by decide +kernel
theorem dX12_reaches_99 : decode cX12_reaches 99 = .ok (.aload_n 0, 1) := by decide +kernel
theorem dX12_reaches_100 : decode cX12_reaches 100 = .ok (.getfield 99, 3) := by decide +kernel
theorem dX12_reaches_103 : decode cX12_reaches 103 = .ok (.invokevirtual 292, 3) := by decide +kernel
theorem dX12_reaches_106 : decode cX12_reaches 106 = .ok (.iadd, 1) := by decide +kernel
theorem dX12_reaches_107 : decode cX12_reaches 107 = .ok (.iload_n 3, 1) := by decide +kernel
theorem dX12_reaches_108 : decode cX12_reaches 108 = .ok (.iadd, 1) := by decide +kernel
theorem dX12_reaches_109 : decode cX12_reaches 109 = .ok (.iconst 2, 1) := by decide +kernel
theorem dX12_reaches_110 : decode cX12_reaches 110 = .ok (.irem, 1) := by decide +kernel
theorem dX12_reaches_111 : decode cX12_reaches 111 = .ok (.ifCond .ne 7, 3) := by decide +kernel
theorem dX12_reaches_114 : decode cX12_reaches 114 = .ok (.iconst 1, 1) := by decide +kernel
theorem dX12_reaches_115 : decode cX12_reaches 115 = .ok (.goto 4, 3) := by decide +kernel
theorem dX12_reaches_118 : decode cX12_reaches 118 = .ok (.iconst 0, 1) := by decide +kernel
theorem dX12_reaches_119 : decode cX12_reaches 119 = .ok (.invokevirtual 281, 3) := by decide +kernel
theorem dX12_reaches_122 : decode cX12_reaches 122 = .ok (.ireturn, 1) := by decide +kernel
set_option maxRecDepth 20000 in
theorem ggX12_estimate_X12_in : GoodIn wsX12_estimate wsX12_in := goodIn_r _ [5] (by decide +kernel) (by decide +kernel)
set_option maxRecDepth 20000 in
theorem gX12_estimate_X12_in : GoodIn wsX12_estimate (va_wsS RX12 200 yX12_in wsX12_in) := goodIn_app (goodIn_of _ (by decide +kernel)) ggX12_estimate_X12_in
set_option maxRecDepth 20000 in
theorem ggX12_estimate_X12_estimates : GoodIn wsX12_estimate wsX12_estimates := goodIn_r _ [9, 10, 11, 12, 4, 13, 14, 15, 16, 17, 18, 19, 20, 21, 22, 23, 24, 25, 26, 27, 28, 29, 30, 31, 32, 33, 34, 35, 36, 37, 38, 39, 40, 41, 42, 43, 44, 45, 46, 47, 48, 49, 50, 60, 61, 62, 63, 64, 65, 66, 67, 68, 69, 70, 71, 72, 73, 74, 75, 76, 77, 78, 79, 80, 81, 82, 83, 84, 85, 86, 87, 88, 89, 90, 91, 92, 93, 94, 95, 96, 97, 98, 99, 100, 101, 102, 103, 104, 105, 106, 107, 108, 109, 110, 111, 112, 113, 114, 115, 116, 117, 118, 119, 120, 121, 122, 123, 124, 125, 126] (by decide +kernel) (by decide +kernel)
set_option maxRecDepth 20000 in
theorem gX12_estimate_X12_estimates : GoodIn wsX12_estimate (wsV RX12 302 RX12 yX12_estimates wsX12_estimates) := goodIn_app (goodIn_of _ (by decide +kernel)) ggX12_estimate_X12_estimates
set_option maxRecDepth 20000 in
theorem ggX12_estimate_X12_told : GoodIn wsX12_estimate wsX12_told := goodIn_r _ [54, 55, 60, 61, 62, 63, 64, 65, 66, 67, 68, 69, 70, 71, 72, 73, 74, 75, 76, 77, 78, 79, 80, 81, 82, 83, 84, 85, 86, 87, 88, 89, 90, 91, 92, 93, 94, 95, 96, 97, 98, 99, 100, 101, 102, 103, 104, 105, 106, 107, 108, 109, 110, 111, 112, 113, 114, 115, 116, 117, 118, 119, 120, 121, 122, 123, 124, 125, 126] (by decide +kernel) (by decide +kernel)
set_option maxRecDepth 20000 in
theorem gX12_estimate_X12_told : GoodIn wsX12_estimate (wsV RX12 215 RX12 yX12_told wsX12_told) := goodIn_app (goodIn_of _ (by decide +kernel)) ggX12_estimate_X12_told
set_option maxRecDepth 20000 in
theorem ggX12_estimate_X12_refuse : GoodIn wsX12_estimate wsX12_refuse := goodIn_r _ [59, 55, 60, 61, 62, 63, 64, 65, 66, 67, 68, 69, 70, 71, 72, 73, 74, 75, 76, 77, 78, 79, 80, 81, 82, 83, 84, 85, 86, 87, 88, 89, 90, 91, 92, 93, 94, 95, 96, 97, 98, 99, 100, 101, 102, 103, 104, 105, 106, 107, 108, 109, 110, 111, 112, 113, 114, 115, 116, 117, 118, 119, 120, 121, 122, 123, 124, 125, 126] (by decide +kernel) (by decide +kernel)
set_option maxRecDepth 20000 in
theorem gX12_estimate_X12_refuse : GoodIn wsX12_estimate (wsV RX12 204 RX12 yX12_refuse wsX12_refuse) := goodIn_app (goodIn_of _ (by decide +kernel)) ggX12_estimate_X12_refuse
theorem dX12_estimate_0 : decode cX12_estimate 0 = .ok (.iload_n 1, 1) := by decide +kernel
theorem dX12_estimate_1 : decode cX12_estimate 1 = .ok (.iconst 0, 1) := by decide +kernel
theorem dX12_estimate_2 : decode cX12_estimate 2 = .ok (.iconst 4, 1) := by decide +kernel
theorem dX12_estimate_3 : decode cX12_estimate 3 = .ok (.invokestatic 200, 3) := by decide +kernel
theorem dX12_estimate_6 : decode cX12_estimate 6 = .ok (.ifCond .eq 19, 3) := by decide +kernel
theorem dX12_estimate_9 : decode cX12_estimate 9 = .ok (.aload_n 0, 1) := by decide +kernel
theorem dX12_estimate_10 : decode cX12_estimate 10 = .ok (.aload_n 0, 1) := by decide +kernel
theorem dX12_estimate_11 : decode cX12_estimate 11 = .ok (.aload_n 0, 1) := by decide +kernel
theorem dX12_estimate_12 : decode cX12_estimate 12 = .ok (.getfield 33, 3) := by decide +kernel
theorem dX12_estimate_15 : decode cX12_estimate 15 = .ok (.iload_n 1, 1) := by decide +kernel
theorem dX12_estimate_16 : decode cX12_estimate 16 = .ok (.invokevirtual 302, 3) := by decide +kernel
theorem dX12_estimate_19 : decode cX12_estimate 19 = .ok (.invokevirtual 215, 3) := by decide +kernel
theorem dX12_estimate_22 : decode cX12_estimate 22 = .ok (.goto 8, 3) := by decide +kernel
theorem dX12_estimate_25 : decode cX12_estimate 25 = .ok (.aload_n 0, 1) := by decide +kernel
theorem dX12_estimate_26 : decode cX12_estimate 26 = .ok (.iconst 1, 1) := by decide +kernel
theorem dX12_estimate_27 : decode cX12_estimate 27 = .ok (.invokevirtual 204, 3) := by decide +kernel
theorem dX12_estimate_30 : decode cX12_estimate 30 = .ok (.ireturn, 1) := by decide +kernel
theorem dX12_seek_0 : decode cX12_seek 0 = .ok (.lload_n 1, 1) := by decide +kernel
theorem dX12_seek_1 : decode cX12_seek 1 = .ok (.ldc2_w 305, 3) := by decide +kernel
theorem dX12_seek_4 : decode cX12_seek 4 = .ok (.lrem, 1) := by decide +kernel
theorem dX12_seek_5 : decode cX12_seek 5 = .ok (.l2i, 1) := by decide +kernel
theorem dX12_seek_6 : decode cX12_seek 6 = .ok (.istore_n 3, 1) := by decide +kernel
theorem dX12_seek_7 : decode cX12_seek 7 = .ok (.aload_n 0, 1) := by decide +kernel
theorem dX12_seek_8 : decode cX12_seek 8 = .ok (.getfield 118, 3) := by decide +kernel
theorem dX12_seek_11 : decode cX12_seek 11 = .ok (.iload_n 3, 1) := by decide +kernel
theorem dX12_seek_12 : decode cX12_seek 12 = .ok (.iaload, 1) := by decide +kernel
theorem dX12_seek_13 : decode cX12_seek 13 = .ok (.ifCond .eq 39, 3) := by decide +kernel
theorem dX12_seek_16 : decode cX12_seek 16 = .ok (.aload_n 0, 1) := by decide +kernel
theorem dX12_seek_17 : decode cX12_seek 17 = .ok (.getfield 121, 3) := by decide +kernel
theorem dX12_seek_20 : decode cX12_seek 20 = .ok (.aload_n 0, 1) := by decide +kernel
theorem dX12_seek_21 : decode cX12_seek 21 = .ok (.getfield 118, 3) := by decide +kernel
theorem dX12_seek_24 : decode cX12_seek 24 = .ok (.iload_n 3, 1) := by decide +kernel
theorem dX12_seek_25 : decode cX12_seek 25 = .ok (.iaload, 1) := by decide +kernel
theorem dX12_seek_26 : decode cX12_seek 26 = .ok (.iconst 1, 1) := by decide +kernel
theorem dX12_seek_27 : decode cX12_seek 27 = .ok (.isub, 1) := by decide +kernel
theorem dX12_seek_28 : decode cX12_seek 28 = .ok (.laload, 1) := by decide +kernel
theorem dX12_seek_29 : decode cX12_seek 29 = .ok (.lload_n 1, 1) := by decide +kernel
theorem dX12_seek_30 : decode cX12_seek 30 = .ok (.lcmp, 1) := by decide +kernel
theorem dX12_seek_31 : decode cX12_seek 31 = .ok (.ifCond .eq 21, 3) := by decide +kernel
theorem dX12_seek_34 : decode cX12_seek 34 = .ok (.iload_n 3, 1) := by decide +kernel
theorem dX12_seek_35 : decode cX12_seek 35 = .ok (.sipush 16383, 3) := by decide +kernel
theorem dX12_seek_38 : decode cX12_seek 38 = .ok (.if_icmp .ne 7, 3) := by decide +kernel
theorem dX12_seek_41 : decode cX12_seek 41 = .ok (.iconst 0, 1) := by decide +kernel
theorem dX12_seek_42 : decode cX12_seek 42 = .ok (.goto 6, 3) := by decide +kernel
theorem dX12_seek_45 : decode cX12_seek 45 = .ok (.iload_n 3, 1) := by decide +kernel
theorem dX12_seek_46 : decode cX12_seek 46 = .ok (.iconst 1, 1) := by decide +kernel
theorem dX12_seek_47 : decode cX12_seek 47 = .ok (.iadd, 1) := by decide +kernel
theorem dX12_seek_48 : decode cX12_seek 48 = .ok (.istore_n 3, 1) := by decide +kernel
theorem dX12_seek_49 : decode cX12_seek 49 = .ok (.goto (-42), 3) := by decide +kernel
theorem dX12_seek_52 : decode cX12_seek 52 = .ok (.iload_n 3, 1) := by decide +kernel
theorem dX12_seek_53 : decode cX12_seek 53 = .ok (.ireturn, 1) := by decide +kernel
theorem dX12_clearsStates_0 : decode cX12_clearsStates 0 = .ok (.aload_n 0, 1) := by decide +kernel
theorem dX12_clearsStates_1 : decode cX12_clearsStates 1 = .ok (.iconst 0, 1) := by decide +kernel
theorem dX12_clearsStates_2 : decode cX12_clearsStates 2 = .ok (.putfield 307, 3) := by decide +kernel
theorem dX12_clearsStates_5 : decode cX12_clearsStates 5 = .ok (.iconst 0, 1) := by decide +kernel
theorem dX12_clearsStates_6 : decode cX12_clearsStates 6 = .ok (.istore_n 1, 1) := by decide +kernel
theorem dX12_clearsStates_7 : decode cX12_clearsStates 7 = .ok (.iload_n 1, 1) := by decide +kernel
theorem dX12_clearsStates_8 : decode cX12_clearsStates 8 = .ok (.sipush 16384, 3) := by decide +kernel
theorem dX12_clearsStates_11 : decode cX12_clearsStates 11 = .ok (.if_icmp .ge 16, 3) := by decide +kernel
theorem dX12_clearsStates_14 : decode cX12_clearsStates 14 = .ok (.aload_n 0, 1) := by decide +kernel
theorem dX12_clearsStates_15 : decode cX12_clearsStates 15 = .ok (.getfield 118, 3) := by decide +kernel
theorem dX12_clearsStates_18 : decode cX12_clearsStates 18 = .ok (.iload_n 1, 1) := by decide +kernel
theorem dX12_clearsStates_19 : decode cX12_clearsStates 19 = .ok (.iconst 0, 1) := by decide +kernel
theorem dX12_clearsStates_20 : decode cX12_clearsStates 20 = .ok (.iastore, 1) := by decide +kernel
theorem dX12_clearsStates_21 : decode cX12_clearsStates 21 = .ok (.iinc 1 1, 3) := by decide +kernel
theorem dX12_clearsStates_24 : decode cX12_clearsStates 24 = .ok (.goto (-17), 3) := by decide +kernel
theorem dX12_clearsStates_27 : decode cX12_clearsStates 27 = .ok (.return_, 1) := by decide +kernel
set_option maxRecDepth 20000 in
theorem ggX12_finds_X12_rankOf : GoodIn wsX12_finds wsX12_rankOf := goodIn_r _ [17, 5, 18, 19, 20, 16, 21, 70, 71, 72, 73, 74, 75, 76, 77, 78, 79, 80, 81, 82, 83, 84, 85, 86, 87, 88, 89, 90, 91, 92, 93, 94, 95, 96, 97, 98, 99, 100, 101, 102, 103, 104, 105, 106, 107, 108, 109, 110, 111, 112, 113, 114, 115, 116, 117, 118, 119, 120, 121, 122, 123, 124, 125, 126, 127, 128, 129, 130, 131, 132, 133, 134, 135, 136] (by decide +kernel) (by decide +kernel)
set_option maxRecDepth 20000 in
theorem gX12_finds_X12_rankOf : GoodIn wsX12_finds (wsV RX12 274 RX12 yX12_rankOf wsX12_rankOf) := goodIn_app (goodIn_of _ (by decide +kernel)) ggX12_finds_X12_rankOf
set_option maxRecDepth 20000 in
theorem ggX12_finds_X12_seek : GoodIn wsX12_finds wsX12_seek := goodIn_r _ [25, 26, 2, 3, 70, 71, 72, 73, 74, 75, 76, 77, 78, 79, 80, 81, 82, 83, 84, 85, 86, 87, 88, 89, 90, 91, 92, 93, 94, 95, 96, 97, 98, 99, 100, 101, 102, 103, 104, 105, 106, 107, 108, 109, 110, 111, 112, 113, 114, 115, 116, 117, 118, 119, 120, 121, 122, 123, 124, 125, 126, 127, 128, 129, 130, 131, 132, 133, 134, 135, 136] (by decide +kernel) (by decide +kernel)
set_option maxRecDepth 20000 in
theorem gX12_finds_X12_seek : GoodIn wsX12_finds (wsV RX12 310 RX12 yX12_seek wsX12_seek) := goodIn_app (goodIn_of _ (by decide +kernel)) ggX12_finds_X12_seek
set_option maxRecDepth 20000 in
theorem ggX12_finds_X12_estimates : GoodIn wsX12_finds wsX12_estimates := goodIn_r _ [30, 31, 32, 33, 16, 34, 5, 35, 36, 37, 38, 39, 40, 41, 42, 43, 44, 45, 46, 47, 48, 49, 50, 51, 52, 53, 54, 55, 56, 57, 8, 58, 59, 60, 61, 62, 63, 64, 65, 66, 67, 68, 69, 70, 71, 72, 73, 74, 75, 76, 77, 78, 79, 80, 81, 82, 83, 84, 85, 86, 87, 88, 89, 90, 91, 92, 93, 94, 95, 96, 97, 98, 99, 100, 101, 102, 103, 104, 105, 106, 107, 108, 109, 110, 111, 112, 113, 114, 115, 116, 117, 118, 119, 120, 121, 122, 123, 124, 125, 126, 127, 128, 129, 130, 131, 132, 133, 134, 135, 136] (by decide +kernel) (by decide +kernel)
set_option maxRecDepth 20000 in
theorem gX12_finds_X12_estimates : GoodIn wsX12_finds (wsV RX12 302 RX12 yX12_estimates wsX12_estimates) := goodIn_app (goodIn_of _ (by decide +kernel)) ggX12_finds_X12_estimates
theorem dX12_finds_0 : decode cX12_finds 0 = .ok (.aload_n 0, 1) := by decide +kernel
theorem dX12_finds_1 : decode cX12_finds 1 = .ok (.aload_n 0, 1) := by decide +kernel
theorem dX12_finds_2 : decode cX12_finds 2 = .ok (.getfield 128, 3) := by decide +kernel
theorem dX12_finds_5 : decode cX12_finds 5 = .ok (.invokevirtual 274, 3) := by decide +kernel
theorem dX12_finds_8 : decode cX12_finds 8 = .ok (.lstore 5, 2) := by decide +kernel
theorem dX12_finds_10 : decode cX12_finds 10 = .ok (.aload_n 0, 1) := by decide +kernel
theorem dX12_finds_11 : decode cX12_finds 11 = .ok (.lload 5, 2) := by decide +kernel
theorem dX12_finds_13 : decode cX12_finds 13 = .ok (.invokevirtual 310, 3) := by decide +kernel
theorem dX12_finds_16 : decode cX12_finds 16 = .ok (.istore 7, 2) := by decide +kernel
theorem dX12_finds_18 : decode cX12_finds 18 = .ok (.aload_n 0, 1) := by decide +kernel
theorem dX12_finds_19 : decode cX12_finds 19 = .ok (.getfield 118, 3) := by decide +kernel
theorem dX12_finds_22 : decode cX12_finds 22 = .ok (.iload 7, 2) := by decide +kernel
theorem dX12_finds_24 : decode cX12_finds 24 = .ok (.iaload, 1) := by decide +kernel
theorem dX12_finds_25 : decode cX12_finds 25 = .ok (.ifCond .ne 115, 3) := by decide +kernel
theorem dX12_finds_28 : decode cX12_finds 28 = .ok (.aload_n 0, 1) := by decide +kernel
theorem dX12_finds_29 : decode cX12_finds 29 = .ok (.getfield 121, 3) := by decide +kernel
theorem dX12_finds_32 : decode cX12_finds 32 = .ok (.aload_n 0, 1) := by decide +kernel
theorem dX12_finds_33 : decode cX12_finds 33 = .ok (.getfield 307, 3) := by decide +kernel
theorem dX12_finds_36 : decode cX12_finds 36 = .ok (.lload 5, 2) := by decide +kernel
theorem dX12_finds_38 : decode cX12_finds 38 = .ok (.lastore, 1) := by decide +kernel
theorem dX12_finds_39 : decode cX12_finds 39 = .ok (.iconst 0, 1) := by decide +kernel
theorem dX12_finds_40 : decode cX12_finds 40 = .ok (.istore 8, 2) := by decide +kernel
theorem dX12_finds_42 : decode cX12_finds 42 = .ok (.iload 8, 2) := by decide +kernel
theorem dX12_finds_44 : decode cX12_finds 44 = .ok (.aload_n 0, 1) := by decide +kernel
theorem dX12_finds_45 : decode cX12_finds 45 = .ok (.getfield 170, 3) := by decide +kernel
theorem dX12_finds_48 : decode cX12_finds 48 = .ok (.if_icmp .ge 31, 3) := by decide +kernel
theorem dX12_finds_51 : decode cX12_finds 51 = .ok (.aload_n 0, 1) := by decide +kernel
theorem dX12_finds_52 : decode cX12_finds 52 = .ok (.getfield 103, 3) := by decide +kernel
theorem dX12_finds_55 : decode cX12_finds 55 = .ok (.bipush 16, 2) := by decide +kernel
theorem dX12_finds_57 : decode cX12_finds 57 = .ok (.aload_n 0, 1) := by decide +kernel
theorem dX12_finds_58 : decode cX12_finds 58 = .ok (.getfield 307, 3) := by decide +kernel
theorem dX12_finds_61 : decode cX12_finds 61 = .ok (.imul, 1) := by decide +kernel
theorem dX12_finds_62 : decode cX12_finds 62 = .ok (.iload 8, 2) := by decide +kernel
theorem dX12_finds_64 : decode cX12_finds 64 = .ok (.iadd, 1) := by decide +kernel
theorem dX12_finds_65 : decode cX12_finds 65 = .ok (.aload_n 0, 1) := by decide +kernel
theorem dX12_finds_66 : decode cX12_finds 66 = .ok (.getfield 128, 3) := by decide +kernel
theorem dX12_finds_69 : decode cX12_finds 69 = .ok (.iload 8, 2) := by decide +kernel
theorem dX12_finds_71 : decode cX12_finds 71 = .ok (.iaload, 1) := by decide +kernel
theorem dX12_finds_72 : decode cX12_finds 72 = .ok (.iastore, 1) := by decide +kernel
theorem dX12_finds_73 : decode cX12_finds 73 = .ok (.iinc 8 1, 3) := by decide +kernel
theorem dX12_finds_76 : decode cX12_finds 76 = .ok (.goto (-34), 3) := by decide +kernel
theorem dX12_finds_79 : decode cX12_finds 79 = .ok (.aload_n 0, 1) := by decide +kernel
theorem dX12_finds_80 : decode cX12_finds 80 = .ok (.getfield 106, 3) := by decide +kernel
theorem dX12_finds_83 : decode cX12_finds 83 = .ok (.aload_n 0, 1) := by decide +kernel
theorem dX12_finds_84 : decode cX12_finds 84 = .ok (.getfield 307, 3) := by decide +kernel
theorem dX12_finds_87 : decode cX12_finds 87 = .ok (.ldc 199, 2) := by decide +kernel
theorem dX12_finds_89 : decode cX12_finds 89 = .ok (.iastore, 1) := by decide +kernel
theorem dX12_finds_90 : decode cX12_finds 90 = .ok (.aload_n 0, 1) := by decide +kernel
theorem dX12_finds_91 : decode cX12_finds 91 = .ok (.getfield 109, 3) := by decide +kernel
theorem dX12_finds_94 : decode cX12_finds 94 = .ok (.aload_n 0, 1) := by decide +kernel
theorem dX12_finds_95 : decode cX12_finds 95 = .ok (.getfield 307, 3) := by decide +kernel
theorem dX12_finds_98 : decode cX12_finds 98 = .ok (.aload_n 0, 1) := by decide +kernel
theorem dX12_finds_99 : decode cX12_finds 99 = .ok (.aload_n 0, 1) := by decide +kernel
theorem dX12_finds_100 : decode cX12_finds 100 = .ok (.getfield 128, 3) := by decide +kernel
theorem dX12_finds_103 : decode cX12_finds 103 = .ok (.iload 4, 2) := by decide +kernel
theorem dX12_finds_105 : decode cX12_finds 105 = .ok (.invokevirtual 302, 3) := by decide +kernel
theorem dX12_finds_108 : decode cX12_finds 108 = .ok (.iastore, 1) := by decide +kernel
theorem dX12_finds_109 : decode cX12_finds 109 = .ok (.aload_n 0, 1) := by decide +kernel
theorem dX12_finds_110 : decode cX12_finds 110 = .ok (.getfield 125, 3) := by decide +kernel
theorem dX12_finds_113 : decode cX12_finds 113 = .ok (.aload_n 0, 1) := by decide +kernel
theorem dX12_finds_114 : decode cX12_finds 114 = .ok (.getfield 307, 3) := by decide +kernel
theorem dX12_finds_117 : decode cX12_finds 117 = .ok (.iconst 0, 1) := by decide +kernel
theorem dX12_finds_118 : decode cX12_finds 118 = .ok (.bastore, 1) := by decide +kernel
theorem dX12_finds_119 : decode cX12_finds 119 = .ok (.aload_n 0, 1) := by decide +kernel
theorem dX12_finds_120 : decode cX12_finds 120 = .ok (.dup, 1) := by decide +kernel
theorem dX12_finds_121 : decode cX12_finds 121 = .ok (.getfield 307, 3) := by decide +kernel
theorem dX12_finds_124 : decode cX12_finds 124 = .ok (.iconst 1, 1) := by decide +kernel
theorem dX12_finds_125 : decode cX12_finds 125 = .ok (.iadd, 1) := by decide +kernel
theorem dX12_finds_126 : decode cX12_finds 126 = .ok (.putfield 307, 3) := by decide +kernel
theorem dX12_finds_129 : decode cX12_finds 129 = .ok (.aload_n 0, 1) := by decide +kernel
theorem dX12_finds_130 : decode cX12_finds 130 = .ok (.getfield 118, 3) := by decide +kernel
theorem dX12_finds_133 : decode cX12_finds 133 = .ok (.iload 7, 2) := by decide +kernel
theorem dX12_finds_135 : decode cX12_finds 135 = .ok (.aload_n 0, 1) := by decide +kernel
theorem dX12_finds_136 : decode cX12_finds 136 = .ok (.getfield 307, 3) := by decide +kernel
theorem dX12_finds_139 : decode cX12_finds 139 = .ok (.iastore, 1) := by decide +kernel
theorem dX12_finds_140 : decode cX12_finds 140 = .ok (.aload_n 0, 1) := by decide +kernel
theorem dX12_finds_141 : decode cX12_finds 141 = .ok (.getfield 118, 3) := by decide +kernel
theorem dX12_finds_144 : decode cX12_finds 144 = .ok (.iload 7, 2) := by decide +kernel
theorem dX12_finds_146 : decode cX12_finds 146 = .ok (.iaload, 1) := by decide +kernel
theorem dX12_finds_147 : decode cX12_finds 147 = .ok (.iconst 1, 1) := by decide +kernel
theorem dX12_finds_148 : decode cX12_finds 148 = .ok (.isub, 1) := by decide +kernel
theorem dX12_finds_149 : decode cX12_finds 149 = .ok (.istore 8, 2) := by decide +kernel
theorem dX12_finds_151 : decode cX12_finds 151 = .ok (.iload_n 1, 1) := by decide +kernel
theorem dX12_finds_152 : decode cX12_finds 152 = .ok (.aload_n 0, 1) := by decide +kernel
theorem dX12_finds_153 : decode cX12_finds 153 = .ok (.getfield 106, 3) := by decide +kernel
theorem dX12_finds_156 : decode cX12_finds 156 = .ok (.iload 8, 2) := by decide +kernel
theorem dX12_finds_158 : decode cX12_finds 158 = .ok (.iaload, 1) := by decide +kernel
theorem dX12_finds_159 : decode cX12_finds 159 = .ok (.if_icmp .ge 27, 3) := by decide +kernel
theorem dX12_finds_162 : decode cX12_finds 162 = .ok (.aload_n 0, 1) := by decide +kernel
theorem dX12_finds_163 : decode cX12_finds 163 = .ok (.getfield 106, 3) := by decide +kernel
theorem dX12_finds_166 : decode cX12_finds 166 = .ok (.iload 8, 2) := by decide +kernel
theorem dX12_finds_168 : decode cX12_finds 168 = .ok (.iload_n 1, 1) := by decide +kernel
theorem dX12_finds_169 : decode cX12_finds 169 = .ok (.iastore, 1) := by decide +kernel
theorem dX12_finds_170 : decode cX12_finds 170 = .ok (.aload_n 0, 1) := by decide +kernel
theorem dX12_finds_171 : decode cX12_finds 171 = .ok (.getfield 112, 3) := by decide +kernel
theorem dX12_finds_174 : decode cX12_finds 174 = .ok (.iload 8, 2) := by decide +kernel
theorem dX12_finds_176 : decode cX12_finds 176 = .ok (.iload_n 2, 1) := by decide +kernel
theorem dX12_finds_177 : decode cX12_finds 177 = .ok (.iastore, 1) := by decide +kernel
theorem dX12_finds_178 : decode cX12_finds 178 = .ok (.aload_n 0, 1) := by decide +kernel
theorem dX12_finds_179 : decode cX12_finds 179 = .ok (.getfield 115, 3) := by decide +kernel
theorem dX12_finds_182 : decode cX12_finds 182 = .ok (.iload 8, 2) := by decide +kernel
theorem dX12_finds_184 : decode cX12_finds 184 = .ok (.iload_n 3, 1) := by decide +kernel
theorem dX12_finds_185 : decode cX12_finds 185 = .ok (.iastore, 1) := by decide +kernel
theorem dX12_finds_186 : decode cX12_finds 186 = .ok (.iload 8, 2) := by decide +kernel
theorem dX12_finds_188 : decode cX12_finds 188 = .ok (.ireturn, 1) := by decide +kernel
theorem dX12_goesAhead_0 : decode cX12_goesAhead 0 = .ok (.aload_n 0, 1) := by decide +kernel
theorem dX12_goesAhead_1 : decode cX12_goesAhead 1 = .ok (.getfield 106, 3) := by decide +kernel
theorem dX12_goesAhead_4 : decode cX12_goesAhead 4 = .ok (.iload_n 1, 1) := by decide +kernel
theorem dX12_goesAhead_5 : decode cX12_goesAhead 5 = .ok (.iaload, 1) := by decide +kernel
theorem dX12_goesAhead_6 : decode cX12_goesAhead 6 = .ok (.aload_n 0, 1) := by decide +kernel
theorem dX12_goesAhead_7 : decode cX12_goesAhead 7 = .ok (.getfield 109, 3) := by decide +kernel
theorem dX12_goesAhead_10 : decode cX12_goesAhead 10 = .ok (.iload_n 1, 1) := by decide +kernel
theorem dX12_goesAhead_11 : decode cX12_goesAhead 11 = .ok (.iaload, 1) := by decide +kernel
theorem dX12_goesAhead_12 : decode cX12_goesAhead 12 = .ok (.iadd, 1) := by decide +kernel
theorem dX12_goesAhead_13 : decode cX12_goesAhead 13 = .ok (.istore_n 3, 1) := by decide +kernel
theorem dX12_goesAhead_14 : decode cX12_goesAhead 14 = .ok (.aload_n 0, 1) := by decide +kernel
theorem dX12_goesAhead_15 : decode cX12_goesAhead 15 = .ok (.getfield 106, 3) := by decide +kernel
theorem dX12_goesAhead_18 : decode cX12_goesAhead 18 = .ok (.iload_n 2, 1) := by decide +kernel
theorem dX12_goesAhead_19 : decode cX12_goesAhead 19 = .ok (.iaload, 1) := by decide +kernel
theorem dX12_goesAhead_20 : decode cX12_goesAhead 20 = .ok (.aload_n 0, 1) := by decide +kernel
theorem dX12_goesAhead_21 : decode cX12_goesAhead 21 = .ok (.getfield 109, 3) := by decide +kernel
theorem dX12_goesAhead_24 : decode cX12_goesAhead 24 = .ok (.iload_n 2, 1) := by decide +kernel
theorem dX12_goesAhead_25 : decode cX12_goesAhead 25 = .ok (.iaload, 1) := by decide +kernel
theorem dX12_goesAhead_26 : decode cX12_goesAhead 26 = .ok (.iadd, 1) := by decide +kernel
theorem dX12_goesAhead_27 : decode cX12_goesAhead 27 = .ok (.istore 4, 2) := by decide +kernel
theorem dX12_goesAhead_29 : decode cX12_goesAhead 29 = .ok (.iload_n 3, 1) := by decide +kernel
theorem dX12_goesAhead_30 : decode cX12_goesAhead 30 = .ok (.iload 4, 2) := by decide +kernel
theorem dX12_goesAhead_32 : decode cX12_goesAhead 32 = .ok (.if_icmp .eq 15, 3) := by decide +kernel
theorem dX12_goesAhead_35 : decode cX12_goesAhead 35 = .ok (.iload_n 3, 1) := by decide +kernel
theorem dX12_goesAhead_36 : decode cX12_goesAhead 36 = .ok (.iload 4, 2) := by decide +kernel
theorem dX12_goesAhead_38 : decode cX12_goesAhead 38 = .ok (.if_icmp .ge 7, 3) := by decide +kernel
theorem dX12_goesAhead_41 : decode cX12_goesAhead 41 = .ok (.iconst 1, 1) := by decide +kernel
theorem dX12_goesAhead_42 : decode cX12_goesAhead 42 = .ok (.goto 4, 3) := by decide +kernel
theorem dX12_goesAhead_45 : decode cX12_goesAhead 45 = .ok (.iconst 0, 1) := by decide +kernel
theorem dX12_goesAhead_46 : decode cX12_goesAhead 46 = .ok (.ireturn, 1) := by decide +kernel
theorem dX12_goesAhead_47 : decode cX12_goesAhead 47 = .ok (.aload_n 0, 1) := by decide +kernel
theorem dX12_goesAhead_48 : decode cX12_goesAhead 48 = .ok (.getfield 109, 3) := by decide +kernel
theorem dX12_goesAhead_51 : decode cX12_goesAhead 51 = .ok (.iload_n 1, 1) := by decide +kernel
theorem dX12_goesAhead_52 : decode cX12_goesAhead 52 = .ok (.iaload, 1) := by decide +kernel
theorem dX12_goesAhead_53 : decode cX12_goesAhead 53 = .ok (.aload_n 0, 1) := by decide +kernel
theorem dX12_goesAhead_54 : decode cX12_goesAhead 54 = .ok (.getfield 109, 3) := by decide +kernel
theorem dX12_goesAhead_57 : decode cX12_goesAhead 57 = .ok (.iload_n 2, 1) := by decide +kernel
theorem dX12_goesAhead_58 : decode cX12_goesAhead 58 = .ok (.iaload, 1) := by decide +kernel
theorem dX12_goesAhead_59 : decode cX12_goesAhead 59 = .ok (.if_icmp .lt 34, 3) := by decide +kernel
theorem dX12_goesAhead_62 : decode cX12_goesAhead 62 = .ok (.aload_n 0, 1) := by decide +kernel
theorem dX12_goesAhead_63 : decode cX12_goesAhead 63 = .ok (.getfield 109, 3) := by decide +kernel
theorem dX12_goesAhead_66 : decode cX12_goesAhead 66 = .ok (.iload_n 1, 1) := by decide +kernel
theorem dX12_goesAhead_67 : decode cX12_goesAhead 67 = .ok (.iaload, 1) := by decide +kernel
theorem dX12_goesAhead_68 : decode cX12_goesAhead 68 = .ok (.aload_n 0, 1) := by decide +kernel
theorem dX12_goesAhead_69 : decode cX12_goesAhead 69 = .ok (.getfield 109, 3) := by decide +kernel
theorem dX12_goesAhead_72 : decode cX12_goesAhead 72 = .ok (.iload_n 2, 1) := by decide +kernel
theorem dX12_goesAhead_73 : decode cX12_goesAhead 73 = .ok (.iaload, 1) := by decide +kernel
theorem dX12_goesAhead_74 : decode cX12_goesAhead 74 = .ok (.if_icmp .ne 23, 3) := by decide +kernel
theorem dX12_goesAhead_77 : decode cX12_goesAhead 77 = .ok (.aload_n 0, 1) := by decide +kernel
theorem dX12_goesAhead_78 : decode cX12_goesAhead 78 = .ok (.getfield 121, 3) := by decide +kernel
theorem dX12_goesAhead_81 : decode cX12_goesAhead 81 = .ok (.iload_n 1, 1) := by decide +kernel
theorem dX12_goesAhead_82 : decode cX12_goesAhead 82 = .ok (.laload, 1) := by decide +kernel
theorem dX12_goesAhead_83 : decode cX12_goesAhead 83 = .ok (.aload_n 0, 1) := by decide +kernel
theorem dX12_goesAhead_84 : decode cX12_goesAhead 84 = .ok (.getfield 121, 3) := by decide +kernel
theorem dX12_goesAhead_87 : decode cX12_goesAhead 87 = .ok (.iload_n 2, 1) := by decide +kernel
theorem dX12_goesAhead_88 : decode cX12_goesAhead 88 = .ok (.laload, 1) := by decide +kernel
theorem dX12_goesAhead_89 : decode cX12_goesAhead 89 = .ok (.lcmp, 1) := by decide +kernel
theorem dX12_goesAhead_90 : decode cX12_goesAhead 90 = .ok (.ifCond .ge 7, 3) := by decide +kernel
theorem dX12_goesAhead_93 : decode cX12_goesAhead 93 = .ok (.iconst 1, 1) := by decide +kernel
theorem dX12_goesAhead_94 : decode cX12_goesAhead 94 = .ok (.goto 4, 3) := by decide +kernel
theorem dX12_goesAhead_97 : decode cX12_goesAhead 97 = .ok (.iconst 0, 1) := by decide +kernel
theorem dX12_goesAhead_98 : decode cX12_goesAhead 98 = .ok (.ireturn, 1) := by decide +kernel
theorem dX12_loads_0 : decode cX12_loads 0 = .ok (.iconst 0, 1) := by decide +kernel
theorem dX12_loads_1 : decode cX12_loads 1 = .ok (.istore_n 2, 1) := by decide +kernel
theorem dX12_loads_2 : decode cX12_loads 2 = .ok (.iload_n 2, 1) := by decide +kernel
theorem dX12_loads_3 : decode cX12_loads 3 = .ok (.aload_n 0, 1) := by decide +kernel
theorem dX12_loads_4 : decode cX12_loads 4 = .ok (.getfield 170, 3) := by decide +kernel
theorem dX12_loads_7 : decode cX12_loads 7 = .ok (.if_icmp .ge 26, 3) := by decide +kernel
theorem dX12_loads_10 : decode cX12_loads 10 = .ok (.aload_n 0, 1) := by decide +kernel
theorem dX12_loads_11 : decode cX12_loads 11 = .ok (.getfield 128, 3) := by decide +kernel
theorem dX12_loads_14 : decode cX12_loads 14 = .ok (.iload_n 2, 1) := by decide +kernel
theorem dX12_loads_15 : decode cX12_loads 15 = .ok (.aload_n 0, 1) := by decide +kernel
theorem dX12_loads_16 : decode cX12_loads 16 = .ok (.getfield 103, 3) := by decide +kernel
theorem dX12_loads_19 : decode cX12_loads 19 = .ok (.bipush 16, 2) := by decide +kernel
theorem dX12_loads_21 : decode cX12_loads 21 = .ok (.iload_n 1, 1) := by decide +kernel
theorem dX12_loads_22 : decode cX12_loads 22 = .ok (.imul, 1) := by decide +kernel
theorem dX12_loads_23 : decode cX12_loads 23 = .ok (.iload_n 2, 1) := by decide +kernel
theorem dX12_loads_24 : decode cX12_loads 24 = .ok (.iadd, 1) := by decide +kernel
theorem dX12_loads_25 : decode cX12_loads 25 = .ok (.iaload, 1) := by decide +kernel
theorem dX12_loads_26 : decode cX12_loads 26 = .ok (.iastore, 1) := by decide +kernel
theorem dX12_loads_27 : decode cX12_loads 27 = .ok (.iinc 2 1, 3) := by decide +kernel
theorem dX12_loads_30 : decode cX12_loads 30 = .ok (.goto (-28), 3) := by decide +kernel
theorem dX12_loads_33 : decode cX12_loads 33 = .ok (.return_, 1) := by decide +kernel
set_option maxRecDepth 20000 in
theorem ggX12_searches_X12_clearsStates : GoodIn wsX12_searches wsX12_clearsStates := goodIn_r _ [12, 4, 13, 103, 104, 105, 106, 107, 108, 109, 110, 111, 112, 113, 114, 115, 116, 117, 118, 119, 120, 121, 122, 123, 124, 125, 126, 127, 128, 129, 130, 131, 132, 133, 134, 135, 136, 137, 138, 139, 140, 141, 142, 143, 144, 145, 146, 147, 148, 149, 150, 151, 152, 153, 154, 155, 156, 157, 158, 159, 160, 161, 162, 163, 164, 165, 166, 167, 168, 169] (by decide +kernel) (by decide +kernel)
set_option maxRecDepth 20000 in
theorem gX12_searches_X12_clearsStates : GoodIn wsX12_searches (wsV RX12 314 RX12 yX12_clearsStates wsX12_clearsStates) := goodIn_app (goodIn_of _ (by decide +kernel)) ggX12_searches_X12_clearsStates
set_option maxRecDepth 20000 in
theorem ggX12_searches_X12_finds : GoodIn wsX12_searches wsX12_finds := goodIn_r _ [17, 6, 13, 18, 4, 19, 20, 7, 21, 22, 5, 23, 24, 25, 26, 27, 11, 28, 29, 30, 31, 32, 33, 34, 35, 36, 37, 38, 39, 40, 41, 42, 43, 44, 45, 46, 47, 48, 49, 50, 51, 52, 53, 54, 55, 56, 57, 58, 59, 60, 61, 62, 63, 64, 65, 66, 67, 68, 69, 70, 71, 72, 73, 74, 75, 76, 77, 78, 79, 80, 103, 104, 105, 106, 107, 108, 109, 110, 111, 112, 113, 114, 115, 116, 117, 118, 119, 120, 121, 122, 123, 124, 125, 126, 127, 128, 129, 130, 131, 132, 133, 134, 135, 136, 137, 138, 139, 140, 141, 142, 143, 144, 145, 146, 147, 148, 149, 150, 151, 152, 153, 154, 155, 156, 157, 158, 159, 160, 161, 162, 163, 164, 165, 166, 167, 168, 169] (by decide +kernel) (by decide +kernel)
set_option maxRecDepth 20000 in
theorem gX12_searches_X12_finds : GoodIn wsX12_searches (wsV RX12 326 RX12 yX12_finds wsX12_finds) := goodIn_app (goodIn_of _ (by decide +kernel)) ggX12_searches_X12_finds
set_option maxRecDepth 20000 in
theorem ggX12_searches_X12_goesAhead : GoodIn wsX12_searches wsX12_goesAhead := goodIn_r _ [84, 7, 22, 18, 103, 104, 105, 106, 107, 108, 109, 110, 111, 112, 113, 114, 115, 116, 117, 118, 119, 120, 121, 122, 123, 124, 125, 126, 127, 128, 129, 130, 131, 132, 133, 134, 135, 136, 137, 138, 139, 140, 141, 142, 143, 144, 145, 146, 147, 148, 149, 150, 151, 152, 153, 154, 155, 156, 157, 158, 159, 160, 161, 162, 163, 164, 165, 166, 167, 168, 169] (by decide +kernel) (by decide +kernel)
set_option maxRecDepth 20000 in
theorem gX12_searches_X12_goesAhead : GoodIn wsX12_searches (wsV RX12 330 RX12 yX12_goesAhead wsX12_goesAhead) := goodIn_app (goodIn_of _ (by decide +kernel)) ggX12_searches_X12_goesAhead
set_option maxRecDepth 20000 in
theorem ggX12_searches_X12_loads : GoodIn wsX12_searches wsX12_loads := goodIn_r _ [88, 19, 6, 20, 103, 104, 105, 106, 107, 108, 109, 110, 111, 112, 113, 114, 115, 116, 117, 118, 119, 120, 121, 122, 123, 124, 125, 126, 127, 128, 129, 130, 131, 132, 133, 134, 135, 136, 137, 138, 139, 140, 141, 142, 143, 144, 145, 146, 147, 148, 149, 150, 151, 152, 153, 154, 155, 156, 157, 158, 159, 160, 161, 162, 163, 164, 165, 166, 167, 168, 169] (by decide +kernel) (by decide +kernel)
set_option maxRecDepth 20000 in
theorem gX12_searches_X12_loads : GoodIn wsX12_searches (wsV RX12 333 RX12 yX12_loads wsX12_loads) := goodIn_app (goodIn_of _ (by decide +kernel)) ggX12_searches_X12_loads
set_option maxRecDepth 20000 in
theorem ggX12_searches_X12_isGoal : GoodIn wsX12_searches wsX12_isGoal := goodIn_r _ [92, 19, 46, 47, 103, 104, 105, 106, 107, 108, 109, 110, 111, 112, 113, 114, 115, 116, 117, 118, 119, 120, 121, 122, 123, 124, 125, 126, 127, 128, 129, 130, 131, 132, 133, 134, 135, 136, 137, 138, 139, 140, 141, 142, 143, 144, 145, 146, 147, 148, 149, 150, 151, 152, 153, 154, 155, 156, 157, 158, 159, 160, 161, 162, 163, 164, 165, 166, 167, 168, 169] (by decide +kernel) (by decide +kernel)
set_option maxRecDepth 20000 in
theorem gX12_searches_X12_isGoal : GoodIn wsX12_searches (wsV RX12 336 RX12 yX12_isGoal wsX12_isGoal) := goodIn_app (goodIn_of _ (by decide +kernel)) ggX12_searches_X12_isGoal
set_option maxRecDepth 20000 in
theorem ggX12_searches_X12_tracks : GoodIn wsX12_searches wsX12_tracks := goodIn_r _ [96, 23, 1, 97, 24, 103, 104, 105, 106, 107, 108, 109, 110, 111, 112, 113, 114, 115, 116, 117, 118, 119, 120, 121, 122, 123, 124, 125, 126, 127, 128, 129, 130, 131, 132, 133, 134, 135, 136, 137, 138, 139, 140, 141, 142, 143, 144, 145, 146, 147, 148, 149, 150, 151, 152, 153, 154, 155, 156, 157, 158, 159, 160, 161, 162, 163, 164, 165, 166, 167, 168, 169] (by decide +kernel) (by decide +kernel)
set_option maxRecDepth 20000 in
theorem gX12_searches_X12_tracks : GoodIn wsX12_searches (wsV RX12 340 RX12 yX12_tracks wsX12_tracks) := goodIn_app (goodIn_of _ (by decide +kernel)) ggX12_searches_X12_tracks
set_option maxRecDepth 20000 in
theorem ggX12_searches_X12_goes : GoodIn wsX12_searches wsX12_goes := goodIn_r _ [101, 102, 48, 77, 78, 79, 11, 80, 103, 104, 105, 106, 107, 108, 109, 110, 111, 112, 113, 114, 115, 116, 117, 118, 119, 120, 121, 122, 123, 124, 125, 126, 127, 128, 129, 130, 131, 132, 133, 134, 135, 136, 137, 138, 139, 140, 141, 142, 143, 144, 145, 146, 147, 148, 149, 150, 151, 152, 153, 154, 155, 156, 157, 158, 159, 160, 161, 162, 163, 164, 165, 166, 167, 168, 169] (by decide +kernel) (by decide +kernel)
set_option maxRecDepth 20000 in
theorem gX12_searches_X12_goes : GoodIn wsX12_searches (wsV RX12 270 RX12 yX12_goes wsX12_goes) := goodIn_app (goodIn_of _ (by decide +kernel)) ggX12_searches_X12_goes
theorem dX12_searches_0 : decode cX12_searches 0 = .ok (.aload_n 0, 1) := by decide +kernel
theorem dX12_searches_1 : decode cX12_searches 1 = .ok (.invokevirtual 314, 3) := by decide +kernel
theorem dX12_searches_4 : decode cX12_searches 4 = .ok (.aload_n 0, 1) := by decide +kernel
theorem dX12_searches_5 : decode cX12_searches 5 = .ok (.iconst 0, 1) := by decide +kernel
theorem dX12_searches_6 : decode cX12_searches 6 = .ok (.putfield 317, 3) := by decide +kernel
theorem dX12_searches_9 : decode cX12_searches 9 = .ok (.aload_n 0, 1) := by decide +kernel
theorem dX12_searches_10 : decode cX12_searches 10 = .ok (.iconst 0, 1) := by decide +kernel
theorem dX12_searches_11 : decode cX12_searches 11 = .ok (.putfield 320, 3) := by decide +kernel
theorem dX12_searches_14 : decode cX12_searches 14 = .ok (.aload_n 0, 1) := by decide +kernel
theorem dX12_searches_15 : decode cX12_searches 15 = .ok (.iconst 0, 1) := by decide +kernel
theorem dX12_searches_16 : decode cX12_searches 16 = .ok (.putfield 323, 3) := by decide +kernel
theorem dX12_searches_19 : decode cX12_searches 19 = .ok (.aload_n 0, 1) := by decide +kernel
theorem dX12_searches_20 : decode cX12_searches 20 = .ok (.iconst 0, 1) := by decide +kernel
theorem dX12_searches_21 : decode cX12_searches 21 = .ok (.iconst (-1), 1) := by decide +kernel
theorem dX12_searches_22 : decode cX12_searches 22 = .ok (.iconst (-1), 1) := by decide +kernel
theorem dX12_searches_23 : decode cX12_searches 23 = .ok (.iload_n 1, 1) := by decide +kernel
theorem dX12_searches_24 : decode cX12_searches 24 = .ok (.invokevirtual 326, 3) := by decide +kernel
theorem dX12_searches_27 : decode cX12_searches 27 = .ok (.istore_n 3, 1) := by decide +kernel
theorem dX12_searches_28 : decode cX12_searches 28 = .ok (.iconst (-1), 1) := by decide +kernel
theorem dX12_searches_29 : decode cX12_searches 29 = .ok (.istore 4, 2) := by decide +kernel
theorem dX12_searches_31 : decode cX12_searches 31 = .ok (.iload_n 3, 1) := by decide +kernel
theorem dX12_searches_32 : decode cX12_searches 32 = .ok (.istore 5, 2) := by decide +kernel
theorem dX12_searches_34 : decode cX12_searches 34 = .ok (.iload 5, 2) := by decide +kernel
theorem dX12_searches_36 : decode cX12_searches 36 = .ok (.aload_n 0, 1) := by decide +kernel
theorem dX12_searches_37 : decode cX12_searches 37 = .ok (.getfield 307, 3) := by decide +kernel
theorem dX12_searches_40 : decode cX12_searches 40 = .ok (.if_icmp .ge 40, 3) := by decide +kernel
theorem dX12_searches_43 : decode cX12_searches 43 = .ok (.aload_n 0, 1) := by decide +kernel
theorem dX12_searches_44 : decode cX12_searches 44 = .ok (.getfield 125, 3) := by decide +kernel
theorem dX12_searches_47 : decode cX12_searches 47 = .ok (.iload 5, 2) := by decide +kernel
theorem dX12_searches_49 : decode cX12_searches 49 = .ok (.baload, 1) := by decide +kernel
theorem dX12_searches_50 : decode cX12_searches 50 = .ok (.ifCond .ne 24, 3) := by decide +kernel
theorem dX12_searches_53 : decode cX12_searches 53 = .ok (.iload 4, 2) := by decide +kernel
theorem dX12_searches_55 : decode cX12_searches 55 = .ok (.iconst (-1), 1) := by decide +kernel
theorem dX12_searches_56 : decode cX12_searches 56 = .ok (.if_icmp .eq 14, 3) := by decide +kernel
theorem dX12_searches_59 : decode cX12_searches 59 = .ok (.aload_n 0, 1) := by decide +kernel
theorem dX12_searches_60 : decode cX12_searches 60 = .ok (.iload 5, 2) := by decide +kernel
theorem dX12_searches_62 : decode cX12_searches 62 = .ok (.iload 4, 2) := by decide +kernel
theorem dX12_searches_64 : decode cX12_searches 64 = .ok (.invokevirtual 330, 3) := by decide +kernel
theorem dX12_searches_67 : decode cX12_searches 67 = .ok (.ifCond .eq 7, 3) := by decide +kernel
theorem dX12_searches_70 : decode cX12_searches 70 = .ok (.iload 5, 2) := by decide +kernel
theorem dX12_searches_72 : decode cX12_searches 72 = .ok (.istore 4, 2) := by decide +kernel
theorem dX12_searches_74 : decode cX12_searches 74 = .ok (.iinc 5 1, 3) := by decide +kernel
theorem dX12_searches_77 : decode cX12_searches 77 = .ok (.goto (-43), 3) := by decide +kernel
theorem dX12_searches_80 : decode cX12_searches 80 = .ok (.iload 4, 2) := by decide +kernel
theorem dX12_searches_82 : decode cX12_searches 82 = .ok (.iconst (-1), 1) := by decide +kernel
theorem dX12_searches_83 : decode cX12_searches 83 = .ok (.if_icmp .ne 5, 3) := by decide +kernel
theorem dX12_searches_86 : decode cX12_searches 86 = .ok (.iconst (-1), 1) := by decide +kernel
theorem dX12_searches_87 : decode cX12_searches 87 = .ok (.ireturn, 1) := by decide +kernel
theorem dX12_searches_88 : decode cX12_searches 88 = .ok (.aload_n 0, 1) := by decide +kernel
theorem dX12_searches_89 : decode cX12_searches 89 = .ok (.getfield 320, 3) := by decide +kernel
theorem dX12_searches_92 : decode cX12_searches 92 = .ok (.iload_n 2, 1) := by decide +kernel
theorem dX12_searches_93 : decode cX12_searches 93 = .ok (.if_icmp .ne 6, 3) := by decide +kernel
theorem dX12_searches_96 : decode cX12_searches 96 = .ok (.bipush (-2), 2) := by decide +kernel
theorem dX12_searches_98 : decode cX12_searches 98 = .ok (.ireturn, 1) := by decide +kernel
theorem dX12_searches_99 : decode cX12_searches 99 = .ok (.aload_n 0, 1) := by decide +kernel
theorem dX12_searches_100 : decode cX12_searches 100 = .ok (.getfield 125, 3) := by decide +kernel
theorem dX12_searches_103 : decode cX12_searches 103 = .ok (.iload 4, 2) := by decide +kernel
theorem dX12_searches_105 : decode cX12_searches 105 = .ok (.iconst 1, 1) := by decide +kernel
theorem dX12_searches_106 : decode cX12_searches 106 = .ok (.bastore, 1) := by decide +kernel
theorem dX12_searches_107 : decode cX12_searches 107 = .ok (.aload_n 0, 1) := by decide +kernel
theorem dX12_searches_108 : decode cX12_searches 108 = .ok (.dup, 1) := by decide +kernel
theorem dX12_searches_109 : decode cX12_searches 109 = .ok (.getfield 320, 3) := by decide +kernel
theorem dX12_searches_112 : decode cX12_searches 112 = .ok (.iconst 1, 1) := by decide +kernel
theorem dX12_searches_113 : decode cX12_searches 113 = .ok (.iadd, 1) := by decide +kernel
theorem dX12_searches_114 : decode cX12_searches 114 = .ok (.putfield 320, 3) := by decide +kernel
theorem dX12_searches_117 : decode cX12_searches 117 = .ok (.aload_n 0, 1) := by decide +kernel
theorem dX12_searches_118 : decode cX12_searches 118 = .ok (.iload 4, 2) := by decide +kernel
theorem dX12_searches_120 : decode cX12_searches 120 = .ok (.invokevirtual 333, 3) := by decide +kernel
theorem dX12_searches_123 : decode cX12_searches 123 = .ok (.aload_n 0, 1) := by decide +kernel
theorem dX12_searches_124 : decode cX12_searches 124 = .ok (.aload_n 0, 1) := by decide +kernel
theorem dX12_searches_125 : decode cX12_searches 125 = .ok (.getfield 128, 3) := by decide +kernel
theorem dX12_searches_128 : decode cX12_searches 128 = .ok (.invokevirtual 336, 3) := by decide +kernel
theorem dX12_searches_131 : decode cX12_searches 131 = .ok (.ifCond .eq 17, 3) := by decide +kernel
theorem dX12_searches_134 : decode cX12_searches 134 = .ok (.aload_n 0, 1) := by decide +kernel
theorem dX12_searches_135 : decode cX12_searches 135 = .ok (.iload 4, 2) := by decide +kernel
theorem dX12_searches_137 : decode cX12_searches 137 = .ok (.invokevirtual 340, 3) := by decide +kernel
theorem dX12_searches_140 : decode cX12_searches 140 = .ok (.aload_n 0, 1) := by decide +kernel
theorem dX12_searches_141 : decode cX12_searches 141 = .ok (.getfield 106, 3) := by decide +kernel
theorem dX12_searches_144 : decode cX12_searches 144 = .ok (.iload 4, 2) := by decide +kernel
theorem dX12_searches_146 : decode cX12_searches 146 = .ok (.iaload, 1) := by decide +kernel
theorem dX12_searches_147 : decode cX12_searches 147 = .ok (.ireturn, 1) := by decide +kernel
theorem dX12_searches_148 : decode cX12_searches 148 = .ok (.iconst 0, 1) := by decide +kernel
theorem dX12_searches_149 : decode cX12_searches 149 = .ok (.istore 5, 2) := by decide +kernel
theorem dX12_searches_151 : decode cX12_searches 151 = .ok (.iload 5, 2) := by decide +kernel
theorem dX12_searches_153 : decode cX12_searches 153 = .ok (.iconst 4, 1) := by decide +kernel
theorem dX12_searches_154 : decode cX12_searches 154 = .ok (.if_icmp .ge 54, 3) := by decide +kernel
theorem dX12_searches_157 : decode cX12_searches 157 = .ok (.aload_n 0, 1) := by decide +kernel
theorem dX12_searches_158 : decode cX12_searches 158 = .ok (.iload 4, 2) := by decide +kernel
theorem dX12_searches_160 : decode cX12_searches 160 = .ok (.invokevirtual 333, 3) := by decide +kernel
theorem dX12_searches_163 : decode cX12_searches 163 = .ok (.aload_n 0, 1) := by decide +kernel
theorem dX12_searches_164 : decode cX12_searches 164 = .ok (.aload_n 0, 1) := by decide +kernel
theorem dX12_searches_165 : decode cX12_searches 165 = .ok (.getfield 128, 3) := by decide +kernel
theorem dX12_searches_168 : decode cX12_searches 168 = .ok (.iload 5, 2) := by decide +kernel
theorem dX12_searches_170 : decode cX12_searches 170 = .ok (.invokevirtual 270, 3) := by decide +kernel
theorem dX12_searches_173 : decode cX12_searches 173 = .ok (.istore 6, 2) := by decide +kernel
theorem dX12_searches_175 : decode cX12_searches 175 = .ok (.iload 6, 2) := by decide +kernel
theorem dX12_searches_177 : decode cX12_searches 177 = .ok (.iconst (-1), 1) := by decide +kernel
theorem dX12_searches_178 : decode cX12_searches 178 = .ok (.if_icmp .eq 24, 3) := by decide +kernel
theorem dX12_searches_181 : decode cX12_searches 181 = .ok (.aload_n 0, 1) := by decide +kernel
theorem dX12_searches_182 : decode cX12_searches 182 = .ok (.aload_n 0, 1) := by decide +kernel
theorem dX12_searches_183 : decode cX12_searches 183 = .ok (.getfield 106, 3) := by decide +kernel
theorem dX12_searches_186 : decode cX12_searches 186 = .ok (.iload 4, 2) := by decide +kernel
theorem dX12_searches_188 : decode cX12_searches 188 = .ok (.iaload, 1) := by decide +kernel
theorem dX12_searches_189 : decode cX12_searches 189 = .ok (.iload 6, 2) := by decide +kernel
theorem dX12_searches_191 : decode cX12_searches 191 = .ok (.iadd, 1) := by decide +kernel
theorem dX12_searches_192 : decode cX12_searches 192 = .ok (.iload 4, 2) := by decide +kernel
theorem dX12_searches_194 : decode cX12_searches 194 = .ok (.iload 5, 2) := by decide +kernel
theorem dX12_searches_196 : decode cX12_searches 196 = .ok (.iload_n 1, 1) := by decide +kernel
theorem dX12_searches_197 : decode cX12_searches 197 = .ok (.invokevirtual 326, 3) := by decide +kernel
theorem dX12_searches_200 : decode cX12_searches 200 = .ok (.istore 7, 2) := by decide +kernel
theorem dX12_searches_202 : decode cX12_searches 202 = .ok (.iinc 5 1, 3) := by decide +kernel
theorem dX12_searches_205 : decode cX12_searches 205 = .ok (.goto (-54), 3) := by decide +kernel
theorem dX12_searches_208 : decode cX12_searches 208 = .ok (.goto (-180), 3) := by decide +kernel
theorem dX12_tracks_0 : decode cX12_tracks 0 = .ok (.iload_n 1, 1) := by decide +kernel
theorem dX12_tracks_1 : decode cX12_tracks 1 = .ok (.istore_n 2, 1) := by decide +kernel
theorem dX12_tracks_2 : decode cX12_tracks 2 = .ok (.aload_n 0, 1) := by decide +kernel
theorem dX12_tracks_3 : decode cX12_tracks 3 = .ok (.getfield 112, 3) := by decide +kernel
theorem dX12_tracks_6 : decode cX12_tracks 6 = .ok (.iload_n 2, 1) := by decide +kernel
theorem dX12_tracks_7 : decode cX12_tracks 7 = .ok (.iaload, 1) := by decide +kernel
theorem dX12_tracks_8 : decode cX12_tracks 8 = .ok (.iconst (-1), 1) := by decide +kernel
theorem dX12_tracks_9 : decode cX12_tracks 9 = .ok (.if_icmp .eq 23, 3) := by decide +kernel
theorem dX12_tracks_12 : decode cX12_tracks 12 = .ok (.aload_n 0, 1) := by decide +kernel
theorem dX12_tracks_13 : decode cX12_tracks 13 = .ok (.dup, 1) := by decide +kernel
theorem dX12_tracks_14 : decode cX12_tracks 14 = .ok (.getfield 317, 3) := by decide +kernel
theorem dX12_tracks_17 : decode cX12_tracks 17 = .ok (.iconst 1, 1) := by decide +kernel
theorem dX12_tracks_18 : decode cX12_tracks 18 = .ok (.iadd, 1) := by decide +kernel
theorem dX12_tracks_19 : decode cX12_tracks 19 = .ok (.putfield 317, 3) := by decide +kernel
theorem dX12_tracks_22 : decode cX12_tracks 22 = .ok (.aload_n 0, 1) := by decide +kernel
theorem dX12_tracks_23 : decode cX12_tracks 23 = .ok (.getfield 112, 3) := by decide +kernel
theorem dX12_tracks_26 : decode cX12_tracks 26 = .ok (.iload_n 2, 1) := by decide +kernel
theorem dX12_tracks_27 : decode cX12_tracks 27 = .ok (.iaload, 1) := by decide +kernel
theorem dX12_tracks_28 : decode cX12_tracks 28 = .ok (.istore_n 2, 1) := by decide +kernel
theorem dX12_tracks_29 : decode cX12_tracks 29 = .ok (.goto (-27), 3) := by decide +kernel
theorem dX12_tracks_32 : decode cX12_tracks 32 = .ok (.aload_n 0, 1) := by decide +kernel
theorem dX12_tracks_33 : decode cX12_tracks 33 = .ok (.getfield 317, 3) := by decide +kernel
theorem dX12_tracks_36 : decode cX12_tracks 36 = .ok (.istore_n 2, 1) := by decide +kernel
theorem dX12_tracks_37 : decode cX12_tracks 37 = .ok (.iload_n 1, 1) := by decide +kernel
theorem dX12_tracks_38 : decode cX12_tracks 38 = .ok (.istore_n 3, 1) := by decide +kernel
theorem dX12_tracks_39 : decode cX12_tracks 39 = .ok (.aload_n 0, 1) := by decide +kernel
theorem dX12_tracks_40 : decode cX12_tracks 40 = .ok (.getfield 112, 3) := by decide +kernel
theorem dX12_tracks_43 : decode cX12_tracks 43 = .ok (.iload_n 3, 1) := by decide +kernel
theorem dX12_tracks_44 : decode cX12_tracks 44 = .ok (.iaload, 1) := by decide +kernel
theorem dX12_tracks_45 : decode cX12_tracks 45 = .ok (.iconst (-1), 1) := by decide +kernel
theorem dX12_tracks_46 : decode cX12_tracks 46 = .ok (.if_icmp .eq 28, 3) := by decide +kernel
theorem dX12_tracks_49 : decode cX12_tracks 49 = .ok (.iinc 2 (-1), 3) := by decide +kernel
theorem dX12_tracks_52 : decode cX12_tracks 52 = .ok (.aload_n 0, 1) := by decide +kernel
theorem dX12_tracks_53 : decode cX12_tracks 53 = .ok (.getfield 134, 3) := by decide +kernel
theorem dX12_tracks_56 : decode cX12_tracks 56 = .ok (.iload_n 2, 1) := by decide +kernel
theorem dX12_tracks_57 : decode cX12_tracks 57 = .ok (.aload_n 0, 1) := by decide +kernel
theorem dX12_tracks_58 : decode cX12_tracks 58 = .ok (.getfield 115, 3) := by decide +kernel
theorem dX12_tracks_61 : decode cX12_tracks 61 = .ok (.iload_n 3, 1) := by decide +kernel
theorem dX12_tracks_62 : decode cX12_tracks 62 = .ok (.iaload, 1) := by decide +kernel
theorem dX12_tracks_63 : decode cX12_tracks 63 = .ok (.iastore, 1) := by decide +kernel
theorem dX12_tracks_64 : decode cX12_tracks 64 = .ok (.aload_n 0, 1) := by decide +kernel
theorem dX12_tracks_65 : decode cX12_tracks 65 = .ok (.getfield 112, 3) := by decide +kernel
theorem dX12_tracks_68 : decode cX12_tracks 68 = .ok (.iload_n 3, 1) := by decide +kernel
theorem dX12_tracks_69 : decode cX12_tracks 69 = .ok (.iaload, 1) := by decide +kernel
theorem dX12_tracks_70 : decode cX12_tracks 70 = .ok (.istore_n 3, 1) := by decide +kernel
theorem dX12_tracks_71 : decode cX12_tracks 71 = .ok (.goto (-32), 3) := by decide +kernel
theorem dX12_tracks_74 : decode cX12_tracks 74 = .ok (.return_, 1) := by decide +kernel
theorem dX12_tells_0 : decode cX12_tells 0 = .ok (.aload_n 0, 1) := by decide +kernel
theorem dX12_tells_1 : decode cX12_tells 1 = .ok (.aload_n 0, 1) := by decide +kernel
theorem dX12_tells_2 : decode cX12_tells 2 = .ok (.getfield 317, 3) := by decide +kernel
theorem dX12_tells_5 : decode cX12_tells 5 = .ok (.putfield 196, 3) := by decide +kernel
theorem dX12_tells_8 : decode cX12_tells 8 = .ok (.aload_n 0, 1) := by decide +kernel
theorem dX12_tells_9 : decode cX12_tells 9 = .ok (.aload_n 0, 1) := by decide +kernel
theorem dX12_tells_10 : decode cX12_tells 10 = .ok (.getfield 317, 3) := by decide +kernel
theorem dX12_tells_13 : decode cX12_tells 13 = .ok (.putfield 193, 3) := by decide +kernel
theorem dX12_tells_16 : decode cX12_tells 16 = .ok (.aload_n 0, 1) := by decide +kernel
theorem dX12_tells_17 : decode cX12_tells 17 = .ok (.aload_n 0, 1) := by decide +kernel
theorem dX12_tells_18 : decode cX12_tells 18 = .ok (.getfield 320, 3) := by decide +kernel
theorem dX12_tells_21 : decode cX12_tells 21 = .ok (.putfield 187, 3) := by decide +kernel
theorem dX12_tells_24 : decode cX12_tells 24 = .ok (.aload_n 0, 1) := by decide +kernel
theorem dX12_tells_25 : decode cX12_tells 25 = .ok (.aload_n 0, 1) := by decide +kernel
theorem dX12_tells_26 : decode cX12_tells 26 = .ok (.getfield 323, 3) := by decide +kernel
theorem dX12_tells_29 : decode cX12_tells 29 = .ok (.putfield 190, 3) := by decide +kernel
theorem dX12_tells_32 : decode cX12_tells 32 = .ok (.iconst 0, 1) := by decide +kernel
theorem dX12_tells_33 : decode cX12_tells 33 = .ok (.istore_n 1, 1) := by decide +kernel
theorem dX12_tells_34 : decode cX12_tells 34 = .ok (.iload_n 1, 1) := by decide +kernel
theorem dX12_tells_35 : decode cX12_tells 35 = .ok (.aload_n 0, 1) := by decide +kernel
theorem dX12_tells_36 : decode cX12_tells 36 = .ok (.getfield 196, 3) := by decide +kernel
theorem dX12_tells_39 : decode cX12_tells 39 = .ok (.if_icmp .ge 21, 3) := by decide +kernel
theorem dX12_tells_42 : decode cX12_tells 42 = .ok (.aload_n 0, 1) := by decide +kernel
theorem dX12_tells_43 : decode cX12_tells 43 = .ok (.getfield 131, 3) := by decide +kernel
theorem dX12_tells_46 : decode cX12_tells 46 = .ok (.iload_n 1, 1) := by decide +kernel
theorem dX12_tells_47 : decode cX12_tells 47 = .ok (.aload_n 0, 1) := by decide +kernel
theorem dX12_tells_48 : decode cX12_tells 48 = .ok (.getfield 134, 3) := by decide +kernel
theorem dX12_tells_51 : decode cX12_tells 51 = .ok (.iload_n 1, 1) := by decide +kernel
theorem dX12_tells_52 : decode cX12_tells 52 = .ok (.iaload, 1) := by decide +kernel
theorem dX12_tells_53 : decode cX12_tells 53 = .ok (.iastore, 1) := by decide +kernel
theorem dX12_tells_54 : decode cX12_tells 54 = .ok (.iinc 1 1, 3) := by decide +kernel
theorem dX12_tells_57 : decode cX12_tells 57 = .ok (.goto (-23), 3) := by decide +kernel
theorem dX12_tells_60 : decode cX12_tells 60 = .ok (.return_, 1) := by decide +kernel
theorem dX12_laysRow_0 : decode cX12_laysRow 0 = .ok (.iconst 0, 1) := by decide +kernel
theorem dX12_laysRow_1 : decode cX12_laysRow 1 = .ok (.istore_n 1, 1) := by decide +kernel
theorem dX12_laysRow_2 : decode cX12_laysRow 2 = .ok (.iload_n 1, 1) := by decide +kernel
theorem dX12_laysRow_3 : decode cX12_laysRow 3 = .ok (.aload_n 0, 1) := by decide +kernel
theorem dX12_laysRow_4 : decode cX12_laysRow 4 = .ok (.getfield 170, 3) := by decide +kernel
theorem dX12_laysRow_7 : decode cX12_laysRow 7 = .ok (.if_icmp .ge 21, 3) := by decide +kernel
theorem dX12_laysRow_10 : decode cX12_laysRow 10 = .ok (.aload_n 0, 1) := by decide +kernel
theorem dX12_laysRow_11 : decode cX12_laysRow 11 = .ok (.getfield 128, 3) := by decide +kernel
theorem dX12_laysRow_14 : decode cX12_laysRow 14 = .ok (.iload_n 1, 1) := by decide +kernel
theorem dX12_laysRow_15 : decode cX12_laysRow 15 = .ok (.aload_n 0, 1) := by decide +kernel
theorem dX12_laysRow_16 : decode cX12_laysRow 16 = .ok (.getfield 33, 3) := by decide +kernel
theorem dX12_laysRow_19 : decode cX12_laysRow 19 = .ok (.iload_n 1, 1) := by decide +kernel
theorem dX12_laysRow_20 : decode cX12_laysRow 20 = .ok (.iaload, 1) := by decide +kernel
theorem dX12_laysRow_21 : decode cX12_laysRow 21 = .ok (.iastore, 1) := by decide +kernel
theorem dX12_laysRow_22 : decode cX12_laysRow 22 = .ok (.iinc 1 1, 3) := by decide +kernel
theorem dX12_laysRow_25 : decode cX12_laysRow 25 = .ok (.goto (-23), 3) := by decide +kernel
theorem dX12_laysRow_28 : decode cX12_laysRow 28 = .ok (.return_, 1) := by decide +kernel
set_option maxRecDepth 20000 in
theorem ggX12_solve_X12_in : GoodIn wsX12_solve wsX12_in := goodIn_r _ [5] (by decide +kernel) (by decide +kernel)
set_option maxRecDepth 20000 in
theorem gX12_solve_X12_in : GoodIn wsX12_solve (va_wsS RX12 200 yX12_in wsX12_in) := goodIn_app (goodIn_of _ (by decide +kernel)) ggX12_solve_X12_in
set_option maxRecDepth 20000 in
theorem ggX12_solve_X12_refuse : GoodIn wsX12_solve wsX12_refuse := goodIn_r _ [9, 10, 134, 135, 136, 137, 138, 139, 140, 141, 142, 143, 144, 145, 146, 147, 148, 149, 150, 151, 152, 153, 154, 155, 156, 157, 158, 159, 160, 161, 162, 163, 164, 165, 166, 167, 168, 169, 170, 171, 172, 173, 174, 175, 176, 177, 178, 179, 180, 181, 182, 183, 184, 185, 186, 187, 188, 189, 190, 191, 192, 193, 194, 195, 196, 197, 198, 199, 200] (by decide +kernel) (by decide +kernel)
set_option maxRecDepth 20000 in
theorem gX12_solve_X12_refuse : GoodIn wsX12_solve (wsV RX12 204 RX12 yX12_refuse wsX12_refuse) := goodIn_app (goodIn_of _ (by decide +kernel)) ggX12_solve_X12_refuse
set_option maxRecDepth 20000 in
theorem ggX12_solve_X12_laysRow : GoodIn wsX12_solve wsX12_laysRow := goodIn_r _ [14, 15, 16, 17, 134, 135, 136, 137, 138, 139, 140, 141, 142, 143, 144, 145, 146, 147, 148, 149, 150, 151, 152, 153, 154, 155, 156, 157, 158, 159, 160, 161, 162, 163, 164, 165, 166, 167, 168, 169, 170, 171, 172, 173, 174, 175, 176, 177, 178, 179, 180, 181, 182, 183, 184, 185, 186, 187, 188, 189, 190, 191, 192, 193, 194, 195, 196, 197, 198, 199, 200] (by decide +kernel) (by decide +kernel)
set_option maxRecDepth 20000 in
theorem gX12_solve_X12_laysRow : GoodIn wsX12_solve (wsV RX12 343 RX12 yX12_laysRow wsX12_laysRow) := goodIn_app (goodIn_of _ (by decide +kernel)) ggX12_solve_X12_laysRow
set_option maxRecDepth 20000 in
theorem ggX12_solve_X12_searches : GoodIn wsX12_solve wsX12_searches := goodIn_r _ [21, 22, 23, 24, 25, 26, 16, 27, 28, 29, 30, 4, 31, 32, 33, 34, 35, 36, 37, 15, 38, 39, 40, 41, 42, 43, 44, 45, 46, 47, 48, 49, 50, 51, 52, 53, 54, 55, 56, 57, 58, 59, 60, 61, 62, 63, 64, 65, 66, 67, 68, 69, 70, 71, 72, 73, 74, 75, 76, 77, 78, 79, 80, 81, 82, 83, 84, 85, 86, 87, 88, 89, 90, 91, 92, 93, 94, 95, 96, 97, 98, 99, 100, 101, 102, 103, 104, 105, 106, 107, 108, 109, 110, 111, 112, 113, 114, 115, 116, 117, 118, 119, 120, 134, 135, 136, 137, 138, 139, 140, 141, 142, 143, 144, 145, 146, 147, 148, 149, 150, 151, 152, 153, 154, 155, 156, 157, 158, 159, 160, 161, 162, 163, 164, 165, 166, 167, 168, 169, 170, 171, 172, 173, 174, 175, 176, 177, 178, 179, 180, 181, 182, 183, 184, 185, 186, 187, 188, 189, 190, 191, 192, 193, 194, 195, 196, 197, 198, 199, 200] (by decide +kernel) (by decide +kernel)
set_option maxRecDepth 20000 in
theorem gX12_solve_X12_searches : GoodIn wsX12_solve (wsV RX12 346 RX12 yX12_searches wsX12_searches) := goodIn_app (goodIn_of _ (by decide +kernel)) ggX12_solve_X12_searches
set_option maxRecDepth 20000 in
theorem ggX12_solve_X12_tells : GoodIn wsX12_solve wsX12_tells := goodIn_r _ [124, 22, 125, 126, 23, 127, 24, 128, 129, 115, 134, 135, 136, 137, 138, 139, 140, 141, 142, 143, 144, 145, 146, 147, 148, 149, 150, 151, 152, 153, 154, 155, 156, 157, 158, 159, 160, 161, 162, 163, 164, 165, 166, 167, 168, 169, 170, 171, 172, 173, 174, 175, 176, 177, 178, 179, 180, 181, 182, 183, 184, 185, 186, 187, 188, 189, 190, 191, 192, 193, 194, 195, 196, 197, 198, 199, 200] (by decide +kernel) (by decide +kernel)
set_option maxRecDepth 20000 in
theorem gX12_solve_X12_tells : GoodIn wsX12_solve (wsV RX12 349 RX12 yX12_tells wsX12_tells) := goodIn_app (goodIn_of _ (by decide +kernel)) ggX12_solve_X12_tells
set_option maxRecDepth 20000 in
theorem ggX12_solve_X12_told : GoodIn wsX12_solve wsX12_told := goodIn_r _ [133, 10, 134, 135, 136, 137, 138, 139, 140, 141, 142, 143, 144, 145, 146, 147, 148, 149, 150, 151, 152, 153, 154, 155, 156, 157, 158, 159, 160, 161, 162, 163, 164, 165, 166, 167, 168, 169, 170, 171, 172, 173, 174, 175, 176, 177, 178, 179, 180, 181, 182, 183, 184, 185, 186, 187, 188, 189, 190, 191, 192, 193, 194, 195, 196, 197, 198, 199, 200] (by decide +kernel) (by decide +kernel)
set_option maxRecDepth 20000 in
theorem gX12_solve_X12_told : GoodIn wsX12_solve (wsV RX12 215 RX12 yX12_told wsX12_told) := goodIn_app (goodIn_of _ (by decide +kernel)) ggX12_solve_X12_told
theorem dX12_solve_0 : decode cX12_solve 0 = .ok (.iload_n 1, 1) := by decide +kernel
theorem dX12_solve_1 : decode cX12_solve 1 = .ok (.iconst 0, 1) := by decide +kernel
theorem dX12_solve_2 : decode cX12_solve 2 = .ok (.iconst 4, 1) := by decide +kernel
theorem dX12_solve_3 : decode cX12_solve 3 = .ok (.invokestatic 200, 3) := by decide +kernel
theorem dX12_solve_6 : decode cX12_solve 6 = .ok (.ifCond .ne 9, 3) := by decide +kernel
theorem dX12_solve_9 : decode cX12_solve 9 = .ok (.aload_n 0, 1) := by decide +kernel
theorem dX12_solve_10 : decode cX12_solve 10 = .ok (.iconst 1, 1) := by decide +kernel
theorem dX12_solve_11 : decode cX12_solve 11 = .ok (.invokevirtual 204, 3) := by decide +kernel
theorem dX12_solve_14 : decode cX12_solve 14 = .ok (.ireturn, 1) := by decide +kernel
theorem dX12_solve_15 : decode cX12_solve 15 = .ok (.aload_n 0, 1) := by decide +kernel
theorem dX12_solve_16 : decode cX12_solve 16 = .ok (.invokevirtual 343, 3) := by decide +kernel
theorem dX12_solve_19 : decode cX12_solve 19 = .ok (.aload_n 0, 1) := by decide +kernel
theorem dX12_solve_20 : decode cX12_solve 20 = .ok (.iload_n 1, 1) := by decide +kernel
theorem dX12_solve_21 : decode cX12_solve 21 = .ok (.aload_n 0, 1) := by decide +kernel
theorem dX12_solve_22 : decode cX12_solve 22 = .ok (.getfield 45, 3) := by decide +kernel
theorem dX12_solve_25 : decode cX12_solve 25 = .ok (.invokevirtual 346, 3) := by decide +kernel
theorem dX12_solve_28 : decode cX12_solve 28 = .ok (.istore_n 2, 1) := by decide +kernel
theorem dX12_solve_29 : decode cX12_solve 29 = .ok (.iload_n 2, 1) := by decide +kernel
theorem dX12_solve_30 : decode cX12_solve 30 = .ok (.bipush (-2), 2) := by decide +kernel
theorem dX12_solve_32 : decode cX12_solve 32 = .ok (.if_icmp .ne 9, 3) := by decide +kernel
theorem dX12_solve_35 : decode cX12_solve 35 = .ok (.aload_n 0, 1) := by decide +kernel
theorem dX12_solve_36 : decode cX12_solve 36 = .ok (.iconst 2, 1) := by decide +kernel
theorem dX12_solve_37 : decode cX12_solve 37 = .ok (.invokevirtual 204, 3) := by decide +kernel
theorem dX12_solve_40 : decode cX12_solve 40 = .ok (.ireturn, 1) := by decide +kernel
theorem dX12_solve_41 : decode cX12_solve 41 = .ok (.aload_n 0, 1) := by decide +kernel
theorem dX12_solve_42 : decode cX12_solve 42 = .ok (.invokevirtual 349, 3) := by decide +kernel
theorem dX12_solve_45 : decode cX12_solve 45 = .ok (.aload_n 0, 1) := by decide +kernel
theorem dX12_solve_46 : decode cX12_solve 46 = .ok (.iload_n 2, 1) := by decide +kernel
theorem dX12_solve_47 : decode cX12_solve 47 = .ok (.invokevirtual 215, 3) := by decide +kernel
theorem dX12_solve_50 : decode cX12_solve 50 = .ok (.ireturn, 1) := by decide +kernel
set_option maxRecDepth 20000 in
theorem ggX12_comesTo_X12_estimates : GoodIn wsX12_comesTo wsX12_estimates := goodIn_r _ [13, 14, 15, 16, 12, 17, 18, 19, 20, 21, 22, 23, 24, 25, 26, 27, 28, 29, 30, 31, 32, 33, 34, 35, 36, 37, 38, 39, 40, 41, 8, 42, 43, 44, 45, 46, 47, 48, 49, 50, 51, 52, 53, 58, 59, 60, 61, 62, 63, 64, 65, 66, 67, 68, 69, 70, 71, 72, 73, 74, 75, 76, 77, 78, 79, 80, 81, 82, 83, 84, 85, 86, 87, 88, 89, 90, 91, 92, 93, 94, 95, 96, 97, 98, 99, 100, 101, 102, 103, 104, 105, 106, 107, 108, 109, 110, 111, 112, 113, 114, 115, 116, 117, 118, 119, 120, 121, 122, 123, 124] (by decide +kernel) (by decide +kernel)
set_option maxRecDepth 20000 in
theorem gX12_comesTo_X12_estimates : GoodIn wsX12_comesTo (wsV RX12 302 RX12 yX12_estimates wsX12_estimates) := goodIn_app (goodIn_of _ (by decide +kernel)) ggX12_comesTo_X12_estimates
set_option maxRecDepth 20000 in
theorem ggX12_comesTo_X12_isGoal : GoodIn wsX12_comesTo wsX12_isGoal := goodIn_r _ [57, 18, 19, 20, 58, 59, 60, 61, 62, 63, 64, 65, 66, 67, 68, 69, 70, 71, 72, 73, 74, 75, 76, 77, 78, 79, 80, 81, 82, 83, 84, 85, 86, 87, 88, 89, 90, 91, 92, 93, 94, 95, 96, 97, 98, 99, 100, 101, 102, 103, 104, 105, 106, 107, 108, 109, 110, 111, 112, 113, 114, 115, 116, 117, 118, 119, 120, 121, 122, 123, 124] (by decide +kernel) (by decide +kernel)
set_option maxRecDepth 20000 in
theorem gX12_comesTo_X12_isGoal : GoodIn wsX12_comesTo (wsV RX12 336 RX12 yX12_isGoal wsX12_isGoal) := goodIn_app (goodIn_of _ (by decide +kernel)) ggX12_comesTo_X12_isGoal
theorem dX12_comesTo_0 : decode cX12_comesTo 0 = .ok (.aload_n 0, 1) := by decide +kernel
theorem dX12_comesTo_1 : decode cX12_comesTo 1 = .ok (.getfield 320, 3) := by decide +kernel
theorem dX12_comesTo_4 : decode cX12_comesTo 4 = .ok (.aload_n 0, 1) := by decide +kernel
theorem dX12_comesTo_5 : decode cX12_comesTo 5 = .ok (.getfield 45, 3) := by decide +kernel
theorem dX12_comesTo_8 : decode cX12_comesTo 8 = .ok (.if_icmp .ne 10, 3) := by decide +kernel
theorem dX12_comesTo_11 : decode cX12_comesTo 11 = .ok (.aload_n 0, 1) := by decide +kernel
theorem dX12_comesTo_12 : decode cX12_comesTo 12 = .ok (.iconst 1, 1) := by decide +kernel
theorem dX12_comesTo_13 : decode cX12_comesTo 13 = .ok (.putfield 352, 3) := by decide +kernel
theorem dX12_comesTo_16 : decode cX12_comesTo 16 = .ok (.iconst (-1), 1) := by decide +kernel
theorem dX12_comesTo_17 : decode cX12_comesTo 17 = .ok (.ireturn, 1) := by decide +kernel
theorem dX12_comesTo_18 : decode cX12_comesTo 18 = .ok (.aload_n 0, 1) := by decide +kernel
theorem dX12_comesTo_19 : decode cX12_comesTo 19 = .ok (.dup, 1) := by decide +kernel
theorem dX12_comesTo_20 : decode cX12_comesTo 20 = .ok (.getfield 320, 3) := by decide +kernel
theorem dX12_comesTo_23 : decode cX12_comesTo 23 = .ok (.iconst 1, 1) := by decide +kernel
theorem dX12_comesTo_24 : decode cX12_comesTo 24 = .ok (.iadd, 1) := by decide +kernel
theorem dX12_comesTo_25 : decode cX12_comesTo 25 = .ok (.putfield 320, 3) := by decide +kernel
theorem dX12_comesTo_28 : decode cX12_comesTo 28 = .ok (.iload_n 1, 1) := by decide +kernel
theorem dX12_comesTo_29 : decode cX12_comesTo 29 = .ok (.aload_n 0, 1) := by decide +kernel
theorem dX12_comesTo_30 : decode cX12_comesTo 30 = .ok (.aload_n 0, 1) := by decide +kernel
theorem dX12_comesTo_31 : decode cX12_comesTo 31 = .ok (.getfield 128, 3) := by decide +kernel
theorem dX12_comesTo_34 : decode cX12_comesTo 34 = .ok (.aload_n 0, 1) := by decide +kernel
theorem dX12_comesTo_35 : decode cX12_comesTo 35 = .ok (.getfield 356, 3) := by decide +kernel
theorem dX12_comesTo_38 : decode cX12_comesTo 38 = .ok (.invokevirtual 302, 3) := by decide +kernel
theorem dX12_comesTo_41 : decode cX12_comesTo 41 = .ok (.iadd, 1) := by decide +kernel
theorem dX12_comesTo_42 : decode cX12_comesTo 42 = .ok (.istore_n 2, 1) := by decide +kernel
theorem dX12_comesTo_43 : decode cX12_comesTo 43 = .ok (.iload_n 2, 1) := by decide +kernel
theorem dX12_comesTo_44 : decode cX12_comesTo 44 = .ok (.aload_n 0, 1) := by decide +kernel
theorem dX12_comesTo_45 : decode cX12_comesTo 45 = .ok (.getfield 359, 3) := by decide +kernel
theorem dX12_comesTo_48 : decode cX12_comesTo 48 = .ok (.if_icmp .le 25, 3) := by decide +kernel
theorem dX12_comesTo_51 : decode cX12_comesTo 51 = .ok (.aload_n 0, 1) := by decide +kernel
theorem dX12_comesTo_52 : decode cX12_comesTo 52 = .ok (.iload_n 2, 1) := by decide +kernel
theorem dX12_comesTo_53 : decode cX12_comesTo 53 = .ok (.aload_n 0, 1) := by decide +kernel
theorem dX12_comesTo_54 : decode cX12_comesTo 54 = .ok (.getfield 362, 3) := by decide +kernel
theorem dX12_comesTo_57 : decode cX12_comesTo 57 = .ok (.if_icmp .ge 7, 3) := by decide +kernel
theorem dX12_comesTo_60 : decode cX12_comesTo 60 = .ok (.iload_n 2, 1) := by decide +kernel
theorem dX12_comesTo_61 : decode cX12_comesTo 61 = .ok (.goto 7, 3) := by decide +kernel
theorem dX12_comesTo_64 : decode cX12_comesTo 64 = .ok (.aload_n 0, 1) := by decide +kernel
theorem dX12_comesTo_65 : decode cX12_comesTo 65 = .ok (.getfield 362, 3) := by decide +kernel
theorem dX12_comesTo_68 : decode cX12_comesTo 68 = .ok (.putfield 362, 3) := by decide +kernel
theorem dX12_comesTo_71 : decode cX12_comesTo 71 = .ok (.iconst (-1), 1) := by decide +kernel
theorem dX12_comesTo_72 : decode cX12_comesTo 72 = .ok (.ireturn, 1) := by decide +kernel
theorem dX12_comesTo_73 : decode cX12_comesTo 73 = .ok (.aload_n 0, 1) := by decide +kernel
theorem dX12_comesTo_74 : decode cX12_comesTo 74 = .ok (.aload_n 0, 1) := by decide +kernel
theorem dX12_comesTo_75 : decode cX12_comesTo 75 = .ok (.getfield 128, 3) := by decide +kernel
theorem dX12_comesTo_78 : decode cX12_comesTo 78 = .ok (.invokevirtual 336, 3) := by decide +kernel
theorem dX12_comesTo_81 : decode cX12_comesTo 81 = .ok (.ifCond .eq 7, 3) := by decide +kernel
theorem dX12_comesTo_84 : decode cX12_comesTo 84 = .ok (.iload_n 1, 1) := by decide +kernel
theorem dX12_comesTo_85 : decode cX12_comesTo 85 = .ok (.goto 5, 3) := by decide +kernel
theorem dX12_comesTo_88 : decode cX12_comesTo 88 = .ok (.ldc 199, 2) := by decide +kernel
theorem dX12_comesTo_90 : decode cX12_comesTo 90 = .ok (.ireturn, 1) := by decide +kernel
set_option maxRecDepth 20000 in
theorem ggX12_deepens_X12_comesTo : GoodIn wsX12_deepens wsX12_comesTo := goodIn_r _ [14, 15, 16, 9, 6, 17, 18, 19, 2, 20, 21, 22, 13, 23, 24, 25, 26, 27, 28, 29, 30, 31, 32, 33, 34, 35, 36, 37, 38, 39, 40, 41, 42, 43, 44, 45, 46, 47, 48, 49, 50, 51, 52, 53, 54, 55, 56, 57, 58, 59, 60, 61, 62, 63, 64, 65, 66, 67, 72, 73, 74, 75, 76, 77, 78, 79, 80, 81, 82, 83, 84, 85, 86, 87, 88, 89, 90, 91, 92, 93, 94, 95, 96, 97, 98, 99, 100, 101, 102, 103, 104, 105, 106, 107, 108, 109, 110, 111, 112, 113, 114, 115, 116, 117, 118, 119, 120, 121, 122, 123, 124, 125, 126, 127, 128, 129, 130, 131, 132, 133, 134, 135, 136, 137, 138] (by decide +kernel) (by decide +kernel)
set_option maxRecDepth 20000 in
theorem gX12_deepens_X12_comesTo : GoodIn wsX12_deepens (wsV RX12 365 RX12 yX12_comesTo wsX12_comesTo) := goodIn_app (goodIn_of _ (by decide +kernel)) ggX12_deepens_X12_comesTo
set_option maxRecDepth 20000 in
theorem ggX12_deepens_X12_goes : GoodIn wsX12_deepens wsX12_goes := goodIn_r _ [71, 8, 31, 60, 61, 62, 13, 63, 72, 73, 74, 75, 76, 77, 78, 79, 80, 81, 82, 83, 84, 85, 86, 87, 88, 89, 90, 91, 92, 93, 94, 95, 96, 97, 98, 99, 100, 101, 102, 103, 104, 105, 106, 107, 108, 109, 110, 111, 112, 113, 114, 115, 116, 117, 118, 119, 120, 121, 122, 123, 124, 125, 126, 127, 128, 129, 130, 131, 132, 133, 134, 135, 136, 137, 138] (by decide +kernel) (by decide +kernel)
set_option maxRecDepth 20000 in
theorem gX12_deepens_X12_goes : GoodIn wsX12_deepens (wsV RX12 270 RX12 yX12_goes wsX12_goes) := goodIn_app (goodIn_of _ (by decide +kernel)) ggX12_deepens_X12_goes
set_option maxRecDepth 20000 in
theorem ggX12_deepens_X12_gapIn : GoodIn wsX12_deepens wsX12_gapIn := goodIn_r _ [63] (by decide +kernel) (by decide +kernel)
set_option maxRecDepth 20000 in
theorem gX12_deepens_X12_gapIn : GoodIn wsX12_deepens (wsV RX12 242 RX12 yX12_gapIn wsX12_gapIn) := goodIn_app (goodIn_of _ (by decide +kernel)) ggX12_deepens_X12_gapIn
theorem dX12_deepens_0 : decode cX12_deepens 0 = .ok (.aload_n 0, 1) := by decide +kernel
theorem dX12_deepens_1 : decode cX12_deepens 1 = .ok (.iconst 0, 1) := by decide +kernel
theorem dX12_deepens_2 : decode cX12_deepens 2 = .ok (.putfield 317, 3) := by decide +kernel
theorem dX12_deepens_5 : decode cX12_deepens 5 = .ok (.aload_n 0, 1) := by decide +kernel
theorem dX12_deepens_6 : decode cX12_deepens 6 = .ok (.iconst 0, 1) := by decide +kernel
theorem dX12_deepens_7 : decode cX12_deepens 7 = .ok (.invokevirtual 365, 3) := by decide +kernel
theorem dX12_deepens_10 : decode cX12_deepens 10 = .ok (.istore_n 1, 1) := by decide +kernel
theorem dX12_deepens_11 : decode cX12_deepens 11 = .ok (.iload_n 1, 1) := by decide +kernel
theorem dX12_deepens_12 : decode cX12_deepens 12 = .ok (.ldc 199, 2) := by decide +kernel
theorem dX12_deepens_14 : decode cX12_deepens 14 = .ok (.if_icmp .eq 5, 3) := by decide +kernel
theorem dX12_deepens_17 : decode cX12_deepens 17 = .ok (.iload_n 1, 1) := by decide +kernel
theorem dX12_deepens_18 : decode cX12_deepens 18 = .ok (.ireturn, 1) := by decide +kernel
theorem dX12_deepens_19 : decode cX12_deepens 19 = .ok (.aload_n 0, 1) := by decide +kernel
theorem dX12_deepens_20 : decode cX12_deepens 20 = .ok (.getfield 137, 3) := by decide +kernel
theorem dX12_deepens_23 : decode cX12_deepens 23 = .ok (.iconst 0, 1) := by decide +kernel
theorem dX12_deepens_24 : decode cX12_deepens 24 = .ok (.iconst 0, 1) := by decide +kernel
theorem dX12_deepens_25 : decode cX12_deepens 25 = .ok (.iastore, 1) := by decide +kernel
theorem dX12_deepens_26 : decode cX12_deepens 26 = .ok (.aload_n 0, 1) := by decide +kernel
theorem dX12_deepens_27 : decode cX12_deepens 27 = .ok (.getfield 140, 3) := by decide +kernel
theorem dX12_deepens_30 : decode cX12_deepens 30 = .ok (.iconst 0, 1) := by decide +kernel
theorem dX12_deepens_31 : decode cX12_deepens 31 = .ok (.iconst 0, 1) := by decide +kernel
theorem dX12_deepens_32 : decode cX12_deepens 32 = .ok (.iastore, 1) := by decide +kernel
theorem dX12_deepens_33 : decode cX12_deepens 33 = .ok (.aload_n 0, 1) := by decide +kernel
theorem dX12_deepens_34 : decode cX12_deepens 34 = .ok (.getfield 143, 3) := by decide +kernel
theorem dX12_deepens_37 : decode cX12_deepens 37 = .ok (.iconst 0, 1) := by decide +kernel
theorem dX12_deepens_38 : decode cX12_deepens 38 = .ok (.iconst (-1), 1) := by decide +kernel
theorem dX12_deepens_39 : decode cX12_deepens 39 = .ok (.iastore, 1) := by decide +kernel
theorem dX12_deepens_40 : decode cX12_deepens 40 = .ok (.iconst 0, 1) := by decide +kernel
theorem dX12_deepens_41 : decode cX12_deepens 41 = .ok (.istore_n 2, 1) := by decide +kernel
theorem dX12_deepens_42 : decode cX12_deepens 42 = .ok (.iload_n 2, 1) := by decide +kernel
theorem dX12_deepens_43 : decode cX12_deepens 43 = .ok (.ifCond .lt 206, 3) := by decide +kernel
theorem dX12_deepens_46 : decode cX12_deepens 46 = .ok (.aload_n 0, 1) := by decide +kernel
theorem dX12_deepens_47 : decode cX12_deepens 47 = .ok (.getfield 137, 3) := by decide +kernel
theorem dX12_deepens_50 : decode cX12_deepens 50 = .ok (.iload_n 2, 1) := by decide +kernel
theorem dX12_deepens_51 : decode cX12_deepens 51 = .ok (.iaload, 1) := by decide +kernel
theorem dX12_deepens_52 : decode cX12_deepens 52 = .ok (.istore_n 3, 1) := by decide +kernel
theorem dX12_deepens_53 : decode cX12_deepens 53 = .ok (.iload_n 3, 1) := by decide +kernel
theorem dX12_deepens_54 : decode cX12_deepens 54 = .ok (.iconst 4, 1) := by decide +kernel
theorem dX12_deepens_55 : decode cX12_deepens 55 = .ok (.if_icmp .ne 35, 3) := by decide +kernel
theorem dX12_deepens_58 : decode cX12_deepens 58 = .ok (.iinc 2 (-1), 3) := by decide +kernel
theorem dX12_deepens_61 : decode cX12_deepens 61 = .ok (.iload_n 2, 1) := by decide +kernel
theorem dX12_deepens_62 : decode cX12_deepens 62 = .ok (.ifCond .ge 7, 3) := by decide +kernel
theorem dX12_deepens_65 : decode cX12_deepens 65 = .ok (.iconst (-1), 1) := by decide +kernel
theorem dX12_deepens_66 : decode cX12_deepens 66 = .ok (.goto 19, 3) := by decide +kernel
theorem dX12_deepens_69 : decode cX12_deepens 69 = .ok (.aload_n 0, 1) := by decide +kernel
theorem dX12_deepens_70 : decode cX12_deepens 70 = .ok (.aload_n 0, 1) := by decide +kernel
theorem dX12_deepens_71 : decode cX12_deepens 71 = .ok (.getfield 128, 3) := by decide +kernel
theorem dX12_deepens_74 : decode cX12_deepens 74 = .ok (.iconst 3, 1) := by decide +kernel
theorem dX12_deepens_75 : decode cX12_deepens 75 = .ok (.aload_n 0, 1) := by decide +kernel
theorem dX12_deepens_76 : decode cX12_deepens 76 = .ok (.getfield 134, 3) := by decide +kernel
theorem dX12_deepens_79 : decode cX12_deepens 79 = .ok (.iload_n 2, 1) := by decide +kernel
theorem dX12_deepens_80 : decode cX12_deepens 80 = .ok (.iaload, 1) := by decide +kernel
theorem dX12_deepens_81 : decode cX12_deepens 81 = .ok (.isub, 1) := by decide +kernel
theorem dX12_deepens_82 : decode cX12_deepens 82 = .ok (.invokevirtual 270, 3) := by decide +kernel
theorem dX12_deepens_85 : decode cX12_deepens 85 = .ok (.istore 4, 2) := by decide +kernel
theorem dX12_deepens_87 : decode cX12_deepens 87 = .ok (.goto (-45), 3) := by decide +kernel
theorem dX12_deepens_90 : decode cX12_deepens 90 = .ok (.aload_n 0, 1) := by decide +kernel
theorem dX12_deepens_91 : decode cX12_deepens 91 = .ok (.getfield 137, 3) := by decide +kernel
theorem dX12_deepens_94 : decode cX12_deepens 94 = .ok (.iload_n 2, 1) := by decide +kernel
theorem dX12_deepens_95 : decode cX12_deepens 95 = .ok (.dup2, 1) := by decide +kernel
theorem dX12_deepens_96 : decode cX12_deepens 96 = .ok (.iaload, 1) := by decide +kernel
theorem dX12_deepens_97 : decode cX12_deepens 97 = .ok (.iconst 1, 1) := by decide +kernel
theorem dX12_deepens_98 : decode cX12_deepens 98 = .ok (.iadd, 1) := by decide +kernel
theorem dX12_deepens_99 : decode cX12_deepens 99 = .ok (.iastore, 1) := by decide +kernel
theorem dX12_deepens_100 : decode cX12_deepens 100 = .ok (.aload_n 0, 1) := by decide +kernel
theorem dX12_deepens_101 : decode cX12_deepens 101 = .ok (.aload_n 0, 1) := by decide +kernel
theorem dX12_deepens_102 : decode cX12_deepens 102 = .ok (.getfield 128, 3) := by decide +kernel
theorem dX12_deepens_105 : decode cX12_deepens 105 = .ok (.invokevirtual 242, 3) := by decide +kernel
theorem dX12_deepens_108 : decode cX12_deepens 108 = .ok (.istore 4, 2) := by decide +kernel
theorem dX12_deepens_110 : decode cX12_deepens 110 = .ok (.aload_n 0, 1) := by decide +kernel
theorem dX12_deepens_111 : decode cX12_deepens 111 = .ok (.getfield 16, 3) := by decide +kernel
theorem dX12_deepens_114 : decode cX12_deepens 114 = .ok (.iconst 4, 1) := by decide +kernel
theorem dX12_deepens_115 : decode cX12_deepens 115 = .ok (.iload 4, 2) := by decide +kernel
theorem dX12_deepens_117 : decode cX12_deepens 117 = .ok (.imul, 1) := by decide +kernel
theorem dX12_deepens_118 : decode cX12_deepens 118 = .ok (.iload_n 3, 1) := by decide +kernel
theorem dX12_deepens_119 : decode cX12_deepens 119 = .ok (.iadd, 1) := by decide +kernel
theorem dX12_deepens_120 : decode cX12_deepens 120 = .ok (.iaload, 1) := by decide +kernel
theorem dX12_deepens_121 : decode cX12_deepens 121 = .ok (.istore 5, 2) := by decide +kernel
theorem dX12_deepens_123 : decode cX12_deepens 123 = .ok (.iload 5, 2) := by decide +kernel
theorem dX12_deepens_125 : decode cX12_deepens 125 = .ok (.iconst (-1), 1) := by decide +kernel
theorem dX12_deepens_126 : decode cX12_deepens 126 = .ok (.if_icmp .eq (-84), 3) := by decide +kernel
theorem dX12_deepens_129 : decode cX12_deepens 129 = .ok (.iload 5, 2) := by decide +kernel
theorem dX12_deepens_131 : decode cX12_deepens 131 = .ok (.aload_n 0, 1) := by decide +kernel
theorem dX12_deepens_132 : decode cX12_deepens 132 = .ok (.getfield 143, 3) := by decide +kernel
theorem dX12_deepens_135 : decode cX12_deepens 135 = .ok (.iload_n 2, 1) := by decide +kernel
theorem dX12_deepens_136 : decode cX12_deepens 136 = .ok (.iaload, 1) := by decide +kernel
theorem dX12_deepens_137 : decode cX12_deepens 137 = .ok (.if_icmp .ne 6, 3) := by decide +kernel
theorem dX12_deepens_140 : decode cX12_deepens 140 = .ok (.goto (-98), 3) := by decide +kernel
theorem dX12_deepens_143 : decode cX12_deepens 143 = .ok (.aload_n 0, 1) := by decide +kernel
theorem dX12_deepens_144 : decode cX12_deepens 144 = .ok (.getfield 140, 3) := by decide +kernel
theorem dX12_deepens_147 : decode cX12_deepens 147 = .ok (.iload_n 2, 1) := by decide +kernel
theorem dX12_deepens_148 : decode cX12_deepens 148 = .ok (.iaload, 1) := by decide +kernel
theorem dX12_deepens_149 : decode cX12_deepens 149 = .ok (.aload_n 0, 1) := by decide +kernel
theorem dX12_deepens_150 : decode cX12_deepens 150 = .ok (.aload_n 0, 1) := by decide +kernel
theorem dX12_deepens_151 : decode cX12_deepens 151 = .ok (.getfield 128, 3) := by decide +kernel
theorem dX12_deepens_154 : decode cX12_deepens 154 = .ok (.iload_n 3, 1) := by decide +kernel
theorem dX12_deepens_155 : decode cX12_deepens 155 = .ok (.invokevirtual 270, 3) := by decide +kernel
theorem dX12_deepens_158 : decode cX12_deepens 158 = .ok (.iadd, 1) := by decide +kernel
theorem dX12_deepens_159 : decode cX12_deepens 159 = .ok (.istore 6, 2) := by decide +kernel
theorem dX12_deepens_161 : decode cX12_deepens 161 = .ok (.aload_n 0, 1) := by decide +kernel
theorem dX12_deepens_162 : decode cX12_deepens 162 = .ok (.getfield 134, 3) := by decide +kernel
theorem dX12_deepens_165 : decode cX12_deepens 165 = .ok (.iload_n 2, 1) := by decide +kernel
theorem dX12_deepens_166 : decode cX12_deepens 166 = .ok (.iload_n 3, 1) := by decide +kernel
theorem dX12_deepens_167 : decode cX12_deepens 167 = .ok (.iastore, 1) := by decide +kernel
theorem dX12_deepens_168 : decode cX12_deepens 168 = .ok (.aload_n 0, 1) := by decide +kernel
theorem dX12_deepens_169 : decode cX12_deepens 169 = .ok (.iload 6, 2) := by decide +kernel
theorem dX12_deepens_171 : decode cX12_deepens 171 = .ok (.invokevirtual 365, 3) := by decide +kernel
theorem dX12_deepens_174 : decode cX12_deepens 174 = .ok (.istore_n 1, 1) := by decide +kernel
theorem dX12_deepens_175 : decode cX12_deepens 175 = .ok (.aload_n 0, 1) := by decide +kernel
theorem dX12_deepens_176 : decode cX12_deepens 176 = .ok (.getfield 352, 3) := by decide +kernel
theorem dX12_deepens_179 : decode cX12_deepens 179 = .ok (.ifCond .eq 5, 3) := by decide +kernel
theorem dX12_deepens_182 : decode cX12_deepens 182 = .ok (.iconst (-1), 1) := by decide +kernel
theorem dX12_deepens_183 : decode cX12_deepens 183 = .ok (.ireturn, 1) := by decide +kernel
theorem dX12_deepens_184 : decode cX12_deepens 184 = .ok (.iload_n 1, 1) := by decide +kernel
theorem dX12_deepens_185 : decode cX12_deepens 185 = .ok (.iconst (-1), 1) := by decide +kernel
theorem dX12_deepens_186 : decode cX12_deepens 186 = .ok (.if_icmp .ne 19, 3) := by decide +kernel
theorem dX12_deepens_189 : decode cX12_deepens 189 = .ok (.aload_n 0, 1) := by decide +kernel
theorem dX12_deepens_190 : decode cX12_deepens 190 = .ok (.aload_n 0, 1) := by decide +kernel
theorem dX12_deepens_191 : decode cX12_deepens 191 = .ok (.getfield 128, 3) := by decide +kernel
theorem dX12_deepens_194 : decode cX12_deepens 194 = .ok (.iconst 3, 1) := by decide +kernel
theorem dX12_deepens_195 : decode cX12_deepens 195 = .ok (.iload_n 3, 1) := by decide +kernel
theorem dX12_deepens_196 : decode cX12_deepens 196 = .ok (.isub, 1) := by decide +kernel
theorem dX12_deepens_197 : decode cX12_deepens 197 = .ok (.invokevirtual 270, 3) := by decide +kernel
theorem dX12_deepens_200 : decode cX12_deepens 200 = .ok (.istore 7, 2) := by decide +kernel
theorem dX12_deepens_202 : decode cX12_deepens 202 = .ok (.goto 44, 3) := by decide +kernel
theorem dX12_deepens_205 : decode cX12_deepens 205 = .ok (.iload_n 1, 1) := by decide +kernel
theorem dX12_deepens_206 : decode cX12_deepens 206 = .ok (.ldc 199, 2) := by decide +kernel
theorem dX12_deepens_208 : decode cX12_deepens 208 = .ok (.if_icmp .ge 12, 3) := by decide +kernel
theorem dX12_deepens_211 : decode cX12_deepens 211 = .ok (.aload_n 0, 1) := by decide +kernel
theorem dX12_deepens_212 : decode cX12_deepens 212 = .ok (.iload_n 2, 1) := by decide +kernel
theorem dX12_deepens_213 : decode cX12_deepens 213 = .ok (.iconst 1, 1) := by decide +kernel
theorem dX12_deepens_214 : decode cX12_deepens 214 = .ok (.iadd, 1) := by decide +kernel
theorem dX12_deepens_215 : decode cX12_deepens 215 = .ok (.putfield 317, 3) := by decide +kernel
theorem dX12_deepens_218 : decode cX12_deepens 218 = .ok (.iload_n 1, 1) := by decide +kernel
theorem dX12_deepens_219 : decode cX12_deepens 219 = .ok (.ireturn, 1) := by decide +kernel
theorem dX12_deepens_220 : decode cX12_deepens 220 = .ok (.iinc 2 1, 3) := by decide +kernel
theorem dX12_deepens_223 : decode cX12_deepens 223 = .ok (.aload_n 0, 1) := by decide +kernel
theorem dX12_deepens_224 : decode cX12_deepens 224 = .ok (.getfield 137, 3) := by decide +kernel
theorem dX12_deepens_227 : decode cX12_deepens 227 = .ok (.iload_n 2, 1) := by decide +kernel
theorem dX12_deepens_228 : decode cX12_deepens 228 = .ok (.iconst 0, 1) := by decide +kernel
theorem dX12_deepens_229 : decode cX12_deepens 229 = .ok (.iastore, 1) := by decide +kernel
theorem dX12_deepens_230 : decode cX12_deepens 230 = .ok (.aload_n 0, 1) := by decide +kernel
theorem dX12_deepens_231 : decode cX12_deepens 231 = .ok (.getfield 140, 3) := by decide +kernel
theorem dX12_deepens_234 : decode cX12_deepens 234 = .ok (.iload_n 2, 1) := by decide +kernel
theorem dX12_deepens_235 : decode cX12_deepens 235 = .ok (.iload 6, 2) := by decide +kernel
theorem dX12_deepens_237 : decode cX12_deepens 237 = .ok (.iastore, 1) := by decide +kernel
theorem dX12_deepens_238 : decode cX12_deepens 238 = .ok (.aload_n 0, 1) := by decide +kernel
theorem dX12_deepens_239 : decode cX12_deepens 239 = .ok (.getfield 143, 3) := by decide +kernel
theorem dX12_deepens_242 : decode cX12_deepens 242 = .ok (.iload_n 2, 1) := by decide +kernel
theorem dX12_deepens_243 : decode cX12_deepens 243 = .ok (.iload 4, 2) := by decide +kernel
theorem dX12_deepens_245 : decode cX12_deepens 245 = .ok (.iastore, 1) := by decide +kernel
theorem dX12_deepens_246 : decode cX12_deepens 246 = .ok (.goto (-204), 3) := by decide +kernel
theorem dX12_deepens_249 : decode cX12_deepens 249 = .ok (.iconst (-1), 1) := by decide +kernel
theorem dX12_deepens_250 : decode cX12_deepens 250 = .ok (.ireturn, 1) := by decide +kernel
set_option maxRecDepth 20000 in
theorem ggX12_searchesDeeper_X12_estimates : GoodIn wsX12_searchesDeeper wsX12_estimates := goodIn_r _ [14, 15, 16, 17, 13, 18, 19, 20, 21, 22, 23, 24, 25, 26, 27, 28, 29, 30, 31, 32, 33, 34, 35, 36, 37, 38, 39, 40, 41, 42, 8, 43, 44, 45, 46, 47, 48, 49, 50, 51, 52, 53, 54, 77, 78, 79, 80, 81, 82, 83, 84, 85, 86, 87, 88, 89, 90, 91, 92, 93, 94, 95, 96, 97, 98, 99, 100, 101, 102, 103, 104, 105, 106, 107, 108, 109, 110, 111, 112, 113, 114, 115, 116, 117, 118, 119, 120, 121, 122, 123, 124, 125, 126, 127, 128, 129, 130, 131, 132, 133, 134, 135, 136, 137, 138, 139, 140, 141, 142, 143] (by decide +kernel) (by decide +kernel)
set_option maxRecDepth 20000 in
theorem gX12_searchesDeeper_X12_estimates : GoodIn wsX12_searchesDeeper (wsV RX12 302 RX12 yX12_estimates wsX12_estimates) := goodIn_app (goodIn_of _ (by decide +kernel)) ggX12_searchesDeeper_X12_estimates
set_option maxRecDepth 20000 in
theorem ggX12_searchesDeeper_X12_deepens : GoodIn wsX12_searchesDeeper wsX12_deepens := goodIn_r _ [58, 1, 8, 59, 60, 61, 6, 62, 63, 5, 64, 65, 66, 13, 67, 2, 68, 4, 7, 9, 10, 11, 12, 14, 15, 16, 17, 18, 19, 20, 21, 22, 23, 24, 25, 26, 27, 28, 29, 30, 31, 32, 33, 34, 35, 36, 37, 38, 39, 40, 41, 42, 43, 44, 45, 46, 47, 48, 49, 50, 51, 52, 53, 54, 69, 70, 71, 72, 73, 74, 75, 76, 77, 78, 79, 80, 81, 82, 83, 84, 85, 86, 87, 88, 89, 90, 91, 92, 93, 94, 95, 96, 97, 98, 99, 100, 101, 102, 103, 104, 105, 106, 107, 108, 109, 110, 111, 112, 113, 114, 115, 116, 117, 118, 119, 120, 121, 122, 123, 124, 125, 126, 127, 128, 129, 130, 131, 132, 133, 134, 135, 136, 137, 138, 139, 140, 141, 142, 143] (by decide +kernel) (by decide +kernel)
set_option maxRecDepth 20000 in
theorem gX12_searchesDeeper_X12_deepens : GoodIn wsX12_searchesDeeper (wsV RX12 368 RX12 yX12_deepens wsX12_deepens) := goodIn_app (goodIn_of _ (by decide +kernel)) ggX12_searchesDeeper_X12_deepens
theorem dX12_searchesDeeper_0 : decode cX12_searchesDeeper 0 = .ok (.aload_n 0, 1) := by decide +kernel
theorem dX12_searchesDeeper_1 : decode cX12_searchesDeeper 1 = .ok (.iconst 0, 1) := by decide +kernel
theorem dX12_searchesDeeper_2 : decode cX12_searchesDeeper 2 = .ok (.putfield 317, 3) := by decide +kernel
theorem dX12_searchesDeeper_5 : decode cX12_searchesDeeper 5 = .ok (.aload_n 0, 1) := by decide +kernel
theorem dX12_searchesDeeper_6 : decode cX12_searchesDeeper 6 = .ok (.iconst 0, 1) := by decide +kernel
theorem dX12_searchesDeeper_7 : decode cX12_searchesDeeper 7 = .ok (.putfield 320, 3) := by decide +kernel
theorem dX12_searchesDeeper_10 : decode cX12_searchesDeeper 10 = .ok (.aload_n 0, 1) := by decide +kernel
theorem dX12_searchesDeeper_11 : decode cX12_searchesDeeper 11 = .ok (.iconst 0, 1) := by decide +kernel
theorem dX12_searchesDeeper_12 : decode cX12_searchesDeeper 12 = .ok (.putfield 323, 3) := by decide +kernel
theorem dX12_searchesDeeper_15 : decode cX12_searchesDeeper 15 = .ok (.aload_n 0, 1) := by decide +kernel
theorem dX12_searchesDeeper_16 : decode cX12_searchesDeeper 16 = .ok (.iload_n 1, 1) := by decide +kernel
theorem dX12_searchesDeeper_17 : decode cX12_searchesDeeper 17 = .ok (.putfield 356, 3) := by decide +kernel
theorem dX12_searchesDeeper_20 : decode cX12_searchesDeeper 20 = .ok (.aload_n 0, 1) := by decide +kernel
theorem dX12_searchesDeeper_21 : decode cX12_searchesDeeper 21 = .ok (.iconst 0, 1) := by decide +kernel
theorem dX12_searchesDeeper_22 : decode cX12_searchesDeeper 22 = .ok (.putfield 352, 3) := by decide +kernel
theorem dX12_searchesDeeper_25 : decode cX12_searchesDeeper 25 = .ok (.aload_n 0, 1) := by decide +kernel
theorem dX12_searchesDeeper_26 : decode cX12_searchesDeeper 26 = .ok (.aload_n 0, 1) := by decide +kernel
theorem dX12_searchesDeeper_27 : decode cX12_searchesDeeper 27 = .ok (.aload_n 0, 1) := by decide +kernel
theorem dX12_searchesDeeper_28 : decode cX12_searchesDeeper 28 = .ok (.getfield 128, 3) := by decide +kernel
theorem dX12_searchesDeeper_31 : decode cX12_searchesDeeper 31 = .ok (.iload_n 1, 1) := by decide +kernel
theorem dX12_searchesDeeper_32 : decode cX12_searchesDeeper 32 = .ok (.invokevirtual 302, 3) := by decide +kernel
theorem dX12_searchesDeeper_35 : decode cX12_searchesDeeper 35 = .ok (.putfield 359, 3) := by decide +kernel
theorem dX12_searchesDeeper_38 : decode cX12_searchesDeeper 38 = .ok (.iconst (-1), 1) := by decide +kernel
theorem dX12_searchesDeeper_39 : decode cX12_searchesDeeper 39 = .ok (.istore_n 2, 1) := by decide +kernel
theorem dX12_searchesDeeper_40 : decode cX12_searchesDeeper 40 = .ok (.iconst 1, 1) := by decide +kernel
theorem dX12_searchesDeeper_41 : decode cX12_searchesDeeper 41 = .ok (.istore_n 3, 1) := by decide +kernel
theorem dX12_searchesDeeper_42 : decode cX12_searchesDeeper 42 = .ok (.iload_n 3, 1) := by decide +kernel
theorem dX12_searchesDeeper_43 : decode cX12_searchesDeeper 43 = .ok (.ifCond .eq 65, 3) := by decide +kernel
theorem dX12_searchesDeeper_46 : decode cX12_searchesDeeper 46 = .ok (.aload_n 0, 1) := by decide +kernel
theorem dX12_searchesDeeper_47 : decode cX12_searchesDeeper 47 = .ok (.ldc 199, 2) := by decide +kernel
theorem dX12_searchesDeeper_49 : decode cX12_searchesDeeper 49 = .ok (.putfield 362, 3) := by decide +kernel
theorem dX12_searchesDeeper_52 : decode cX12_searchesDeeper 52 = .ok (.aload_n 0, 1) := by decide +kernel
theorem dX12_searchesDeeper_53 : decode cX12_searchesDeeper 53 = .ok (.dup, 1) := by decide +kernel
theorem dX12_searchesDeeper_54 : decode cX12_searchesDeeper 54 = .ok (.getfield 323, 3) := by decide +kernel
theorem dX12_searchesDeeper_57 : decode cX12_searchesDeeper 57 = .ok (.iconst 1, 1) := by decide +kernel
theorem dX12_searchesDeeper_58 : decode cX12_searchesDeeper 58 = .ok (.iadd, 1) := by decide +kernel
theorem dX12_searchesDeeper_59 : decode cX12_searchesDeeper 59 = .ok (.putfield 323, 3) := by decide +kernel
theorem dX12_searchesDeeper_62 : decode cX12_searchesDeeper 62 = .ok (.aload_n 0, 1) := by decide +kernel
theorem dX12_searchesDeeper_63 : decode cX12_searchesDeeper 63 = .ok (.invokevirtual 368, 3) := by decide +kernel
theorem dX12_searchesDeeper_66 : decode cX12_searchesDeeper 66 = .ok (.istore_n 2, 1) := by decide +kernel
theorem dX12_searchesDeeper_67 : decode cX12_searchesDeeper 67 = .ok (.aload_n 0, 1) := by decide +kernel
theorem dX12_searchesDeeper_68 : decode cX12_searchesDeeper 68 = .ok (.getfield 352, 3) := by decide +kernel
theorem dX12_searchesDeeper_71 : decode cX12_searchesDeeper 71 = .ok (.ifCond .eq 6, 3) := by decide +kernel
theorem dX12_searchesDeeper_74 : decode cX12_searchesDeeper 74 = .ok (.bipush (-2), 2) := by decide +kernel
theorem dX12_searchesDeeper_76 : decode cX12_searchesDeeper 76 = .ok (.ireturn, 1) := by decide +kernel
theorem dX12_searchesDeeper_77 : decode cX12_searchesDeeper 77 = .ok (.iload_n 2, 1) := by decide +kernel
theorem dX12_searchesDeeper_78 : decode cX12_searchesDeeper 78 = .ok (.iconst (-1), 1) := by decide +kernel
theorem dX12_searchesDeeper_79 : decode cX12_searchesDeeper 79 = .ok (.if_icmp .ne 16, 3) := by decide +kernel
theorem dX12_searchesDeeper_82 : decode cX12_searchesDeeper 82 = .ok (.aload_n 0, 1) := by decide +kernel
theorem dX12_searchesDeeper_83 : decode cX12_searchesDeeper 83 = .ok (.getfield 362, 3) := by decide +kernel
theorem dX12_searchesDeeper_86 : decode cX12_searchesDeeper 86 = .ok (.ldc 199, 2) := by decide +kernel
theorem dX12_searchesDeeper_88 : decode cX12_searchesDeeper 88 = .ok (.if_icmp .ge 7, 3) := by decide +kernel
theorem dX12_searchesDeeper_91 : decode cX12_searchesDeeper 91 = .ok (.iconst 1, 1) := by decide +kernel
theorem dX12_searchesDeeper_92 : decode cX12_searchesDeeper 92 = .ok (.goto 4, 3) := by decide +kernel
theorem dX12_searchesDeeper_95 : decode cX12_searchesDeeper 95 = .ok (.iconst 0, 1) := by decide +kernel
theorem dX12_searchesDeeper_96 : decode cX12_searchesDeeper 96 = .ok (.istore_n 3, 1) := by decide +kernel
theorem dX12_searchesDeeper_97 : decode cX12_searchesDeeper 97 = .ok (.aload_n 0, 1) := by decide +kernel
theorem dX12_searchesDeeper_98 : decode cX12_searchesDeeper 98 = .ok (.aload_n 0, 1) := by decide +kernel
theorem dX12_searchesDeeper_99 : decode cX12_searchesDeeper 99 = .ok (.getfield 362, 3) := by decide +kernel
theorem dX12_searchesDeeper_102 : decode cX12_searchesDeeper 102 = .ok (.putfield 359, 3) := by decide +kernel
theorem dX12_searchesDeeper_105 : decode cX12_searchesDeeper 105 = .ok (.goto (-63), 3) := by decide +kernel
theorem dX12_searchesDeeper_108 : decode cX12_searchesDeeper 108 = .ok (.iload_n 2, 1) := by decide +kernel
theorem dX12_searchesDeeper_109 : decode cX12_searchesDeeper 109 = .ok (.ireturn, 1) := by decide +kernel
set_option maxRecDepth 20000 in
theorem ggX12_deepen_X12_in : GoodIn wsX12_deepen wsX12_in := goodIn_r _ [4] (by decide +kernel) (by decide +kernel)
set_option maxRecDepth 20000 in
theorem gX12_deepen_X12_in : GoodIn wsX12_deepen (va_wsS RX12 200 yX12_in wsX12_in) := goodIn_app (goodIn_of _ (by decide +kernel)) ggX12_deepen_X12_in
set_option maxRecDepth 20000 in
theorem ggX12_deepen_X12_refuse : GoodIn wsX12_deepen wsX12_refuse := goodIn_r _ [8, 9, 107, 108, 109, 110, 111, 112, 113, 114, 115, 116, 117, 118, 119, 120, 121, 122, 123, 124, 125, 126, 127, 128, 129, 130, 131, 132, 133, 134, 135, 136, 137, 138, 139, 140, 141, 142, 143, 144, 145, 146, 147, 148, 149, 150, 151, 152, 153, 154, 155, 156, 157, 158, 159, 160, 161, 162, 163, 164, 165, 166, 167, 168, 169, 170, 171, 172, 173] (by decide +kernel) (by decide +kernel)
set_option maxRecDepth 20000 in
theorem gX12_deepen_X12_refuse : GoodIn wsX12_deepen (wsV RX12 204 RX12 yX12_refuse wsX12_refuse) := goodIn_app (goodIn_of _ (by decide +kernel)) ggX12_deepen_X12_refuse
set_option maxRecDepth 20000 in
theorem ggX12_deepen_X12_laysRow : GoodIn wsX12_deepen wsX12_laysRow := goodIn_r _ [13, 14, 15, 16, 107, 108, 109, 110, 111, 112, 113, 114, 115, 116, 117, 118, 119, 120, 121, 122, 123, 124, 125, 126, 127, 128, 129, 130, 131, 132, 133, 134, 135, 136, 137, 138, 139, 140, 141, 142, 143, 144, 145, 146, 147, 148, 149, 150, 151, 152, 153, 154, 155, 156, 157, 158, 159, 160, 161, 162, 163, 164, 165, 166, 167, 168, 169, 170, 171, 172, 173] (by decide +kernel) (by decide +kernel)
set_option maxRecDepth 20000 in
theorem gX12_deepen_X12_laysRow : GoodIn wsX12_deepen (wsV RX12 343 RX12 yX12_laysRow wsX12_laysRow) := goodIn_app (goodIn_of _ (by decide +kernel)) ggX12_deepen_X12_laysRow
set_option maxRecDepth 20000 in
theorem ggX12_deepen_X12_searchesDeeper : GoodIn wsX12_deepen wsX12_searchesDeeper := goodIn_r _ [20, 21, 22, 23, 24, 25, 15, 26, 27, 28, 29, 30, 31, 3, 32, 33, 34, 35, 36, 14, 37, 38, 39, 40, 41, 42, 43, 44, 45, 46, 47, 48, 49, 50, 51, 52, 53, 54, 55, 56, 57, 58, 59, 60, 61, 62, 63, 64, 65, 66, 67, 68, 69, 70, 71, 72, 73, 74, 75, 76, 77, 78, 79, 80, 81, 82, 83, 84, 85, 86, 87, 88, 89, 90, 91, 92, 93, 107, 108, 109, 110, 111, 112, 113, 114, 115, 116, 117, 118, 119, 120, 121, 122, 123, 124, 125, 126, 127, 128, 129, 130, 131, 132, 133, 134, 135, 136, 137, 138, 139, 140, 141, 142, 143, 144, 145, 146, 147, 148, 149, 150, 151, 152, 153, 154, 155, 156, 157, 158, 159, 160, 161, 162, 163, 164, 165, 166, 167, 168, 169, 170, 171, 172, 173] (by decide +kernel) (by decide +kernel)
set_option maxRecDepth 20000 in
theorem gX12_deepen_X12_searchesDeeper : GoodIn wsX12_deepen (wsV RX12 371 RX12 yX12_searchesDeeper wsX12_searchesDeeper) := goodIn_app (goodIn_of _ (by decide +kernel)) ggX12_deepen_X12_searchesDeeper
set_option maxRecDepth 20000 in
theorem ggX12_deepen_X12_tells : GoodIn wsX12_deepen wsX12_tells := goodIn_r _ [97, 21, 98, 99, 22, 100, 23, 101, 102, 79, 107, 108, 109, 110, 111, 112, 113, 114, 115, 116, 117, 118, 119, 120, 121, 122, 123, 124, 125, 126, 127, 128, 129, 130, 131, 132, 133, 134, 135, 136, 137, 138, 139, 140, 141, 142, 143, 144, 145, 146, 147, 148, 149, 150, 151, 152, 153, 154, 155, 156, 157, 158, 159, 160, 161, 162, 163, 164, 165, 166, 167, 168, 169, 170, 171, 172, 173] (by decide +kernel) (by decide +kernel)
set_option maxRecDepth 20000 in
theorem gX12_deepen_X12_tells : GoodIn wsX12_deepen (wsV RX12 349 RX12 yX12_tells wsX12_tells) := goodIn_app (goodIn_of _ (by decide +kernel)) ggX12_deepen_X12_tells
set_option maxRecDepth 20000 in
theorem ggX12_deepen_X12_told : GoodIn wsX12_deepen wsX12_told := goodIn_r _ [106, 9, 107, 108, 109, 110, 111, 112, 113, 114, 115, 116, 117, 118, 119, 120, 121, 122, 123, 124, 125, 126, 127, 128, 129, 130, 131, 132, 133, 134, 135, 136, 137, 138, 139, 140, 141, 142, 143, 144, 145, 146, 147, 148, 149, 150, 151, 152, 153, 154, 155, 156, 157, 158, 159, 160, 161, 162, 163, 164, 165, 166, 167, 168, 169, 170, 171, 172, 173] (by decide +kernel) (by decide +kernel)
set_option maxRecDepth 20000 in
theorem gX12_deepen_X12_told : GoodIn wsX12_deepen (wsV RX12 215 RX12 yX12_told wsX12_told) := goodIn_app (goodIn_of _ (by decide +kernel)) ggX12_deepen_X12_told
theorem dX12_deepen_0 : decode cX12_deepen 0 = .ok (.iload_n 1, 1) := by decide +kernel
theorem dX12_deepen_1 : decode cX12_deepen 1 = .ok (.iconst 0, 1) := by decide +kernel
theorem dX12_deepen_2 : decode cX12_deepen 2 = .ok (.iconst 4, 1) := by decide +kernel
theorem dX12_deepen_3 : decode cX12_deepen 3 = .ok (.invokestatic 200, 3) := by decide +kernel
theorem dX12_deepen_6 : decode cX12_deepen 6 = .ok (.ifCond .ne 9, 3) := by decide +kernel
theorem dX12_deepen_9 : decode cX12_deepen 9 = .ok (.aload_n 0, 1) := by decide +kernel
theorem dX12_deepen_10 : decode cX12_deepen 10 = .ok (.iconst 1, 1) := by decide +kernel
theorem dX12_deepen_11 : decode cX12_deepen 11 = .ok (.invokevirtual 204, 3) := by decide +kernel
theorem dX12_deepen_14 : decode cX12_deepen 14 = .ok (.ireturn, 1) := by decide +kernel
theorem dX12_deepen_15 : decode cX12_deepen 15 = .ok (.aload_n 0, 1) := by decide +kernel
theorem dX12_deepen_16 : decode cX12_deepen 16 = .ok (.invokevirtual 343, 3) := by decide +kernel
theorem dX12_deepen_19 : decode cX12_deepen 19 = .ok (.aload_n 0, 1) := by decide +kernel
theorem dX12_deepen_20 : decode cX12_deepen 20 = .ok (.iload_n 1, 1) := by decide +kernel
theorem dX12_deepen_21 : decode cX12_deepen 21 = .ok (.invokevirtual 371, 3) := by decide +kernel
theorem dX12_deepen_24 : decode cX12_deepen 24 = .ok (.istore_n 2, 1) := by decide +kernel
theorem dX12_deepen_25 : decode cX12_deepen 25 = .ok (.iload_n 2, 1) := by decide +kernel
theorem dX12_deepen_26 : decode cX12_deepen 26 = .ok (.bipush (-2), 2) := by decide +kernel
theorem dX12_deepen_28 : decode cX12_deepen 28 = .ok (.if_icmp .ne 9, 3) := by decide +kernel
theorem dX12_deepen_31 : decode cX12_deepen 31 = .ok (.aload_n 0, 1) := by decide +kernel
theorem dX12_deepen_32 : decode cX12_deepen 32 = .ok (.iconst 2, 1) := by decide +kernel
theorem dX12_deepen_33 : decode cX12_deepen 33 = .ok (.invokevirtual 204, 3) := by decide +kernel
theorem dX12_deepen_36 : decode cX12_deepen 36 = .ok (.ireturn, 1) := by decide +kernel
theorem dX12_deepen_37 : decode cX12_deepen 37 = .ok (.aload_n 0, 1) := by decide +kernel
theorem dX12_deepen_38 : decode cX12_deepen 38 = .ok (.invokevirtual 349, 3) := by decide +kernel
theorem dX12_deepen_41 : decode cX12_deepen 41 = .ok (.aload_n 0, 1) := by decide +kernel
theorem dX12_deepen_42 : decode cX12_deepen 42 = .ok (.iload_n 2, 1) := by decide +kernel
theorem dX12_deepen_43 : decode cX12_deepen 43 = .ok (.invokevirtual 215, 3) := by decide +kernel
theorem dX12_deepen_46 : decode cX12_deepen 46 = .ok (.ireturn, 1) := by decide +kernel
theorem dX12_asked_0 : decode cX12_asked 0 = .ok (.aload_n 0, 1) := by decide +kernel
theorem dX12_asked_1 : decode cX12_asked 1 = .ok (.getfield 146, 3) := by decide +kernel
theorem dX12_asked_4 : decode cX12_asked 4 = .ok (.sipush 4101, 3) := by decide +kernel
theorem dX12_asked_7 : decode cX12_asked 7 = .ok (.iload_n 1, 1) := by decide +kernel
theorem dX12_asked_8 : decode cX12_asked 8 = .ok (.imul, 1) := by decide +kernel
theorem dX12_asked_9 : decode cX12_asked 9 = .ok (.iload_n 2, 1) := by decide +kernel
theorem dX12_asked_10 : decode cX12_asked 10 = .ok (.iadd, 1) := by decide +kernel
theorem dX12_asked_11 : decode cX12_asked 11 = .ok (.iaload, 1) := by decide +kernel
theorem dX12_asked_12 : decode cX12_asked 12 = .ok (.ireturn, 1) := by decide +kernel
set_option maxRecDepth 20000 in
theorem ggX12_findsFrom_X12_finds : GoodIn wsX12_findsFrom wsX12_finds := goodIn_r _ [7, 8, 9, 10, 1, 11, 12, 13, 14, 15, 16, 17, 18, 19, 20, 21, 6, 22, 23, 24, 25, 26, 27, 28, 29, 30, 31, 32, 33, 34, 35, 36, 37, 38, 39, 40, 41, 42, 43, 44, 45, 46, 47, 48, 49, 50, 51, 52, 53, 54, 55, 56, 57, 58, 59, 60, 61, 62, 63, 64, 65, 66, 67, 68, 69, 70, 71, 72, 73, 74, 79, 80, 81, 82, 83, 84, 85, 86, 87, 88, 89, 90, 91, 92, 93, 94, 95, 96, 97, 98, 99, 100, 101, 102, 103, 104, 105, 106, 107, 108, 109, 110, 111, 112, 113, 114, 115, 116, 117, 118, 119, 120, 121, 122, 123, 124, 125, 126, 127, 128, 129, 130, 131, 132, 133, 134, 135, 136, 137, 138, 139, 140, 141, 142, 143, 144, 145] (by decide +kernel) (by decide +kernel)
set_option maxRecDepth 20000 in
theorem gX12_findsFrom_X12_finds : GoodIn wsX12_findsFrom (wsV RX12 326 RX12 yX12_finds wsX12_finds) := goodIn_app (goodIn_of _ (by decide +kernel)) ggX12_findsFrom_X12_finds
set_option maxRecDepth 20000 in
theorem ggX12_findsFrom_X12_asked : GoodIn wsX12_findsFrom wsX12_asked := goodIn_r _ [78, 2, 79, 80, 81, 82, 83, 84, 85, 86, 87, 88, 89, 90, 91, 92, 93, 94, 95, 96, 97, 98, 99, 100, 101, 102, 103, 104, 105, 106, 107, 108, 109, 110, 111, 112, 113, 114, 115, 116, 117, 118, 119, 120, 121, 122, 123, 124, 125, 126, 127, 128, 129, 130, 131, 132, 133, 134, 135, 136, 137, 138, 139, 140, 141, 142, 143, 144, 145] (by decide +kernel) (by decide +kernel)
set_option maxRecDepth 20000 in
theorem gX12_findsFrom_X12_asked : GoodIn wsX12_findsFrom (wsV RX12 374 RX12 yX12_asked wsX12_asked) := goodIn_app (goodIn_of _ (by decide +kernel)) ggX12_findsFrom_X12_asked
theorem dX12_findsFrom_0 : decode cX12_findsFrom 0 = .ok (.aload_n 0, 1) := by decide +kernel
theorem dX12_findsFrom_1 : decode cX12_findsFrom 1 = .ok (.getfield 307, 3) := by decide +kernel
theorem dX12_findsFrom_4 : decode cX12_findsFrom 4 = .ok (.istore_n 3, 1) := by decide +kernel
theorem dX12_findsFrom_5 : decode cX12_findsFrom 5 = .ok (.aload_n 0, 1) := by decide +kernel
theorem dX12_findsFrom_6 : decode cX12_findsFrom 6 = .ok (.iconst 0, 1) := by decide +kernel
theorem dX12_findsFrom_7 : decode cX12_findsFrom 7 = .ok (.iconst (-1), 1) := by decide +kernel
theorem dX12_findsFrom_8 : decode cX12_findsFrom 8 = .ok (.iconst (-1), 1) := by decide +kernel
theorem dX12_findsFrom_9 : decode cX12_findsFrom 9 = .ok (.iconst 0, 1) := by decide +kernel
theorem dX12_findsFrom_10 : decode cX12_findsFrom 10 = .ok (.invokevirtual 326, 3) := by decide +kernel
theorem dX12_findsFrom_13 : decode cX12_findsFrom 13 = .ok (.istore 4, 2) := by decide +kernel
theorem dX12_findsFrom_15 : decode cX12_findsFrom 15 = .ok (.aload_n 0, 1) := by decide +kernel
theorem dX12_findsFrom_16 : decode cX12_findsFrom 16 = .ok (.getfield 307, 3) := by decide +kernel
theorem dX12_findsFrom_19 : decode cX12_findsFrom 19 = .ok (.iload_n 3, 1) := by decide +kernel
theorem dX12_findsFrom_20 : decode cX12_findsFrom 20 = .ok (.if_icmp .le 23, 3) := by decide +kernel
theorem dX12_findsFrom_23 : decode cX12_findsFrom 23 = .ok (.aload_n 0, 1) := by decide +kernel
theorem dX12_findsFrom_24 : decode cX12_findsFrom 24 = .ok (.getfield 146, 3) := by decide +kernel
theorem dX12_findsFrom_27 : decode cX12_findsFrom 27 = .ok (.iload 4, 2) := by decide +kernel
theorem dX12_findsFrom_29 : decode cX12_findsFrom 29 = .ok (.iconst (-1), 1) := by decide +kernel
theorem dX12_findsFrom_30 : decode cX12_findsFrom 30 = .ok (.iastore, 1) := by decide +kernel
theorem dX12_findsFrom_31 : decode cX12_findsFrom 31 = .ok (.aload_n 0, 1) := by decide +kernel
theorem dX12_findsFrom_32 : decode cX12_findsFrom 32 = .ok (.getfield 146, 3) := by decide +kernel
theorem dX12_findsFrom_35 : decode cX12_findsFrom 35 = .ok (.sipush 4101, 3) := by decide +kernel
theorem dX12_findsFrom_38 : decode cX12_findsFrom 38 = .ok (.iload 4, 2) := by decide +kernel
theorem dX12_findsFrom_40 : decode cX12_findsFrom 40 = .ok (.iadd, 1) := by decide +kernel
theorem dX12_findsFrom_41 : decode cX12_findsFrom 41 = .ok (.iconst (-1), 1) := by decide +kernel
theorem dX12_findsFrom_42 : decode cX12_findsFrom 42 = .ok (.iastore, 1) := by decide +kernel
theorem dX12_findsFrom_43 : decode cX12_findsFrom 43 = .ok (.aload_n 0, 1) := by decide +kernel
theorem dX12_findsFrom_44 : decode cX12_findsFrom 44 = .ok (.iload_n 1, 1) := by decide +kernel
theorem dX12_findsFrom_45 : decode cX12_findsFrom 45 = .ok (.iload 4, 2) := by decide +kernel
theorem dX12_findsFrom_47 : decode cX12_findsFrom 47 = .ok (.invokevirtual 374, 3) := by decide +kernel
theorem dX12_findsFrom_50 : decode cX12_findsFrom 50 = .ok (.iconst (-1), 1) := by decide +kernel
theorem dX12_findsFrom_51 : decode cX12_findsFrom 51 = .ok (.if_icmp .eq 5, 3) := by decide +kernel
theorem dX12_findsFrom_54 : decode cX12_findsFrom 54 = .ok (.iconst 0, 1) := by decide +kernel
theorem dX12_findsFrom_55 : decode cX12_findsFrom 55 = .ok (.ireturn, 1) := by decide +kernel
theorem dX12_findsFrom_56 : decode cX12_findsFrom 56 = .ok (.aload_n 0, 1) := by decide +kernel
theorem dX12_findsFrom_57 : decode cX12_findsFrom 57 = .ok (.getfield 146, 3) := by decide +kernel
theorem dX12_findsFrom_60 : decode cX12_findsFrom 60 = .ok (.sipush 4101, 3) := by decide +kernel
theorem dX12_findsFrom_63 : decode cX12_findsFrom 63 = .ok (.iload_n 1, 1) := by decide +kernel
theorem dX12_findsFrom_64 : decode cX12_findsFrom 64 = .ok (.imul, 1) := by decide +kernel
theorem dX12_findsFrom_65 : decode cX12_findsFrom 65 = .ok (.iload 4, 2) := by decide +kernel
theorem dX12_findsFrom_67 : decode cX12_findsFrom 67 = .ok (.iadd, 1) := by decide +kernel
theorem dX12_findsFrom_68 : decode cX12_findsFrom 68 = .ok (.iload_n 2, 1) := by decide +kernel
theorem dX12_findsFrom_69 : decode cX12_findsFrom 69 = .ok (.iastore, 1) := by decide +kernel
theorem dX12_findsFrom_70 : decode cX12_findsFrom 70 = .ok (.iconst 1, 1) := by decide +kernel
theorem dX12_findsFrom_71 : decode cX12_findsFrom 71 = .ok (.ireturn, 1) := by decide +kernel
set_option maxRecDepth 20000 in
theorem ggX12_isMet_X12_asked : GoodIn wsX12_isMet wsX12_asked := goodIn_r _ [6, 7, 8, 9, 10, 11, 12, 13, 14, 15, 16, 17, 18, 19, 20, 21, 22, 23, 24, 25, 26, 27, 28, 29, 30, 31, 32, 33, 34, 35, 36, 37, 38, 39, 40, 41, 42, 43, 44, 45, 46, 47, 48, 49, 50, 51, 52, 53, 54, 55, 56, 57, 58, 59, 60, 61, 62, 63, 64, 65, 66, 67, 68, 69, 70, 71, 72, 73, 74] (by decide +kernel) (by decide +kernel)
set_option maxRecDepth 20000 in
theorem gX12_isMet_X12_asked : GoodIn wsX12_isMet (wsV RX12 374 RX12 yX12_asked wsX12_asked) := goodIn_app (goodIn_of _ (by decide +kernel)) ggX12_isMet_X12_asked
theorem dX12_isMet_0 : decode cX12_isMet 0 = .ok (.iconst 0, 1) := by decide +kernel
theorem dX12_isMet_1 : decode cX12_isMet 1 = .ok (.istore_n 2, 1) := by decide +kernel
theorem dX12_isMet_2 : decode cX12_isMet 2 = .ok (.iload_n 1, 1) := by decide +kernel
theorem dX12_isMet_3 : decode cX12_isMet 3 = .ok (.istore_n 3, 1) := by decide +kernel
theorem dX12_isMet_4 : decode cX12_isMet 4 = .ok (.iload_n 3, 1) := by decide +kernel
theorem dX12_isMet_5 : decode cX12_isMet 5 = .ok (.aload_n 0, 1) := by decide +kernel
theorem dX12_isMet_6 : decode cX12_isMet 6 = .ok (.getfield 307, 3) := by decide +kernel
theorem dX12_isMet_9 : decode cX12_isMet 9 = .ok (.if_icmp .ge 39, 3) := by decide +kernel
theorem dX12_isMet_12 : decode cX12_isMet 12 = .ok (.iload_n 2, 1) := by decide +kernel
theorem dX12_isMet_13 : decode cX12_isMet 13 = .ok (.ifCond .ne 23, 3) := by decide +kernel
theorem dX12_isMet_16 : decode cX12_isMet 16 = .ok (.aload_n 0, 1) := by decide +kernel
theorem dX12_isMet_17 : decode cX12_isMet 17 = .ok (.iconst 0, 1) := by decide +kernel
theorem dX12_isMet_18 : decode cX12_isMet 18 = .ok (.iload_n 3, 1) := by decide +kernel
theorem dX12_isMet_19 : decode cX12_isMet 19 = .ok (.invokevirtual 374, 3) := by decide +kernel
theorem dX12_isMet_22 : decode cX12_isMet 22 = .ok (.iconst (-1), 1) := by decide +kernel
theorem dX12_isMet_23 : decode cX12_isMet 23 = .ok (.if_icmp .eq 17, 3) := by decide +kernel
theorem dX12_isMet_26 : decode cX12_isMet 26 = .ok (.aload_n 0, 1) := by decide +kernel
theorem dX12_isMet_27 : decode cX12_isMet 27 = .ok (.iconst 1, 1) := by decide +kernel
theorem dX12_isMet_28 : decode cX12_isMet 28 = .ok (.iload_n 3, 1) := by decide +kernel
theorem dX12_isMet_29 : decode cX12_isMet 29 = .ok (.invokevirtual 374, 3) := by decide +kernel
theorem dX12_isMet_32 : decode cX12_isMet 32 = .ok (.iconst (-1), 1) := by decide +kernel
theorem dX12_isMet_33 : decode cX12_isMet 33 = .ok (.if_icmp .eq 7, 3) := by decide +kernel
theorem dX12_isMet_36 : decode cX12_isMet 36 = .ok (.iconst 1, 1) := by decide +kernel
theorem dX12_isMet_37 : decode cX12_isMet 37 = .ok (.goto 4, 3) := by decide +kernel
theorem dX12_isMet_40 : decode cX12_isMet 40 = .ok (.iconst 0, 1) := by decide +kernel
theorem dX12_isMet_41 : decode cX12_isMet 41 = .ok (.istore_n 2, 1) := by decide +kernel
theorem dX12_isMet_42 : decode cX12_isMet 42 = .ok (.iinc 3 1, 3) := by decide +kernel
theorem dX12_isMet_45 : decode cX12_isMet 45 = .ok (.goto (-41), 3) := by decide +kernel
theorem dX12_isMet_48 : decode cX12_isMet 48 = .ok (.iload_n 2, 1) := by decide +kernel
theorem dX12_isMet_49 : decode cX12_isMet 49 = .ok (.ireturn, 1) := by decide +kernel
set_option maxRecDepth 20000 in
theorem ggX12_both_X12_isAnyFree : GoodIn wsX12_both wsX12_isAnyFree := goodIn_r _ [13, 1, 14, 127, 128, 129, 130, 131, 132, 133, 134, 135, 136, 137, 138, 139, 140, 141, 142, 143, 144, 145, 146, 147, 148, 149, 150, 151, 152, 153, 154, 155, 156, 157, 158, 159, 160, 161, 162, 163, 164, 165, 166, 167, 168, 169, 170, 171, 172, 173, 174, 175, 176, 177, 178, 179, 180, 181, 182, 183, 184, 185, 186, 187, 188, 189, 190, 191, 192, 193] (by decide +kernel) (by decide +kernel)
set_option maxRecDepth 20000 in
theorem gX12_both_X12_isAnyFree : GoodIn wsX12_both (wsV RX12 295 RX12 yX12_isAnyFree wsX12_isAnyFree) := goodIn_app (goodIn_of _ (by decide +kernel)) ggX12_both_X12_isAnyFree
set_option maxRecDepth 20000 in
theorem ggX12_both_X12_refuse : GoodIn wsX12_both wsX12_refuse := goodIn_r _ [18, 19, 127, 128, 129, 130, 131, 132, 133, 134, 135, 136, 137, 138, 139, 140, 141, 142, 143, 144, 145, 146, 147, 148, 149, 150, 151, 152, 153, 154, 155, 156, 157, 158, 159, 160, 161, 162, 163, 164, 165, 166, 167, 168, 169, 170, 171, 172, 173, 174, 175, 176, 177, 178, 179, 180, 181, 182, 183, 184, 185, 186, 187, 188, 189, 190, 191, 192, 193] (by decide +kernel) (by decide +kernel)
set_option maxRecDepth 20000 in
theorem gX12_both_X12_refuse : GoodIn wsX12_both (wsV RX12 204 RX12 yX12_refuse wsX12_refuse) := goodIn_app (goodIn_of _ (by decide +kernel)) ggX12_both_X12_refuse
set_option maxRecDepth 20000 in
theorem ggX12_both_X12_clearsStates : GoodIn wsX12_both wsX12_clearsStates := goodIn_r _ [23, 5, 24, 127, 128, 129, 130, 131, 132, 133, 134, 135, 136, 137, 138, 139, 140, 141, 142, 143, 144, 145, 146, 147, 148, 149, 150, 151, 152, 153, 154, 155, 156, 157, 158, 159, 160, 161, 162, 163, 164, 165, 166, 167, 168, 169, 170, 171, 172, 173, 174, 175, 176, 177, 178, 179, 180, 181, 182, 183, 184, 185, 186, 187, 188, 189, 190, 191, 192, 193] (by decide +kernel) (by decide +kernel)
set_option maxRecDepth 20000 in
theorem gX12_both_X12_clearsStates : GoodIn wsX12_both (wsV RX12 314 RX12 yX12_clearsStates wsX12_clearsStates) := goodIn_app (goodIn_of _ (by decide +kernel)) ggX12_both_X12_clearsStates
set_option maxRecDepth 20000 in
theorem ggX12_both_X12_laysRow : GoodIn wsX12_both wsX12_laysRow := goodIn_r _ [28, 1, 2, 29, 127, 128, 129, 130, 131, 132, 133, 134, 135, 136, 137, 138, 139, 140, 141, 142, 143, 144, 145, 146, 147, 148, 149, 150, 151, 152, 153, 154, 155, 156, 157, 158, 159, 160, 161, 162, 163, 164, 165, 166, 167, 168, 169, 170, 171, 172, 173, 174, 175, 176, 177, 178, 179, 180, 181, 182, 183, 184, 185, 186, 187, 188, 189, 190, 191, 192, 193] (by decide +kernel) (by decide +kernel)
set_option maxRecDepth 20000 in
theorem gX12_both_X12_laysRow : GoodIn wsX12_both (wsV RX12 343 RX12 yX12_laysRow wsX12_laysRow) := goodIn_app (goodIn_of _ (by decide +kernel)) ggX12_both_X12_laysRow
set_option maxRecDepth 20000 in
theorem ggX12_both_X12_findsFrom : GoodIn wsX12_both wsX12_findsFrom := goodIn_r _ [33, 5, 34, 35, 36, 37, 12, 38, 2, 24, 39, 1, 40, 41, 42, 43, 44, 45, 46, 47, 48, 49, 50, 51, 52, 53, 54, 55, 56, 57, 58, 59, 60, 61, 62, 63, 64, 65, 66, 67, 14, 68, 69, 70, 71, 72, 73, 74, 75, 76, 77, 78, 79, 80, 81, 82, 83, 84, 85, 86, 87, 88, 89, 90, 91, 92, 93, 94, 95, 96, 97, 98, 99, 100, 101, 102, 103, 104, 105, 127, 128, 129, 130, 131, 132, 133, 134, 135, 136, 137, 138, 139, 140, 141, 142, 143, 144, 145, 146, 147, 148, 149, 150, 151, 152, 153, 154, 155, 156, 157, 158, 159, 160, 161, 162, 163, 164, 165, 166, 167, 168, 169, 170, 171, 172, 173, 174, 175, 176, 177, 178, 179, 180, 181, 182, 183, 184, 185, 186, 187, 188, 189, 190, 191, 192, 193] (by decide +kernel) (by decide +kernel)
set_option maxRecDepth 20000 in
theorem gX12_both_X12_findsFrom : GoodIn wsX12_both (wsV RX12 377 RX12 yX12_findsFrom wsX12_findsFrom) := goodIn_app (goodIn_of _ (by decide +kernel)) ggX12_both_X12_findsFrom
set_option maxRecDepth 20000 in
theorem ggX12_both_X12_laysGoal : GoodIn wsX12_both wsX12_laysGoal := goodIn_r _ [109, 1, 3, 68, 127, 128, 129, 130, 131, 132, 133, 134, 135, 136, 137, 138, 139, 140, 141, 142, 143, 144, 145, 146, 147, 148, 149, 150, 151, 152, 153, 154, 155, 156, 157, 158, 159, 160, 161, 162, 163, 164, 165, 166, 167, 168, 169, 170, 171, 172, 173, 174, 175, 176, 177, 178, 179, 180, 181, 182, 183, 184, 185, 186, 187, 188, 189, 190, 191, 192, 193] (by decide +kernel) (by decide +kernel)
set_option maxRecDepth 20000 in
theorem gX12_both_X12_laysGoal : GoodIn wsX12_both (wsV RX12 299 RX12 yX12_laysGoal wsX12_laysGoal) := goodIn_app (goodIn_of _ (by decide +kernel)) ggX12_both_X12_laysGoal
set_option maxRecDepth 20000 in
theorem ggX12_both_X12_isMet : GoodIn wsX12_both wsX12_isMet := goodIn_r _ [113, 5, 102, 103, 104, 12, 105, 34, 127, 128, 129, 130, 131, 132, 133, 134, 135, 136, 137, 138, 139, 140, 141, 142, 143, 144, 145, 146, 147, 148, 149, 150, 151, 152, 153, 154, 155, 156, 157, 158, 159, 160, 161, 162, 163, 164, 165, 166, 167, 168, 169, 170, 171, 172, 173, 174, 175, 176, 177, 178, 179, 180, 181, 182, 183, 184, 185, 186, 187, 188, 189, 190, 191, 192, 193] (by decide +kernel) (by decide +kernel)
set_option maxRecDepth 20000 in
theorem gX12_both_X12_isMet : GoodIn wsX12_both (wsV RX12 380 RX12 yX12_isMet wsX12_isMet) := goodIn_app (goodIn_of _ (by decide +kernel)) ggX12_both_X12_isMet
set_option maxRecDepth 20000 in
theorem ggX12_both_X12_asked : GoodIn wsX12_both wsX12_asked := goodIn_r _ [105, 34, 127, 128, 129, 130, 131, 132, 133, 134, 135, 136, 137, 138, 139, 140, 141, 142, 143, 144, 145, 146, 147, 148, 149, 150, 151, 152, 153, 154, 155, 156, 157, 158, 159, 160, 161, 162, 163, 164, 165, 166, 167, 168, 169, 170, 171, 172, 173, 174, 175, 176, 177, 178, 179, 180, 181, 182, 183, 184, 185, 186, 187, 188, 189, 190, 191, 192, 193] (by decide +kernel) (by decide +kernel)
set_option maxRecDepth 20000 in
theorem gX12_both_X12_asked : GoodIn wsX12_both (wsV RX12 374 RX12 yX12_asked wsX12_asked) := goodIn_app (goodIn_of _ (by decide +kernel)) ggX12_both_X12_asked
set_option maxRecDepth 20000 in
theorem ggX12_both_X12_loads : GoodIn wsX12_both wsX12_loads := goodIn_r _ [117, 1, 2, 40, 127, 128, 129, 130, 131, 132, 133, 134, 135, 136, 137, 138, 139, 140, 141, 142, 143, 144, 145, 146, 147, 148, 149, 150, 151, 152, 153, 154, 155, 156, 157, 158, 159, 160, 161, 162, 163, 164, 165, 166, 167, 168, 169, 170, 171, 172, 173, 174, 175, 176, 177, 178, 179, 180, 181, 182, 183, 184, 185, 186, 187, 188, 189, 190, 191, 192, 193] (by decide +kernel) (by decide +kernel)
set_option maxRecDepth 20000 in
theorem gX12_both_X12_loads : GoodIn wsX12_both (wsV RX12 333 RX12 yX12_loads wsX12_loads) := goodIn_app (goodIn_of _ (by decide +kernel)) ggX12_both_X12_loads
set_option maxRecDepth 20000 in
theorem ggX12_both_X12_goes : GoodIn wsX12_both wsX12_goes := goodIn_r _ [121, 122, 69, 98, 99, 100, 12, 101, 127, 128, 129, 130, 131, 132, 133, 134, 135, 136, 137, 138, 139, 140, 141, 142, 143, 144, 145, 146, 147, 148, 149, 150, 151, 152, 153, 154, 155, 156, 157, 158, 159, 160, 161, 162, 163, 164, 165, 166, 167, 168, 169, 170, 171, 172, 173, 174, 175, 176, 177, 178, 179, 180, 181, 182, 183, 184, 185, 186, 187, 188, 189, 190, 191, 192, 193] (by decide +kernel) (by decide +kernel)
set_option maxRecDepth 20000 in
theorem gX12_both_X12_goes : GoodIn wsX12_both (wsV RX12 270 RX12 yX12_goes wsX12_goes) := goodIn_app (goodIn_of _ (by decide +kernel)) ggX12_both_X12_goes
set_option maxRecDepth 20000 in
theorem ggX12_both_X12_told : GoodIn wsX12_both wsX12_told := goodIn_r _ [126, 19, 127, 128, 129, 130, 131, 132, 133, 134, 135, 136, 137, 138, 139, 140, 141, 142, 143, 144, 145, 146, 147, 148, 149, 150, 151, 152, 153, 154, 155, 156, 157, 158, 159, 160, 161, 162, 163, 164, 165, 166, 167, 168, 169, 170, 171, 172, 173, 174, 175, 176, 177, 178, 179, 180, 181, 182, 183, 184, 185, 186, 187, 188, 189, 190, 191, 192, 193] (by decide +kernel) (by decide +kernel)
set_option maxRecDepth 20000 in
theorem gX12_both_X12_told : GoodIn wsX12_both (wsV RX12 215 RX12 yX12_told wsX12_told) := goodIn_app (goodIn_of _ (by decide +kernel)) ggX12_both_X12_told
theorem dX12_both_0 : decode cX12_both 0 = .ok (.aload_n 0, 1) := by decide +kernel
theorem dX12_both_1 : decode cX12_both 1 = .ok (.invokevirtual 295, 3) := by decide +kernel
theorem dX12_both_4 : decode cX12_both 4 = .ok (.ifCond .eq 9, 3) := by decide +kernel
theorem dX12_both_7 : decode cX12_both 7 = .ok (.aload_n 0, 1) := by decide +kernel
theorem dX12_both_8 : decode cX12_both 8 = .ok (.iconst 1, 1) := by decide +kernel
theorem dX12_both_9 : decode cX12_both 9 = .ok (.invokevirtual 204, 3) := by decide +kernel
theorem dX12_both_12 : decode cX12_both 12 = .ok (.ireturn, 1) := by decide +kernel
theorem dX12_both_13 : decode cX12_both 13 = .ok (.aload_n 0, 1) := by decide +kernel
theorem dX12_both_14 : decode cX12_both 14 = .ok (.invokevirtual 314, 3) := by decide +kernel
theorem dX12_both_17 : decode cX12_both 17 = .ok (.aload_n 0, 1) := by decide +kernel
theorem dX12_both_18 : decode cX12_both 18 = .ok (.invokevirtual 343, 3) := by decide +kernel
theorem dX12_both_21 : decode cX12_both 21 = .ok (.aload_n 0, 1) := by decide +kernel
theorem dX12_both_22 : decode cX12_both 22 = .ok (.iconst 0, 1) := by decide +kernel
theorem dX12_both_23 : decode cX12_both 23 = .ok (.iconst 0, 1) := by decide +kernel
theorem dX12_both_24 : decode cX12_both 24 = .ok (.invokevirtual 377, 3) := by decide +kernel
theorem dX12_both_27 : decode cX12_both 27 = .ok (.ifCond .eq 7, 3) := by decide +kernel
theorem dX12_both_30 : decode cX12_both 30 = .ok (.iconst 1, 1) := by decide +kernel
theorem dX12_both_31 : decode cX12_both 31 = .ok (.goto 4, 3) := by decide +kernel
theorem dX12_both_34 : decode cX12_both 34 = .ok (.iconst 0, 1) := by decide +kernel
theorem dX12_both_35 : decode cX12_both 35 = .ok (.istore_n 1, 1) := by decide +kernel
theorem dX12_both_36 : decode cX12_both 36 = .ok (.aload_n 0, 1) := by decide +kernel
theorem dX12_both_37 : decode cX12_both 37 = .ok (.invokevirtual 299, 3) := by decide +kernel
theorem dX12_both_40 : decode cX12_both 40 = .ok (.iconst 0, 1) := by decide +kernel
theorem dX12_both_41 : decode cX12_both 41 = .ok (.istore_n 2, 1) := by decide +kernel
theorem dX12_both_42 : decode cX12_both 42 = .ok (.iload_n 2, 1) := by decide +kernel
theorem dX12_both_43 : decode cX12_both 43 = .ok (.aload_n 0, 1) := by decide +kernel
theorem dX12_both_44 : decode cX12_both 44 = .ok (.getfield 170, 3) := by decide +kernel
theorem dX12_both_47 : decode cX12_both 47 = .ok (.if_icmp .ge 21, 3) := by decide +kernel
theorem dX12_both_50 : decode cX12_both 50 = .ok (.aload_n 0, 1) := by decide +kernel
theorem dX12_both_51 : decode cX12_both 51 = .ok (.getfield 128, 3) := by decide +kernel
theorem dX12_both_54 : decode cX12_both 54 = .ok (.iload_n 2, 1) := by decide +kernel
theorem dX12_both_55 : decode cX12_both 55 = .ok (.aload_n 0, 1) := by decide +kernel
theorem dX12_both_56 : decode cX12_both 56 = .ok (.getfield 99, 3) := by decide +kernel
theorem dX12_both_59 : decode cX12_both 59 = .ok (.iload_n 2, 1) := by decide +kernel
theorem dX12_both_60 : decode cX12_both 60 = .ok (.iaload, 1) := by decide +kernel
theorem dX12_both_61 : decode cX12_both 61 = .ok (.iastore, 1) := by decide +kernel
theorem dX12_both_62 : decode cX12_both 62 = .ok (.iinc 2 1, 3) := by decide +kernel
theorem dX12_both_65 : decode cX12_both 65 = .ok (.goto (-23), 3) := by decide +kernel
theorem dX12_both_68 : decode cX12_both 68 = .ok (.iload_n 1, 1) := by decide +kernel
theorem dX12_both_69 : decode cX12_both 69 = .ok (.aload_n 0, 1) := by decide +kernel
theorem dX12_both_70 : decode cX12_both 70 = .ok (.iconst 1, 1) := by decide +kernel
theorem dX12_both_71 : decode cX12_both 71 = .ok (.iconst 0, 1) := by decide +kernel
theorem dX12_both_72 : decode cX12_both 72 = .ok (.invokevirtual 377, 3) := by decide +kernel
theorem dX12_both_75 : decode cX12_both 75 = .ok (.ifCond .eq 7, 3) := by decide +kernel
theorem dX12_both_78 : decode cX12_both 78 = .ok (.iconst 1, 1) := by decide +kernel
theorem dX12_both_79 : decode cX12_both 79 = .ok (.goto 4, 3) := by decide +kernel
theorem dX12_both_82 : decode cX12_both 82 = .ok (.iconst 0, 1) := by decide +kernel
theorem dX12_both_83 : decode cX12_both 83 = .ok (.iadd, 1) := by decide +kernel
theorem dX12_both_84 : decode cX12_both 84 = .ok (.istore_n 1, 1) := by decide +kernel
theorem dX12_both_85 : decode cX12_both 85 = .ok (.iload_n 1, 1) := by decide +kernel
theorem dX12_both_86 : decode cX12_both 86 = .ok (.aload_n 0, 1) := by decide +kernel
theorem dX12_both_87 : decode cX12_both 87 = .ok (.getfield 45, 3) := by decide +kernel
theorem dX12_both_90 : decode cX12_both 90 = .ok (.if_icmp .le 9, 3) := by decide +kernel
theorem dX12_both_93 : decode cX12_both 93 = .ok (.aload_n 0, 1) := by decide +kernel
theorem dX12_both_94 : decode cX12_both 94 = .ok (.iconst 1, 1) := by decide +kernel
theorem dX12_both_95 : decode cX12_both 95 = .ok (.invokevirtual 204, 3) := by decide +kernel
theorem dX12_both_98 : decode cX12_both 98 = .ok (.ireturn, 1) := by decide +kernel
theorem dX12_both_99 : decode cX12_both 99 = .ok (.iconst 0, 1) := by decide +kernel
theorem dX12_both_100 : decode cX12_both 100 = .ok (.istore_n 2, 1) := by decide +kernel
theorem dX12_both_101 : decode cX12_both 101 = .ok (.iconst 1, 1) := by decide +kernel
theorem dX12_both_102 : decode cX12_both 102 = .ok (.istore_n 3, 1) := by decide +kernel
theorem dX12_both_103 : decode cX12_both 103 = .ok (.iload_n 3, 1) := by decide +kernel
theorem dX12_both_104 : decode cX12_both 104 = .ok (.ifCond .eq 154, 3) := by decide +kernel
theorem dX12_both_107 : decode cX12_both 107 = .ok (.aload_n 0, 1) := by decide +kernel
theorem dX12_both_108 : decode cX12_both 108 = .ok (.iconst 0, 1) := by decide +kernel
theorem dX12_both_109 : decode cX12_both 109 = .ok (.invokevirtual 380, 3) := by decide +kernel
theorem dX12_both_112 : decode cX12_both 112 = .ok (.ifCond .ne 146, 3) := by decide +kernel
theorem dX12_both_115 : decode cX12_both 115 = .ok (.iload_n 2, 1) := by decide +kernel
theorem dX12_both_116 : decode cX12_both 116 = .ok (.iconst 2, 1) := by decide +kernel
theorem dX12_both_117 : decode cX12_both 117 = .ok (.irem, 1) := by decide +kernel
theorem dX12_both_118 : decode cX12_both 118 = .ok (.istore 4, 2) := by decide +kernel
theorem dX12_both_120 : decode cX12_both 120 = .ok (.iload_n 2, 1) := by decide +kernel
theorem dX12_both_121 : decode cX12_both 121 = .ok (.iconst 2, 1) := by decide +kernel
theorem dX12_both_122 : decode cX12_both 122 = .ok (.idiv, 1) := by decide +kernel
theorem dX12_both_123 : decode cX12_both 123 = .ok (.istore 5, 2) := by decide +kernel
theorem dX12_both_125 : decode cX12_both 125 = .ok (.iload_n 1, 1) := by decide +kernel
theorem dX12_both_126 : decode cX12_both 126 = .ok (.istore 6, 2) := by decide +kernel
theorem dX12_both_128 : decode cX12_both 128 = .ok (.aload_n 0, 1) := by decide +kernel
theorem dX12_both_129 : decode cX12_both 129 = .ok (.getfield 307, 3) := by decide +kernel
theorem dX12_both_132 : decode cX12_both 132 = .ok (.istore 7, 2) := by decide +kernel
theorem dX12_both_134 : decode cX12_both 134 = .ok (.iconst 0, 1) := by decide +kernel
theorem dX12_both_135 : decode cX12_both 135 = .ok (.istore 8, 2) := by decide +kernel
theorem dX12_both_137 : decode cX12_both 137 = .ok (.iload 8, 2) := by decide +kernel
theorem dX12_both_139 : decode cX12_both 139 = .ok (.iload 7, 2) := by decide +kernel
theorem dX12_both_141 : decode cX12_both 141 = .ok (.if_icmp .ge 90, 3) := by decide +kernel
theorem dX12_both_144 : decode cX12_both 144 = .ok (.aload_n 0, 1) := by decide +kernel
theorem dX12_both_145 : decode cX12_both 145 = .ok (.iload 4, 2) := by decide +kernel
theorem dX12_both_147 : decode cX12_both 147 = .ok (.iload 8, 2) := by decide +kernel
theorem dX12_both_149 : decode cX12_both 149 = .ok (.invokevirtual 374, 3) := by decide +kernel
theorem dX12_both_152 : decode cX12_both 152 = .ok (.iload 5, 2) := by decide +kernel
theorem dX12_both_154 : decode cX12_both 154 = .ok (.if_icmp .eq 6, 3) := by decide +kernel
theorem dX12_both_157 : decode cX12_both 157 = .ok (.goto 68, 3) := by decide +kernel
theorem dX12_both_160 : decode cX12_both 160 = .ok (.iconst 0, 1) := by decide +kernel
theorem dX12_both_161 : decode cX12_both 161 = .ok (.istore 9, 2) := by decide +kernel
theorem dX12_both_163 : decode cX12_both 163 = .ok (.iload 9, 2) := by decide +kernel
theorem dX12_both_165 : decode cX12_both 165 = .ok (.iconst 4, 1) := by decide +kernel
theorem dX12_both_166 : decode cX12_both 166 = .ok (.if_icmp .ge 59, 3) := by decide +kernel
theorem dX12_both_169 : decode cX12_both 169 = .ok (.aload_n 0, 1) := by decide +kernel
theorem dX12_both_170 : decode cX12_both 170 = .ok (.iload 8, 2) := by decide +kernel
theorem dX12_both_172 : decode cX12_both 172 = .ok (.invokevirtual 333, 3) := by decide +kernel
theorem dX12_both_175 : decode cX12_both 175 = .ok (.aload_n 0, 1) := by decide +kernel
theorem dX12_both_176 : decode cX12_both 176 = .ok (.aload_n 0, 1) := by decide +kernel
theorem dX12_both_177 : decode cX12_both 177 = .ok (.getfield 128, 3) := by decide +kernel
theorem dX12_both_180 : decode cX12_both 180 = .ok (.iload 9, 2) := by decide +kernel
theorem dX12_both_182 : decode cX12_both 182 = .ok (.invokevirtual 270, 3) := by decide +kernel
theorem dX12_both_185 : decode cX12_both 185 = .ok (.iconst (-1), 1) := by decide +kernel
theorem dX12_both_186 : decode cX12_both 186 = .ok (.if_icmp .eq 19, 3) := by decide +kernel
theorem dX12_both_189 : decode cX12_both 189 = .ok (.aload_n 0, 1) := by decide +kernel
theorem dX12_both_190 : decode cX12_both 190 = .ok (.iload 4, 2) := by decide +kernel
theorem dX12_both_192 : decode cX12_both 192 = .ok (.iload 5, 2) := by decide +kernel
theorem dX12_both_194 : decode cX12_both 194 = .ok (.iconst 1, 1) := by decide +kernel
theorem dX12_both_195 : decode cX12_both 195 = .ok (.iadd, 1) := by decide +kernel
theorem dX12_both_196 : decode cX12_both 196 = .ok (.invokevirtual 377, 3) := by decide +kernel
theorem dX12_both_199 : decode cX12_both 199 = .ok (.ifCond .eq 6, 3) := by decide +kernel
theorem dX12_both_202 : decode cX12_both 202 = .ok (.iinc 1 1, 3) := by decide +kernel
theorem dX12_both_205 : decode cX12_both 205 = .ok (.iload_n 1, 1) := by decide +kernel
theorem dX12_both_206 : decode cX12_both 206 = .ok (.aload_n 0, 1) := by decide +kernel
theorem dX12_both_207 : decode cX12_both 207 = .ok (.getfield 45, 3) := by decide +kernel
theorem dX12_both_210 : decode cX12_both 210 = .ok (.if_icmp .le 9, 3) := by decide +kernel
theorem dX12_both_213 : decode cX12_both 213 = .ok (.aload_n 0, 1) := by decide +kernel
theorem dX12_both_214 : decode cX12_both 214 = .ok (.iconst 1, 1) := by decide +kernel
theorem dX12_both_215 : decode cX12_both 215 = .ok (.invokevirtual 204, 3) := by decide +kernel
theorem dX12_both_218 : decode cX12_both 218 = .ok (.ireturn, 1) := by decide +kernel
theorem dX12_both_219 : decode cX12_both 219 = .ok (.iinc 9 1, 3) := by decide +kernel
theorem dX12_both_222 : decode cX12_both 222 = .ok (.goto (-59), 3) := by decide +kernel
theorem dX12_both_225 : decode cX12_both 225 = .ok (.iinc 8 1, 3) := by decide +kernel
theorem dX12_both_228 : decode cX12_both 228 = .ok (.goto (-91), 3) := by decide +kernel
theorem dX12_both_231 : decode cX12_both 231 = .ok (.iload_n 1, 1) := by decide +kernel
theorem dX12_both_232 : decode cX12_both 232 = .ok (.iload 6, 2) := by decide +kernel
theorem dX12_both_234 : decode cX12_both 234 = .ok (.if_icmp .le 7, 3) := by decide +kernel
theorem dX12_both_237 : decode cX12_both 237 = .ok (.iconst 1, 1) := by decide +kernel
theorem dX12_both_238 : decode cX12_both 238 = .ok (.goto 4, 3) := by decide +kernel
theorem dX12_both_241 : decode cX12_both 241 = .ok (.iconst 0, 1) := by decide +kernel
theorem dX12_both_242 : decode cX12_both 242 = .ok (.istore_n 3, 1) := by decide +kernel
theorem dX12_both_243 : decode cX12_both 243 = .ok (.iload_n 2, 1) := by decide +kernel
theorem dX12_both_244 : decode cX12_both 244 = .ok (.iload_n 3, 1) := by decide +kernel
theorem dX12_both_245 : decode cX12_both 245 = .ok (.ifCond .eq 7, 3) := by decide +kernel
theorem dX12_both_248 : decode cX12_both 248 = .ok (.iconst 1, 1) := by decide +kernel
theorem dX12_both_249 : decode cX12_both 249 = .ok (.goto 4, 3) := by decide +kernel
theorem dX12_both_252 : decode cX12_both 252 = .ok (.iconst 0, 1) := by decide +kernel
theorem dX12_both_253 : decode cX12_both 253 = .ok (.iadd, 1) := by decide +kernel
theorem dX12_both_254 : decode cX12_both 254 = .ok (.istore_n 2, 1) := by decide +kernel
theorem dX12_both_255 : decode cX12_both 255 = .ok (.goto (-152), 3) := by decide +kernel
theorem dX12_both_258 : decode cX12_both 258 = .ok (.aload_n 0, 1) := by decide +kernel
theorem dX12_both_259 : decode cX12_both 259 = .ok (.iload_n 1, 1) := by decide +kernel
theorem dX12_both_260 : decode cX12_both 260 = .ok (.putfield 187, 3) := by decide +kernel
theorem dX12_both_263 : decode cX12_both 263 = .ok (.aload_n 0, 1) := by decide +kernel
theorem dX12_both_264 : decode cX12_both 264 = .ok (.iload_n 2, 1) := by decide +kernel
theorem dX12_both_265 : decode cX12_both 265 = .ok (.putfield 190, 3) := by decide +kernel
theorem dX12_both_268 : decode cX12_both 268 = .ok (.aload_n 0, 1) := by decide +kernel
theorem dX12_both_269 : decode cX12_both 269 = .ok (.iconst 0, 1) := by decide +kernel
theorem dX12_both_270 : decode cX12_both 270 = .ok (.putfield 193, 3) := by decide +kernel
theorem dX12_both_273 : decode cX12_both 273 = .ok (.aload_n 0, 1) := by decide +kernel
theorem dX12_both_274 : decode cX12_both 274 = .ok (.iload_n 3, 1) := by decide +kernel
theorem dX12_both_275 : decode cX12_both 275 = .ok (.ifCond .eq 7, 3) := by decide +kernel
theorem dX12_both_278 : decode cX12_both 278 = .ok (.iload_n 2, 1) := by decide +kernel
theorem dX12_both_279 : decode cX12_both 279 = .ok (.goto 4, 3) := by decide +kernel
theorem dX12_both_282 : decode cX12_both 282 = .ok (.iconst (-1), 1) := by decide +kernel
theorem dX12_both_283 : decode cX12_both 283 = .ok (.invokevirtual 215, 3) := by decide +kernel
theorem dX12_both_286 : decode cX12_both 286 = .ok (.ireturn, 1) := by decide +kernel
set_option maxRecDepth 20000 in
theorem ggX12_searched_X12_told : GoodIn wsX12_searched wsX12_told := goodIn_r _ [8, 9, 14, 15, 16, 17, 18, 19, 20, 21, 22, 23, 24, 25, 26, 27, 28, 29, 30, 31, 32, 33, 34, 35, 36, 37, 38, 39, 40, 41, 42, 43, 44, 45, 46, 47, 48, 49, 50, 51, 52, 53, 54, 55, 56, 57, 58, 59, 60, 61, 62, 63, 64, 65, 66, 67, 68, 69, 70, 71, 72, 73, 74, 75, 76, 77, 78, 79, 80] (by decide +kernel) (by decide +kernel)
set_option maxRecDepth 20000 in
theorem gX12_searched_X12_told : GoodIn wsX12_searched (wsV RX12 215 RX12 yX12_told wsX12_told) := goodIn_app (goodIn_of _ (by decide +kernel)) ggX12_searched_X12_told
set_option maxRecDepth 20000 in
theorem ggX12_searched_X12_refuse : GoodIn wsX12_searched wsX12_refuse := goodIn_r _ [13, 9, 14, 15, 16, 17, 18, 19, 20, 21, 22, 23, 24, 25, 26, 27, 28, 29, 30, 31, 32, 33, 34, 35, 36, 37, 38, 39, 40, 41, 42, 43, 44, 45, 46, 47, 48, 49, 50, 51, 52, 53, 54, 55, 56, 57, 58, 59, 60, 61, 62, 63, 64, 65, 66, 67, 68, 69, 70, 71, 72, 73, 74, 75, 76, 77, 78, 79, 80] (by decide +kernel) (by decide +kernel)
set_option maxRecDepth 20000 in
theorem gX12_searched_X12_refuse : GoodIn wsX12_searched (wsV RX12 204 RX12 yX12_refuse wsX12_refuse) := goodIn_app (goodIn_of _ (by decide +kernel)) ggX12_searched_X12_refuse
theorem dX12_searched_0 : decode cX12_searched 0 = .ok (.iload_n 1, 1) := by decide +kernel
theorem dX12_searched_1 : decode cX12_searched 1 = .ok (.tableswitch 54 0 2 #[27, 36, 45], 27) := by decide +kernel
theorem dX12_searched_28 : decode cX12_searched 28 = .ok (.aload_n 0, 1) := by decide +kernel
theorem dX12_searched_29 : decode cX12_searched 29 = .ok (.aload_n 0, 1) := by decide +kernel
theorem dX12_searched_30 : decode cX12_searched 30 = .ok (.getfield 187, 3) := by decide +kernel
theorem dX12_searched_33 : decode cX12_searched 33 = .ok (.invokevirtual 215, 3) := by decide +kernel
theorem dX12_searched_36 : decode cX12_searched 36 = .ok (.ireturn, 1) := by decide +kernel
theorem dX12_searched_37 : decode cX12_searched 37 = .ok (.aload_n 0, 1) := by decide +kernel
theorem dX12_searched_38 : decode cX12_searched 38 = .ok (.aload_n 0, 1) := by decide +kernel
theorem dX12_searched_39 : decode cX12_searched 39 = .ok (.getfield 190, 3) := by decide +kernel
theorem dX12_searched_42 : decode cX12_searched 42 = .ok (.invokevirtual 215, 3) := by decide +kernel
theorem dX12_searched_45 : decode cX12_searched 45 = .ok (.ireturn, 1) := by decide +kernel
theorem dX12_searched_46 : decode cX12_searched 46 = .ok (.aload_n 0, 1) := by decide +kernel
theorem dX12_searched_47 : decode cX12_searched 47 = .ok (.aload_n 0, 1) := by decide +kernel
theorem dX12_searched_48 : decode cX12_searched 48 = .ok (.getfield 193, 3) := by decide +kernel
theorem dX12_searched_51 : decode cX12_searched 51 = .ok (.invokevirtual 215, 3) := by decide +kernel
theorem dX12_searched_54 : decode cX12_searched 54 = .ok (.ireturn, 1) := by decide +kernel
theorem dX12_searched_55 : decode cX12_searched 55 = .ok (.aload_n 0, 1) := by decide +kernel
theorem dX12_searched_56 : decode cX12_searched 56 = .ok (.iconst 1, 1) := by decide +kernel
theorem dX12_searched_57 : decode cX12_searched 57 = .ok (.invokevirtual 204, 3) := by decide +kernel
theorem dX12_searched_60 : decode cX12_searched 60 = .ok (.ireturn, 1) := by decide +kernel
set_option maxRecDepth 20000 in
theorem ggX12_wayAt_X12_in : GoodIn wsX12_wayAt wsX12_in := goodIn_r _ [6] (by decide +kernel) (by decide +kernel)
set_option maxRecDepth 20000 in
theorem gX12_wayAt_X12_in : GoodIn wsX12_wayAt (va_wsS RX12 200 yX12_in wsX12_in) := goodIn_app (goodIn_of _ (by decide +kernel)) ggX12_wayAt_X12_in
set_option maxRecDepth 20000 in
theorem ggX12_wayAt_X12_told : GoodIn wsX12_wayAt wsX12_told := goodIn_r _ [10, 11, 16, 17, 18, 19, 20, 21, 22, 23, 24, 25, 26, 27, 28, 29, 30, 31, 32, 33, 34, 35, 36, 37, 38, 39, 40, 41, 42, 43, 44, 45, 46, 47, 48, 49, 50, 51, 52, 53, 54, 55, 56, 57, 58, 59, 60, 61, 62, 63, 64, 65, 66, 67, 68, 69, 70, 71, 72, 73, 74, 75, 76, 77, 78, 79, 80, 81, 82] (by decide +kernel) (by decide +kernel)
set_option maxRecDepth 20000 in
theorem gX12_wayAt_X12_told : GoodIn wsX12_wayAt (wsV RX12 215 RX12 yX12_told wsX12_told) := goodIn_app (goodIn_of _ (by decide +kernel)) ggX12_wayAt_X12_told
set_option maxRecDepth 20000 in
theorem ggX12_wayAt_X12_refuse : GoodIn wsX12_wayAt wsX12_refuse := goodIn_r _ [15, 11, 16, 17, 18, 19, 20, 21, 22, 23, 24, 25, 26, 27, 28, 29, 30, 31, 32, 33, 34, 35, 36, 37, 38, 39, 40, 41, 42, 43, 44, 45, 46, 47, 48, 49, 50, 51, 52, 53, 54, 55, 56, 57, 58, 59, 60, 61, 62, 63, 64, 65, 66, 67, 68, 69, 70, 71, 72, 73, 74, 75, 76, 77, 78, 79, 80, 81, 82] (by decide +kernel) (by decide +kernel)
set_option maxRecDepth 20000 in
theorem gX12_wayAt_X12_refuse : GoodIn wsX12_wayAt (wsV RX12 204 RX12 yX12_refuse wsX12_refuse) := goodIn_app (goodIn_of _ (by decide +kernel)) ggX12_wayAt_X12_refuse
theorem dX12_wayAt_0 : decode cX12_wayAt 0 = .ok (.iload_n 1, 1) := by decide +kernel
theorem dX12_wayAt_1 : decode cX12_wayAt 1 = .ok (.iconst 0, 1) := by decide +kernel
theorem dX12_wayAt_2 : decode cX12_wayAt 2 = .ok (.aload_n 0, 1) := by decide +kernel
theorem dX12_wayAt_3 : decode cX12_wayAt 3 = .ok (.getfield 196, 3) := by decide +kernel
theorem dX12_wayAt_6 : decode cX12_wayAt 6 = .ok (.iconst 1, 1) := by decide +kernel
theorem dX12_wayAt_7 : decode cX12_wayAt 7 = .ok (.isub, 1) := by decide +kernel
theorem dX12_wayAt_8 : decode cX12_wayAt 8 = .ok (.invokestatic 200, 3) := by decide +kernel
theorem dX12_wayAt_11 : decode cX12_wayAt 11 = .ok (.ifCond .eq 16, 3) := by decide +kernel
theorem dX12_wayAt_14 : decode cX12_wayAt 14 = .ok (.aload_n 0, 1) := by decide +kernel
theorem dX12_wayAt_15 : decode cX12_wayAt 15 = .ok (.aload_n 0, 1) := by decide +kernel
theorem dX12_wayAt_16 : decode cX12_wayAt 16 = .ok (.getfield 131, 3) := by decide +kernel
theorem dX12_wayAt_19 : decode cX12_wayAt 19 = .ok (.iload_n 1, 1) := by decide +kernel
theorem dX12_wayAt_20 : decode cX12_wayAt 20 = .ok (.iaload, 1) := by decide +kernel
theorem dX12_wayAt_21 : decode cX12_wayAt 21 = .ok (.invokevirtual 215, 3) := by decide +kernel
theorem dX12_wayAt_24 : decode cX12_wayAt 24 = .ok (.goto 8, 3) := by decide +kernel
theorem dX12_wayAt_27 : decode cX12_wayAt 27 = .ok (.aload_n 0, 1) := by decide +kernel
theorem dX12_wayAt_28 : decode cX12_wayAt 28 = .ok (.iconst 1, 1) := by decide +kernel
theorem dX12_wayAt_29 : decode cX12_wayAt 29 = .ok (.invokevirtual 204, 3) := by decide +kernel
theorem dX12_wayAt_32 : decode cX12_wayAt 32 = .ok (.ireturn, 1) := by decide +kernel
set_option maxRecDepth 20000 in
theorem ggX12_hint_X12_laysRow : GoodIn wsX12_hint wsX12_laysRow := goodIn_r _ [6, 7, 1, 8, 121, 122, 123, 124, 125, 126, 127, 128, 129, 130, 131, 132, 133, 134, 135, 136, 137, 138, 139, 140, 141, 142, 143, 144, 145, 146, 147, 148, 149, 150, 151, 152, 153, 154, 155, 156, 157, 158, 159, 160, 161, 162, 163, 164, 165, 166, 167, 168, 169, 170, 171, 172, 173, 174, 175, 176, 177, 178, 179, 180, 181, 182, 183, 184, 185, 186, 187] (by decide +kernel) (by decide +kernel)
set_option maxRecDepth 20000 in
theorem gX12_hint_X12_laysRow : GoodIn wsX12_hint (wsV RX12 343 RX12 yX12_laysRow wsX12_laysRow) := goodIn_app (goodIn_of _ (by decide +kernel)) ggX12_hint_X12_laysRow
set_option maxRecDepth 20000 in
theorem ggX12_hint_X12_isGoal : GoodIn wsX12_hint wsX12_isGoal := goodIn_r _ [12, 7, 13, 14, 121, 122, 123, 124, 125, 126, 127, 128, 129, 130, 131, 132, 133, 134, 135, 136, 137, 138, 139, 140, 141, 142, 143, 144, 145, 146, 147, 148, 149, 150, 151, 152, 153, 154, 155, 156, 157, 158, 159, 160, 161, 162, 163, 164, 165, 166, 167, 168, 169, 170, 171, 172, 173, 174, 175, 176, 177, 178, 179, 180, 181, 182, 183, 184, 185, 186, 187] (by decide +kernel) (by decide +kernel)
set_option maxRecDepth 20000 in
theorem gX12_hint_X12_isGoal : GoodIn wsX12_hint (wsV RX12 336 RX12 yX12_isGoal wsX12_isGoal) := goodIn_app (goodIn_of _ (by decide +kernel)) ggX12_hint_X12_isGoal
set_option maxRecDepth 20000 in
theorem ggX12_hint_X12_told : GoodIn wsX12_hint wsX12_told := goodIn_r _ [18, 19, 121, 122, 123, 124, 125, 126, 127, 128, 129, 130, 131, 132, 133, 134, 135, 136, 137, 138, 139, 140, 141, 142, 143, 144, 145, 146, 147, 148, 149, 150, 151, 152, 153, 154, 155, 156, 157, 158, 159, 160, 161, 162, 163, 164, 165, 166, 167, 168, 169, 170, 171, 172, 173, 174, 175, 176, 177, 178, 179, 180, 181, 182, 183, 184, 185, 186, 187] (by decide +kernel) (by decide +kernel)
set_option maxRecDepth 20000 in
theorem gX12_hint_X12_told : GoodIn wsX12_hint (wsV RX12 215 RX12 yX12_told wsX12_told) := goodIn_app (goodIn_of _ (by decide +kernel)) ggX12_hint_X12_told
set_option maxRecDepth 20000 in
theorem ggX12_hint_X12_searches : GoodIn wsX12_hint wsX12_searches := goodIn_r _ [23, 24, 25, 26, 27, 28, 1, 29, 30, 31, 32, 5, 33, 34, 35, 36, 37, 38, 39, 7, 40, 41, 42, 43, 44, 45, 46, 47, 48, 49, 50, 51, 52, 53, 54, 55, 56, 57, 58, 59, 60, 61, 62, 63, 64, 65, 13, 14, 66, 67, 68, 69, 70, 71, 72, 73, 74, 75, 76, 77, 78, 79, 80, 81, 82, 83, 84, 85, 86, 87, 88, 89, 90, 91, 92, 93, 94, 95, 96, 97, 98, 99, 100, 101, 102, 103, 104, 105, 106, 9, 10, 11, 12, 107, 108, 109, 110, 111, 112, 113, 114, 115, 116, 121, 122, 123, 124, 125, 126, 127, 128, 129, 130, 131, 132, 133, 134, 135, 136, 137, 138, 139, 140, 141, 142, 143, 144, 145, 146, 147, 148, 149, 150, 151, 152, 153, 154, 155, 156, 157, 158, 159, 160, 161, 162, 163, 164, 165, 166, 167, 168, 169, 170, 171, 172, 173, 174, 175, 176, 177, 178, 179, 180, 181, 182, 183, 184, 185, 186, 187] (by decide +kernel) (by decide +kernel)
set_option maxRecDepth 20000 in
theorem gX12_hint_X12_searches : GoodIn wsX12_hint (wsV RX12 346 RX12 yX12_searches wsX12_searches) := goodIn_app (goodIn_of _ (by decide +kernel)) ggX12_hint_X12_searches
set_option maxRecDepth 20000 in
theorem ggX12_hint_X12_refuse : GoodIn wsX12_hint wsX12_refuse := goodIn_r _ [120, 19, 121, 122, 123, 124, 125, 126, 127, 128, 129, 130, 131, 132, 133, 134, 135, 136, 137, 138, 139, 140, 141, 142, 143, 144, 145, 146, 147, 148, 149, 150, 151, 152, 153, 154, 155, 156, 157, 158, 159, 160, 161, 162, 163, 164, 165, 166, 167, 168, 169, 170, 171, 172, 173, 174, 175, 176, 177, 178, 179, 180, 181, 182, 183, 184, 185, 186, 187] (by decide +kernel) (by decide +kernel)
set_option maxRecDepth 20000 in
theorem gX12_hint_X12_refuse : GoodIn wsX12_hint (wsV RX12 204 RX12 yX12_refuse wsX12_refuse) := goodIn_app (goodIn_of _ (by decide +kernel)) ggX12_hint_X12_refuse
set_option maxRecDepth 20000 in
theorem ggX12_hint_X12_goes : GoodIn wsX12_hint wsX12_goes := goodIn_r _ [115, 116, 66, 95, 96, 97, 5, 98, 121, 122, 123, 124, 125, 126, 127, 128, 129, 130, 131, 132, 133, 134, 135, 136, 137, 138, 139, 140, 141, 142, 143, 144, 145, 146, 147, 148, 149, 150, 151, 152, 153, 154, 155, 156, 157, 158, 159, 160, 161, 162, 163, 164, 165, 166, 167, 168, 169, 170, 171, 172, 173, 174, 175, 176, 177, 178, 179, 180, 181, 182, 183, 184, 185, 186, 187] (by decide +kernel) (by decide +kernel)
set_option maxRecDepth 20000 in
theorem gX12_hint_X12_goes : GoodIn wsX12_hint (wsV RX12 270 RX12 yX12_goes wsX12_goes) := goodIn_app (goodIn_of _ (by decide +kernel)) ggX12_hint_X12_goes
theorem dX12_hint_0 : decode cX12_hint 0 = .ok (.aload_n 0, 1) := by decide +kernel
theorem dX12_hint_1 : decode cX12_hint 1 = .ok (.invokevirtual 343, 3) := by decide +kernel
theorem dX12_hint_4 : decode cX12_hint 4 = .ok (.aload_n 0, 1) := by decide +kernel
theorem dX12_hint_5 : decode cX12_hint 5 = .ok (.aload_n 0, 1) := by decide +kernel
theorem dX12_hint_6 : decode cX12_hint 6 = .ok (.getfield 128, 3) := by decide +kernel
theorem dX12_hint_9 : decode cX12_hint 9 = .ok (.invokevirtual 336, 3) := by decide +kernel
theorem dX12_hint_12 : decode cX12_hint 12 = .ok (.ifCond .eq 9, 3) := by decide +kernel
theorem dX12_hint_15 : decode cX12_hint 15 = .ok (.aload_n 0, 1) := by decide +kernel
theorem dX12_hint_16 : decode cX12_hint 16 = .ok (.iconst (-1), 1) := by decide +kernel
theorem dX12_hint_17 : decode cX12_hint 17 = .ok (.invokevirtual 215, 3) := by decide +kernel
theorem dX12_hint_20 : decode cX12_hint 20 = .ok (.ireturn, 1) := by decide +kernel
theorem dX12_hint_21 : decode cX12_hint 21 = .ok (.aload_n 0, 1) := by decide +kernel
theorem dX12_hint_22 : decode cX12_hint 22 = .ok (.iconst 3, 1) := by decide +kernel
theorem dX12_hint_23 : decode cX12_hint 23 = .ok (.bipush 100, 2) := by decide +kernel
theorem dX12_hint_25 : decode cX12_hint 25 = .ok (.invokevirtual 346, 3) := by decide +kernel
theorem dX12_hint_28 : decode cX12_hint 28 = .ok (.istore_n 1, 1) := by decide +kernel
theorem dX12_hint_29 : decode cX12_hint 29 = .ok (.iload_n 1, 1) := by decide +kernel
theorem dX12_hint_30 : decode cX12_hint 30 = .ok (.bipush (-2), 2) := by decide +kernel
theorem dX12_hint_32 : decode cX12_hint 32 = .ok (.if_icmp .ne 9, 3) := by decide +kernel
theorem dX12_hint_35 : decode cX12_hint 35 = .ok (.aload_n 0, 1) := by decide +kernel
theorem dX12_hint_36 : decode cX12_hint 36 = .ok (.iconst 1, 1) := by decide +kernel
theorem dX12_hint_37 : decode cX12_hint 37 = .ok (.invokevirtual 204, 3) := by decide +kernel
theorem dX12_hint_40 : decode cX12_hint 40 = .ok (.ireturn, 1) := by decide +kernel
theorem dX12_hint_41 : decode cX12_hint 41 = .ok (.iload_n 1, 1) := by decide +kernel
theorem dX12_hint_42 : decode cX12_hint 42 = .ok (.iconst (-1), 1) := by decide +kernel
theorem dX12_hint_43 : decode cX12_hint 43 = .ok (.if_icmp .ne 9, 3) := by decide +kernel
theorem dX12_hint_46 : decode cX12_hint 46 = .ok (.aload_n 0, 1) := by decide +kernel
theorem dX12_hint_47 : decode cX12_hint 47 = .ok (.iconst (-1), 1) := by decide +kernel
theorem dX12_hint_48 : decode cX12_hint 48 = .ok (.invokevirtual 215, 3) := by decide +kernel
theorem dX12_hint_51 : decode cX12_hint 51 = .ok (.ireturn, 1) := by decide +kernel
theorem dX12_hint_52 : decode cX12_hint 52 = .ok (.iconst 0, 1) := by decide +kernel
theorem dX12_hint_53 : decode cX12_hint 53 = .ok (.istore_n 2, 1) := by decide +kernel
theorem dX12_hint_54 : decode cX12_hint 54 = .ok (.iload_n 2, 1) := by decide +kernel
theorem dX12_hint_55 : decode cX12_hint 55 = .ok (.iconst 4, 1) := by decide +kernel
theorem dX12_hint_56 : decode cX12_hint 56 = .ok (.if_icmp .ge 73, 3) := by decide +kernel
theorem dX12_hint_59 : decode cX12_hint 59 = .ok (.aload_n 0, 1) := by decide +kernel
theorem dX12_hint_60 : decode cX12_hint 60 = .ok (.invokevirtual 343, 3) := by decide +kernel
theorem dX12_hint_63 : decode cX12_hint 63 = .ok (.aload_n 0, 1) := by decide +kernel
theorem dX12_hint_64 : decode cX12_hint 64 = .ok (.aload_n 0, 1) := by decide +kernel
theorem dX12_hint_65 : decode cX12_hint 65 = .ok (.getfield 128, 3) := by decide +kernel
theorem dX12_hint_68 : decode cX12_hint 68 = .ok (.iload_n 2, 1) := by decide +kernel
theorem dX12_hint_69 : decode cX12_hint 69 = .ok (.invokevirtual 270, 3) := by decide +kernel
theorem dX12_hint_72 : decode cX12_hint 72 = .ok (.istore_n 3, 1) := by decide +kernel
theorem dX12_hint_73 : decode cX12_hint 73 = .ok (.iload_n 3, 1) := by decide +kernel
theorem dX12_hint_74 : decode cX12_hint 74 = .ok (.iconst (-1), 1) := by decide +kernel
theorem dX12_hint_75 : decode cX12_hint 75 = .ok (.if_icmp .ne 7, 3) := by decide +kernel
theorem dX12_hint_78 : decode cX12_hint 78 = .ok (.iconst (-1), 1) := by decide +kernel
theorem dX12_hint_79 : decode cX12_hint 79 = .ok (.goto 10, 3) := by decide +kernel
theorem dX12_hint_82 : decode cX12_hint 82 = .ok (.aload_n 0, 1) := by decide +kernel
theorem dX12_hint_83 : decode cX12_hint 83 = .ok (.iconst 3, 1) := by decide +kernel
theorem dX12_hint_84 : decode cX12_hint 84 = .ok (.bipush 100, 2) := by decide +kernel
theorem dX12_hint_86 : decode cX12_hint 86 = .ok (.invokevirtual 346, 3) := by decide +kernel
theorem dX12_hint_89 : decode cX12_hint 89 = .ok (.istore 4, 2) := by decide +kernel
theorem dX12_hint_91 : decode cX12_hint 91 = .ok (.iload 4, 2) := by decide +kernel
theorem dX12_hint_93 : decode cX12_hint 93 = .ok (.bipush (-2), 2) := by decide +kernel
theorem dX12_hint_95 : decode cX12_hint 95 = .ok (.if_icmp .ne 9, 3) := by decide +kernel
theorem dX12_hint_98 : decode cX12_hint 98 = .ok (.aload_n 0, 1) := by decide +kernel
theorem dX12_hint_99 : decode cX12_hint 99 = .ok (.iconst 1, 1) := by decide +kernel
theorem dX12_hint_100 : decode cX12_hint 100 = .ok (.invokevirtual 204, 3) := by decide +kernel
theorem dX12_hint_103 : decode cX12_hint 103 = .ok (.ireturn, 1) := by decide +kernel
theorem dX12_hint_104 : decode cX12_hint 104 = .ok (.iload_n 3, 1) := by decide +kernel
theorem dX12_hint_105 : decode cX12_hint 105 = .ok (.iconst (-1), 1) := by decide +kernel
theorem dX12_hint_106 : decode cX12_hint 106 = .ok (.if_icmp .eq 17, 3) := by decide +kernel
theorem dX12_hint_109 : decode cX12_hint 109 = .ok (.iload 4, 2) := by decide +kernel
theorem dX12_hint_111 : decode cX12_hint 111 = .ok (.iload_n 3, 1) := by decide +kernel
theorem dX12_hint_112 : decode cX12_hint 112 = .ok (.iadd, 1) := by decide +kernel
theorem dX12_hint_113 : decode cX12_hint 113 = .ok (.iload_n 1, 1) := by decide +kernel
theorem dX12_hint_114 : decode cX12_hint 114 = .ok (.if_icmp .ne 9, 3) := by decide +kernel
theorem dX12_hint_117 : decode cX12_hint 117 = .ok (.aload_n 0, 1) := by decide +kernel
theorem dX12_hint_118 : decode cX12_hint 118 = .ok (.iload_n 2, 1) := by decide +kernel
theorem dX12_hint_119 : decode cX12_hint 119 = .ok (.invokevirtual 215, 3) := by decide +kernel
theorem dX12_hint_122 : decode cX12_hint 122 = .ok (.ireturn, 1) := by decide +kernel
theorem dX12_hint_123 : decode cX12_hint 123 = .ok (.iinc 2 1, 3) := by decide +kernel
theorem dX12_hint_126 : decode cX12_hint 126 = .ok (.goto (-72), 3) := by decide +kernel
theorem dX12_hint_129 : decode cX12_hint 129 = .ok (.aload_n 0, 1) := by decide +kernel
theorem dX12_hint_130 : decode cX12_hint 130 = .ok (.iconst (-1), 1) := by decide +kernel
theorem dX12_hint_131 : decode cX12_hint 131 = .ok (.invokevirtual 215, 3) := by decide +kernel
theorem dX12_hint_134 : decode cX12_hint 134 = .ok (.ireturn, 1) := by decide +kernel
set_option maxRecDepth 20000 in
theorem ggX12_reckons_X12_arrangements : GoodIn wsX12_reckons wsX12_arrangements := goodIn_r _ [11, 12, 42, 43, 44, 45, 46, 47, 48, 49, 50, 51, 52, 53, 54, 55, 56, 57, 58, 59, 60, 61, 62, 63, 64, 65, 66, 67, 68, 69, 70, 71, 72, 73, 74, 75, 76, 77, 78, 79, 80, 81, 82, 83, 84, 85, 86, 87, 88, 89, 90, 91, 92, 93, 94, 95, 96, 97, 98, 99, 100, 101, 102, 103, 104, 105, 106, 107, 108] (by decide +kernel) (by decide +kernel)
set_option maxRecDepth 20000 in
theorem gX12_reckons_X12_arrangements : GoodIn wsX12_reckons (wsV RX12 221 RX12 yX12_arrangements wsX12_arrangements) := goodIn_app (goodIn_of _ (by decide +kernel)) ggX12_reckons_X12_arrangements
set_option maxRecDepth 20000 in
theorem ggX12_reckons_X12_lays : GoodIn wsX12_reckons wsX12_lays := goodIn_r _ [16, 12, 17, 7, 8, 9, 10, 11, 42, 43, 44, 45, 46, 47, 48, 49, 50, 51, 52, 53, 54, 55, 56, 57, 58, 59, 60, 61, 62, 63, 64, 65, 66, 67, 68, 69, 70, 71, 72, 73, 74, 75, 76, 77, 78, 79, 80, 81, 82, 83, 84, 85, 86, 87, 88, 89, 90, 91, 92, 93, 94, 95, 96, 97, 98, 99, 100, 101, 102, 103, 104, 105, 106, 107, 108] (by decide +kernel) (by decide +kernel)
set_option maxRecDepth 20000 in
theorem gX12_reckons_X12_lays : GoodIn wsX12_reckons (wsV RX12 265 RX12 yX12_lays wsX12_lays) := goodIn_app (goodIn_of _ (by decide +kernel)) ggX12_reckons_X12_lays
set_option maxRecDepth 20000 in
theorem ggX12_reckons_X12_isGoal : GoodIn wsX12_reckons wsX12_isGoal := goodIn_r _ [21, 12, 22, 23, 42, 43, 44, 45, 46, 47, 48, 49, 50, 51, 52, 53, 54, 55, 56, 57, 58, 59, 60, 61, 62, 63, 64, 65, 66, 67, 68, 69, 70, 71, 72, 73, 74, 75, 76, 77, 78, 79, 80, 81, 82, 83, 84, 85, 86, 87, 88, 89, 90, 91, 92, 93, 94, 95, 96, 97, 98, 99, 100, 101, 102, 103, 104, 105, 106, 107, 108] (by decide +kernel) (by decide +kernel)
set_option maxRecDepth 20000 in
theorem gX12_reckons_X12_isGoal : GoodIn wsX12_reckons (wsV RX12 336 RX12 yX12_isGoal wsX12_isGoal) := goodIn_app (goodIn_of _ (by decide +kernel)) ggX12_reckons_X12_isGoal
set_option maxRecDepth 20000 in
theorem ggX12_reckons_X12_goes : GoodIn wsX12_reckons wsX12_goes := goodIn_r _ [27, 28, 29, 30, 31, 32, 10, 33, 42, 43, 44, 45, 46, 47, 48, 49, 50, 51, 52, 53, 54, 55, 56, 57, 58, 59, 60, 61, 62, 63, 64, 65, 66, 67, 68, 69, 70, 71, 72, 73, 74, 75, 76, 77, 78, 79, 80, 81, 82, 83, 84, 85, 86, 87, 88, 89, 90, 91, 92, 93, 94, 95, 96, 97, 98, 99, 100, 101, 102, 103, 104, 105, 106, 107, 108] (by decide +kernel) (by decide +kernel)
set_option maxRecDepth 20000 in
theorem gX12_reckons_X12_goes : GoodIn wsX12_reckons (wsV RX12 270 RX12 yX12_goes wsX12_goes) := goodIn_app (goodIn_of _ (by decide +kernel)) ggX12_reckons_X12_goes
set_option maxRecDepth 20000 in
theorem ggX12_reckons_X12_rankOf : GoodIn wsX12_reckons wsX12_rankOf := goodIn_r _ [37, 12, 38, 39, 40, 10, 41, 42, 43, 44, 45, 46, 47, 48, 49, 50, 51, 52, 53, 54, 55, 56, 57, 58, 59, 60, 61, 62, 63, 64, 65, 66, 67, 68, 69, 70, 71, 72, 73, 74, 75, 76, 77, 78, 79, 80, 81, 82, 83, 84, 85, 86, 87, 88, 89, 90, 91, 92, 93, 94, 95, 96, 97, 98, 99, 100, 101, 102, 103, 104, 105, 106, 107, 108] (by decide +kernel) (by decide +kernel)
set_option maxRecDepth 20000 in
theorem gX12_reckons_X12_rankOf : GoodIn wsX12_reckons (wsV RX12 274 RX12 yX12_rankOf wsX12_rankOf) := goodIn_app (goodIn_of _ (by decide +kernel)) ggX12_reckons_X12_rankOf
theorem dX12_reckons_0 : decode cX12_reckons 0 = .ok (.aload_n 0, 1) := by decide +kernel
theorem dX12_reckons_1 : decode cX12_reckons 1 = .ok (.aload_n 0, 1) := by decide +kernel
theorem dX12_reckons_2 : decode cX12_reckons 2 = .ok (.invokevirtual 221, 3) := by decide +kernel
theorem dX12_reckons_5 : decode cX12_reckons 5 = .ok (.l2i, 1) := by decide +kernel
