theorem dX11_lay_11 : decode cX11_lay 11 = .ok (.getfield 112, 3) := by decide +kernel
theorem dX11_lay_14 : decode cX11_lay 14 = .ok (.getfield 116, 3) := by decide +kernel
theorem dX11_lay_17 : decode cX11_lay 17 = .ok (.invokestatic 119, 3) := by decide +kernel
theorem dX11_lay_20 : decode cX11_lay 20 = .ok (.lcmp, 1) := by decide +kernel
theorem dX11_lay_21 : decode cX11_lay 21 = .ok (.ifCond .lt 13, 3) := by decide +kernel
theorem dX11_lay_24 : decode cX11_lay 24 = .ok (.new 101, 3) := by decide +kernel
theorem dX11_lay_27 : decode cX11_lay 27 = .ok (.dup, 1) := by decide +kernel
theorem dX11_lay_28 : decode cX11_lay 28 = .ok (.ldc 123, 2) := by decide +kernel
theorem dX11_lay_30 : decode cX11_lay 30 = .ok (.invokespecial 105, 3) := by decide +kernel
theorem dX11_lay_33 : decode cX11_lay 33 = .ok (.athrow, 1) := by decide +kernel
theorem dX11_lay_34 : decode cX11_lay 34 = .ok (.aload_n 0, 1) := by decide +kernel
theorem dX11_lay_35 : decode cX11_lay 35 = .ok (.getfield 19, 3) := by decide +kernel
theorem dX11_lay_38 : decode cX11_lay 38 = .ok (.lload_n 1, 1) := by decide +kernel
theorem dX11_lay_39 : decode cX11_lay 39 = .ok (.aload_n 0, 1) := by decide +kernel
theorem dX11_lay_40 : decode cX11_lay 40 = .ok (.getfield 12, 3) := by decide +kernel
theorem dX11_lay_43 : decode cX11_lay 43 = .ok (.getfield 112, 3) := by decide +kernel
theorem dX11_lay_46 : decode cX11_lay 46 = .ok (.getfield 116, 3) := by decide +kernel
theorem dX11_lay_49 : decode cX11_lay 49 = .ok (.invokevirtual 125, 3) := by decide +kernel
theorem dX11_lay_52 : decode cX11_lay 52 = .ok (.aload_n 0, 1) := by decide +kernel
theorem dX11_lay_53 : decode cX11_lay 53 = .ok (.invokevirtual 129, 3) := by decide +kernel
theorem dX11_lay_56 : decode cX11_lay 56 = .ok (.aload_n 0, 1) := by decide +kernel
theorem dX11_lay_57 : decode cX11_lay 57 = .ok (.invokevirtual 132, 3) := by decide +kernel
theorem dX11_lay_60 : decode cX11_lay 60 = .ok (.ireturn, 1) := by decide +kernel
set_option maxRecDepth 20000 in
theorem ggX11_mix_X4_exits : GoodIn wsX11_mix wsX4_exits := goodIn_r _ [12, 13, 14, 15, 11, 16, 17, 86, 87, 88, 89, 90, 91, 92, 93, 94, 95, 96] (by decide +kernel) (by decide +kernel)
set_option maxRecDepth 20000 in
theorem gX11_mix_X4_exits : GoodIn wsX11_mix (wsV RX11 140 RX4 yX4_exits wsX4_exits) := goodIn_app (goodIn_of _ (by decide +kernel)) ggX11_mix_X4_exits
set_option maxRecDepth 20000 in
theorem ggX11_mix_X4_exit : GoodIn wsX11_mix wsX4_exit := goodIn_r _ [21, 13, 14, 15, 11, 16, 17, 86, 87, 88, 89, 90, 91, 92, 93, 94, 95, 96] (by decide +kernel) (by decide +kernel)
set_option maxRecDepth 20000 in
theorem gX11_mix_X4_exit : GoodIn wsX11_mix (wsV RX11 145 RX4 yX4_exit wsX4_exit) := goodIn_app (goodIn_of _ (by decide +kernel)) ggX11_mix_X4_exit
set_option maxRecDepth 20000 in
theorem ggX11_mix_X7_shift : GoodIn wsX11_mix wsX7_shift := goodIn_r _ [26, 27, 28, 29, 30, 14, 15, 11, 16, 17, 31, 32, 33, 25, 34, 35, 36, 37, 38, 39, 40, 41, 42, 82, 83, 84, 85, 86, 87, 88, 89, 90, 91, 92, 93, 94, 95, 96] (by decide +kernel) (by decide +kernel)
set_option maxRecDepth 20000 in
theorem gX11_mix_X7_shift : GoodIn wsX11_mix (wsV RX11 149 RX7 yX7_shift wsX7_shift) := goodIn_app (goodIn_of _ (by decide +kernel)) ggX11_mix_X7_shift
set_option maxRecDepth 20000 in
theorem ggX11_mix_X11_forgetMoves : GoodIn wsX11_mix wsX11_forgetMoves := goodIn_r _ [47, 48, 49, 55, 56, 57, 58, 59, 60, 61, 62, 63, 64, 65, 66, 67, 68, 69, 70, 71, 72, 73] (by decide +kernel) (by decide +kernel)
set_option maxRecDepth 20000 in
theorem gX11_mix_X11_forgetMoves : GoodIn wsX11_mix (wsV RX11 129 RX11 yX11_forgetMoves wsX11_forgetMoves) := goodIn_app (goodIn_of _ (by decide +kernel)) ggX11_mix_X11_forgetMoves
set_option maxRecDepth 20000 in
theorem ggX11_mix_X11_gapCell : GoodIn wsX11_mix wsX11_gapCell := goodIn_r _ [53, 3, 4, 54, 5, 6, 55, 56, 57, 58, 59, 60, 61, 62, 63, 64, 65, 66, 67, 68, 69, 70, 71, 72, 73, 74, 75, 76, 77, 78, 79, 80, 81, 86, 87, 88, 89, 90, 91, 92, 93, 94, 95, 96, 82, 83, 84, 85] (by decide +kernel) (by decide +kernel)
set_option maxRecDepth 20000 in
theorem gX11_mix_X11_gapCell : GoodIn wsX11_mix (wsV RX11 132 RX11 yX11_gapCell wsX11_gapCell) := goodIn_app (goodIn_of _ (by decide +kernel)) ggX11_mix_X11_gapCell
theorem dX11_mix_0 : decode cX11_mix 0 = .ok (.iload_n 2, 1) := by decide +kernel
theorem dX11_mix_1 : decode cX11_mix 1 = .ok (.ifCond .lt 10, 3) := by decide +kernel
theorem dX11_mix_4 : decode cX11_mix 4 = .ok (.iload_n 2, 1) := by decide +kernel
theorem dX11_mix_5 : decode cX11_mix 5 = .ok (.sipush 200, 3) := by decide +kernel
theorem dX11_mix_8 : decode cX11_mix 8 = .ok (.if_icmp .le 13, 3) := by decide +kernel
theorem dX11_mix_11 : decode cX11_mix 11 = .ok (.new 101, 3) := by decide +kernel
theorem dX11_mix_14 : decode cX11_mix 14 = .ok (.dup, 1) := by decide +kernel
theorem dX11_mix_15 : decode cX11_mix 15 = .ok (.ldc 135, 2) := by decide +kernel
theorem dX11_mix_17 : decode cX11_mix 17 = .ok (.invokespecial 105, 3) := by decide +kernel
theorem dX11_mix_20 : decode cX11_mix 20 = .ok (.athrow, 1) := by decide +kernel
theorem dX11_mix_21 : decode cX11_mix 21 = .ok (.iload_n 1, 1) := by decide +kernel
theorem dX11_mix_22 : decode cX11_mix 22 = .ok (.istore_n 3, 1) := by decide +kernel
theorem dX11_mix_23 : decode cX11_mix 23 = .ok (.iconst 0, 1) := by decide +kernel
theorem dX11_mix_24 : decode cX11_mix 24 = .ok (.istore 4, 2) := by decide +kernel
theorem dX11_mix_26 : decode cX11_mix 26 = .ok (.iload 4, 2) := by decide +kernel
theorem dX11_mix_28 : decode cX11_mix 28 = .ok (.iload_n 2, 1) := by decide +kernel
theorem dX11_mix_29 : decode cX11_mix 29 = .ok (.if_icmp .ge 89, 3) := by decide +kernel
theorem dX11_mix_32 : decode cX11_mix 32 = .ok (.aload_n 0, 1) := by decide +kernel
theorem dX11_mix_33 : decode cX11_mix 33 = .ok (.getfield 12, 3) := by decide +kernel
theorem dX11_mix_36 : decode cX11_mix 36 = .ok (.getfield 112, 3) := by decide +kernel
theorem dX11_mix_39 : decode cX11_mix 39 = .ok (.aload_n 0, 1) := by decide +kernel
theorem dX11_mix_40 : decode cX11_mix 40 = .ok (.getfield 19, 3) := by decide +kernel
theorem dX11_mix_43 : decode cX11_mix 43 = .ok (.getfield 137, 3) := by decide +kernel
theorem dX11_mix_46 : decode cX11_mix 46 = .ok (.iconst 0, 1) := by decide +kernel
theorem dX11_mix_47 : decode cX11_mix 47 = .ok (.iaload, 1) := by decide +kernel
theorem dX11_mix_48 : decode cX11_mix 48 = .ok (.invokevirtual 140, 3) := by decide +kernel
theorem dX11_mix_51 : decode cX11_mix 51 = .ok (.istore 5, 2) := by decide +kernel
theorem dX11_mix_53 : decode cX11_mix 53 = .ok (.iload 5, 2) := by decide +kernel
theorem dX11_mix_55 : decode cX11_mix 55 = .ok (.iconst 1, 1) := by decide +kernel
theorem dX11_mix_56 : decode cX11_mix 56 = .ok (.if_icmp .ge 6, 3) := by decide +kernel
theorem dX11_mix_59 : decode cX11_mix 59 = .ok (.goto 59, 3) := by decide +kernel
theorem dX11_mix_62 : decode cX11_mix 62 = .ok (.iload_n 3, 1) := by decide +kernel
theorem dX11_mix_63 : decode cX11_mix 63 = .ok (.ldc 144, 2) := by decide +kernel
theorem dX11_mix_65 : decode cX11_mix 65 = .ok (.imul, 1) := by decide +kernel
theorem dX11_mix_66 : decode cX11_mix 66 = .ok (.sipush 12345, 3) := by decide +kernel
theorem dX11_mix_69 : decode cX11_mix 69 = .ok (.iadd, 1) := by decide +kernel
theorem dX11_mix_70 : decode cX11_mix 70 = .ok (.istore_n 3, 1) := by decide +kernel
theorem dX11_mix_71 : decode cX11_mix 71 = .ok (.aload_n 0, 1) := by decide +kernel
theorem dX11_mix_72 : decode cX11_mix 72 = .ok (.getfield 19, 3) := by decide +kernel
theorem dX11_mix_75 : decode cX11_mix 75 = .ok (.aload_n 0, 1) := by decide +kernel
theorem dX11_mix_76 : decode cX11_mix 76 = .ok (.getfield 12, 3) := by decide +kernel
theorem dX11_mix_79 : decode cX11_mix 79 = .ok (.getfield 112, 3) := by decide +kernel
theorem dX11_mix_82 : decode cX11_mix 82 = .ok (.aload_n 0, 1) := by decide +kernel
theorem dX11_mix_83 : decode cX11_mix 83 = .ok (.getfield 12, 3) := by decide +kernel
theorem dX11_mix_86 : decode cX11_mix 86 = .ok (.getfield 112, 3) := by decide +kernel
theorem dX11_mix_89 : decode cX11_mix 89 = .ok (.aload_n 0, 1) := by decide +kernel
theorem dX11_mix_90 : decode cX11_mix 90 = .ok (.getfield 19, 3) := by decide +kernel
theorem dX11_mix_93 : decode cX11_mix 93 = .ok (.getfield 137, 3) := by decide +kernel
theorem dX11_mix_96 : decode cX11_mix 96 = .ok (.iconst 0, 1) := by decide +kernel
theorem dX11_mix_97 : decode cX11_mix 97 = .ok (.iaload, 1) := by decide +kernel
theorem dX11_mix_98 : decode cX11_mix 98 = .ok (.iload_n 3, 1) := by decide +kernel
theorem dX11_mix_99 : decode cX11_mix 99 = .ok (.bipush 16, 2) := by decide +kernel
theorem dX11_mix_101 : decode cX11_mix 101 = .ok (.iushr, 1) := by decide +kernel
theorem dX11_mix_102 : decode cX11_mix 102 = .ok (.iload 5, 2) := by decide +kernel
theorem dX11_mix_104 : decode cX11_mix 104 = .ok (.irem, 1) := by decide +kernel
theorem dX11_mix_105 : decode cX11_mix 105 = .ok (.invokevirtual 145, 3) := by decide +kernel
theorem dX11_mix_108 : decode cX11_mix 108 = .ok (.invokevirtual 149, 3) := by decide +kernel
theorem dX11_mix_111 : decode cX11_mix 111 = .ok (.pop, 1) := by decide +kernel
theorem dX11_mix_112 : decode cX11_mix 112 = .ok (.iinc 4 1, 3) := by decide +kernel
theorem dX11_mix_115 : decode cX11_mix 115 = .ok (.goto (-89), 3) := by decide +kernel
theorem dX11_mix_118 : decode cX11_mix 118 = .ok (.aload_n 0, 1) := by decide +kernel
theorem dX11_mix_119 : decode cX11_mix 119 = .ok (.invokevirtual 129, 3) := by decide +kernel
theorem dX11_mix_122 : decode cX11_mix 122 = .ok (.aload_n 0, 1) := by decide +kernel
theorem dX11_mix_123 : decode cX11_mix 123 = .ok (.invokevirtual 132, 3) := by decide +kernel
theorem dX11_mix_126 : decode cX11_mix 126 = .ok (.ireturn, 1) := by decide +kernel
set_option maxRecDepth 20000 in
theorem ggX11_setGoal_X1_aimAt : GoodIn wsX11_setGoal wsX1_aimAt := goodIn_r _ [8, 9, 10, 11, 12, 13, 14, 15, 16, 80, 81, 82, 83, 84, 85, 86, 87] (by decide +kernel) (by decide +kernel)
set_option maxRecDepth 20000 in
theorem gX11_setGoal_X1_aimAt : GoodIn wsX11_setGoal (wsV RX11 157 RX1 yX1_aimAt wsX1_aimAt) := goodIn_app (goodIn_of _ (by decide +kernel)) ggX11_setGoal_X1_aimAt
set_option maxRecDepth 20000 in
theorem ggX11_setGoal_X11_forgetAim : GoodIn wsX11_setGoal wsX11_forgetAim := goodIn_r _ [21, 1, 22, 23, 24, 25, 26, 27, 28, 29, 30, 31, 32, 33, 34, 53, 54, 55, 56, 57, 58, 59, 60, 61, 62, 63, 64, 65, 66, 67, 68, 69, 70, 71, 72, 73, 74, 75, 76, 77, 78, 79, 88, 89, 90, 91, 92, 93, 94, 95, 96, 97, 98, 99, 100] (by decide +kernel) (by decide +kernel)
set_option maxRecDepth 20000 in
theorem gX11_setGoal_X11_forgetAim : GoodIn wsX11_setGoal (wsV RX11 161 RX11 yX11_forgetAim wsX11_forgetAim) := goodIn_app (goodIn_of _ (by decide +kernel)) ggX11_setGoal_X11_forgetAim
set_option maxRecDepth 20000 in
theorem ggX11_setGoal_X7_toRank : GoodIn wsX11_setGoal wsX7_toRank := goodIn_r _ [39, 40, 41, 42, 43, 44, 38, 45, 46, 47, 48, 49, 50, 51, 52, 80, 81, 82, 83] (by decide +kernel) (by decide +kernel)
set_option maxRecDepth 20000 in
theorem gX11_setGoal_X7_toRank : GoodIn wsX11_setGoal (wsV RX11 164 RX7 yX7_toRank wsX7_toRank) := goodIn_app (goodIn_of _ (by decide +kernel)) ggX11_setGoal_X7_toRank
theorem dX11_setGoal_0 : decode cX11_setGoal 0 = .ok (.aload_n 0, 1) := by decide +kernel
theorem dX11_setGoal_1 : decode cX11_setGoal 1 = .ok (.getfield 12, 3) := by decide +kernel
theorem dX11_setGoal_4 : decode cX11_setGoal 4 = .ok (.getfield 153, 3) := by decide +kernel
theorem dX11_setGoal_7 : decode cX11_setGoal 7 = .ok (.aload_n 0, 1) := by decide +kernel
theorem dX11_setGoal_8 : decode cX11_setGoal 8 = .ok (.getfield 19, 3) := by decide +kernel
theorem dX11_setGoal_11 : decode cX11_setGoal 11 = .ok (.invokevirtual 157, 3) := by decide +kernel
theorem dX11_setGoal_14 : decode cX11_setGoal 14 = .ok (.aload_n 0, 1) := by decide +kernel
theorem dX11_setGoal_15 : decode cX11_setGoal 15 = .ok (.invokevirtual 161, 3) := by decide +kernel
theorem dX11_setGoal_18 : decode cX11_setGoal 18 = .ok (.aload_n 0, 1) := by decide +kernel
theorem dX11_setGoal_19 : decode cX11_setGoal 19 = .ok (.getfield 19, 3) := by decide +kernel
theorem dX11_setGoal_22 : decode cX11_setGoal 22 = .ok (.invokevirtual 164, 3) := by decide +kernel
theorem dX11_setGoal_25 : decode cX11_setGoal 25 = .ok (.lreturn, 1) := by decide +kernel
set_option maxRecDepth 20000 in
theorem ggX11_setFree_X11_tiles : GoodIn wsX11_setFree wsX11_tiles := goodIn_r _ [9, 3, 10, 11, 39, 40, 41, 42, 43, 44, 45, 46, 47, 48, 49, 50, 51, 52, 53, 54, 55, 56, 57, 58, 59, 60, 61, 62, 63, 64, 65, 66, 67, 68, 69, 70, 71, 72, 73, 74, 75, 76] (by decide +kernel) (by decide +kernel)
set_option maxRecDepth 20000 in
theorem gX11_setFree_X11_tiles : GoodIn wsX11_setFree (wsV RX11 108 RX11 yX11_tiles wsX11_tiles) := goodIn_app (goodIn_of _ (by decide +kernel)) ggX11_setFree_X11_tiles
set_option maxRecDepth 20000 in
theorem ggX11_setFree_X1_frees : GoodIn wsX11_setFree wsX1_frees := goodIn_r _ [16, 17, 77, 78, 79, 80] (by decide +kernel) (by decide +kernel)
set_option maxRecDepth 20000 in
theorem gX11_setFree_X1_frees : GoodIn wsX11_setFree (wsV RX11 173 RX1 yX1_frees wsX1_frees) := goodIn_app (goodIn_of _ (by decide +kernel)) ggX11_setFree_X1_frees
set_option maxRecDepth 20000 in
theorem ggX11_setFree_X1_makeFree : GoodIn wsX11_setFree wsX1_makeFree := goodIn_r _ [21, 17, 77, 78, 79, 80] (by decide +kernel) (by decide +kernel)
set_option maxRecDepth 20000 in
theorem gX11_setFree_X1_makeFree : GoodIn wsX11_setFree (wsV RX11 177 RX1 yX1_makeFree wsX1_makeFree) := goodIn_app (goodIn_of _ (by decide +kernel)) ggX11_setFree_X1_makeFree
set_option maxRecDepth 20000 in
theorem ggX11_setFree_X11_forgetAim : GoodIn wsX11_setFree wsX11_forgetAim := goodIn_r _ [25, 3, 26, 27, 28, 29, 30, 31, 32, 33, 34, 35, 36, 37, 38, 39, 40, 41, 42, 43, 44, 45, 46, 47, 48, 49, 50, 51, 52, 53, 54, 55, 56, 57, 58, 59, 60, 61, 62, 63, 64, 65, 81, 82, 83, 84, 85, 86, 87, 88, 89, 90, 91, 92, 93] (by decide +kernel) (by decide +kernel)
set_option maxRecDepth 20000 in
theorem gX11_setFree_X11_forgetAim : GoodIn wsX11_setFree (wsV RX11 161 RX11 yX11_forgetAim wsX11_forgetAim) := goodIn_app (goodIn_of _ (by decide +kernel)) ggX11_setFree_X11_forgetAim
theorem dX11_setFree_0 : decode cX11_setFree 0 = .ok (.iload_n 1, 1) := by decide +kernel
theorem dX11_setFree_1 : decode cX11_setFree 1 = .ok (.ifCond .lt 11, 3) := by decide +kernel
theorem dX11_setFree_4 : decode cX11_setFree 4 = .ok (.iload_n 1, 1) := by decide +kernel
theorem dX11_setFree_5 : decode cX11_setFree 5 = .ok (.aload_n 0, 1) := by decide +kernel
theorem dX11_setFree_6 : decode cX11_setFree 6 = .ok (.invokevirtual 108, 3) := by decide +kernel
theorem dX11_setFree_9 : decode cX11_setFree 9 = .ok (.if_icmp .le 13, 3) := by decide +kernel
theorem dX11_setFree_12 : decode cX11_setFree 12 = .ok (.new 168, 3) := by decide +kernel
theorem dX11_setFree_15 : decode cX11_setFree 15 = .ok (.dup, 1) := by decide +kernel
theorem dX11_setFree_16 : decode cX11_setFree 16 = .ok (.ldc 170, 2) := by decide +kernel
theorem dX11_setFree_18 : decode cX11_setFree 18 = .ok (.invokespecial 172, 3) := by decide +kernel
theorem dX11_setFree_21 : decode cX11_setFree 21 = .ok (.athrow, 1) := by decide +kernel
theorem dX11_setFree_22 : decode cX11_setFree 22 = .ok (.aload_n 0, 1) := by decide +kernel
theorem dX11_setFree_23 : decode cX11_setFree 23 = .ok (.getfield 12, 3) := by decide +kernel
theorem dX11_setFree_26 : decode cX11_setFree 26 = .ok (.getfield 153, 3) := by decide +kernel
theorem dX11_setFree_29 : decode cX11_setFree 29 = .ok (.iload_n 1, 1) := by decide +kernel
theorem dX11_setFree_30 : decode cX11_setFree 30 = .ok (.invokevirtual 173, 3) := by decide +kernel
theorem dX11_setFree_33 : decode cX11_setFree 33 = .ok (.istore_n 3, 1) := by decide +kernel
theorem dX11_setFree_34 : decode cX11_setFree 34 = .ok (.aload_n 0, 1) := by decide +kernel
theorem dX11_setFree_35 : decode cX11_setFree 35 = .ok (.getfield 12, 3) := by decide +kernel
theorem dX11_setFree_38 : decode cX11_setFree 38 = .ok (.getfield 153, 3) := by decide +kernel
theorem dX11_setFree_41 : decode cX11_setFree 41 = .ok (.iload_n 1, 1) := by decide +kernel
theorem dX11_setFree_42 : decode cX11_setFree 42 = .ok (.iload_n 2, 1) := by decide +kernel
theorem dX11_setFree_43 : decode cX11_setFree 43 = .ok (.invokevirtual 177, 3) := by decide +kernel
theorem dX11_setFree_46 : decode cX11_setFree 46 = .ok (.aload_n 0, 1) := by decide +kernel
theorem dX11_setFree_47 : decode cX11_setFree 47 = .ok (.invokevirtual 161, 3) := by decide +kernel
theorem dX11_setFree_50 : decode cX11_setFree 50 = .ok (.iload_n 3, 1) := by decide +kernel
theorem dX11_setFree_51 : decode cX11_setFree 51 = .ok (.ireturn, 1) := by decide +kernel
set_option maxRecDepth 20000 in
theorem ggX11_setWeight_X11_tiles : GoodIn wsX11_setWeight wsX11_tiles := goodIn_r _ [12, 5, 13, 14, 32, 33, 34, 35, 36, 37, 38, 39, 40, 41, 42, 43, 44, 45, 46, 47, 48, 49, 50, 51, 52, 53, 54, 55, 56, 57, 58, 63, 64, 65, 66, 67, 68, 69, 70, 71, 72, 73] (by decide +kernel) (by decide +kernel)
set_option maxRecDepth 20000 in
theorem gX11_setWeight_X11_tiles : GoodIn wsX11_setWeight (wsV RX11 108 RX11 yX11_tiles wsX11_tiles) := goodIn_app (goodIn_of _ (by decide +kernel)) ggX11_setWeight_X11_tiles
set_option maxRecDepth 20000 in
theorem ggX11_setWeight_X11_forgetAim : GoodIn wsX11_setWeight wsX11_forgetAim := goodIn_r _ [18, 5, 19, 20, 21, 22, 23, 24, 25, 26, 27, 28, 29, 30, 31, 32, 33, 34, 35, 36, 37, 38, 39, 40, 41, 42, 43, 44, 45, 46, 47, 48, 49, 50, 51, 52, 53, 54, 55, 56, 57, 58, 74, 75, 76, 77, 78, 79, 80, 81, 82, 83, 84, 85, 86] (by decide +kernel) (by decide +kernel)
set_option maxRecDepth 20000 in
theorem gX11_setWeight_X11_forgetAim : GoodIn wsX11_setWeight (wsV RX11 161 RX11 yX11_forgetAim wsX11_forgetAim) := goodIn_app (goodIn_of _ (by decide +kernel)) ggX11_setWeight_X11_forgetAim
theorem dX11_setWeight_0 : decode cX11_setWeight 0 = .ok (.iload_n 1, 1) := by decide +kernel
theorem dX11_setWeight_1 : decode cX11_setWeight 1 = .ok (.iconst 1, 1) := by decide +kernel
theorem dX11_setWeight_2 : decode cX11_setWeight 2 = .ok (.if_icmp .lt 11, 3) := by decide +kernel
theorem dX11_setWeight_5 : decode cX11_setWeight 5 = .ok (.iload_n 1, 1) := by decide +kernel
theorem dX11_setWeight_6 : decode cX11_setWeight 6 = .ok (.aload_n 0, 1) := by decide +kernel
theorem dX11_setWeight_7 : decode cX11_setWeight 7 = .ok (.invokevirtual 108, 3) := by decide +kernel
theorem dX11_setWeight_10 : decode cX11_setWeight 10 = .ok (.if_icmp .le 13, 3) := by decide +kernel
theorem dX11_setWeight_13 : decode cX11_setWeight 13 = .ok (.new 168, 3) := by decide +kernel
theorem dX11_setWeight_16 : decode cX11_setWeight 16 = .ok (.dup, 1) := by decide +kernel
theorem dX11_setWeight_17 : decode cX11_setWeight 17 = .ok (.ldc 170, 2) := by decide +kernel
theorem dX11_setWeight_19 : decode cX11_setWeight 19 = .ok (.invokespecial 172, 3) := by decide +kernel
theorem dX11_setWeight_22 : decode cX11_setWeight 22 = .ok (.athrow, 1) := by decide +kernel
theorem dX11_setWeight_23 : decode cX11_setWeight 23 = .ok (.iload_n 2, 1) := by decide +kernel
theorem dX11_setWeight_24 : decode cX11_setWeight 24 = .ok (.iconst 1, 1) := by decide +kernel
theorem dX11_setWeight_25 : decode cX11_setWeight 25 = .ok (.if_icmp .lt 9, 3) := by decide +kernel
theorem dX11_setWeight_28 : decode cX11_setWeight 28 = .ok (.iload_n 2, 1) := by decide +kernel
theorem dX11_setWeight_29 : decode cX11_setWeight 29 = .ok (.bipush 9, 2) := by decide +kernel
theorem dX11_setWeight_31 : decode cX11_setWeight 31 = .ok (.if_icmp .le 13, 3) := by decide +kernel
theorem dX11_setWeight_34 : decode cX11_setWeight 34 = .ok (.new 101, 3) := by decide +kernel
theorem dX11_setWeight_37 : decode cX11_setWeight 37 = .ok (.dup, 1) := by decide +kernel
theorem dX11_setWeight_38 : decode cX11_setWeight 38 = .ok (.ldc 181, 2) := by decide +kernel
theorem dX11_setWeight_40 : decode cX11_setWeight 40 = .ok (.invokespecial 105, 3) := by decide +kernel
theorem dX11_setWeight_43 : decode cX11_setWeight 43 = .ok (.athrow, 1) := by decide +kernel
theorem dX11_setWeight_44 : decode cX11_setWeight 44 = .ok (.aload_n 0, 1) := by decide +kernel
theorem dX11_setWeight_45 : decode cX11_setWeight 45 = .ok (.getfield 12, 3) := by decide +kernel
theorem dX11_setWeight_48 : decode cX11_setWeight 48 = .ok (.getfield 153, 3) := by decide +kernel
theorem dX11_setWeight_51 : decode cX11_setWeight 51 = .ok (.getfield 183, 3) := by decide +kernel
theorem dX11_setWeight_54 : decode cX11_setWeight 54 = .ok (.iload_n 1, 1) := by decide +kernel
theorem dX11_setWeight_55 : decode cX11_setWeight 55 = .ok (.iaload, 1) := by decide +kernel
theorem dX11_setWeight_56 : decode cX11_setWeight 56 = .ok (.istore_n 3, 1) := by decide +kernel
theorem dX11_setWeight_57 : decode cX11_setWeight 57 = .ok (.aload_n 0, 1) := by decide +kernel
theorem dX11_setWeight_58 : decode cX11_setWeight 58 = .ok (.getfield 12, 3) := by decide +kernel
theorem dX11_setWeight_61 : decode cX11_setWeight 61 = .ok (.getfield 153, 3) := by decide +kernel
theorem dX11_setWeight_64 : decode cX11_setWeight 64 = .ok (.getfield 183, 3) := by decide +kernel
theorem dX11_setWeight_67 : decode cX11_setWeight 67 = .ok (.iload_n 1, 1) := by decide +kernel
theorem dX11_setWeight_68 : decode cX11_setWeight 68 = .ok (.iload_n 2, 1) := by decide +kernel
theorem dX11_setWeight_69 : decode cX11_setWeight 69 = .ok (.iastore, 1) := by decide +kernel
theorem dX11_setWeight_70 : decode cX11_setWeight 70 = .ok (.aload_n 0, 1) := by decide +kernel
theorem dX11_setWeight_71 : decode cX11_setWeight 71 = .ok (.invokevirtual 161, 3) := by decide +kernel
theorem dX11_setWeight_74 : decode cX11_setWeight 74 = .ok (.iload_n 3, 1) := by decide +kernel
theorem dX11_setWeight_75 : decode cX11_setWeight 75 = .ok (.ireturn, 1) := by decide +kernel
theorem dX11_setLimit_0 : decode cX11_setLimit 0 = .ok (.iload_n 1, 1) := by decide +kernel
theorem dX11_setLimit_1 : decode cX11_setLimit 1 = .ok (.iconst 1, 1) := by decide +kernel
theorem dX11_setLimit_2 : decode cX11_setLimit 2 = .ok (.if_icmp .lt 10, 3) := by decide +kernel
theorem dX11_setLimit_5 : decode cX11_setLimit 5 = .ok (.iload_n 1, 1) := by decide +kernel
theorem dX11_setLimit_6 : decode cX11_setLimit 6 = .ok (.sipush 1000, 3) := by decide +kernel
theorem dX11_setLimit_9 : decode cX11_setLimit 9 = .ok (.if_icmp .le 13, 3) := by decide +kernel
theorem dX11_setLimit_12 : decode cX11_setLimit 12 = .ok (.new 101, 3) := by decide +kernel
theorem dX11_setLimit_15 : decode cX11_setLimit 15 = .ok (.dup, 1) := by decide +kernel
theorem dX11_setLimit_16 : decode cX11_setLimit 16 = .ok (.ldc 186, 2) := by decide +kernel
theorem dX11_setLimit_18 : decode cX11_setLimit 18 = .ok (.invokespecial 105, 3) := by decide +kernel
theorem dX11_setLimit_21 : decode cX11_setLimit 21 = .ok (.athrow, 1) := by decide +kernel
theorem dX11_setLimit_22 : decode cX11_setLimit 22 = .ok (.aload_n 0, 1) := by decide +kernel
theorem dX11_setLimit_23 : decode cX11_setLimit 23 = .ok (.getfield 86, 3) := by decide +kernel
theorem dX11_setLimit_26 : decode cX11_setLimit 26 = .ok (.istore_n 2, 1) := by decide +kernel
theorem dX11_setLimit_27 : decode cX11_setLimit 27 = .ok (.aload_n 0, 1) := by decide +kernel
theorem dX11_setLimit_28 : decode cX11_setLimit 28 = .ok (.iload_n 1, 1) := by decide +kernel
theorem dX11_setLimit_29 : decode cX11_setLimit 29 = .ok (.putfield 86, 3) := by decide +kernel
theorem dX11_setLimit_32 : decode cX11_setLimit 32 = .ok (.iload_n 2, 1) := by decide +kernel
theorem dX11_setLimit_33 : decode cX11_setLimit 33 = .ok (.ireturn, 1) := by decide +kernel
set_option maxRecDepth 20000 in
theorem ggX11_move_X11_isDirection : GoodIn wsX11_move wsX11_isDirection := goodIn_r _ [11] (by decide +kernel) (by decide +kernel)
set_option maxRecDepth 20000 in
theorem gX11_move_X11_isDirection : GoodIn wsX11_move (va_wsS RX11 188 yX11_isDirection wsX11_isDirection) := goodIn_app (goodIn_of _ (by decide +kernel)) ggX11_move_X11_isDirection
set_option maxRecDepth 20000 in
theorem ggX11_move_X11_canStride : GoodIn wsX11_move wsX11_canStride := goodIn_r _ [15, 16, 17, 5, 18, 19, 20, 21, 22, 23, 24, 53, 54, 55, 56, 57, 58, 59, 60, 61, 62, 63, 64, 65, 66, 67, 68, 69, 70, 71, 84, 85, 86, 87, 72, 73, 74, 75, 76, 77, 78, 79, 88, 89, 90, 91, 92, 93, 94, 95, 96, 97, 98] (by decide +kernel) (by decide +kernel)
set_option maxRecDepth 20000 in
theorem gX11_move_X11_canStride : GoodIn wsX11_move (wsV RX11 193 RX11 yX11_canStride wsX11_canStride) := goodIn_app (goodIn_of _ (by decide +kernel)) ggX11_move_X11_canStride
set_option maxRecDepth 20000 in
theorem ggX11_move_X11_shiftGap : GoodIn wsX11_move wsX11_shiftGap := goodIn_r _ [28, 16, 5, 18, 29, 30, 31, 32, 33, 34, 35, 36, 37, 38, 39, 40, 20, 21, 22, 23, 24, 41, 42, 43, 44, 45, 46, 47, 48, 49, 50, 51, 52, 53, 54, 55, 56, 57, 58, 59, 60, 61, 62, 63, 64, 65, 66, 67, 68, 69, 70, 71, 72, 73, 74, 75, 76, 77, 78, 79, 84, 85, 86, 87, 88, 89, 90, 91, 92, 93, 94, 95, 96, 97, 98] (by decide +kernel) (by decide +kernel)
set_option maxRecDepth 20000 in
theorem gX11_move_X11_shiftGap : GoodIn wsX11_move (wsV RX11 202 RX11 yX11_shiftGap wsX11_shiftGap) := goodIn_app (goodIn_of _ (by decide +kernel)) ggX11_move_X11_shiftGap
theorem dX11_move_0 : decode cX11_move 0 = .ok (.iload_n 1, 1) := by decide +kernel
theorem dX11_move_1 : decode cX11_move 1 = .ok (.invokestatic 188, 3) := by decide +kernel
theorem dX11_move_4 : decode cX11_move 4 = .ok (.ifCond .eq 13, 3) := by decide +kernel
theorem dX11_move_7 : decode cX11_move 7 = .ok (.iload_n 2, 1) := by decide +kernel
theorem dX11_move_8 : decode cX11_move 8 = .ok (.iconst 1, 1) := by decide +kernel
theorem dX11_move_9 : decode cX11_move 9 = .ok (.if_icmp .lt 8, 3) := by decide +kernel
theorem dX11_move_12 : decode cX11_move 12 = .ok (.iload_n 2, 1) := by decide +kernel
theorem dX11_move_13 : decode cX11_move 13 = .ok (.iconst 3, 1) := by decide +kernel
theorem dX11_move_14 : decode cX11_move 14 = .ok (.if_icmp .le 13, 3) := by decide +kernel
theorem dX11_move_17 : decode cX11_move 17 = .ok (.new 101, 3) := by decide +kernel
theorem dX11_move_20 : decode cX11_move 20 = .ok (.dup, 1) := by decide +kernel
theorem dX11_move_21 : decode cX11_move 21 = .ok (.ldc 191, 2) := by decide +kernel
theorem dX11_move_23 : decode cX11_move 23 = .ok (.invokespecial 105, 3) := by decide +kernel
theorem dX11_move_26 : decode cX11_move 26 = .ok (.athrow, 1) := by decide +kernel
theorem dX11_move_27 : decode cX11_move 27 = .ok (.aload_n 0, 1) := by decide +kernel
theorem dX11_move_28 : decode cX11_move 28 = .ok (.iload_n 1, 1) := by decide +kernel
theorem dX11_move_29 : decode cX11_move 29 = .ok (.iload_n 2, 1) := by decide +kernel
theorem dX11_move_30 : decode cX11_move 30 = .ok (.invokevirtual 193, 3) := by decide +kernel
theorem dX11_move_33 : decode cX11_move 33 = .ok (.ifCond .ne 13, 3) := by decide +kernel
theorem dX11_move_36 : decode cX11_move 36 = .ok (.new 197, 3) := by decide +kernel
theorem dX11_move_39 : decode cX11_move 39 = .ok (.dup, 1) := by decide +kernel
theorem dX11_move_40 : decode cX11_move 40 = .ok (.ldc 199, 2) := by decide +kernel
theorem dX11_move_42 : decode cX11_move 42 = .ok (.invokespecial 201, 3) := by decide +kernel
theorem dX11_move_45 : decode cX11_move 45 = .ok (.athrow, 1) := by decide +kernel
theorem dX11_move_46 : decode cX11_move 46 = .ok (.iconst 0, 1) := by decide +kernel
theorem dX11_move_47 : decode cX11_move 47 = .ok (.istore_n 3, 1) := by decide +kernel
theorem dX11_move_48 : decode cX11_move 48 = .ok (.iconst 0, 1) := by decide +kernel
theorem dX11_move_49 : decode cX11_move 49 = .ok (.istore 4, 2) := by decide +kernel
theorem dX11_move_51 : decode cX11_move 51 = .ok (.iload 4, 2) := by decide +kernel
theorem dX11_move_53 : decode cX11_move 53 = .ok (.iload_n 2, 1) := by decide +kernel
theorem dX11_move_54 : decode cX11_move 54 = .ok (.if_icmp .ge 28, 3) := by decide +kernel
theorem dX11_move_57 : decode cX11_move 57 = .ok (.iload_n 3, 1) := by decide +kernel
theorem dX11_move_58 : decode cX11_move 58 = .ok (.aload_n 0, 1) := by decide +kernel
theorem dX11_move_59 : decode cX11_move 59 = .ok (.getfield 12, 3) := by decide +kernel
theorem dX11_move_62 : decode cX11_move 62 = .ok (.getfield 153, 3) := by decide +kernel
theorem dX11_move_65 : decode cX11_move 65 = .ok (.getfield 183, 3) := by decide +kernel
theorem dX11_move_68 : decode cX11_move 68 = .ok (.aload_n 0, 1) := by decide +kernel
theorem dX11_move_69 : decode cX11_move 69 = .ok (.iload_n 1, 1) := by decide +kernel
theorem dX11_move_70 : decode cX11_move 70 = .ok (.invokevirtual 202, 3) := by decide +kernel
theorem dX11_move_73 : decode cX11_move 73 = .ok (.iaload, 1) := by decide +kernel
theorem dX11_move_74 : decode cX11_move 74 = .ok (.iadd, 1) := by decide +kernel
theorem dX11_move_75 : decode cX11_move 75 = .ok (.istore_n 3, 1) := by decide +kernel
theorem dX11_move_76 : decode cX11_move 76 = .ok (.iinc 4 1, 3) := by decide +kernel
theorem dX11_move_79 : decode cX11_move 79 = .ok (.goto (-28), 3) := by decide +kernel
theorem dX11_move_82 : decode cX11_move 82 = .ok (.iload_n 3, 1) := by decide +kernel
theorem dX11_move_83 : decode cX11_move 83 = .ok (.ireturn, 1) := by decide +kernel
set_option maxRecDepth 20000 in
theorem ggX11_undo_X11_opposite : GoodIn wsX11_undo wsX11_opposite := goodIn_r _ [16] (by decide +kernel) (by decide +kernel)
set_option maxRecDepth 20000 in
theorem gX11_undo_X11_opposite : GoodIn wsX11_undo (va_wsS RX11 216 yX11_opposite wsX11_opposite) := goodIn_app (goodIn_of _ (by decide +kernel)) ggX11_undo_X11_opposite
set_option maxRecDepth 20000 in
theorem ggX11_undo_X7_shift : GoodIn wsX11_undo wsX7_shift := goodIn_r _ [21, 22, 23, 24, 25, 26, 27, 28, 29, 30, 31, 32, 33, 20, 34, 35, 36, 37, 38, 39, 40, 41, 42, 70, 71, 72, 73, 74, 75, 76, 77, 78, 79, 80, 81, 82, 83, 84] (by decide +kernel) (by decide +kernel)
set_option maxRecDepth 20000 in
theorem gX11_undo_X7_shift : GoodIn wsX11_undo (wsV RX11 149 RX7 yX7_shift wsX7_shift) := goodIn_app (goodIn_of _ (by decide +kernel)) ggX11_undo_X7_shift
theorem dX11_undo_0 : decode cX11_undo 0 = .ok (.iload_n 1, 1) := by decide +kernel
theorem dX11_undo_1 : decode cX11_undo 1 = .ok (.iconst 1, 1) := by decide +kernel
theorem dX11_undo_2 : decode cX11_undo 2 = .ok (.if_icmp .lt 10, 3) := by decide +kernel
theorem dX11_undo_5 : decode cX11_undo 5 = .ok (.iload_n 1, 1) := by decide +kernel
theorem dX11_undo_6 : decode cX11_undo 6 = .ok (.sipush 200, 3) := by decide +kernel
theorem dX11_undo_9 : decode cX11_undo 9 = .ok (.if_icmp .le 13, 3) := by decide +kernel
theorem dX11_undo_12 : decode cX11_undo 12 = .ok (.new 101, 3) := by decide +kernel
theorem dX11_undo_15 : decode cX11_undo 15 = .ok (.dup, 1) := by decide +kernel
theorem dX11_undo_16 : decode cX11_undo 16 = .ok (.ldc 135, 2) := by decide +kernel
theorem dX11_undo_18 : decode cX11_undo 18 = .ok (.invokespecial 105, 3) := by decide +kernel
theorem dX11_undo_21 : decode cX11_undo 21 = .ok (.athrow, 1) := by decide +kernel
theorem dX11_undo_22 : decode cX11_undo 22 = .ok (.iload_n 1, 1) := by decide +kernel
theorem dX11_undo_23 : decode cX11_undo 23 = .ok (.aload_n 0, 1) := by decide +kernel
theorem dX11_undo_24 : decode cX11_undo 24 = .ok (.getfield 205, 3) := by decide +kernel
theorem dX11_undo_27 : decode cX11_undo 27 = .ok (.invokestatic 208, 3) := by decide +kernel
theorem dX11_undo_30 : decode cX11_undo 30 = .ok (.istore_n 2, 1) := by decide +kernel
theorem dX11_undo_31 : decode cX11_undo 31 = .ok (.iconst 0, 1) := by decide +kernel
theorem dX11_undo_32 : decode cX11_undo 32 = .ok (.istore_n 3, 1) := by decide +kernel
theorem dX11_undo_33 : decode cX11_undo 33 = .ok (.iload_n 3, 1) := by decide +kernel
theorem dX11_undo_34 : decode cX11_undo 34 = .ok (.iload_n 2, 1) := by decide +kernel
theorem dX11_undo_35 : decode cX11_undo 35 = .ok (.if_icmp .ge 54, 3) := by decide +kernel
theorem dX11_undo_38 : decode cX11_undo 38 = .ok (.aload_n 0, 1) := by decide +kernel
theorem dX11_undo_39 : decode cX11_undo 39 = .ok (.aload_n 0, 1) := by decide +kernel
theorem dX11_undo_40 : decode cX11_undo 40 = .ok (.getfield 213, 3) := by decide +kernel
theorem dX11_undo_43 : decode cX11_undo 43 = .ok (.sipush 200, 3) := by decide +kernel
theorem dX11_undo_46 : decode cX11_undo 46 = .ok (.iadd, 1) := by decide +kernel
theorem dX11_undo_47 : decode cX11_undo 47 = .ok (.iconst 1, 1) := by decide +kernel
theorem dX11_undo_48 : decode cX11_undo 48 = .ok (.isub, 1) := by decide +kernel
theorem dX11_undo_49 : decode cX11_undo 49 = .ok (.sipush 200, 3) := by decide +kernel
theorem dX11_undo_52 : decode cX11_undo 52 = .ok (.irem, 1) := by decide +kernel
theorem dX11_undo_53 : decode cX11_undo 53 = .ok (.putfield 213, 3) := by decide +kernel
theorem dX11_undo_56 : decode cX11_undo 56 = .ok (.aload_n 0, 1) := by decide +kernel
theorem dX11_undo_57 : decode cX11_undo 57 = .ok (.getfield 19, 3) := by decide +kernel
theorem dX11_undo_60 : decode cX11_undo 60 = .ok (.aload_n 0, 1) := by decide +kernel
theorem dX11_undo_61 : decode cX11_undo 61 = .ok (.getfield 12, 3) := by decide +kernel
theorem dX11_undo_64 : decode cX11_undo 64 = .ok (.getfield 112, 3) := by decide +kernel
theorem dX11_undo_67 : decode cX11_undo 67 = .ok (.aload_n 0, 1) := by decide +kernel
theorem dX11_undo_68 : decode cX11_undo 68 = .ok (.getfield 49, 3) := by decide +kernel
theorem dX11_undo_71 : decode cX11_undo 71 = .ok (.aload_n 0, 1) := by decide +kernel
theorem dX11_undo_72 : decode cX11_undo 72 = .ok (.getfield 213, 3) := by decide +kernel
theorem dX11_undo_75 : decode cX11_undo 75 = .ok (.iaload, 1) := by decide +kernel
theorem dX11_undo_76 : decode cX11_undo 76 = .ok (.invokestatic 216, 3) := by decide +kernel
theorem dX11_undo_79 : decode cX11_undo 79 = .ok (.invokevirtual 149, 3) := by decide +kernel
theorem dX11_undo_82 : decode cX11_undo 82 = .ok (.pop, 1) := by decide +kernel
theorem dX11_undo_83 : decode cX11_undo 83 = .ok (.iinc 3 1, 3) := by decide +kernel
theorem dX11_undo_86 : decode cX11_undo 86 = .ok (.goto (-53), 3) := by decide +kernel
theorem dX11_undo_89 : decode cX11_undo 89 = .ok (.aload_n 0, 1) := by decide +kernel
theorem dX11_undo_90 : decode cX11_undo 90 = .ok (.dup, 1) := by decide +kernel
theorem dX11_undo_91 : decode cX11_undo 91 = .ok (.getfield 205, 3) := by decide +kernel
theorem dX11_undo_94 : decode cX11_undo 94 = .ok (.iload_n 2, 1) := by decide +kernel
theorem dX11_undo_95 : decode cX11_undo 95 = .ok (.isub, 1) := by decide +kernel
theorem dX11_undo_96 : decode cX11_undo 96 = .ok (.putfield 205, 3) := by decide +kernel
theorem dX11_undo_99 : decode cX11_undo 99 = .ok (.iload_n 2, 1) := by decide +kernel
theorem dX11_undo_100 : decode cX11_undo 100 = .ok (.ireturn, 1) := by decide +kernel
set_option maxRecDepth 20000 in
theorem ggX11_setMacro_X11_isMacro : GoodIn wsX11_setMacro wsX11_isMacro := goodIn_r _ [10] (by decide +kernel) (by decide +kernel)
set_option maxRecDepth 20000 in
theorem gX11_setMacro_X11_isMacro : GoodIn wsX11_setMacro (va_wsS RX11 219 yX11_isMacro wsX11_isMacro) := goodIn_app (goodIn_of _ (by decide +kernel)) ggX11_setMacro_X11_isMacro
set_option maxRecDepth 20000 in
theorem ggX11_setMacro_X11_letterAt : GoodIn wsX11_setMacro wsX11_letterAt := goodIn_r _ [13] (by decide +kernel) (by decide +kernel)
set_option maxRecDepth 20000 in
theorem gX11_setMacro_X11_letterAt : GoodIn wsX11_setMacro (va_wsS RX11 224 yX11_letterAt wsX11_letterAt) := goodIn_app (goodIn_of _ (by decide +kernel)) ggX11_setMacro_X11_letterAt
set_option maxRecDepth 20000 in
theorem ggX11_setMacro_X11_directionOf : GoodIn wsX11_setMacro wsX11_directionOf := goodIn_r _ [16] (by decide +kernel) (by decide +kernel)
set_option maxRecDepth 20000 in
theorem gX11_setMacro_X11_directionOf : GoodIn wsX11_setMacro (va_wsS RX11 228 yX11_directionOf wsX11_directionOf) := goodIn_app (goodIn_of _ (by decide +kernel)) ggX11_setMacro_X11_directionOf
theorem dX11_setMacro_0 : decode cX11_setMacro 0 = .ok (.iload_n 1, 1) := by decide +kernel
theorem dX11_setMacro_1 : decode cX11_setMacro 1 = .ok (.invokestatic 219, 3) := by decide +kernel
theorem dX11_setMacro_4 : decode cX11_setMacro 4 = .ok (.ifCond .ne 13, 3) := by decide +kernel
theorem dX11_setMacro_7 : decode cX11_setMacro 7 = .ok (.new 168, 3) := by decide +kernel
theorem dX11_setMacro_10 : decode cX11_setMacro 10 = .ok (.dup, 1) := by decide +kernel
theorem dX11_setMacro_11 : decode cX11_setMacro 11 = .ok (.ldc 222, 2) := by decide +kernel
theorem dX11_setMacro_13 : decode cX11_setMacro 13 = .ok (.invokespecial 172, 3) := by decide +kernel
theorem dX11_setMacro_16 : decode cX11_setMacro 16 = .ok (.athrow, 1) := by decide +kernel
theorem dX11_setMacro_17 : decode cX11_setMacro 17 = .ok (.iconst 0, 1) := by decide +kernel
theorem dX11_setMacro_18 : decode cX11_setMacro 18 = .ok (.istore 4, 2) := by decide +kernel
theorem dX11_setMacro_20 : decode cX11_setMacro 20 = .ok (.iload 4, 2) := by decide +kernel
theorem dX11_setMacro_22 : decode cX11_setMacro 22 = .ok (.bipush 8, 2) := by decide +kernel
theorem dX11_setMacro_24 : decode cX11_setMacro 24 = .ok (.if_icmp .ge 41, 3) := by decide +kernel
theorem dX11_setMacro_27 : decode cX11_setMacro 27 = .ok (.lload_n 2, 1) := by decide +kernel
theorem dX11_setMacro_28 : decode cX11_setMacro 28 = .ok (.iload 4, 2) := by decide +kernel
theorem dX11_setMacro_30 : decode cX11_setMacro 30 = .ok (.invokestatic 224, 3) := by decide +kernel
theorem dX11_setMacro_33 : decode cX11_setMacro 33 = .ok (.istore 5, 2) := by decide +kernel
theorem dX11_setMacro_35 : decode cX11_setMacro 35 = .ok (.iload 5, 2) := by decide +kernel
theorem dX11_setMacro_37 : decode cX11_setMacro 37 = .ok (.ifCond .eq 22, 3) := by decide +kernel
theorem dX11_setMacro_40 : decode cX11_setMacro 40 = .ok (.iload 5, 2) := by decide +kernel
theorem dX11_setMacro_42 : decode cX11_setMacro 42 = .ok (.invokestatic 228, 3) := by decide +kernel
theorem dX11_setMacro_45 : decode cX11_setMacro 45 = .ok (.iconst (-1), 1) := by decide +kernel
theorem dX11_setMacro_46 : decode cX11_setMacro 46 = .ok (.if_icmp .ne 13, 3) := by decide +kernel
theorem dX11_setMacro_49 : decode cX11_setMacro 49 = .ok (.new 101, 3) := by decide +kernel
theorem dX11_setMacro_52 : decode cX11_setMacro 52 = .ok (.dup, 1) := by decide +kernel
theorem dX11_setMacro_53 : decode cX11_setMacro 53 = .ok (.ldc 231, 2) := by decide +kernel
theorem dX11_setMacro_55 : decode cX11_setMacro 55 = .ok (.invokespecial 105, 3) := by decide +kernel
theorem dX11_setMacro_58 : decode cX11_setMacro 58 = .ok (.athrow, 1) := by decide +kernel
theorem dX11_setMacro_59 : decode cX11_setMacro 59 = .ok (.iinc 4 1, 3) := by decide +kernel
theorem dX11_setMacro_62 : decode cX11_setMacro 62 = .ok (.goto (-42), 3) := by decide +kernel
theorem dX11_setMacro_65 : decode cX11_setMacro 65 = .ok (.iconst 0, 1) := by decide +kernel
theorem dX11_setMacro_66 : decode cX11_setMacro 66 = .ok (.istore 4, 2) := by decide +kernel
theorem dX11_setMacro_68 : decode cX11_setMacro 68 = .ok (.iconst 0, 1) := by decide +kernel
theorem dX11_setMacro_69 : decode cX11_setMacro 69 = .ok (.istore 5, 2) := by decide +kernel
theorem dX11_setMacro_71 : decode cX11_setMacro 71 = .ok (.iload 5, 2) := by decide +kernel
theorem dX11_setMacro_73 : decode cX11_setMacro 73 = .ok (.bipush 8, 2) := by decide +kernel
theorem dX11_setMacro_75 : decode cX11_setMacro 75 = .ok (.if_icmp .ge 43, 3) := by decide +kernel
theorem dX11_setMacro_78 : decode cX11_setMacro 78 = .ok (.lload_n 2, 1) := by decide +kernel
theorem dX11_setMacro_79 : decode cX11_setMacro 79 = .ok (.iload 5, 2) := by decide +kernel
theorem dX11_setMacro_81 : decode cX11_setMacro 81 = .ok (.invokestatic 224, 3) := by decide +kernel
theorem dX11_setMacro_84 : decode cX11_setMacro 84 = .ok (.invokestatic 228, 3) := by decide +kernel
theorem dX11_setMacro_87 : decode cX11_setMacro 87 = .ok (.istore 6, 2) := by decide +kernel
theorem dX11_setMacro_89 : decode cX11_setMacro 89 = .ok (.iload 6, 2) := by decide +kernel
theorem dX11_setMacro_91 : decode cX11_setMacro 91 = .ok (.iconst (-1), 1) := by decide +kernel
theorem dX11_setMacro_92 : decode cX11_setMacro 92 = .ok (.if_icmp .ne 6, 3) := by decide +kernel
theorem dX11_setMacro_95 : decode cX11_setMacro 95 = .ok (.goto 17, 3) := by decide +kernel
theorem dX11_setMacro_98 : decode cX11_setMacro 98 = .ok (.aload_n 0, 1) := by decide +kernel
theorem dX11_setMacro_99 : decode cX11_setMacro 99 = .ok (.getfield 42, 3) := by decide +kernel
theorem dX11_setMacro_102 : decode cX11_setMacro 102 = .ok (.iload_n 1, 1) := by decide +kernel
theorem dX11_setMacro_103 : decode cX11_setMacro 103 = .ok (.aaload, 1) := by decide +kernel
theorem dX11_setMacro_104 : decode cX11_setMacro 104 = .ok (.iload 4, 2) := by decide +kernel
theorem dX11_setMacro_106 : decode cX11_setMacro 106 = .ok (.iload 6, 2) := by decide +kernel
theorem dX11_setMacro_108 : decode cX11_setMacro 108 = .ok (.iastore, 1) := by decide +kernel
theorem dX11_setMacro_109 : decode cX11_setMacro 109 = .ok (.iinc 4 1, 3) := by decide +kernel
theorem dX11_setMacro_112 : decode cX11_setMacro 112 = .ok (.iinc 5 1, 3) := by decide +kernel
theorem dX11_setMacro_115 : decode cX11_setMacro 115 = .ok (.goto (-44), 3) := by decide +kernel
theorem dX11_setMacro_118 : decode cX11_setMacro 118 = .ok (.aload_n 0, 1) := by decide +kernel
theorem dX11_setMacro_119 : decode cX11_setMacro 119 = .ok (.getfield 45, 3) := by decide +kernel
theorem dX11_setMacro_122 : decode cX11_setMacro 122 = .ok (.iload_n 1, 1) := by decide +kernel
theorem dX11_setMacro_123 : decode cX11_setMacro 123 = .ok (.iload 4, 2) := by decide +kernel
theorem dX11_setMacro_125 : decode cX11_setMacro 125 = .ok (.iastore, 1) := by decide +kernel
theorem dX11_setMacro_126 : decode cX11_setMacro 126 = .ok (.iload 4, 2) := by decide +kernel
theorem dX11_setMacro_128 : decode cX11_setMacro 128 = .ok (.ireturn, 1) := by decide +kernel
set_option maxRecDepth 20000 in
theorem ggX11_play_X11_isMacro : GoodIn wsX11_play wsX11_isMacro := goodIn_r _ [12] (by decide +kernel) (by decide +kernel)
set_option maxRecDepth 20000 in
theorem gX11_play_X11_isMacro : GoodIn wsX11_play (va_wsS RX11 219 yX11_isMacro wsX11_isMacro) := goodIn_app (goodIn_of _ (by decide +kernel)) ggX11_play_X11_isMacro
set_option maxRecDepth 20000 in
theorem ggX11_play_X11_shiftGap : GoodIn wsX11_play wsX11_shiftGap := goodIn_r _ [16, 17, 18, 19, 20, 21, 22, 23, 24, 25, 26, 27, 28, 29, 30, 31, 32, 33, 34, 35, 36, 37, 38, 39, 40, 41, 42, 43, 44, 45, 46, 47, 48, 49, 50, 51, 52, 53, 54, 55, 56, 57, 58, 59, 60, 61, 62, 63, 64, 65, 66, 67, 68, 69, 70, 71, 72, 73, 74, 75, 76, 77, 78, 79, 80, 81, 82, 83, 84, 85, 86, 87, 88, 89, 90] (by decide +kernel) (by decide +kernel)
set_option maxRecDepth 20000 in
theorem gX11_play_X11_shiftGap : GoodIn wsX11_play (wsV RX11 202 RX11 yX11_shiftGap wsX11_shiftGap) := goodIn_app (goodIn_of _ (by decide +kernel)) ggX11_play_X11_shiftGap
theorem dX11_play_0 : decode cX11_play 0 = .ok (.iload_n 1, 1) := by decide +kernel
theorem dX11_play_1 : decode cX11_play 1 = .ok (.invokestatic 219, 3) := by decide +kernel
theorem dX11_play_4 : decode cX11_play 4 = .ok (.ifCond .ne 13, 3) := by decide +kernel
theorem dX11_play_7 : decode cX11_play 7 = .ok (.new 168, 3) := by decide +kernel
theorem dX11_play_10 : decode cX11_play 10 = .ok (.dup, 1) := by decide +kernel
theorem dX11_play_11 : decode cX11_play 11 = .ok (.ldc 222, 2) := by decide +kernel
theorem dX11_play_13 : decode cX11_play 13 = .ok (.invokespecial 172, 3) := by decide +kernel
theorem dX11_play_16 : decode cX11_play 16 = .ok (.athrow, 1) := by decide +kernel
theorem dX11_play_17 : decode cX11_play 17 = .ok (.iload_n 2, 1) := by decide +kernel
theorem dX11_play_18 : decode cX11_play 18 = .ok (.iconst 1, 1) := by decide +kernel
theorem dX11_play_19 : decode cX11_play 19 = .ok (.if_icmp .lt 9, 3) := by decide +kernel
theorem dX11_play_22 : decode cX11_play 22 = .ok (.iload_n 2, 1) := by decide +kernel
theorem dX11_play_23 : decode cX11_play 23 = .ok (.bipush 20, 2) := by decide +kernel
theorem dX11_play_25 : decode cX11_play 25 = .ok (.if_icmp .le 13, 3) := by decide +kernel
theorem dX11_play_28 : decode cX11_play 28 = .ok (.new 101, 3) := by decide +kernel
theorem dX11_play_31 : decode cX11_play 31 = .ok (.dup, 1) := by decide +kernel
theorem dX11_play_32 : decode cX11_play 32 = .ok (.ldc 233, 2) := by decide +kernel
theorem dX11_play_34 : decode cX11_play 34 = .ok (.invokespecial 105, 3) := by decide +kernel
theorem dX11_play_37 : decode cX11_play 37 = .ok (.athrow, 1) := by decide +kernel
theorem dX11_play_38 : decode cX11_play 38 = .ok (.aload_n 0, 1) := by decide +kernel
theorem dX11_play_39 : decode cX11_play 39 = .ok (.getfield 45, 3) := by decide +kernel
theorem dX11_play_42 : decode cX11_play 42 = .ok (.iload_n 1, 1) := by decide +kernel
theorem dX11_play_43 : decode cX11_play 43 = .ok (.iaload, 1) := by decide +kernel
theorem dX11_play_44 : decode cX11_play 44 = .ok (.istore_n 3, 1) := by decide +kernel
theorem dX11_play_45 : decode cX11_play 45 = .ok (.iload_n 3, 1) := by decide +kernel
theorem dX11_play_46 : decode cX11_play 46 = .ok (.ifCond .ne 13, 3) := by decide +kernel
theorem dX11_play_49 : decode cX11_play 49 = .ok (.new 235, 3) := by decide +kernel
theorem dX11_play_52 : decode cX11_play 52 = .ok (.dup, 1) := by decide +kernel
theorem dX11_play_53 : decode cX11_play 53 = .ok (.ldc 237, 2) := by decide +kernel
theorem dX11_play_55 : decode cX11_play 55 = .ok (.invokespecial 239, 3) := by decide +kernel
theorem dX11_play_58 : decode cX11_play 58 = .ok (.athrow, 1) := by decide +kernel
theorem dX11_play_59 : decode cX11_play 59 = .ok (.iconst 0, 1) := by decide +kernel
theorem dX11_play_60 : decode cX11_play 60 = .ok (.istore 4, 2) := by decide +kernel
theorem dX11_play_62 : decode cX11_play 62 = .ok (.iconst 0, 1) := by decide +kernel
theorem dX11_play_63 : decode cX11_play 63 = .ok (.istore 5, 2) := by decide +kernel
theorem dX11_play_65 : decode cX11_play 65 = .ok (.iload 5, 2) := by decide +kernel
theorem dX11_play_67 : decode cX11_play 67 = .ok (.iload_n 2, 1) := by decide +kernel
theorem dX11_play_68 : decode cX11_play 68 = .ok (.if_icmp .ge 46, 3) := by decide +kernel
theorem dX11_play_71 : decode cX11_play 71 = .ok (.iconst 0, 1) := by decide +kernel
theorem dX11_play_72 : decode cX11_play 72 = .ok (.istore 6, 2) := by decide +kernel
theorem dX11_play_74 : decode cX11_play 74 = .ok (.iload 6, 2) := by decide +kernel
theorem dX11_play_76 : decode cX11_play 76 = .ok (.iload_n 3, 1) := by decide +kernel
theorem dX11_play_77 : decode cX11_play 77 = .ok (.if_icmp .ge 31, 3) := by decide +kernel
theorem dX11_play_80 : decode cX11_play 80 = .ok (.aload_n 0, 1) := by decide +kernel
theorem dX11_play_81 : decode cX11_play 81 = .ok (.aload_n 0, 1) := by decide +kernel
theorem dX11_play_82 : decode cX11_play 82 = .ok (.getfield 42, 3) := by decide +kernel
theorem dX11_play_85 : decode cX11_play 85 = .ok (.iload_n 1, 1) := by decide +kernel
theorem dX11_play_86 : decode cX11_play 86 = .ok (.aaload, 1) := by decide +kernel
theorem dX11_play_87 : decode cX11_play 87 = .ok (.iload 6, 2) := by decide +kernel
theorem dX11_play_89 : decode cX11_play 89 = .ok (.iaload, 1) := by decide +kernel
theorem dX11_play_90 : decode cX11_play 90 = .ok (.invokevirtual 202, 3) := by decide +kernel
theorem dX11_play_93 : decode cX11_play 93 = .ok (.ifCond .ne 6, 3) := by decide +kernel
theorem dX11_play_96 : decode cX11_play 96 = .ok (.iload 4, 2) := by decide +kernel
theorem dX11_play_98 : decode cX11_play 98 = .ok (.ireturn, 1) := by decide +kernel
theorem dX11_play_99 : decode cX11_play 99 = .ok (.iinc 4 1, 3) := by decide +kernel
theorem dX11_play_102 : decode cX11_play 102 = .ok (.iinc 6 1, 3) := by decide +kernel
theorem dX11_play_105 : decode cX11_play 105 = .ok (.goto (-31), 3) := by decide +kernel
theorem dX11_play_108 : decode cX11_play 108 = .ok (.iinc 5 1, 3) := by decide +kernel
theorem dX11_play_111 : decode cX11_play 111 = .ok (.goto (-46), 3) := by decide +kernel
theorem dX11_play_114 : decode cX11_play 114 = .ok (.iload 4, 2) := by decide +kernel
theorem dX11_play_116 : decode cX11_play 116 = .ok (.ireturn, 1) := by decide +kernel
set_option maxRecDepth 20000 in
theorem ggX11_keep_X11_isImage : GoodIn wsX11_keep wsX11_isImage := goodIn_r _ [12] (by decide +kernel) (by decide +kernel)
set_option maxRecDepth 20000 in
theorem gX11_keep_X11_isImage : GoodIn wsX11_keep (va_wsS RX11 240 yX11_isImage wsX11_isImage) := goodIn_app (goodIn_of _ (by decide +kernel)) ggX11_keep_X11_isImage
set_option maxRecDepth 20000 in
theorem ggX11_keep_X7_copy : GoodIn wsX11_keep wsX7_copy := goodIn_r _ [17, 18, 19, 20, 21, 22, 23, 24, 25, 78, 79, 80, 81] (by decide +kernel) (by decide +kernel)
set_option maxRecDepth 20000 in
theorem gX11_keep_X7_copy : GoodIn wsX11_keep (wsV RX11 245 RX7 yX7_copy wsX7_copy) := goodIn_app (goodIn_of _ (by decide +kernel)) ggX11_keep_X7_copy
set_option maxRecDepth 20000 in
theorem ggX11_keep_X1_copy : GoodIn wsX11_keep wsX1_copy := goodIn_r _ [30, 31, 32, 33, 34, 22, 23, 24, 35, 82, 83, 84, 85] (by decide +kernel) (by decide +kernel)
set_option maxRecDepth 20000 in
theorem gX11_keep_X1_copy : GoodIn wsX11_keep (wsV RX11 248 RX1 yX1_copy wsX1_copy) := goodIn_app (goodIn_of _ (by decide +kernel)) ggX11_keep_X1_copy
set_option maxRecDepth 20000 in
theorem ggX11_keep_X7_toRank : GoodIn wsX11_keep wsX7_toRank := goodIn_r _ [39, 18, 20, 40, 41, 42, 16, 43, 44, 45, 46, 47, 48, 49, 50, 78, 79, 80, 81] (by decide +kernel) (by decide +kernel)
set_option maxRecDepth 20000 in
theorem gX11_keep_X7_toRank : GoodIn wsX11_keep (wsV RX11 164 RX7 yX7_toRank wsX7_toRank) := goodIn_app (goodIn_of _ (by decide +kernel)) ggX11_keep_X7_toRank
theorem dX11_keep_0 : decode cX11_keep 0 = .ok (.iload_n 1, 1) := by decide +kernel
theorem dX11_keep_1 : decode cX11_keep 1 = .ok (.invokestatic 240, 3) := by decide +kernel
theorem dX11_keep_4 : decode cX11_keep 4 = .ok (.ifCond .ne 13, 3) := by decide +kernel
theorem dX11_keep_7 : decode cX11_keep 7 = .ok (.new 168, 3) := by decide +kernel
theorem dX11_keep_10 : decode cX11_keep 10 = .ok (.dup, 1) := by decide +kernel
theorem dX11_keep_11 : decode cX11_keep 11 = .ok (.ldc 243, 2) := by decide +kernel
theorem dX11_keep_13 : decode cX11_keep 13 = .ok (.invokespecial 172, 3) := by decide +kernel
theorem dX11_keep_16 : decode cX11_keep 16 = .ok (.athrow, 1) := by decide +kernel
theorem dX11_keep_17 : decode cX11_keep 17 = .ok (.aload_n 0, 1) := by decide +kernel
theorem dX11_keep_18 : decode cX11_keep 18 = .ok (.getfield 26, 3) := by decide +kernel
theorem dX11_keep_21 : decode cX11_keep 21 = .ok (.iload_n 1, 1) := by decide +kernel
theorem dX11_keep_22 : decode cX11_keep 22 = .ok (.aaload, 1) := by decide +kernel
theorem dX11_keep_23 : decode cX11_keep 23 = .ok (.aload_n 0, 1) := by decide +kernel
theorem dX11_keep_24 : decode cX11_keep 24 = .ok (.getfield 19, 3) := by decide +kernel
theorem dX11_keep_27 : decode cX11_keep 27 = .ok (.invokevirtual 245, 3) := by decide +kernel
theorem dX11_keep_30 : decode cX11_keep 30 = .ok (.aload_n 0, 1) := by decide +kernel
theorem dX11_keep_31 : decode cX11_keep 31 = .ok (.getfield 32, 3) := by decide +kernel
theorem dX11_keep_34 : decode cX11_keep 34 = .ok (.iload_n 1, 1) := by decide +kernel
theorem dX11_keep_35 : decode cX11_keep 35 = .ok (.aaload, 1) := by decide +kernel
theorem dX11_keep_36 : decode cX11_keep 36 = .ok (.aload_n 0, 1) := by decide +kernel
theorem dX11_keep_37 : decode cX11_keep 37 = .ok (.getfield 12, 3) := by decide +kernel
theorem dX11_keep_40 : decode cX11_keep 40 = .ok (.getfield 153, 3) := by decide +kernel
theorem dX11_keep_43 : decode cX11_keep 43 = .ok (.invokevirtual 248, 3) := by decide +kernel
theorem dX11_keep_46 : decode cX11_keep 46 = .ok (.aload_n 0, 1) := by decide +kernel
theorem dX11_keep_47 : decode cX11_keep 47 = .ok (.getfield 36, 3) := by decide +kernel
theorem dX11_keep_50 : decode cX11_keep 50 = .ok (.iload_n 1, 1) := by decide +kernel
theorem dX11_keep_51 : decode cX11_keep 51 = .ok (.iconst 1, 1) := by decide +kernel
theorem dX11_keep_52 : decode cX11_keep 52 = .ok (.bastore, 1) := by decide +kernel
theorem dX11_keep_53 : decode cX11_keep 53 = .ok (.aload_n 0, 1) := by decide +kernel
theorem dX11_keep_54 : decode cX11_keep 54 = .ok (.getfield 19, 3) := by decide +kernel
theorem dX11_keep_57 : decode cX11_keep 57 = .ok (.invokevirtual 164, 3) := by decide +kernel
theorem dX11_keep_60 : decode cX11_keep 60 = .ok (.lreturn, 1) := by decide +kernel
set_option maxRecDepth 20000 in
theorem ggX11_restore_X11_isImage : GoodIn wsX11_restore wsX11_isImage := goodIn_r _ [14] (by decide +kernel) (by decide +kernel)
set_option maxRecDepth 20000 in
theorem gX11_restore_X11_isImage : GoodIn wsX11_restore (va_wsS RX11 240 yX11_isImage wsX11_isImage) := goodIn_app (goodIn_of _ (by decide +kernel)) ggX11_restore_X11_isImage
set_option maxRecDepth 20000 in
theorem ggX11_restore_X7_copy : GoodIn wsX11_restore wsX7_copy := goodIn_r _ [19, 20, 21, 22, 23, 24, 25, 26, 27, 95, 96, 97, 98] (by decide +kernel) (by decide +kernel)
set_option maxRecDepth 20000 in
theorem gX11_restore_X7_copy : GoodIn wsX11_restore (wsV RX11 245 RX7 yX7_copy wsX7_copy) := goodIn_app (goodIn_of _ (by decide +kernel)) ggX11_restore_X7_copy
set_option maxRecDepth 20000 in
theorem ggX11_restore_X1_copy : GoodIn wsX11_restore wsX1_copy := goodIn_r _ [32, 33, 34, 35, 36, 24, 25, 26, 37, 99, 100, 101, 102] (by decide +kernel) (by decide +kernel)
set_option maxRecDepth 20000 in
theorem gX11_restore_X1_copy : GoodIn wsX11_restore (wsV RX11 248 RX1 yX1_copy wsX1_copy) := goodIn_app (goodIn_of _ (by decide +kernel)) ggX11_restore_X1_copy
set_option maxRecDepth 20000 in
theorem ggX11_restore_X11_forgetAim : GoodIn wsX11_restore wsX11_forgetAim := goodIn_r _ [41, 8, 42, 43, 44, 45, 46, 47, 48, 49, 50, 51, 52, 53, 54, 68, 69, 70, 71, 72, 73, 74, 75, 76, 77, 78, 79, 80, 81, 82, 83, 84, 85, 86, 87, 88, 89, 90, 91, 92, 93, 94, 103, 104, 105, 106, 107, 108, 109, 110, 111, 112, 113, 114, 115] (by decide +kernel) (by decide +kernel)
set_option maxRecDepth 20000 in
theorem gX11_restore_X11_forgetAim : GoodIn wsX11_restore (wsV RX11 161 RX11 yX11_forgetAim wsX11_forgetAim) := goodIn_app (goodIn_of _ (by decide +kernel)) ggX11_restore_X11_forgetAim
set_option maxRecDepth 20000 in
theorem ggX11_restore_X11_forgetMoves : GoodIn wsX11_restore wsX11_forgetMoves := goodIn_r _ [58, 59, 60, 68, 69, 70, 71, 72, 73, 74, 75, 76, 77, 78, 79, 80, 81, 82, 83, 84, 85, 86] (by decide +kernel) (by decide +kernel)
set_option maxRecDepth 20000 in
theorem gX11_restore_X11_forgetMoves : GoodIn wsX11_restore (wsV RX11 129 RX11 yX11_forgetMoves wsX11_forgetMoves) := goodIn_app (goodIn_of _ (by decide +kernel)) ggX11_restore_X11_forgetMoves
set_option maxRecDepth 20000 in
theorem ggX11_restore_X11_gapCell : GoodIn wsX11_restore wsX11_gapCell := goodIn_r _ [64, 8, 65, 66, 6, 67, 68, 69, 70, 71, 72, 73, 74, 75, 76, 77, 78, 79, 80, 81, 82, 83, 84, 85, 86, 87, 88, 89, 90, 91, 92, 93, 94, 116, 117, 118, 119, 120, 121, 122, 123, 124, 125, 126, 95, 96, 97, 98] (by decide +kernel) (by decide +kernel)
set_option maxRecDepth 20000 in
theorem gX11_restore_X11_gapCell : GoodIn wsX11_restore (wsV RX11 132 RX11 yX11_gapCell wsX11_gapCell) := goodIn_app (goodIn_of _ (by decide +kernel)) ggX11_restore_X11_gapCell
theorem dX11_restore_0 : decode cX11_restore 0 = .ok (.iload_n 1, 1) := by decide +kernel
theorem dX11_restore_1 : decode cX11_restore 1 = .ok (.invokestatic 240, 3) := by decide +kernel
theorem dX11_restore_4 : decode cX11_restore 4 = .ok (.ifCond .ne 13, 3) := by decide +kernel
theorem dX11_restore_7 : decode cX11_restore 7 = .ok (.new 168, 3) := by decide +kernel
theorem dX11_restore_10 : decode cX11_restore 10 = .ok (.dup, 1) := by decide +kernel
theorem dX11_restore_11 : decode cX11_restore 11 = .ok (.ldc 243, 2) := by decide +kernel
theorem dX11_restore_13 : decode cX11_restore 13 = .ok (.invokespecial 172, 3) := by decide +kernel
theorem dX11_restore_16 : decode cX11_restore 16 = .ok (.athrow, 1) := by decide +kernel
theorem dX11_restore_17 : decode cX11_restore 17 = .ok (.aload_n 0, 1) := by decide +kernel
theorem dX11_restore_18 : decode cX11_restore 18 = .ok (.getfield 36, 3) := by decide +kernel
theorem dX11_restore_21 : decode cX11_restore 21 = .ok (.iload_n 1, 1) := by decide +kernel
theorem dX11_restore_22 : decode cX11_restore 22 = .ok (.baload, 1) := by decide +kernel
theorem dX11_restore_23 : decode cX11_restore 23 = .ok (.ifCond .ne 13, 3) := by decide +kernel
theorem dX11_restore_26 : decode cX11_restore 26 = .ok (.new 197, 3) := by decide +kernel
theorem dX11_restore_29 : decode cX11_restore 29 = .ok (.dup, 1) := by decide +kernel
theorem dX11_restore_30 : decode cX11_restore 30 = .ok (.ldc 251, 2) := by decide +kernel
theorem dX11_restore_32 : decode cX11_restore 32 = .ok (.invokespecial 201, 3) := by decide +kernel
theorem dX11_restore_35 : decode cX11_restore 35 = .ok (.athrow, 1) := by decide +kernel
theorem dX11_restore_36 : decode cX11_restore 36 = .ok (.aload_n 0, 1) := by decide +kernel
theorem dX11_restore_37 : decode cX11_restore 37 = .ok (.getfield 19, 3) := by decide +kernel
theorem dX11_restore_40 : decode cX11_restore 40 = .ok (.aload_n 0, 1) := by decide +kernel
theorem dX11_restore_41 : decode cX11_restore 41 = .ok (.getfield 26, 3) := by decide +kernel
theorem dX11_restore_44 : decode cX11_restore 44 = .ok (.iload_n 1, 1) := by decide +kernel
theorem dX11_restore_45 : decode cX11_restore 45 = .ok (.aaload, 1) := by decide +kernel
theorem dX11_restore_46 : decode cX11_restore 46 = .ok (.invokevirtual 245, 3) := by decide +kernel
theorem dX11_restore_49 : decode cX11_restore 49 = .ok (.aload_n 0, 1) := by decide +kernel
theorem dX11_restore_50 : decode cX11_restore 50 = .ok (.getfield 12, 3) := by decide +kernel
theorem dX11_restore_53 : decode cX11_restore 53 = .ok (.getfield 153, 3) := by decide +kernel
theorem dX11_restore_56 : decode cX11_restore 56 = .ok (.aload_n 0, 1) := by decide +kernel
theorem dX11_restore_57 : decode cX11_restore 57 = .ok (.getfield 32, 3) := by decide +kernel
theorem dX11_restore_60 : decode cX11_restore 60 = .ok (.iload_n 1, 1) := by decide +kernel
theorem dX11_restore_61 : decode cX11_restore 61 = .ok (.aaload, 1) := by decide +kernel
theorem dX11_restore_62 : decode cX11_restore 62 = .ok (.invokevirtual 248, 3) := by decide +kernel
theorem dX11_restore_65 : decode cX11_restore 65 = .ok (.aload_n 0, 1) := by decide +kernel
theorem dX11_restore_66 : decode cX11_restore 66 = .ok (.invokevirtual 161, 3) := by decide +kernel
theorem dX11_restore_69 : decode cX11_restore 69 = .ok (.aload_n 0, 1) := by decide +kernel
theorem dX11_restore_70 : decode cX11_restore 70 = .ok (.invokevirtual 129, 3) := by decide +kernel
theorem dX11_restore_73 : decode cX11_restore 73 = .ok (.aload_n 0, 1) := by decide +kernel
theorem dX11_restore_74 : decode cX11_restore 74 = .ok (.invokevirtual 132, 3) := by decide +kernel
theorem dX11_restore_77 : decode cX11_restore 77 = .ok (.ireturn, 1) := by decide +kernel
theorem dX11_tileAt_0 : decode cX11_tileAt 0 = .ok (.iload_n 1, 1) := by decide +kernel
theorem dX11_tileAt_1 : decode cX11_tileAt 1 = .ok (.ifCond .lt 17, 3) := by decide +kernel
theorem dX11_tileAt_4 : decode cX11_tileAt 4 = .ok (.iload_n 1, 1) := by decide +kernel
theorem dX11_tileAt_5 : decode cX11_tileAt 5 = .ok (.aload_n 0, 1) := by decide +kernel
theorem dX11_tileAt_6 : decode cX11_tileAt 6 = .ok (.getfield 12, 3) := by decide +kernel
theorem dX11_tileAt_9 : decode cX11_tileAt 9 = .ok (.getfield 112, 3) := by decide +kernel
theorem dX11_tileAt_12 : decode cX11_tileAt 12 = .ok (.getfield 253, 3) := by decide +kernel
theorem dX11_tileAt_15 : decode cX11_tileAt 15 = .ok (.if_icmp .lt 14, 3) := by decide +kernel
theorem dX11_tileAt_18 : decode cX11_tileAt 18 = .ok (.new 168, 3) := by decide +kernel
theorem dX11_tileAt_21 : decode cX11_tileAt 21 = .ok (.dup, 1) := by decide +kernel
theorem dX11_tileAt_22 : decode cX11_tileAt 22 = .ok (.ldc_w 256, 3) := by decide +kernel
theorem dX11_tileAt_25 : decode cX11_tileAt 25 = .ok (.invokespecial 172, 3) := by decide +kernel
theorem dX11_tileAt_28 : decode cX11_tileAt 28 = .ok (.athrow, 1) := by decide +kernel
theorem dX11_tileAt_29 : decode cX11_tileAt 29 = .ok (.aload_n 0, 1) := by decide +kernel
theorem dX11_tileAt_30 : decode cX11_tileAt 30 = .ok (.getfield 12, 3) := by decide +kernel
theorem dX11_tileAt_33 : decode cX11_tileAt 33 = .ok (.getfield 112, 3) := by decide +kernel
theorem dX11_tileAt_36 : decode cX11_tileAt 36 = .ok (.getfield 258, 3) := by decide +kernel
theorem dX11_tileAt_39 : decode cX11_tileAt 39 = .ok (.iload_n 1, 1) := by decide +kernel
theorem dX11_tileAt_40 : decode cX11_tileAt 40 = .ok (.iaload, 1) := by decide +kernel
theorem dX11_tileAt_41 : decode cX11_tileAt 41 = .ok (.istore_n 2, 1) := by decide +kernel
theorem dX11_tileAt_42 : decode cX11_tileAt 42 = .ok (.iload_n 2, 1) := by decide +kernel
theorem dX11_tileAt_43 : decode cX11_tileAt 43 = .ok (.iconst (-1), 1) := by decide +kernel
theorem dX11_tileAt_44 : decode cX11_tileAt 44 = .ok (.if_icmp .ne 7, 3) := by decide +kernel
theorem dX11_tileAt_47 : decode cX11_tileAt 47 = .ok (.iconst (-1), 1) := by decide +kernel
theorem dX11_tileAt_48 : decode cX11_tileAt 48 = .ok (.goto 12, 3) := by decide +kernel
theorem dX11_tileAt_51 : decode cX11_tileAt 51 = .ok (.aload_n 0, 1) := by decide +kernel
theorem dX11_tileAt_52 : decode cX11_tileAt 52 = .ok (.getfield 19, 3) := by decide +kernel
theorem dX11_tileAt_55 : decode cX11_tileAt 55 = .ok (.getfield 261, 3) := by decide +kernel
theorem dX11_tileAt_58 : decode cX11_tileAt 58 = .ok (.iload_n 2, 1) := by decide +kernel
theorem dX11_tileAt_59 : decode cX11_tileAt 59 = .ok (.iaload, 1) := by decide +kernel
theorem dX11_tileAt_60 : decode cX11_tileAt 60 = .ok (.ireturn, 1) := by decide +kernel
set_option maxRecDepth 20000 in
theorem ggX11_rank_X7_toRank : GoodIn wsX11_rank wsX7_toRank := goodIn_r _ [6, 7, 8, 9, 10, 11, 5, 12, 13, 14, 15, 16, 17, 18, 19, 39, 40, 41, 42] (by decide +kernel) (by decide +kernel)
set_option maxRecDepth 20000 in
theorem gX11_rank_X7_toRank : GoodIn wsX11_rank (wsV RX11 164 RX7 yX7_toRank wsX7_toRank) := goodIn_app (goodIn_of _ (by decide +kernel)) ggX11_rank_X7_toRank
theorem dX11_rank_0 : decode cX11_rank 0 = .ok (.aload_n 0, 1) := by decide +kernel
theorem dX11_rank_1 : decode cX11_rank 1 = .ok (.getfield 19, 3) := by decide +kernel
theorem dX11_rank_4 : decode cX11_rank 4 = .ok (.invokevirtual 164, 3) := by decide +kernel
theorem dX11_rank_7 : decode cX11_rank 7 = .ok (.lreturn, 1) := by decide +kernel
set_option maxRecDepth 20000 in
theorem ggX11_inversions_X7_disorder : GoodIn wsX11_inversions wsX7_disorder := goodIn_r _ [6, 7, 8, 9, 10, 11, 5, 12, 13, 14, 15, 16, 17, 18, 19, 39, 40, 41, 42] (by decide +kernel) (by decide +kernel)
set_option maxRecDepth 20000 in
theorem gX11_inversions_X7_disorder : GoodIn wsX11_inversions (wsV RX11 264 RX7 yX7_disorder wsX7_disorder) := goodIn_app (goodIn_of _ (by decide +kernel)) ggX11_inversions_X7_disorder
theorem dX11_inversions_0 : decode cX11_inversions 0 = .ok (.aload_n 0, 1) := by decide +kernel
theorem dX11_inversions_1 : decode cX11_inversions 1 = .ok (.getfield 19, 3) := by decide +kernel
theorem dX11_inversions_4 : decode cX11_inversions 4 = .ok (.invokevirtual 264, 3) := by decide +kernel
theorem dX11_inversions_7 : decode cX11_inversions 7 = .ok (.ireturn, 1) := by decide +kernel
set_option maxRecDepth 20000 in
theorem ggX11_reaches_X4_hasWalls : GoodIn wsX11_reaches wsX4_hasWalls := goodIn_r _ [13, 14, 15, 96, 97, 98, 99, 100, 101, 102, 103, 104, 105, 106] (by decide +kernel) (by decide +kernel)
set_option maxRecDepth 20000 in
theorem gX11_reaches_X4_hasWalls : GoodIn wsX11_reaches (wsV RX11 267 RX4 yX4_hasWalls wsX4_hasWalls) := goodIn_app (goodIn_of _ (by decide +kernel)) ggX11_reaches_X4_hasWalls
set_option maxRecDepth 20000 in
theorem ggX11_reaches_X1_leavesFree : GoodIn wsX11_reaches wsX1_leavesFree := goodIn_r _ [20, 21, 107, 108, 109, 110] (by decide +kernel) (by decide +kernel)
set_option maxRecDepth 20000 in
theorem gX11_reaches_X1_leavesFree : GoodIn wsX11_reaches (wsV RX11 271 RX1 yX1_leavesFree wsX1_leavesFree) := goodIn_app (goodIn_of _ (by decide +kernel)) ggX11_reaches_X1_leavesFree
set_option maxRecDepth 20000 in
theorem ggX11_reaches_X1_layOut : GoodIn wsX11_reaches wsX1_layOut := goodIn_r _ [25, 26, 27, 28, 29, 30, 31, 32, 33, 34, 35, 36, 37, 38, 39, 40, 41, 42, 43, 44, 45, 46, 47, 48, 107, 108, 109, 110, 92, 93, 94, 95] (by decide +kernel) (by decide +kernel)
set_option maxRecDepth 20000 in
theorem gX11_reaches_X1_layOut : GoodIn wsX11_reaches (wsV RX11 276 RX1 yX1_layOut wsX1_layOut) := goodIn_app (goodIn_of _ (by decide +kernel)) ggX11_reaches_X1_layOut
set_option maxRecDepth 20000 in
theorem ggX11_reaches_X4_stepsBetween : GoodIn wsX11_reaches wsX4_stepsBetween := goodIn_r _ [52, 53, 96, 97, 98, 99, 100, 101, 102, 103, 104, 105, 106] (by decide +kernel) (by decide +kernel)
set_option maxRecDepth 20000 in
theorem gX11_reaches_X4_stepsBetween : GoodIn wsX11_reaches (wsV RX11 279 RX4 yX4_stepsBetween wsX4_stepsBetween) := goodIn_app (goodIn_of _ (by decide +kernel)) ggX11_reaches_X4_stepsBetween
set_option maxRecDepth 20000 in
theorem ggX11_reaches_X7_disorder : GoodIn wsX11_reaches wsX7_disorder := goodIn_r _ [57, 41, 34, 42, 43, 44, 32, 45, 58, 59, 60, 61, 62, 63, 64, 92, 93, 94, 95] (by decide +kernel) (by decide +kernel)
set_option maxRecDepth 20000 in
theorem gX11_reaches_X7_disorder : GoodIn wsX11_reaches (wsV RX11 264 RX7 yX7_disorder wsX7_disorder) := goodIn_app (goodIn_of _ (by decide +kernel)) ggX11_reaches_X7_disorder
theorem dX11_reaches_0 : decode cX11_reaches 0 = .ok (.aload_n 0, 1) := by decide +kernel
theorem dX11_reaches_1 : decode cX11_reaches 1 = .ok (.getfield 12, 3) := by decide +kernel
theorem dX11_reaches_4 : decode cX11_reaches 4 = .ok (.getfield 112, 3) := by decide +kernel
theorem dX11_reaches_7 : decode cX11_reaches 7 = .ok (.invokevirtual 267, 3) := by decide +kernel
theorem dX11_reaches_10 : decode cX11_reaches 10 = .ok (.ifCond .ne 16, 3) := by decide +kernel
theorem dX11_reaches_13 : decode cX11_reaches 13 = .ok (.aload_n 0, 1) := by decide +kernel
theorem dX11_reaches_14 : decode cX11_reaches 14 = .ok (.getfield 12, 3) := by decide +kernel
theorem dX11_reaches_17 : decode cX11_reaches 17 = .ok (.getfield 153, 3) := by decide +kernel
theorem dX11_reaches_20 : decode cX11_reaches 20 = .ok (.invokevirtual 271, 3) := by decide +kernel
theorem dX11_reaches_23 : decode cX11_reaches 23 = .ok (.ifCond .eq 14, 3) := by decide +kernel
theorem dX11_reaches_26 : decode cX11_reaches 26 = .ok (.new 197, 3) := by decide +kernel
theorem dX11_reaches_29 : decode cX11_reaches 29 = .ok (.dup, 1) := by decide +kernel
theorem dX11_reaches_30 : decode cX11_reaches 30 = .ok (.ldc_w 274, 3) := by decide +kernel
theorem dX11_reaches_33 : decode cX11_reaches 33 = .ok (.invokespecial 201, 3) := by decide +kernel
theorem dX11_reaches_36 : decode cX11_reaches 36 = .ok (.athrow, 1) := by decide +kernel
theorem dX11_reaches_37 : decode cX11_reaches 37 = .ok (.aload_n 0, 1) := by decide +kernel
theorem dX11_reaches_38 : decode cX11_reaches 38 = .ok (.getfield 12, 3) := by decide +kernel
theorem dX11_reaches_41 : decode cX11_reaches 41 = .ok (.getfield 153, 3) := by decide +kernel
theorem dX11_reaches_44 : decode cX11_reaches 44 = .ok (.aload_n 0, 1) := by decide +kernel
theorem dX11_reaches_45 : decode cX11_reaches 45 = .ok (.getfield 23, 3) := by decide +kernel
theorem dX11_reaches_48 : decode cX11_reaches 48 = .ok (.invokevirtual 276, 3) := by decide +kernel
theorem dX11_reaches_51 : decode cX11_reaches 51 = .ok (.aload_n 0, 1) := by decide +kernel
theorem dX11_reaches_52 : decode cX11_reaches 52 = .ok (.getfield 12, 3) := by decide +kernel
theorem dX11_reaches_55 : decode cX11_reaches 55 = .ok (.getfield 112, 3) := by decide +kernel
theorem dX11_reaches_58 : decode cX11_reaches 58 = .ok (.aload_n 0, 1) := by decide +kernel
theorem dX11_reaches_59 : decode cX11_reaches 59 = .ok (.getfield 19, 3) := by decide +kernel
theorem dX11_reaches_62 : decode cX11_reaches 62 = .ok (.getfield 137, 3) := by decide +kernel
theorem dX11_reaches_65 : decode cX11_reaches 65 = .ok (.iconst 0, 1) := by decide +kernel
theorem dX11_reaches_66 : decode cX11_reaches 66 = .ok (.iaload, 1) := by decide +kernel
theorem dX11_reaches_67 : decode cX11_reaches 67 = .ok (.aload_n 0, 1) := by decide +kernel
theorem dX11_reaches_68 : decode cX11_reaches 68 = .ok (.getfield 23, 3) := by decide +kernel
theorem dX11_reaches_71 : decode cX11_reaches 71 = .ok (.getfield 137, 3) := by decide +kernel
theorem dX11_reaches_74 : decode cX11_reaches 74 = .ok (.iconst 0, 1) := by decide +kernel
theorem dX11_reaches_75 : decode cX11_reaches 75 = .ok (.iaload, 1) := by decide +kernel
theorem dX11_reaches_76 : decode cX11_reaches 76 = .ok (.invokevirtual 279, 3) := by decide +kernel
theorem dX11_reaches_79 : decode cX11_reaches 79 = .ok (.istore_n 1, 1) := by decide +kernel
theorem dX11_reaches_80 : decode cX11_reaches 80 = .ok (.aload_n 0, 1) := by decide +kernel
theorem dX11_reaches_81 : decode cX11_reaches 81 = .ok (.getfield 19, 3) := by decide +kernel
theorem dX11_reaches_84 : decode cX11_reaches 84 = .ok (.invokevirtual 264, 3) := by decide +kernel
theorem dX11_reaches_87 : decode cX11_reaches 87 = .ok (.aload_n 0, 1) := by decide +kernel
theorem dX11_reaches_88 : decode cX11_reaches 88 = .ok (.getfield 23, 3) := by decide +kernel
theorem dX11_reaches_91 : decode cX11_reaches 91 = .ok (.invokevirtual 264, 3) := by decide +kernel
theorem dX11_reaches_94 : decode cX11_reaches 94 = .ok (.iadd, 1) := by decide +kernel
theorem dX11_reaches_95 : decode cX11_reaches 95 = .ok (.iload_n 1, 1) := by decide +kernel
theorem dX11_reaches_96 : decode cX11_reaches 96 = .ok (.iadd, 1) := by decide +kernel
theorem dX11_reaches_97 : decode cX11_reaches 97 = .ok (.iconst 2, 1) := by decide +kernel
theorem dX11_reaches_98 : decode cX11_reaches 98 = .ok (.irem, 1) := by decide +kernel
theorem dX11_reaches_99 : decode cX11_reaches 99 = .ok (.ifCond .ne 7, 3) := by decide +kernel
theorem dX11_reaches_102 : decode cX11_reaches 102 = .ok (.iconst 1, 1) := by decide +kernel
theorem dX11_reaches_103 : decode cX11_reaches 103 = .ok (.goto 4, 3) := by decide +kernel
theorem dX11_reaches_106 : decode cX11_reaches 106 = .ok (.iconst 0, 1) := by decide +kernel
theorem dX11_reaches_107 : decode cX11_reaches 107 = .ok (.ireturn, 1) := by decide +kernel
set_option maxRecDepth 20000 in
theorem ggX11_estimate_X11_isEstimate : GoodIn wsX11_estimate wsX11_isEstimate := goodIn_r _ [8] (by decide +kernel) (by decide +kernel)
set_option maxRecDepth 20000 in
theorem gX11_estimate_X11_isEstimate : GoodIn wsX11_estimate (va_wsS RX11 282 yX11_isEstimate wsX11_isEstimate) := goodIn_app (goodIn_of _ (by decide +kernel)) ggX11_estimate_X11_isEstimate
set_option maxRecDepth 20000 in
theorem ggX11_estimate_X9_guess : GoodIn wsX11_estimate wsX9_guess := goodIn_r _ [13, 14, 15, 16, 12, 17, 18, 19, 20, 21, 22, 23, 24, 25, 26, 27, 28, 29, 30, 31, 32, 33, 34, 35, 36, 37, 38, 39, 40, 41, 42, 43, 44, 45, 46, 47, 48, 49, 50, 51, 52, 53, 54, 55, 56, 57, 58, 59, 60, 61, 62, 63, 64, 65, 66, 67, 68, 69, 70, 71, 72, 73, 74, 75, 76, 77, 78, 79, 80, 81, 82, 83, 84, 85, 86, 87, 88, 89, 90, 91, 111, 112, 113, 114, 115, 116, 117, 118, 119, 120, 121, 122, 123, 124, 125, 126, 127, 128, 129, 130, 131, 132, 133, 134, 135, 136, 137, 138, 139, 140, 141, 142, 143, 144] (by decide +kernel) (by decide +kernel)
set_option maxRecDepth 20000 in
theorem gX11_estimate_X9_guess : GoodIn wsX11_estimate (wsV RX11 287 RX9 yX9_guess wsX9_guess) := goodIn_app (goodIn_of _ (by decide +kernel)) ggX11_estimate_X9_guess
theorem dX11_estimate_0 : decode cX11_estimate 0 = .ok (.iload_n 1, 1) := by decide +kernel
theorem dX11_estimate_1 : decode cX11_estimate 1 = .ok (.invokestatic 282, 3) := by decide +kernel
theorem dX11_estimate_4 : decode cX11_estimate 4 = .ok (.ifCond .ne 14, 3) := by decide +kernel
theorem dX11_estimate_7 : decode cX11_estimate 7 = .ok (.new 101, 3) := by decide +kernel
theorem dX11_estimate_10 : decode cX11_estimate 10 = .ok (.dup, 1) := by decide +kernel
theorem dX11_estimate_11 : decode cX11_estimate 11 = .ok (.ldc_w 285, 3) := by decide +kernel
theorem dX11_estimate_14 : decode cX11_estimate 14 = .ok (.invokespecial 105, 3) := by decide +kernel
theorem dX11_estimate_17 : decode cX11_estimate 17 = .ok (.athrow, 1) := by decide +kernel
theorem dX11_estimate_18 : decode cX11_estimate 18 = .ok (.aload_n 0, 1) := by decide +kernel
theorem dX11_estimate_19 : decode cX11_estimate 19 = .ok (.getfield 12, 3) := by decide +kernel
theorem dX11_estimate_22 : decode cX11_estimate 22 = .ok (.aload_n 0, 1) := by decide +kernel
theorem dX11_estimate_23 : decode cX11_estimate 23 = .ok (.getfield 19, 3) := by decide +kernel
theorem dX11_estimate_26 : decode cX11_estimate 26 = .ok (.iload_n 1, 1) := by decide +kernel
theorem dX11_estimate_27 : decode cX11_estimate 27 = .ok (.invokevirtual 287, 3) := by decide +kernel
theorem dX11_estimate_30 : decode cX11_estimate 30 = .ok (.ireturn, 1) := by decide +kernel
set_option maxRecDepth 20000 in
theorem ggX11_solve_X11_isEstimate : GoodIn wsX11_solve wsX11_isEstimate := goodIn_r _ [15] (by decide +kernel) (by decide +kernel)
set_option maxRecDepth 20000 in
theorem gX11_solve_X11_isEstimate : GoodIn wsX11_solve (va_wsS RX11 282 yX11_isEstimate wsX11_isEstimate) := goodIn_app (goodIn_of _ (by decide +kernel)) ggX11_solve_X11_isEstimate
set_option maxRecDepth 20000 in
theorem ggX11_solve_X3_seek : GoodIn wsX11_solve wsX3_seek := goodIn_r _ [20, 21, 22, 23, 24, 25, 26, 27, 28, 29, 30, 31, 32, 33, 34, 35, 36, 37, 38, 39, 40, 41, 42, 43, 44, 45, 46, 47, 48, 49, 50, 51, 52, 53, 54, 55, 56, 57, 58, 59, 60, 61, 19, 62, 63, 64, 65, 66, 67, 68, 69, 70, 71, 72, 73, 74, 75, 76, 77, 78, 79, 80, 81, 82, 83, 84, 85, 86, 87, 88, 89, 90, 91, 92, 93, 94, 95, 96, 97, 98, 99, 100, 101, 102, 103, 104, 105, 106, 107, 108, 109, 110, 111, 112, 113, 114, 115, 116, 117, 118, 119, 120, 121, 122, 123, 124, 125, 126, 127, 128, 129, 130, 131, 132, 133, 134, 135, 136, 137, 138, 139, 140, 141, 142, 143, 144, 145, 146, 147, 148, 149, 150, 151, 152, 153, 154, 155, 156, 157, 158, 159, 160, 161, 162, 163, 164, 165, 166, 167, 168, 169, 170, 171, 172, 173, 174, 175, 176, 177, 178, 179, 180, 181, 182, 183, 184, 185, 186, 187, 188, 189, 190, 191, 192, 193, 194, 195, 196, 197, 198, 199, 200, 201, 202, 203, 204, 205, 206, 207, 208, 209, 210, 211, 212, 213, 214, 215, 216, 217, 218, 219, 220, 221, 222, 223, 224, 225, 226, 14, 227, 256, 257, 258, 259, 260, 261, 262, 263, 264, 265, 266, 267, 268, 269, 270, 271, 272, 273, 274, 275, 276, 277, 278, 279, 280, 281, 282, 283, 284, 285, 286, 287, 288, 289, 290, 291, 292, 293, 294, 295, 296, 297, 298, 299, 300, 301, 302, 303, 304, 305, 306, 307] (by decide +kernel) (by decide +kernel)
set_option maxRecDepth 20000 in
theorem gX11_solve_X3_seek : GoodIn wsX11_solve (wsV RX11 291 RX3 yX3_seek wsX3_seek) := goodIn_app (goodIn_of _ (by decide +kernel)) ggX11_solve_X3_seek
set_option maxRecDepth 20000 in
theorem ggX11_solve_X3_copyWay : GoodIn wsX11_solve wsX3_copyWay := goodIn_r _ [231, 24, 66, 67, 256, 257, 258, 259, 260, 261, 262, 263] (by decide +kernel) (by decide +kernel)
set_option maxRecDepth 20000 in
theorem gX11_solve_X3_copyWay : GoodIn wsX11_solve (wsV RX11 297 RX3 yX3_copyWay wsX3_copyWay) := goodIn_app (goodIn_of _ (by decide +kernel)) ggX11_solve_X3_copyWay
set_option maxRecDepth 20000 in
theorem ggX11_solve_X11_tell : GoodIn wsX11_solve wsX11_tell := goodIn_r _ [235, 236, 237, 238, 239, 240, 241, 242, 243, 244, 245, 246, 247, 248, 249, 250, 251, 252, 253, 254, 255] (by decide +kernel) (by decide +kernel)
set_option maxRecDepth 20000 in
theorem gX11_solve_X11_tell : GoodIn wsX11_solve (wsV RX11 307 RX11 yX11_tell wsX11_tell) := goodIn_app (goodIn_of _ (by decide +kernel)) ggX11_solve_X11_tell
theorem dX11_solve_0 : decode cX11_solve 0 = .ok (.iload_n 1, 1) := by decide +kernel
theorem dX11_solve_1 : decode cX11_solve 1 = .ok (.invokestatic 282, 3) := by decide +kernel
theorem dX11_solve_4 : decode cX11_solve 4 = .ok (.ifCond .ne 14, 3) := by decide +kernel
theorem dX11_solve_7 : decode cX11_solve 7 = .ok (.new 101, 3) := by decide +kernel
theorem dX11_solve_10 : decode cX11_solve 10 = .ok (.dup, 1) := by decide +kernel
theorem dX11_solve_11 : decode cX11_solve 11 = .ok (.ldc_w 285, 3) := by decide +kernel
theorem dX11_solve_14 : decode cX11_solve 14 = .ok (.invokespecial 105, 3) := by decide +kernel
theorem dX11_solve_17 : decode cX11_solve 17 = .ok (.athrow, 1) := by decide +kernel
theorem dX11_solve_18 : decode cX11_solve 18 = .ok (.aload_n 0, 1) := by decide +kernel
theorem dX11_solve_19 : decode cX11_solve 19 = .ok (.getfield 55, 3) := by decide +kernel
theorem dX11_solve_22 : decode cX11_solve 22 = .ok (.aload_n 0, 1) := by decide +kernel
theorem dX11_solve_23 : decode cX11_solve 23 = .ok (.getfield 12, 3) := by decide +kernel
theorem dX11_solve_26 : decode cX11_solve 26 = .ok (.aload_n 0, 1) := by decide +kernel
theorem dX11_solve_27 : decode cX11_solve 27 = .ok (.getfield 19, 3) := by decide +kernel
theorem dX11_solve_30 : decode cX11_solve 30 = .ok (.iload_n 1, 1) := by decide +kernel
theorem dX11_solve_31 : decode cX11_solve 31 = .ok (.aload_n 0, 1) := by decide +kernel
theorem dX11_solve_32 : decode cX11_solve 32 = .ok (.getfield 86, 3) := by decide +kernel
theorem dX11_solve_35 : decode cX11_solve 35 = .ok (.invokevirtual 291, 3) := by decide +kernel
theorem dX11_solve_38 : decode cX11_solve 38 = .ok (.istore_n 2, 1) := by decide +kernel
theorem dX11_solve_39 : decode cX11_solve 39 = .ok (.iload_n 2, 1) := by decide +kernel
theorem dX11_solve_40 : decode cX11_solve 40 = .ok (.bipush (-2), 2) := by decide +kernel
theorem dX11_solve_42 : decode cX11_solve 42 = .ok (.if_icmp .ne 14, 3) := by decide +kernel
theorem dX11_solve_45 : decode cX11_solve 45 = .ok (.new 197, 3) := by decide +kernel
theorem dX11_solve_48 : decode cX11_solve 48 = .ok (.dup, 1) := by decide +kernel
theorem dX11_solve_49 : decode cX11_solve 49 = .ok (.ldc_w 295, 3) := by decide +kernel
theorem dX11_solve_52 : decode cX11_solve 52 = .ok (.invokespecial 201, 3) := by decide +kernel
theorem dX11_solve_55 : decode cX11_solve 55 = .ok (.athrow, 1) := by decide +kernel
theorem dX11_solve_56 : decode cX11_solve 56 = .ok (.aload_n 0, 1) := by decide +kernel
theorem dX11_solve_57 : decode cX11_solve 57 = .ok (.aload_n 0, 1) := by decide +kernel
theorem dX11_solve_58 : decode cX11_solve 58 = .ok (.getfield 55, 3) := by decide +kernel
theorem dX11_solve_61 : decode cX11_solve 61 = .ok (.aload_n 0, 1) := by decide +kernel
theorem dX11_solve_62 : decode cX11_solve 62 = .ok (.getfield 80, 3) := by decide +kernel
theorem dX11_solve_65 : decode cX11_solve 65 = .ok (.invokevirtual 297, 3) := by decide +kernel
theorem dX11_solve_68 : decode cX11_solve 68 = .ok (.putfield 301, 3) := by decide +kernel
theorem dX11_solve_71 : decode cX11_solve 71 = .ok (.aload_n 0, 1) := by decide +kernel
theorem dX11_solve_72 : decode cX11_solve 72 = .ok (.aload_n 0, 1) := by decide +kernel
theorem dX11_solve_73 : decode cX11_solve 73 = .ok (.getfield 55, 3) := by decide +kernel
theorem dX11_solve_76 : decode cX11_solve 76 = .ok (.getfield 304, 3) := by decide +kernel
theorem dX11_solve_79 : decode cX11_solve 79 = .ok (.iconst 0, 1) := by decide +kernel
theorem dX11_solve_80 : decode cX11_solve 80 = .ok (.aload_n 0, 1) := by decide +kernel
theorem dX11_solve_81 : decode cX11_solve 81 = .ok (.getfield 301, 3) := by decide +kernel
theorem dX11_solve_84 : decode cX11_solve 84 = .ok (.invokevirtual 307, 3) := by decide +kernel
theorem dX11_solve_87 : decode cX11_solve 87 = .ok (.iload_n 2, 1) := by decide +kernel
theorem dX11_solve_88 : decode cX11_solve 88 = .ok (.ireturn, 1) := by decide +kernel
set_option maxRecDepth 20000 in
theorem ggX11_deepen_X11_isEstimate : GoodIn wsX11_deepen wsX11_isEstimate := goodIn_r _ [16] (by decide +kernel) (by decide +kernel)
set_option maxRecDepth 20000 in
theorem gX11_deepen_X11_isEstimate : GoodIn wsX11_deepen (va_wsS RX11 282 yX11_isEstimate wsX11_isEstimate) := goodIn_app (goodIn_of _ (by decide +kernel)) ggX11_deepen_X11_isEstimate
set_option maxRecDepth 20000 in
theorem ggX11_deepen_X5_seek : GoodIn wsX11_deepen wsX5_seek := goodIn_r _ [21, 22, 23, 24, 25, 26, 27, 28, 29, 30, 31, 32, 33, 34, 35, 36, 37, 38, 39, 40, 41, 42, 43, 44, 45, 46, 47, 48, 49, 50, 51, 52, 53, 54, 55, 56, 57, 58, 59, 60, 61, 62, 63, 64, 65, 66, 67, 68, 69, 70, 71, 72, 73, 74, 75, 76, 77, 78, 79, 80, 81, 82, 83, 84, 85, 86, 87, 88, 89, 90, 91, 92, 93, 94, 95, 96, 97, 98, 99, 100, 101, 102, 103, 104, 105, 106, 107, 108, 109, 110, 111, 112, 113, 114, 115, 116, 117, 118, 119, 120, 121, 122, 123, 124, 125, 20, 126, 127, 128, 129, 130, 131, 132, 133, 134, 135, 136, 137, 138, 139, 140, 141, 142, 143, 144, 15, 145, 146, 147, 148, 149, 150, 151, 152, 153, 154, 155, 156, 157, 158, 159, 160, 161, 162, 163, 164, 165, 166, 167, 168, 169, 170, 171, 172, 173, 204, 205, 206, 207, 208, 209, 210, 211, 212, 213, 214, 215, 216, 217, 218, 219, 220, 221, 222, 223, 224, 225, 226, 227, 228, 229, 230, 231, 232, 233, 234, 235, 236, 237, 238, 239, 240, 241, 242, 243, 244, 245] (by decide +kernel) (by decide +kernel)
set_option maxRecDepth 20000 in
theorem gX11_deepen_X5_seek : GoodIn wsX11_deepen (wsV RX11 310 RX5 yX5_seek wsX5_seek) := goodIn_app (goodIn_of _ (by decide +kernel)) ggX11_deepen_X5_seek
set_option maxRecDepth 20000 in
theorem ggX11_deepen_X5_copyWay : GoodIn wsX11_deepen wsX5_copyWay := goodIn_r _ [177, 25, 178, 92, 93, 94, 130, 179, 119, 120, 121, 204, 205, 206, 207, 208, 209, 210, 211] (by decide +kernel) (by decide +kernel)
set_option maxRecDepth 20000 in
theorem gX11_deepen_X5_copyWay : GoodIn wsX11_deepen (wsV RX11 313 RX5 yX5_copyWay wsX5_copyWay) := goodIn_app (goodIn_of _ (by decide +kernel)) ggX11_deepen_X5_copyWay
set_option maxRecDepth 20000 in
theorem ggX11_deepen_X11_tell : GoodIn wsX11_deepen wsX11_tell := goodIn_r _ [183, 184, 185, 186, 187, 188, 189, 190, 191, 192, 193, 194, 195, 196, 197, 198, 199, 200, 201, 202, 203] (by decide +kernel) (by decide +kernel)
set_option maxRecDepth 20000 in
theorem gX11_deepen_X11_tell : GoodIn wsX11_deepen (wsV RX11 307 RX11 yX11_tell wsX11_tell) := goodIn_app (goodIn_of _ (by decide +kernel)) ggX11_deepen_X11_tell
theorem dX11_deepen_0 : decode cX11_deepen 0 = .ok (.iload_n 1, 1) := by decide +kernel
theorem dX11_deepen_1 : decode cX11_deepen 1 = .ok (.invokestatic 282, 3) := by decide +kernel
theorem dX11_deepen_4 : decode cX11_deepen 4 = .ok (.ifCond .ne 14, 3) := by decide +kernel
theorem dX11_deepen_7 : decode cX11_deepen 7 = .ok (.new 101, 3) := by decide +kernel
theorem dX11_deepen_10 : decode cX11_deepen 10 = .ok (.dup, 1) := by decide +kernel
theorem dX11_deepen_11 : decode cX11_deepen 11 = .ok (.ldc_w 285, 3) := by decide +kernel
theorem dX11_deepen_14 : decode cX11_deepen 14 = .ok (.invokespecial 105, 3) := by decide +kernel
theorem dX11_deepen_17 : decode cX11_deepen 17 = .ok (.athrow, 1) := by decide +kernel
theorem dX11_deepen_18 : decode cX11_deepen 18 = .ok (.aload_n 0, 1) := by decide +kernel
theorem dX11_deepen_19 : decode cX11_deepen 19 = .ok (.getfield 62, 3) := by decide +kernel
theorem dX11_deepen_22 : decode cX11_deepen 22 = .ok (.aload_n 0, 1) := by decide +kernel
theorem dX11_deepen_23 : decode cX11_deepen 23 = .ok (.getfield 12, 3) := by decide +kernel
theorem dX11_deepen_26 : decode cX11_deepen 26 = .ok (.aload_n 0, 1) := by decide +kernel
theorem dX11_deepen_27 : decode cX11_deepen 27 = .ok (.getfield 19, 3) := by decide +kernel
theorem dX11_deepen_30 : decode cX11_deepen 30 = .ok (.iload_n 1, 1) := by decide +kernel
theorem dX11_deepen_31 : decode cX11_deepen 31 = .ok (.aload_n 0, 1) := by decide +kernel
theorem dX11_deepen_32 : decode cX11_deepen 32 = .ok (.getfield 86, 3) := by decide +kernel
theorem dX11_deepen_35 : decode cX11_deepen 35 = .ok (.invokevirtual 310, 3) := by decide +kernel
theorem dX11_deepen_38 : decode cX11_deepen 38 = .ok (.istore_n 2, 1) := by decide +kernel
theorem dX11_deepen_39 : decode cX11_deepen 39 = .ok (.iload_n 2, 1) := by decide +kernel
theorem dX11_deepen_40 : decode cX11_deepen 40 = .ok (.bipush (-2), 2) := by decide +kernel
theorem dX11_deepen_42 : decode cX11_deepen 42 = .ok (.if_icmp .ne 14, 3) := by decide +kernel
theorem dX11_deepen_45 : decode cX11_deepen 45 = .ok (.new 197, 3) := by decide +kernel
theorem dX11_deepen_48 : decode cX11_deepen 48 = .ok (.dup, 1) := by decide +kernel
theorem dX11_deepen_49 : decode cX11_deepen 49 = .ok (.ldc_w 311, 3) := by decide +kernel
theorem dX11_deepen_52 : decode cX11_deepen 52 = .ok (.invokespecial 201, 3) := by decide +kernel
theorem dX11_deepen_55 : decode cX11_deepen 55 = .ok (.athrow, 1) := by decide +kernel
theorem dX11_deepen_56 : decode cX11_deepen 56 = .ok (.aload_n 0, 1) := by decide +kernel
theorem dX11_deepen_57 : decode cX11_deepen 57 = .ok (.aload_n 0, 1) := by decide +kernel
theorem dX11_deepen_58 : decode cX11_deepen 58 = .ok (.getfield 62, 3) := by decide +kernel
theorem dX11_deepen_61 : decode cX11_deepen 61 = .ok (.aload_n 0, 1) := by decide +kernel
theorem dX11_deepen_62 : decode cX11_deepen 62 = .ok (.getfield 80, 3) := by decide +kernel
theorem dX11_deepen_65 : decode cX11_deepen 65 = .ok (.invokevirtual 313, 3) := by decide +kernel
theorem dX11_deepen_68 : decode cX11_deepen 68 = .ok (.putfield 301, 3) := by decide +kernel
theorem dX11_deepen_71 : decode cX11_deepen 71 = .ok (.aload_n 0, 1) := by decide +kernel
theorem dX11_deepen_72 : decode cX11_deepen 72 = .ok (.aload_n 0, 1) := by decide +kernel
theorem dX11_deepen_73 : decode cX11_deepen 73 = .ok (.getfield 62, 3) := by decide +kernel
theorem dX11_deepen_76 : decode cX11_deepen 76 = .ok (.getfield 314, 3) := by decide +kernel
theorem dX11_deepen_79 : decode cX11_deepen 79 = .ok (.aload_n 0, 1) := by decide +kernel
theorem dX11_deepen_80 : decode cX11_deepen 80 = .ok (.getfield 62, 3) := by decide +kernel
theorem dX11_deepen_83 : decode cX11_deepen 83 = .ok (.getfield 317, 3) := by decide +kernel
theorem dX11_deepen_86 : decode cX11_deepen 86 = .ok (.aload_n 0, 1) := by decide +kernel
theorem dX11_deepen_87 : decode cX11_deepen 87 = .ok (.getfield 301, 3) := by decide +kernel
theorem dX11_deepen_90 : decode cX11_deepen 90 = .ok (.invokevirtual 307, 3) := by decide +kernel
theorem dX11_deepen_93 : decode cX11_deepen 93 = .ok (.iload_n 2, 1) := by decide +kernel
theorem dX11_deepen_94 : decode cX11_deepen 94 = .ok (.ireturn, 1) := by decide +kernel
set_option maxRecDepth 20000 in
theorem ggX11_both_X1_leavesFree : GoodIn wsX11_both wsX1_leavesFree := goodIn_r _ [14, 15, 159, 160, 161, 162] (by decide +kernel) (by decide +kernel)
set_option maxRecDepth 20000 in
theorem gX11_both_X1_leavesFree : GoodIn wsX11_both (wsV RX11 271 RX1 yX1_leavesFree wsX1_leavesFree) := goodIn_app (goodIn_of _ (by decide +kernel)) ggX11_both_X1_leavesFree
set_option maxRecDepth 20000 in
theorem ggX11_both_X10_seek : GoodIn wsX11_both wsX10_seek := goodIn_r _ [20, 21, 22, 23, 24, 25, 26, 27, 28, 29, 30, 31, 32, 33, 34, 35, 36, 37, 38, 39, 40, 41, 42, 43, 44, 45, 46, 47, 48, 49, 50, 51, 52, 53, 54, 13, 55, 56, 57, 58, 59, 60, 61, 62, 63, 64, 65, 66, 67, 68, 69, 70, 71, 72, 73, 74, 75, 76, 19, 77, 78, 79, 80, 81, 82, 83, 84, 85, 86, 87, 88, 89, 90, 91, 92, 93, 94, 95, 96, 97, 98, 99, 100, 101, 102, 103, 104, 105, 106, 107, 108, 109, 110, 111, 112, 113, 114, 115, 116, 117, 118, 151, 152, 153, 154, 155, 156, 157, 158, 143, 144, 145, 146, 147, 148, 149, 150, 163, 164, 165, 166, 167, 168, 169, 170, 171, 159, 160, 161, 162, 172, 173, 174, 175, 176, 177, 178, 179, 180, 181, 182] (by decide +kernel) (by decide +kernel)
set_option maxRecDepth 20000 in
theorem gX11_both_X10_seek : GoodIn wsX11_both (wsV RX11 322 RX10 yX10_seek wsX10_seek) := goodIn_app (goodIn_of _ (by decide +kernel)) ggX11_both_X10_seek
set_option maxRecDepth 20000 in
theorem ggX11_both_X11_tell : GoodIn wsX11_both wsX11_tell := goodIn_r _ [122, 123, 124, 125, 126, 127, 128, 129, 130, 131, 132, 133, 134, 135, 136, 137, 138, 139, 140, 141, 142] (by decide +kernel) (by decide +kernel)
set_option maxRecDepth 20000 in
theorem gX11_both_X11_tell : GoodIn wsX11_both (wsV RX11 307 RX11 yX11_tell wsX11_tell) := goodIn_app (goodIn_of _ (by decide +kernel)) ggX11_both_X11_tell
theorem dX11_both_0 : decode cX11_both 0 = .ok (.aload_n 0, 1) := by decide +kernel
theorem dX11_both_1 : decode cX11_both 1 = .ok (.getfield 12, 3) := by decide +kernel
theorem dX11_both_4 : decode cX11_both 4 = .ok (.getfield 153, 3) := by decide +kernel
theorem dX11_both_7 : decode cX11_both 7 = .ok (.invokevirtual 271, 3) := by decide +kernel
theorem dX11_both_10 : decode cX11_both 10 = .ok (.ifCond .eq 14, 3) := by decide +kernel
theorem dX11_both_13 : decode cX11_both 13 = .ok (.new 197, 3) := by decide +kernel
theorem dX11_both_16 : decode cX11_both 16 = .ok (.dup, 1) := by decide +kernel
theorem dX11_both_17 : decode cX11_both 17 = .ok (.ldc_w 320, 3) := by decide +kernel
theorem dX11_both_20 : decode cX11_both 20 = .ok (.invokespecial 201, 3) := by decide +kernel
theorem dX11_both_23 : decode cX11_both 23 = .ok (.athrow, 1) := by decide +kernel
theorem dX11_both_24 : decode cX11_both 24 = .ok (.aload_n 0, 1) := by decide +kernel
theorem dX11_both_25 : decode cX11_both 25 = .ok (.getfield 69, 3) := by decide +kernel
theorem dX11_both_28 : decode cX11_both 28 = .ok (.aload_n 0, 1) := by decide +kernel
theorem dX11_both_29 : decode cX11_both 29 = .ok (.getfield 12, 3) := by decide +kernel
theorem dX11_both_32 : decode cX11_both 32 = .ok (.aload_n 0, 1) := by decide +kernel
theorem dX11_both_33 : decode cX11_both 33 = .ok (.getfield 19, 3) := by decide +kernel
theorem dX11_both_36 : decode cX11_both 36 = .ok (.aload_n 0, 1) := by decide +kernel
theorem dX11_both_37 : decode cX11_both 37 = .ok (.getfield 86, 3) := by decide +kernel
theorem dX11_both_40 : decode cX11_both 40 = .ok (.invokevirtual 322, 3) := by decide +kernel
theorem dX11_both_43 : decode cX11_both 43 = .ok (.istore_n 1, 1) := by decide +kernel
theorem dX11_both_44 : decode cX11_both 44 = .ok (.iload_n 1, 1) := by decide +kernel
theorem dX11_both_45 : decode cX11_both 45 = .ok (.bipush (-2), 2) := by decide +kernel
theorem dX11_both_47 : decode cX11_both 47 = .ok (.if_icmp .ne 14, 3) := by decide +kernel
theorem dX11_both_50 : decode cX11_both 50 = .ok (.new 197, 3) := by decide +kernel
theorem dX11_both_53 : decode cX11_both 53 = .ok (.dup, 1) := by decide +kernel
theorem dX11_both_54 : decode cX11_both 54 = .ok (.ldc_w 311, 3) := by decide +kernel
theorem dX11_both_57 : decode cX11_both 57 = .ok (.invokespecial 201, 3) := by decide +kernel
theorem dX11_both_60 : decode cX11_both 60 = .ok (.athrow, 1) := by decide +kernel
theorem dX11_both_61 : decode cX11_both 61 = .ok (.aload_n 0, 1) := by decide +kernel
theorem dX11_both_62 : decode cX11_both 62 = .ok (.aload_n 0, 1) := by decide +kernel
theorem dX11_both_63 : decode cX11_both 63 = .ok (.getfield 69, 3) := by decide +kernel
theorem dX11_both_66 : decode cX11_both 66 = .ok (.getfield 325, 3) := by decide +kernel
theorem dX11_both_69 : decode cX11_both 69 = .ok (.aload_n 0, 1) := by decide +kernel
theorem dX11_both_70 : decode cX11_both 70 = .ok (.getfield 69, 3) := by decide +kernel
theorem dX11_both_73 : decode cX11_both 73 = .ok (.getfield 328, 3) := by decide +kernel
theorem dX11_both_76 : decode cX11_both 76 = .ok (.iconst 0, 1) := by decide +kernel
theorem dX11_both_77 : decode cX11_both 77 = .ok (.invokevirtual 307, 3) := by decide +kernel
theorem dX11_both_80 : decode cX11_both 80 = .ok (.iload_n 1, 1) := by decide +kernel
theorem dX11_both_81 : decode cX11_both 81 = .ok (.ireturn, 1) := by decide +kernel
theorem dX11_searched_0 : decode cX11_searched 0 = .ok (.iload_n 1, 1) := by decide +kernel
theorem dX11_searched_1 : decode cX11_searched 1 = .ok (.ifCond .lt 12, 3) := by decide +kernel
theorem dX11_searched_4 : decode cX11_searched 4 = .ok (.iload_n 1, 1) := by decide +kernel
theorem dX11_searched_5 : decode cX11_searched 5 = .ok (.aload_n 0, 1) := by decide +kernel
theorem dX11_searched_6 : decode cX11_searched 6 = .ok (.getfield 83, 3) := by decide +kernel
theorem dX11_searched_9 : decode cX11_searched 9 = .ok (.arraylength, 1) := by decide +kernel
theorem dX11_searched_10 : decode cX11_searched 10 = .ok (.if_icmp .lt 14, 3) := by decide +kernel
theorem dX11_searched_13 : decode cX11_searched 13 = .ok (.new 101, 3) := by decide +kernel
theorem dX11_searched_16 : decode cX11_searched 16 = .ok (.dup, 1) := by decide +kernel
theorem dX11_searched_17 : decode cX11_searched 17 = .ok (.ldc_w 330, 3) := by decide +kernel
theorem dX11_searched_20 : decode cX11_searched 20 = .ok (.invokespecial 105, 3) := by decide +kernel
theorem dX11_searched_23 : decode cX11_searched 23 = .ok (.athrow, 1) := by decide +kernel
theorem dX11_searched_24 : decode cX11_searched 24 = .ok (.aload_n 0, 1) := by decide +kernel
theorem dX11_searched_25 : decode cX11_searched 25 = .ok (.getfield 83, 3) := by decide +kernel
theorem dX11_searched_28 : decode cX11_searched 28 = .ok (.iload_n 1, 1) := by decide +kernel
theorem dX11_searched_29 : decode cX11_searched 29 = .ok (.iaload, 1) := by decide +kernel
theorem dX11_searched_30 : decode cX11_searched 30 = .ok (.ireturn, 1) := by decide +kernel
theorem dX11_wayAt_0 : decode cX11_wayAt 0 = .ok (.iload_n 1, 1) := by decide +kernel
theorem dX11_wayAt_1 : decode cX11_wayAt 1 = .ok (.ifCond .lt 11, 3) := by decide +kernel
theorem dX11_wayAt_4 : decode cX11_wayAt 4 = .ok (.iload_n 1, 1) := by decide +kernel
theorem dX11_wayAt_5 : decode cX11_wayAt 5 = .ok (.aload_n 0, 1) := by decide +kernel
theorem dX11_wayAt_6 : decode cX11_wayAt 6 = .ok (.getfield 301, 3) := by decide +kernel
theorem dX11_wayAt_9 : decode cX11_wayAt 9 = .ok (.if_icmp .lt 13, 3) := by decide +kernel
theorem dX11_wayAt_12 : decode cX11_wayAt 12 = .ok (.new 235, 3) := by decide +kernel
theorem dX11_wayAt_15 : decode cX11_wayAt 15 = .ok (.dup, 1) := by decide +kernel
theorem dX11_wayAt_16 : decode cX11_wayAt 16 = .ok (.ldc 231, 2) := by decide +kernel
theorem dX11_wayAt_18 : decode cX11_wayAt 18 = .ok (.invokespecial 239, 3) := by decide +kernel
theorem dX11_wayAt_21 : decode cX11_wayAt 21 = .ok (.athrow, 1) := by decide +kernel
theorem dX11_wayAt_22 : decode cX11_wayAt 22 = .ok (.aload_n 0, 1) := by decide +kernel
theorem dX11_wayAt_23 : decode cX11_wayAt 23 = .ok (.getfield 80, 3) := by decide +kernel
theorem dX11_wayAt_26 : decode cX11_wayAt 26 = .ok (.iload_n 1, 1) := by decide +kernel
theorem dX11_wayAt_27 : decode cX11_wayAt 27 = .ok (.iaload, 1) := by decide +kernel
theorem dX11_wayAt_28 : decode cX11_wayAt 28 = .ok (.ireturn, 1) := by decide +kernel
set_option maxRecDepth 20000 in
theorem ggX11_hint_X3_seek : GoodIn wsX11_hint wsX3_seek := goodIn_r _ [14, 15, 16, 17, 18, 19, 20, 21, 22, 23, 24, 25, 26, 27, 28, 29, 30, 31, 32, 33, 34, 35, 36, 37, 38, 39, 40, 41, 42, 43, 44, 45, 46, 47, 48, 49, 50, 51, 52, 53, 54, 55, 13, 56, 57, 58, 59, 60, 61, 62, 63, 64, 65, 66, 67, 68, 69, 70, 71, 72, 73, 74, 75, 76, 77, 78, 79, 80, 81, 82, 83, 84, 85, 86, 87, 88, 89, 90, 91, 92, 93, 94, 95, 96, 97, 98, 99, 100, 101, 102, 103, 104, 105, 106, 107, 108, 109, 110, 111, 112, 113, 114, 115, 116, 117, 118, 119, 120, 121, 122, 123, 124, 125, 126, 127, 128, 129, 130, 131, 132, 133, 134, 135, 136, 137, 138, 139, 140, 141, 142, 143, 144, 145, 146, 147, 148, 149, 150, 151, 152, 153, 154, 155, 156, 157, 158, 159, 160, 161, 162, 163, 164, 165, 166, 167, 168, 169, 170, 171, 172, 173, 174, 175, 176, 177, 178, 179, 180, 181, 182, 183, 184, 185, 186, 187, 188, 189, 190, 191, 192, 193, 194, 195, 196, 197, 198, 199, 200, 201, 202, 203, 204, 205, 206, 207, 208, 209, 210, 211, 212, 213, 214, 215, 216, 217, 218, 219, 220, 221, 222, 256, 257, 258, 259, 260, 261, 262, 263, 244, 245, 246, 247, 248, 249, 250, 251, 264, 265, 266, 267, 268, 269, 270, 271, 272, 273, 274, 275, 276, 277, 278, 279, 280, 281, 282, 283, 284, 285, 286, 287, 288, 252, 253, 254, 255, 289, 290, 291, 292, 293, 294, 295] (by decide +kernel) (by decide +kernel)
set_option maxRecDepth 20000 in
theorem gX11_hint_X3_seek : GoodIn wsX11_hint (wsV RX11 291 RX3 yX3_seek wsX3_seek) := goodIn_app (goodIn_of _ (by decide +kernel)) ggX11_hint_X3_seek
set_option maxRecDepth 20000 in
theorem ggX11_hint_X7_copy : GoodIn wsX11_hint wsX7_copy := goodIn_r _ [44, 45, 46, 47, 48, 49, 50, 51, 52, 269, 270, 271, 272] (by decide +kernel) (by decide +kernel)
set_option maxRecDepth 20000 in
theorem gX11_hint_X7_copy : GoodIn wsX11_hint (wsV RX11 245 RX7 yX7_copy wsX7_copy) := goodIn_app (goodIn_of _ (by decide +kernel)) ggX11_hint_X7_copy
set_option maxRecDepth 20000 in
theorem ggX11_hint_X7_shift : GoodIn wsX11_hint wsX7_shift := goodIn_r _ [210, 52, 47, 46, 211, 212, 213, 108, 214, 215, 190, 191, 192, 43, 193, 216, 217, 218, 219, 45, 183, 184, 185, 269, 270, 271, 272, 278, 279, 280, 281, 282, 283, 284, 285, 286, 287, 288] (by decide +kernel) (by decide +kernel)
set_option maxRecDepth 20000 in
theorem gX11_hint_X7_shift : GoodIn wsX11_hint (wsV RX11 149 RX7 yX7_shift wsX7_shift) := goodIn_app (goodIn_of _ (by decide +kernel)) ggX11_hint_X7_shift
theorem dX11_hint_0 : decode cX11_hint 0 = .ok (.aload_n 0, 1) := by decide +kernel
theorem dX11_hint_1 : decode cX11_hint 1 = .ok (.getfield 55, 3) := by decide +kernel
theorem dX11_hint_4 : decode cX11_hint 4 = .ok (.aload_n 0, 1) := by decide +kernel
theorem dX11_hint_5 : decode cX11_hint 5 = .ok (.getfield 12, 3) := by decide +kernel
theorem dX11_hint_8 : decode cX11_hint 8 = .ok (.aload_n 0, 1) := by decide +kernel
theorem dX11_hint_9 : decode cX11_hint 9 = .ok (.getfield 19, 3) := by decide +kernel
theorem dX11_hint_12 : decode cX11_hint 12 = .ok (.iconst 3, 1) := by decide +kernel
theorem dX11_hint_13 : decode cX11_hint 13 = .ok (.bipush 100, 2) := by decide +kernel
theorem dX11_hint_15 : decode cX11_hint 15 = .ok (.invokevirtual 291, 3) := by decide +kernel
theorem dX11_hint_18 : decode cX11_hint 18 = .ok (.istore_n 1, 1) := by decide +kernel
theorem dX11_hint_19 : decode cX11_hint 19 = .ok (.iload_n 1, 1) := by decide +kernel
theorem dX11_hint_20 : decode cX11_hint 20 = .ok (.bipush (-2), 2) := by decide +kernel
theorem dX11_hint_22 : decode cX11_hint 22 = .ok (.if_icmp .ne 14, 3) := by decide +kernel
theorem dX11_hint_25 : decode cX11_hint 25 = .ok (.new 197, 3) := by decide +kernel
theorem dX11_hint_28 : decode cX11_hint 28 = .ok (.dup, 1) := by decide +kernel
theorem dX11_hint_29 : decode cX11_hint 29 = .ok (.ldc_w 332, 3) := by decide +kernel
theorem dX11_hint_32 : decode cX11_hint 32 = .ok (.invokespecial 201, 3) := by decide +kernel
theorem dX11_hint_35 : decode cX11_hint 35 = .ok (.athrow, 1) := by decide +kernel
theorem dX11_hint_36 : decode cX11_hint 36 = .ok (.iload_n 1, 1) := by decide +kernel
theorem dX11_hint_37 : decode cX11_hint 37 = .ok (.iconst (-1), 1) := by decide +kernel
theorem dX11_hint_38 : decode cX11_hint 38 = .ok (.if_icmp .eq 7, 3) := by decide +kernel
theorem dX11_hint_41 : decode cX11_hint 41 = .ok (.iload_n 1, 1) := by decide +kernel
theorem dX11_hint_42 : decode cX11_hint 42 = .ok (.ifCond .ne 5, 3) := by decide +kernel
theorem dX11_hint_45 : decode cX11_hint 45 = .ok (.iconst (-1), 1) := by decide +kernel
theorem dX11_hint_46 : decode cX11_hint 46 = .ok (.ireturn, 1) := by decide +kernel
theorem dX11_hint_47 : decode cX11_hint 47 = .ok (.iconst 0, 1) := by decide +kernel
theorem dX11_hint_48 : decode cX11_hint 48 = .ok (.istore_n 2, 1) := by decide +kernel
theorem dX11_hint_49 : decode cX11_hint 49 = .ok (.iload_n 2, 1) := by decide +kernel
theorem dX11_hint_50 : decode cX11_hint 50 = .ok (.iconst 3, 1) := by decide +kernel
theorem dX11_hint_51 : decode cX11_hint 51 = .ok (.if_icmp .gt 102, 3) := by decide +kernel
theorem dX11_hint_54 : decode cX11_hint 54 = .ok (.aload_n 0, 1) := by decide +kernel
theorem dX11_hint_55 : decode cX11_hint 55 = .ok (.getfield 23, 3) := by decide +kernel
theorem dX11_hint_58 : decode cX11_hint 58 = .ok (.aload_n 0, 1) := by decide +kernel
theorem dX11_hint_59 : decode cX11_hint 59 = .ok (.getfield 19, 3) := by decide +kernel
theorem dX11_hint_62 : decode cX11_hint 62 = .ok (.invokevirtual 245, 3) := by decide +kernel
theorem dX11_hint_65 : decode cX11_hint 65 = .ok (.aload_n 0, 1) := by decide +kernel
theorem dX11_hint_66 : decode cX11_hint 66 = .ok (.getfield 23, 3) := by decide +kernel
theorem dX11_hint_69 : decode cX11_hint 69 = .ok (.aload_n 0, 1) := by decide +kernel
theorem dX11_hint_70 : decode cX11_hint 70 = .ok (.getfield 12, 3) := by decide +kernel
theorem dX11_hint_73 : decode cX11_hint 73 = .ok (.getfield 112, 3) := by decide +kernel
theorem dX11_hint_76 : decode cX11_hint 76 = .ok (.iload_n 2, 1) := by decide +kernel
theorem dX11_hint_77 : decode cX11_hint 77 = .ok (.invokevirtual 149, 3) := by decide +kernel
theorem dX11_hint_80 : decode cX11_hint 80 = .ok (.istore_n 3, 1) := by decide +kernel
theorem dX11_hint_81 : decode cX11_hint 81 = .ok (.iload_n 3, 1) := by decide +kernel
theorem dX11_hint_82 : decode cX11_hint 82 = .ok (.ifCond .ne 6, 3) := by decide +kernel
theorem dX11_hint_85 : decode cX11_hint 85 = .ok (.goto 62, 3) := by decide +kernel
theorem dX11_hint_88 : decode cX11_hint 88 = .ok (.aload_n 0, 1) := by decide +kernel
theorem dX11_hint_89 : decode cX11_hint 89 = .ok (.getfield 55, 3) := by decide +kernel
theorem dX11_hint_92 : decode cX11_hint 92 = .ok (.aload_n 0, 1) := by decide +kernel
theorem dX11_hint_93 : decode cX11_hint 93 = .ok (.getfield 12, 3) := by decide +kernel
theorem dX11_hint_96 : decode cX11_hint 96 = .ok (.aload_n 0, 1) := by decide +kernel
theorem dX11_hint_97 : decode cX11_hint 97 = .ok (.getfield 23, 3) := by decide +kernel
theorem dX11_hint_100 : decode cX11_hint 100 = .ok (.iconst 3, 1) := by decide +kernel
theorem dX11_hint_101 : decode cX11_hint 101 = .ok (.bipush 100, 2) := by decide +kernel
theorem dX11_hint_103 : decode cX11_hint 103 = .ok (.invokevirtual 291, 3) := by decide +kernel
theorem dX11_hint_106 : decode cX11_hint 106 = .ok (.istore 4, 2) := by decide +kernel
theorem dX11_hint_108 : decode cX11_hint 108 = .ok (.iload 4, 2) := by decide +kernel
theorem dX11_hint_110 : decode cX11_hint 110 = .ok (.bipush (-2), 2) := by decide +kernel
theorem dX11_hint_112 : decode cX11_hint 112 = .ok (.if_icmp .ne 14, 3) := by decide +kernel
theorem dX11_hint_115 : decode cX11_hint 115 = .ok (.new 197, 3) := by decide +kernel
theorem dX11_hint_118 : decode cX11_hint 118 = .ok (.dup, 1) := by decide +kernel
theorem dX11_hint_119 : decode cX11_hint 119 = .ok (.ldc_w 332, 3) := by decide +kernel
theorem dX11_hint_122 : decode cX11_hint 122 = .ok (.invokespecial 201, 3) := by decide +kernel
theorem dX11_hint_125 : decode cX11_hint 125 = .ok (.athrow, 1) := by decide +kernel
theorem dX11_hint_126 : decode cX11_hint 126 = .ok (.iload 4, 2) := by decide +kernel
theorem dX11_hint_128 : decode cX11_hint 128 = .ok (.aload_n 0, 1) := by decide +kernel
theorem dX11_hint_129 : decode cX11_hint 129 = .ok (.getfield 12, 3) := by decide +kernel
theorem dX11_hint_132 : decode cX11_hint 132 = .ok (.getfield 153, 3) := by decide +kernel
theorem dX11_hint_135 : decode cX11_hint 135 = .ok (.getfield 183, 3) := by decide +kernel
theorem dX11_hint_138 : decode cX11_hint 138 = .ok (.iload_n 3, 1) := by decide +kernel
theorem dX11_hint_139 : decode cX11_hint 139 = .ok (.iaload, 1) := by decide +kernel
theorem dX11_hint_140 : decode cX11_hint 140 = .ok (.iadd, 1) := by decide +kernel
theorem dX11_hint_141 : decode cX11_hint 141 = .ok (.iload_n 1, 1) := by decide +kernel
theorem dX11_hint_142 : decode cX11_hint 142 = .ok (.if_icmp .ne 5, 3) := by decide +kernel
theorem dX11_hint_145 : decode cX11_hint 145 = .ok (.iload_n 2, 1) := by decide +kernel
theorem dX11_hint_146 : decode cX11_hint 146 = .ok (.ireturn, 1) := by decide +kernel
theorem dX11_hint_147 : decode cX11_hint 147 = .ok (.iinc 2 1, 3) := by decide +kernel
theorem dX11_hint_150 : decode cX11_hint 150 = .ok (.goto (-101), 3) := by decide +kernel
theorem dX11_hint_153 : decode cX11_hint 153 = .ok (.iconst (-1), 1) := by decide +kernel
theorem dX11_hint_154 : decode cX11_hint 154 = .ok (.ireturn, 1) := by decide +kernel
set_option maxRecDepth 20000 in
theorem ggX11_far_X2_look : GoodIn wsX11_far wsX2_look := goodIn_r _ [17, 18, 19, 20, 21, 22, 23, 16, 24, 25, 26, 27, 28, 29, 30, 31, 32, 33, 34, 35, 36, 37, 38, 39, 40, 41, 42, 43, 44, 45, 46, 47, 48, 49, 50, 51, 52, 53, 54, 55, 56, 57, 58, 59, 60, 61, 62, 63, 64, 65, 66, 67, 68, 69, 70, 71, 72, 73, 74, 75, 76, 77, 78, 79, 80, 81, 82, 83, 84, 85, 86, 87, 88, 89, 90, 91, 92, 93, 94, 95, 96, 97, 98, 99, 100, 101, 102, 103, 104, 105, 106, 107, 108, 109, 110, 111, 112, 113, 114, 115, 116, 117, 118, 119, 120, 121, 122, 123, 124, 125, 126, 127, 128, 129, 130, 131, 132, 133, 134, 135, 136, 137, 138, 139, 140, 141, 142, 143, 144, 145, 146, 147, 148, 149, 150, 151, 152, 153, 154, 155, 156, 157, 158, 159, 160, 161, 162, 163, 164, 165, 166, 167, 168, 169, 221, 222, 223, 224, 225, 226, 227, 228, 229, 230, 231, 232, 233, 202, 203, 204, 205, 206, 207, 208, 209, 210, 211, 212, 213, 214, 215, 216, 217, 218, 219, 220, 234, 235, 236, 237, 238, 239, 240, 241, 242, 243, 244, 245, 246] (by decide +kernel) (by decide +kernel)
set_option maxRecDepth 20000 in
theorem gX11_far_X2_look : GoodIn wsX11_far (wsV RX11 336 RX2 yX2_look wsX2_look) := goodIn_app (goodIn_of _ (by decide +kernel)) ggX11_far_X2_look
set_option maxRecDepth 20000 in
theorem ggX11_far_X2_leastRankWith : GoodIn wsX11_far wsX2_leastRankWith := goodIn_r _ [173, 31, 101, 102, 221, 222, 223, 224, 225, 226, 227, 228, 229, 230, 231, 232, 233] (by decide +kernel) (by decide +kernel)
set_option maxRecDepth 20000 in
theorem gX11_far_X2_leastRankWith : GoodIn wsX11_far (wsV RX11 349 RX2 yX2_leastRankWith wsX2_leastRankWith) := goodIn_app (goodIn_of _ (by decide +kernel)) ggX11_far_X2_leastRankWith
set_option maxRecDepth 20000 in
theorem ggX11_far_X7_toRank : GoodIn wsX11_far wsX7_toRank := goodIn_r _ [91, 45, 46, 71, 72, 73, 39, 74, 50, 51, 52, 53, 54, 55, 56, 234, 235, 236, 237] (by decide +kernel) (by decide +kernel)
set_option maxRecDepth 20000 in
theorem gX11_far_X7_toRank : GoodIn wsX11_far (wsV RX11 164 RX7 yX7_toRank wsX7_toRank) := goodIn_app (goodIn_of _ (by decide +kernel)) ggX11_far_X7_toRank
set_option maxRecDepth 20000 in
theorem ggX11_far_X2_costAt : GoodIn wsX11_far wsX2_costAt := goodIn_r _ [178, 31, 101, 221, 222, 223, 224, 225, 226, 227, 228, 229, 230, 231, 232, 233] (by decide +kernel) (by decide +kernel)
set_option maxRecDepth 20000 in
theorem gX11_far_X2_costAt : GoodIn wsX11_far (wsV RX11 353 RX2 yX2_costAt wsX2_costAt) := goodIn_app (goodIn_of _ (by decide +kernel)) ggX11_far_X2_costAt
set_option maxRecDepth 20000 in
theorem ggX11_far_X2_waysAt : GoodIn wsX11_far wsX2_waysAt := goodIn_r _ [182, 31, 102, 221, 222, 223, 224, 225, 226, 227, 228, 229, 230, 231, 232, 233] (by decide +kernel) (by decide +kernel)
set_option maxRecDepth 20000 in
theorem gX11_far_X2_waysAt : GoodIn wsX11_far (wsV RX11 357 RX2 yX2_waysAt wsX2_waysAt) := goodIn_app (goodIn_of _ (by decide +kernel)) ggX11_far_X2_waysAt
theorem dX11_far_0 : decode cX11_far 0 = .ok (.iload_n 1, 1) := by decide +kernel
theorem dX11_far_1 : decode cX11_far 1 = .ok (.ifCond .lt 8, 3) := by decide +kernel
theorem dX11_far_4 : decode cX11_far 4 = .ok (.iload_n 1, 1) := by decide +kernel
theorem dX11_far_5 : decode cX11_far 5 = .ok (.iconst 5, 1) := by decide +kernel
theorem dX11_far_6 : decode cX11_far 6 = .ok (.if_icmp .le 14, 3) := by decide +kernel
theorem dX11_far_9 : decode cX11_far 9 = .ok (.new 101, 3) := by decide +kernel
theorem dX11_far_12 : decode cX11_far 12 = .ok (.dup, 1) := by decide +kernel
theorem dX11_far_13 : decode cX11_far 13 = .ok (.ldc_w 330, 3) := by decide +kernel
theorem dX11_far_16 : decode cX11_far 16 = .ok (.invokespecial 105, 3) := by decide +kernel
theorem dX11_far_19 : decode cX11_far 19 = .ok (.athrow, 1) := by decide +kernel
theorem dX11_far_20 : decode cX11_far 20 = .ok (.aload_n 0, 1) := by decide +kernel
theorem dX11_far_21 : decode cX11_far 21 = .ok (.getfield 12, 3) := by decide +kernel
theorem dX11_far_24 : decode cX11_far 24 = .ok (.getfield 112, 3) := by decide +kernel
theorem dX11_far_27 : decode cX11_far 27 = .ok (.getfield 116, 3) := by decide +kernel
theorem dX11_far_30 : decode cX11_far 30 = .ok (.bipush 6, 2) := by decide +kernel
theorem dX11_far_32 : decode cX11_far 32 = .ok (.if_icmp .le 14, 3) := by decide +kernel
theorem dX11_far_35 : decode cX11_far 35 = .ok (.new 197, 3) := by decide +kernel
theorem dX11_far_38 : decode cX11_far 38 = .ok (.dup, 1) := by decide +kernel
theorem dX11_far_39 : decode cX11_far 39 = .ok (.ldc_w 334, 3) := by decide +kernel
theorem dX11_far_42 : decode cX11_far 42 = .ok (.invokespecial 201, 3) := by decide +kernel
theorem dX11_far_45 : decode cX11_far 45 = .ok (.athrow, 1) := by decide +kernel
theorem dX11_far_46 : decode cX11_far 46 = .ok (.aload_n 0, 1) := by decide +kernel
theorem dX11_far_47 : decode cX11_far 47 = .ok (.getfield 76, 3) := by decide +kernel
theorem dX11_far_50 : decode cX11_far 50 = .ok (.aload_n 0, 1) := by decide +kernel
theorem dX11_far_51 : decode cX11_far 51 = .ok (.getfield 12, 3) := by decide +kernel
theorem dX11_far_54 : decode cX11_far 54 = .ok (.invokevirtual 336, 3) := by decide +kernel
theorem dX11_far_57 : decode cX11_far 57 = .ok (.iload_n 1, 1) := by decide +kernel
theorem dX11_far_58 : decode cX11_far 58 = .ok (.tableswitch 89 0 4 #[34, 42, 50, 58, 74], 34) := by decide +kernel
theorem dX11_far_92 : decode cX11_far 92 = .ok (.aload_n 0, 1) := by decide +kernel
theorem dX11_far_93 : decode cX11_far 93 = .ok (.getfield 76, 3) := by decide +kernel
theorem dX11_far_96 : decode cX11_far 96 = .ok (.getfield 340, 3) := by decide +kernel
theorem dX11_far_99 : decode cX11_far 99 = .ok (.ireturn, 1) := by decide +kernel
theorem dX11_far_100 : decode cX11_far 100 = .ok (.aload_n 0, 1) := by decide +kernel
theorem dX11_far_101 : decode cX11_far 101 = .ok (.getfield 76, 3) := by decide +kernel
theorem dX11_far_104 : decode cX11_far 104 = .ok (.getfield 343, 3) := by decide +kernel
theorem dX11_far_107 : decode cX11_far 107 = .ok (.ireturn, 1) := by decide +kernel
theorem dX11_far_108 : decode cX11_far 108 = .ok (.aload_n 0, 1) := by decide +kernel
theorem dX11_far_109 : decode cX11_far 109 = .ok (.getfield 76, 3) := by decide +kernel
theorem dX11_far_112 : decode cX11_far 112 = .ok (.getfield 346, 3) := by decide +kernel
theorem dX11_far_115 : decode cX11_far 115 = .ok (.ireturn, 1) := by decide +kernel
theorem dX11_far_116 : decode cX11_far 116 = .ok (.aload_n 0, 1) := by decide +kernel
theorem dX11_far_117 : decode cX11_far 117 = .ok (.getfield 76, 3) := by decide +kernel
theorem dX11_far_120 : decode cX11_far 120 = .ok (.aload_n 0, 1) := by decide +kernel
theorem dX11_far_121 : decode cX11_far 121 = .ok (.getfield 76, 3) := by decide +kernel
theorem dX11_far_124 : decode cX11_far 124 = .ok (.getfield 343, 3) := by decide +kernel
theorem dX11_far_127 : decode cX11_far 127 = .ok (.iconst 0, 1) := by decide +kernel
theorem dX11_far_128 : decode cX11_far 128 = .ok (.invokevirtual 349, 3) := by decide +kernel
theorem dX11_far_131 : decode cX11_far 131 = .ok (.ireturn, 1) := by decide +kernel
theorem dX11_far_132 : decode cX11_far 132 = .ok (.aload_n 0, 1) := by decide +kernel
theorem dX11_far_133 : decode cX11_far 133 = .ok (.getfield 76, 3) := by decide +kernel
theorem dX11_far_136 : decode cX11_far 136 = .ok (.aload_n 0, 1) := by decide +kernel
theorem dX11_far_137 : decode cX11_far 137 = .ok (.getfield 19, 3) := by decide +kernel
theorem dX11_far_140 : decode cX11_far 140 = .ok (.invokevirtual 164, 3) := by decide +kernel
theorem dX11_far_143 : decode cX11_far 143 = .ok (.invokevirtual 353, 3) := by decide +kernel
theorem dX11_far_146 : decode cX11_far 146 = .ok (.ireturn, 1) := by decide +kernel
theorem dX11_far_147 : decode cX11_far 147 = .ok (.aload_n 0, 1) := by decide +kernel
theorem dX11_far_148 : decode cX11_far 148 = .ok (.getfield 76, 3) := by decide +kernel
theorem dX11_far_151 : decode cX11_far 151 = .ok (.aload_n 0, 1) := by decide +kernel
theorem dX11_far_152 : decode cX11_far 152 = .ok (.getfield 19, 3) := by decide +kernel
theorem dX11_far_155 : decode cX11_far 155 = .ok (.invokevirtual 164, 3) := by decide +kernel
theorem dX11_far_158 : decode cX11_far 158 = .ok (.invokevirtual 357, 3) := by decide +kernel
theorem dX11_far_161 : decode cX11_far 161 = .ok (.ireturn, 1) := by decide +kernel
set_option maxRecDepth 20000 in
theorem ggX11_onlyWay_X2_look : GoodIn wsX11_onlyWay wsX2_look := goodIn_r _ [13, 14, 15, 16, 17, 18, 19, 12, 20, 21, 22, 23, 24, 25, 26, 27, 28, 29, 30, 31, 32, 33, 34, 35, 36, 37, 38, 39, 40, 41, 42, 43, 44, 45, 46, 47, 48, 49, 50, 51, 52, 53, 54, 55, 56, 57, 58, 59, 60, 61, 62, 63, 64, 65, 66, 67, 68, 69, 70, 71, 72, 73, 74, 75, 76, 77, 78, 79, 80, 81, 82, 83, 84, 85, 86, 87, 88, 89, 90, 91, 92, 93, 94, 95, 96, 97, 98, 99, 100, 101, 102, 103, 104, 105, 106, 107, 108, 109, 110, 111, 112, 113, 114, 115, 116, 117, 118, 119, 120, 121, 122, 123, 124, 125, 126, 127, 128, 129, 130, 131, 132, 133, 134, 135, 136, 137, 138, 139, 140, 141, 142, 143, 144, 145, 146, 147, 148, 149, 150, 151, 152, 153, 154, 155, 156, 157, 158, 159, 160, 161, 162, 163, 164, 165, 208, 209, 210, 211, 212, 213, 214, 215, 216, 217, 218, 219, 220, 189, 190, 191, 192, 193, 194, 195, 196, 197, 198, 199, 200, 201, 202, 203, 204, 205, 206, 207, 221, 222, 223, 224, 225, 226, 227, 228, 229, 230, 231, 232, 233] (by decide +kernel) (by decide +kernel)
set_option maxRecDepth 20000 in
theorem gX11_onlyWay_X2_look : GoodIn wsX11_onlyWay (wsV RX11 336 RX2 yX2_look wsX2_look) := goodIn_app (goodIn_of _ (by decide +kernel)) ggX11_onlyWay_X2_look
set_option maxRecDepth 20000 in
theorem ggX11_onlyWay_X2_leastRankWith : GoodIn wsX11_onlyWay wsX2_leastRankWith := goodIn_r _ [169, 27, 97, 98, 208, 209, 210, 211, 212, 213, 214, 215, 216, 217, 218, 219, 220] (by decide +kernel) (by decide +kernel)
set_option maxRecDepth 20000 in
theorem gX11_onlyWay_X2_leastRankWith : GoodIn wsX11_onlyWay (wsV RX11 349 RX2 yX2_leastRankWith wsX2_leastRankWith) := goodIn_app (goodIn_of _ (by decide +kernel)) ggX11_onlyWay_X2_leastRankWith
theorem dX11_onlyWay_0 : decode cX11_onlyWay 0 = .ok (.iload_n 1, 1) := by decide +kernel
theorem dX11_onlyWay_1 : decode cX11_onlyWay 1 = .ok (.ifCond .ge 14, 3) := by decide +kernel
theorem dX11_onlyWay_4 : decode cX11_onlyWay 4 = .ok (.new 101, 3) := by decide +kernel
theorem dX11_onlyWay_7 : decode cX11_onlyWay 7 = .ok (.dup, 1) := by decide +kernel
theorem dX11_onlyWay_8 : decode cX11_onlyWay 8 = .ok (.ldc_w 360, 3) := by decide +kernel
theorem dX11_onlyWay_11 : decode cX11_onlyWay 11 = .ok (.invokespecial 105, 3) := by decide +kernel
theorem dX11_onlyWay_14 : decode cX11_onlyWay 14 = .ok (.athrow, 1) := by decide +kernel
theorem dX11_onlyWay_15 : decode cX11_onlyWay 15 = .ok (.aload_n 0, 1) := by decide +kernel
theorem dX11_onlyWay_16 : decode cX11_onlyWay 16 = .ok (.getfield 12, 3) := by decide +kernel
theorem dX11_onlyWay_19 : decode cX11_onlyWay 19 = .ok (.getfield 112, 3) := by decide +kernel
theorem dX11_onlyWay_22 : decode cX11_onlyWay 22 = .ok (.getfield 116, 3) := by decide +kernel
theorem dX11_onlyWay_25 : decode cX11_onlyWay 25 = .ok (.bipush 6, 2) := by decide +kernel
theorem dX11_onlyWay_27 : decode cX11_onlyWay 27 = .ok (.if_icmp .le 14, 3) := by decide +kernel
theorem dX11_onlyWay_30 : decode cX11_onlyWay 30 = .ok (.new 197, 3) := by decide +kernel
theorem dX11_onlyWay_33 : decode cX11_onlyWay 33 = .ok (.dup, 1) := by decide +kernel
theorem dX11_onlyWay_34 : decode cX11_onlyWay 34 = .ok (.ldc_w 334, 3) := by decide +kernel
theorem dX11_onlyWay_37 : decode cX11_onlyWay 37 = .ok (.invokespecial 201, 3) := by decide +kernel
theorem dX11_onlyWay_40 : decode cX11_onlyWay 40 = .ok (.athrow, 1) := by decide +kernel
theorem dX11_onlyWay_41 : decode cX11_onlyWay 41 = .ok (.aload_n 0, 1) := by decide +kernel
theorem dX11_onlyWay_42 : decode cX11_onlyWay 42 = .ok (.getfield 76, 3) := by decide +kernel
theorem dX11_onlyWay_45 : decode cX11_onlyWay 45 = .ok (.aload_n 0, 1) := by decide +kernel
theorem dX11_onlyWay_46 : decode cX11_onlyWay 46 = .ok (.getfield 12, 3) := by decide +kernel
theorem dX11_onlyWay_49 : decode cX11_onlyWay 49 = .ok (.invokevirtual 336, 3) := by decide +kernel
theorem dX11_onlyWay_52 : decode cX11_onlyWay 52 = .ok (.aload_n 0, 1) := by decide +kernel
theorem dX11_onlyWay_53 : decode cX11_onlyWay 53 = .ok (.getfield 76, 3) := by decide +kernel
theorem dX11_onlyWay_56 : decode cX11_onlyWay 56 = .ok (.iload_n 1, 1) := by decide +kernel
theorem dX11_onlyWay_57 : decode cX11_onlyWay 57 = .ok (.iconst 1, 1) := by decide +kernel
theorem dX11_onlyWay_58 : decode cX11_onlyWay 58 = .ok (.invokevirtual 349, 3) := by decide +kernel
theorem dX11_onlyWay_61 : decode cX11_onlyWay 61 = .ok (.ireturn, 1) := by decide +kernel
set_option maxRecDepth 20000 in
theorem ggX11_isFair_X11_isEstimate : GoodIn wsX11_isFair wsX11_isEstimate := goodIn_r _ [12] (by decide +kernel) (by decide +kernel)
set_option maxRecDepth 20000 in
theorem gX11_isFair_X11_isEstimate : GoodIn wsX11_isFair (va_wsS RX11 282 yX11_isEstimate wsX11_isEstimate) := goodIn_app (goodIn_of _ (by decide +kernel)) ggX11_isFair_X11_isEstimate
set_option maxRecDepth 20000 in
theorem ggX11_isFair_X2_look : GoodIn wsX11_isFair wsX2_look := goodIn_r _ [17, 18, 19, 20, 21, 22, 23, 16, 24, 25, 26, 27, 28, 29, 30, 31, 32, 33, 34, 35, 36, 37, 38, 39, 40, 41, 42, 43, 44, 45, 46, 47, 48, 49, 50, 51, 52, 53, 54, 55, 56, 57, 58, 59, 60, 61, 62, 63, 64, 65, 66, 67, 68, 69, 70, 71, 72, 73, 74, 75, 76, 77, 78, 79, 80, 81, 82, 83, 84, 85, 86, 87, 88, 89, 90, 91, 92, 11, 93, 94, 95, 96, 97, 98, 99, 100, 101, 102, 103, 104, 105, 106, 107, 108, 109, 110, 111, 112, 113, 114, 115, 116, 117, 118, 119, 120, 121, 122, 123, 124, 125, 126, 127, 128, 129, 130, 131, 132, 133, 134, 135, 136, 137, 138, 139, 140, 141, 142, 143, 144, 145, 146, 147, 148, 149, 150, 151, 152, 153, 154, 155, 156, 157, 158, 159, 160, 161, 162, 163, 164, 165, 166, 167, 168, 285, 286, 287, 288, 289, 290, 291, 292, 293, 294, 295, 296, 297, 266, 267, 268, 269, 270, 271, 272, 273, 274, 275, 276, 277, 278, 279, 280, 281, 282, 283, 284, 298, 299, 300, 301, 302, 303, 304, 305, 306, 307, 308, 309, 310] (by decide +kernel) (by decide +kernel)
set_option maxRecDepth 20000 in
theorem gX11_isFair_X2_look : GoodIn wsX11_isFair (wsV RX11 336 RX2 yX2_look wsX2_look) := goodIn_app (goodIn_of _ (by decide +kernel)) ggX11_isFair_X2_look
set_option maxRecDepth 20000 in
theorem ggX11_isFair_X2_agreesWith : GoodIn wsX11_isFair wsX2_agreesWith := goodIn_r _ [172, 31, 100, 32, 33, 19, 25, 173, 99, 113, 114, 115, 39, 116, 45, 70, 75, 76, 77, 57, 58, 59, 60, 61, 62, 63, 64, 46, 65, 174, 175, 176, 177, 178, 179, 180, 181, 182, 183, 184, 185, 186, 187, 124, 125, 120, 126, 127, 188, 129, 130, 131, 132, 133, 189, 190, 191, 192, 193, 194, 195, 196, 197, 85, 198, 199, 200, 201, 202, 203, 204, 205, 206, 207, 208, 209, 210, 211, 212, 213, 214, 215, 216, 217, 218, 219, 220, 221, 222, 223, 224, 225, 226, 227, 167, 29, 168, 228, 229, 230, 231, 232, 233, 234, 235, 236, 237, 238, 239, 240, 241, 242, 243, 244, 245, 16, 246, 36, 164, 35, 285, 286, 287, 288, 289, 290, 291, 292, 293, 294, 295, 296, 297, 266, 267, 268, 269, 270, 271, 272, 273, 274, 275, 276, 277, 278, 279, 280, 281, 282, 283, 284, 298, 299, 300, 301, 307, 308, 309, 310, 311, 312, 313, 314, 315, 316, 317] (by decide +kernel) (by decide +kernel)
set_option maxRecDepth 20000 in
theorem gX11_isFair_X2_agreesWith : GoodIn wsX11_isFair (wsV RX11 362 RX2 yX2_agreesWith wsX2_agreesWith) := goodIn_app (goodIn_of _ (by decide +kernel)) ggX11_isFair_X2_agreesWith
theorem dX11_isFair_0 : decode cX11_isFair 0 = .ok (.iload_n 1, 1) := by decide +kernel
theorem dX11_isFair_1 : decode cX11_isFair 1 = .ok (.invokestatic 282, 3) := by decide +kernel
theorem dX11_isFair_4 : decode cX11_isFair 4 = .ok (.ifCond .ne 14, 3) := by decide +kernel
theorem dX11_isFair_7 : decode cX11_isFair 7 = .ok (.new 101, 3) := by decide +kernel
theorem dX11_isFair_10 : decode cX11_isFair 10 = .ok (.dup, 1) := by decide +kernel
theorem dX11_isFair_11 : decode cX11_isFair 11 = .ok (.ldc_w 285, 3) := by decide +kernel
theorem dX11_isFair_14 : decode cX11_isFair 14 = .ok (.invokespecial 105, 3) := by decide +kernel
theorem dX11_isFair_17 : decode cX11_isFair 17 = .ok (.athrow, 1) := by decide +kernel
theorem dX11_isFair_18 : decode cX11_isFair 18 = .ok (.aload_n 0, 1) := by decide +kernel
theorem dX11_isFair_19 : decode cX11_isFair 19 = .ok (.getfield 12, 3) := by decide +kernel
theorem dX11_isFair_22 : decode cX11_isFair 22 = .ok (.getfield 112, 3) := by decide +kernel
theorem dX11_isFair_25 : decode cX11_isFair 25 = .ok (.getfield 116, 3) := by decide +kernel
theorem dX11_isFair_28 : decode cX11_isFair 28 = .ok (.bipush 6, 2) := by decide +kernel
theorem dX11_isFair_30 : decode cX11_isFair 30 = .ok (.if_icmp .le 14, 3) := by decide +kernel
theorem dX11_isFair_33 : decode cX11_isFair 33 = .ok (.new 197, 3) := by decide +kernel
theorem dX11_isFair_36 : decode cX11_isFair 36 = .ok (.dup, 1) := by decide +kernel
theorem dX11_isFair_37 : decode cX11_isFair 37 = .ok (.ldc_w 334, 3) := by decide +kernel
theorem dX11_isFair_40 : decode cX11_isFair 40 = .ok (.invokespecial 201, 3) := by decide +kernel
theorem dX11_isFair_43 : decode cX11_isFair 43 = .ok (.athrow, 1) := by decide +kernel
theorem dX11_isFair_44 : decode cX11_isFair 44 = .ok (.aload_n 0, 1) := by decide +kernel
theorem dX11_isFair_45 : decode cX11_isFair 45 = .ok (.getfield 76, 3) := by decide +kernel
theorem dX11_isFair_48 : decode cX11_isFair 48 = .ok (.aload_n 0, 1) := by decide +kernel
theorem dX11_isFair_49 : decode cX11_isFair 49 = .ok (.getfield 12, 3) := by decide +kernel
theorem dX11_isFair_52 : decode cX11_isFair 52 = .ok (.invokevirtual 336, 3) := by decide +kernel
theorem dX11_isFair_55 : decode cX11_isFair 55 = .ok (.aload_n 0, 1) := by decide +kernel
theorem dX11_isFair_56 : decode cX11_isFair 56 = .ok (.getfield 76, 3) := by decide +kernel
theorem dX11_isFair_59 : decode cX11_isFair 59 = .ok (.aload_n 0, 1) := by decide +kernel
theorem dX11_isFair_60 : decode cX11_isFair 60 = .ok (.getfield 12, 3) := by decide +kernel
theorem dX11_isFair_63 : decode cX11_isFair 63 = .ok (.iload_n 1, 1) := by decide +kernel
theorem dX11_isFair_64 : decode cX11_isFair 64 = .ok (.invokevirtual 362, 3) := by decide +kernel
theorem dX11_isFair_67 : decode cX11_isFair 67 = .ok (.ireturn, 1) := by decide +kernel
set_option maxRecDepth 20000 in
theorem ggX11_part_X9_boundTiles : GoodIn wsX11_part wsX9_boundTiles := goodIn_r _ [10, 11, 12, 13, 14, 15, 16, 17, 18, 19, 140, 141, 142, 143, 144, 145, 146, 147, 148, 149, 150, 151, 152, 153, 154, 155, 156, 157, 158, 159, 160, 161, 162] (by decide +kernel) (by decide +kernel)
set_option maxRecDepth 20000 in
theorem gX11_part_X9_boundTiles : GoodIn wsX11_part (wsV RX11 366 RX9 yX9_boundTiles wsX9_boundTiles) := goodIn_app (goodIn_of _ (by decide +kernel)) ggX11_part_X9_boundTiles
set_option maxRecDepth 20000 in
theorem ggX11_part_J6_bitCount_0f7a4 : GoodIn wsX11_part wsJ6_bitCount_0f7a4 := goodIn_r _ [23, 24, 25, 26] (by decide +kernel) (by decide +kernel)
set_option maxRecDepth 20000 in
theorem gX11_part_J6_bitCount_0f7a4 : GoodIn wsX11_part (va_wsS RX11 369 yJ6_bitCount_0f7a4 wsJ6_bitCount_0f7a4) := goodIn_app (goodIn_of _ (by decide +kernel)) ggX11_part_J6_bitCount_0f7a4
set_option maxRecDepth 20000 in
theorem ggX11_part_X9_hasRoomFor : GoodIn wsX11_part wsX9_hasRoomFor := goodIn_r _ [30, 31, 11, 12, 32, 33, 140, 141, 142, 143, 144, 145, 146, 147, 148, 149, 150, 151, 152, 153, 154, 155, 156, 157, 158, 163, 164, 165, 166, 167, 168, 169] (by decide +kernel) (by decide +kernel)
set_option maxRecDepth 20000 in
theorem gX11_part_X9_hasRoomFor : GoodIn wsX11_part (wsV RX11 376 RX9 yX9_hasRoomFor wsX9_hasRoomFor) := goodIn_app (goodIn_of _ (by decide +kernel)) ggX11_part_X9_hasRoomFor
set_option maxRecDepth 20000 in
theorem ggX11_part_X9_addPart : GoodIn wsX11_part wsX9_addPart := goodIn_r _ [37, 32, 31, 11, 12, 13, 38, 39, 40, 41, 42, 43, 44, 45, 46, 47, 48, 49, 50, 51, 52, 53, 54, 55, 56, 57, 58, 59, 60, 61, 62, 63, 64, 65, 66, 67, 68, 69, 70, 71, 72, 73, 74, 75, 76, 77, 78, 79, 80, 81, 82, 83, 84, 85, 86, 87, 88, 89, 90, 91, 92, 93, 94, 95, 96, 97, 98, 99, 100, 101, 102, 103, 104, 105, 106, 107, 108, 109, 110, 111, 112, 113, 114, 115, 116, 117, 118, 119, 120, 140, 141, 142, 143, 144, 145, 146, 147, 148, 149, 150, 151, 152, 153, 154, 155, 156, 157, 158, 163, 164, 165, 166, 167, 168, 169, 170, 171, 172, 173, 174, 159, 160, 161, 162] (by decide +kernel) (by decide +kernel)
set_option maxRecDepth 20000 in
theorem gX11_part_X9_addPart : GoodIn wsX11_part (wsV RX11 381 RX9 yX9_addPart wsX9_addPart) := goodIn_app (goodIn_of _ (by decide +kernel)) ggX11_part_X9_addPart
theorem dX11_part_0 : decode cX11_part 0 = .ok (.iload_n 1, 1) := by decide +kernel
theorem dX11_part_1 : decode cX11_part 1 = .ok (.ifCond .eq 25, 3) := by decide +kernel
theorem dX11_part_4 : decode cX11_part 4 = .ok (.iload_n 1, 1) := by decide +kernel
theorem dX11_part_5 : decode cX11_part 5 = .ok (.aload_n 0, 1) := by decide +kernel
theorem dX11_part_6 : decode cX11_part 6 = .ok (.getfield 12, 3) := by decide +kernel
theorem dX11_part_9 : decode cX11_part 9 = .ok (.invokevirtual 366, 3) := by decide +kernel
theorem dX11_part_12 : decode cX11_part 12 = .ok (.iconst (-1), 1) := by decide +kernel
theorem dX11_part_13 : decode cX11_part 13 = .ok (.ixor, 1) := by decide +kernel
theorem dX11_part_14 : decode cX11_part 14 = .ok (.iand, 1) := by decide +kernel
theorem dX11_part_15 : decode cX11_part 15 = .ok (.ifCond .ne 11, 3) := by decide +kernel
theorem dX11_part_18 : decode cX11_part 18 = .ok (.iload_n 1, 1) := by decide +kernel
theorem dX11_part_19 : decode cX11_part 19 = .ok (.invokestatic 369, 3) := by decide +kernel
theorem dX11_part_22 : decode cX11_part 22 = .ok (.iconst 3, 1) := by decide +kernel
theorem dX11_part_23 : decode cX11_part 23 = .ok (.if_icmp .le 14, 3) := by decide +kernel
theorem dX11_part_26 : decode cX11_part 26 = .ok (.new 101, 3) := by decide +kernel
theorem dX11_part_29 : decode cX11_part 29 = .ok (.dup, 1) := by decide +kernel
theorem dX11_part_30 : decode cX11_part 30 = .ok (.ldc_w 374, 3) := by decide +kernel
theorem dX11_part_33 : decode cX11_part 33 = .ok (.invokespecial 105, 3) := by decide +kernel
theorem dX11_part_36 : decode cX11_part 36 = .ok (.athrow, 1) := by decide +kernel
theorem dX11_part_37 : decode cX11_part 37 = .ok (.aload_n 0, 1) := by decide +kernel
theorem dX11_part_38 : decode cX11_part 38 = .ok (.getfield 12, 3) := by decide +kernel
theorem dX11_part_41 : decode cX11_part 41 = .ok (.iload_n 1, 1) := by decide +kernel
theorem dX11_part_42 : decode cX11_part 42 = .ok (.invokevirtual 376, 3) := by decide +kernel
theorem dX11_part_45 : decode cX11_part 45 = .ok (.ifCond .ne 14, 3) := by decide +kernel
theorem dX11_part_48 : decode cX11_part 48 = .ok (.new 197, 3) := by decide +kernel
theorem dX11_part_51 : decode cX11_part 51 = .ok (.dup, 1) := by decide +kernel
theorem dX11_part_52 : decode cX11_part 52 = .ok (.ldc_w 379, 3) := by decide +kernel
theorem dX11_part_55 : decode cX11_part 55 = .ok (.invokespecial 201, 3) := by decide +kernel
theorem dX11_part_58 : decode cX11_part 58 = .ok (.athrow, 1) := by decide +kernel
theorem dX11_part_59 : decode cX11_part 59 = .ok (.aload_n 0, 1) := by decide +kernel
theorem dX11_part_60 : decode cX11_part 60 = .ok (.getfield 12, 3) := by decide +kernel
theorem dX11_part_63 : decode cX11_part 63 = .ok (.iload_n 1, 1) := by decide +kernel
theorem dX11_part_64 : decode cX11_part 64 = .ok (.invokevirtual 381, 3) := by decide +kernel
theorem dX11_part_67 : decode cX11_part 67 = .ok (.ireturn, 1) := by decide +kernel
set_option maxRecDepth 20000 in
theorem ggX11_meanWeight_X11_tiles : GoodIn wsX11_meanWeight wsX11_tiles := goodIn_r _ [8, 1, 9, 10, 11, 12, 13, 14, 15, 16, 17, 18, 19, 20, 21, 22, 23, 24, 25, 26, 27, 28, 29, 30, 31, 32, 33, 34, 35, 36, 37, 42, 43, 44, 45, 46, 47, 48, 49, 50, 51, 52] (by decide +kernel) (by decide +kernel)
set_option maxRecDepth 20000 in
theorem gX11_meanWeight_X11_tiles : GoodIn wsX11_meanWeight (wsV RX11 108 RX11 yX11_tiles wsX11_tiles) := goodIn_app (goodIn_of _ (by decide +kernel)) ggX11_meanWeight_X11_tiles
theorem dX11_meanWeight_0 : decode cX11_meanWeight 0 = .ok (.iconst 0, 1) := by decide +kernel
theorem dX11_meanWeight_1 : decode cX11_meanWeight 1 = .ok (.istore_n 1, 1) := by decide +kernel
theorem dX11_meanWeight_2 : decode cX11_meanWeight 2 = .ok (.iconst 1, 1) := by decide +kernel
theorem dX11_meanWeight_3 : decode cX11_meanWeight 3 = .ok (.istore_n 2, 1) := by decide +kernel
theorem dX11_meanWeight_4 : decode cX11_meanWeight 4 = .ok (.iload_n 2, 1) := by decide +kernel
theorem dX11_meanWeight_5 : decode cX11_meanWeight 5 = .ok (.aload_n 0, 1) := by decide +kernel
theorem dX11_meanWeight_6 : decode cX11_meanWeight 6 = .ok (.invokevirtual 108, 3) := by decide +kernel
theorem dX11_meanWeight_9 : decode cX11_meanWeight 9 = .ok (.if_icmp .gt 24, 3) := by decide +kernel
theorem dX11_meanWeight_12 : decode cX11_meanWeight 12 = .ok (.iload_n 1, 1) := by decide +kernel
theorem dX11_meanWeight_13 : decode cX11_meanWeight 13 = .ok (.aload_n 0, 1) := by decide +kernel
theorem dX11_meanWeight_14 : decode cX11_meanWeight 14 = .ok (.getfield 12, 3) := by decide +kernel
theorem dX11_meanWeight_17 : decode cX11_meanWeight 17 = .ok (.getfield 153, 3) := by decide +kernel
theorem dX11_meanWeight_20 : decode cX11_meanWeight 20 = .ok (.getfield 183, 3) := by decide +kernel
theorem dX11_meanWeight_23 : decode cX11_meanWeight 23 = .ok (.iload_n 2, 1) := by decide +kernel
theorem dX11_meanWeight_24 : decode cX11_meanWeight 24 = .ok (.iaload, 1) := by decide +kernel
theorem dX11_meanWeight_25 : decode cX11_meanWeight 25 = .ok (.iadd, 1) := by decide +kernel
theorem dX11_meanWeight_26 : decode cX11_meanWeight 26 = .ok (.istore_n 1, 1) := by decide +kernel
theorem dX11_meanWeight_27 : decode cX11_meanWeight 27 = .ok (.iinc 2 1, 3) := by decide +kernel
theorem dX11_meanWeight_30 : decode cX11_meanWeight 30 = .ok (.goto (-26), 3) := by decide +kernel
theorem dX11_meanWeight_33 : decode cX11_meanWeight 33 = .ok (.iload_n 1, 1) := by decide +kernel
theorem dX11_meanWeight_34 : decode cX11_meanWeight 34 = .ok (.i2d, 1) := by decide +kernel
theorem dX11_meanWeight_35 : decode cX11_meanWeight 35 = .ok (.aload_n 0, 1) := by decide +kernel
theorem dX11_meanWeight_36 : decode cX11_meanWeight 36 = .ok (.invokevirtual 108, 3) := by decide +kernel
theorem dX11_meanWeight_39 : decode cX11_meanWeight 39 = .ok (.i2d, 1) := by decide +kernel
theorem dX11_meanWeight_40 : decode cX11_meanWeight 40 = .ok (.ddiv, 1) := by decide +kernel
theorem dX11_meanWeight_41 : decode cX11_meanWeight 41 = .ok (.dreturn, 1) := by decide +kernel
set_option maxRecDepth 20000 in
theorem ggX11_settled_X11_tiles : GoodIn wsX11_settled wsX11_tiles := goodIn_r _ [8, 1, 9, 10, 23, 24, 25, 26, 27, 28, 29, 30, 31, 32, 33, 34, 35, 36, 37, 38, 39, 40, 41, 42, 43, 44, 45, 46, 47, 48, 49, 50, 51, 52, 53, 54, 55, 56, 57, 58, 59, 60] (by decide +kernel) (by decide +kernel)
set_option maxRecDepth 20000 in
theorem gX11_settled_X11_tiles : GoodIn wsX11_settled (wsV RX11 108 RX11 yX11_tiles wsX11_tiles) := goodIn_app (goodIn_of _ (by decide +kernel)) ggX11_settled_X11_tiles
set_option maxRecDepth 20000 in
theorem ggX11_settled_X1_frees : GoodIn wsX11_settled wsX1_frees := goodIn_r _ [15, 16, 61, 62, 63, 64] (by decide +kernel) (by decide +kernel)
set_option maxRecDepth 20000 in
theorem gX11_settled_X1_frees : GoodIn wsX11_settled (wsV RX11 173 RX1 yX1_frees wsX1_frees) := goodIn_app (goodIn_of _ (by decide +kernel)) ggX11_settled_X1_frees
set_option maxRecDepth 20000 in
theorem ggX11_settled_X1_isHome : GoodIn wsX11_settled wsX1_isHome := goodIn_r _ [20, 21, 22, 65, 66, 67, 68, 61, 62, 63, 64] (by decide +kernel) (by decide +kernel)
set_option maxRecDepth 20000 in
theorem gX11_settled_X1_isHome : GoodIn wsX11_settled (wsV RX11 384 RX1 yX1_isHome wsX1_isHome) := goodIn_app (goodIn_of _ (by decide +kernel)) ggX11_settled_X1_isHome
theorem dX11_settled_0 : decode cX11_settled 0 = .ok (.iconst 0, 1) := by decide +kernel
theorem dX11_settled_1 : decode cX11_settled 1 = .ok (.istore_n 1, 1) := by decide +kernel
theorem dX11_settled_2 : decode cX11_settled 2 = .ok (.iconst 0, 1) := by decide +kernel
theorem dX11_settled_3 : decode cX11_settled 3 = .ok (.istore_n 2, 1) := by decide +kernel
theorem dX11_settled_4 : decode cX11_settled 4 = .ok (.iconst 1, 1) := by decide +kernel
theorem dX11_settled_5 : decode cX11_settled 5 = .ok (.istore_n 3, 1) := by decide +kernel
theorem dX11_settled_6 : decode cX11_settled 6 = .ok (.iload_n 3, 1) := by decide +kernel
theorem dX11_settled_7 : decode cX11_settled 7 = .ok (.aload_n 0, 1) := by decide +kernel
theorem dX11_settled_8 : decode cX11_settled 8 = .ok (.invokevirtual 108, 3) := by decide +kernel
theorem dX11_settled_11 : decode cX11_settled 11 = .ok (.if_icmp .gt 50, 3) := by decide +kernel
theorem dX11_settled_14 : decode cX11_settled 14 = .ok (.aload_n 0, 1) := by decide +kernel
theorem dX11_settled_15 : decode cX11_settled 15 = .ok (.getfield 12, 3) := by decide +kernel
theorem dX11_settled_18 : decode cX11_settled 18 = .ok (.getfield 153, 3) := by decide +kernel
theorem dX11_settled_21 : decode cX11_settled 21 = .ok (.iload_n 3, 1) := by decide +kernel
theorem dX11_settled_22 : decode cX11_settled 22 = .ok (.invokevirtual 173, 3) := by decide +kernel
theorem dX11_settled_25 : decode cX11_settled 25 = .ok (.ifCond .eq 6, 3) := by decide +kernel
theorem dX11_settled_28 : decode cX11_settled 28 = .ok (.goto 27, 3) := by decide +kernel
theorem dX11_settled_31 : decode cX11_settled 31 = .ok (.iinc 1 1, 3) := by decide +kernel
theorem dX11_settled_34 : decode cX11_settled 34 = .ok (.aload_n 0, 1) := by decide +kernel
theorem dX11_settled_35 : decode cX11_settled 35 = .ok (.getfield 12, 3) := by decide +kernel
theorem dX11_settled_38 : decode cX11_settled 38 = .ok (.getfield 153, 3) := by decide +kernel
theorem dX11_settled_41 : decode cX11_settled 41 = .ok (.aload_n 0, 1) := by decide +kernel
theorem dX11_settled_42 : decode cX11_settled 42 = .ok (.getfield 19, 3) := by decide +kernel
theorem dX11_settled_45 : decode cX11_settled 45 = .ok (.iload_n 3, 1) := by decide +kernel
theorem dX11_settled_46 : decode cX11_settled 46 = .ok (.invokevirtual 384, 3) := by decide +kernel
theorem dX11_settled_49 : decode cX11_settled 49 = .ok (.ifCond .eq 6, 3) := by decide +kernel
theorem dX11_settled_52 : decode cX11_settled 52 = .ok (.iinc 2 1, 3) := by decide +kernel
theorem dX11_settled_55 : decode cX11_settled 55 = .ok (.iinc 3 1, 3) := by decide +kernel
theorem dX11_settled_58 : decode cX11_settled 58 = .ok (.goto (-52), 3) := by decide +kernel
theorem dX11_settled_61 : decode cX11_settled 61 = .ok (.iload_n 1, 1) := by decide +kernel
theorem dX11_settled_62 : decode cX11_settled 62 = .ok (.ifCond .ne 7, 3) := by decide +kernel
theorem dX11_settled_65 : decode cX11_settled 65 = .ok (.fconst 0, 1) := by decide +kernel
theorem dX11_settled_66 : decode cX11_settled 66 = .ok (.goto 8, 3) := by decide +kernel
theorem dX11_settled_69 : decode cX11_settled 69 = .ok (.iload_n 2, 1) := by decide +kernel
theorem dX11_settled_70 : decode cX11_settled 70 = .ok (.i2f, 1) := by decide +kernel
theorem dX11_settled_71 : decode cX11_settled 71 = .ok (.iload_n 1, 1) := by decide +kernel
theorem dX11_settled_72 : decode cX11_settled 72 = .ok (.i2f, 1) := by decide +kernel
theorem dX11_settled_73 : decode cX11_settled 73 = .ok (.fdiv, 1) := by decide +kernel
theorem dX11_settled_74 : decode cX11_settled 74 = .ok (.freturn, 1) := by decide +kernel
set_option maxRecDepth 20000 in
theorem ggX11_errors_X7_toRank : GoodIn wsX11_errors wsX7_toRank := goodIn_r _ [13, 14, 15, 16, 17, 18, 12, 19, 20, 21, 22, 23, 24, 25, 26, 374, 375, 376, 377] (by decide +kernel) (by decide +kernel)
set_option maxRecDepth 20000 in
theorem gX11_errors_X7_toRank : GoodIn wsX11_errors (wsV RX11 164 RX7 yX7_toRank wsX7_toRank) := goodIn_app (goodIn_of _ (by decide +kernel)) ggX11_errors_X7_toRank
set_option maxRecDepth 20000 in
theorem ggX11_errors_X7_fromRank : GoodIn wsX11_errors wsX7_fromRank := goodIn_r _ [30, 14, 15, 31, 32, 12, 33, 20, 21, 22, 23, 24, 25, 26, 34, 35, 36, 37, 38, 39, 40, 41, 42, 43, 44, 45, 46, 47, 16, 17, 18, 19, 48, 49, 50, 374, 375, 376, 377] (by decide +kernel) (by decide +kernel)
set_option maxRecDepth 20000 in
theorem gX11_errors_X7_fromRank : GoodIn wsX11_errors (wsV RX11 125 RX7 yX7_fromRank wsX7_fromRank) := goodIn_app (goodIn_of _ (by decide +kernel)) ggX11_errors_X7_fromRank
set_option maxRecDepth 20000 in
theorem ggX11_errors_X7_isSame : GoodIn wsX11_errors wsX7_isSame := goodIn_r _ [54, 14, 47, 15, 42, 374, 375, 376, 377] (by decide +kernel) (by decide +kernel)
set_option maxRecDepth 20000 in
theorem gX11_errors_X7_isSame : GoodIn wsX11_errors (wsV RX11 389 RX7 yX7_isSame wsX7_isSame) := goodIn_app (goodIn_of _ (by decide +kernel)) ggX11_errors_X7_isSame
set_option maxRecDepth 20000 in
theorem ggX11_errors_X11_moveErrors : GoodIn wsX11_errors wsX11_moveErrors := goodIn_r _ [59, 1, 2, 5, 60, 61, 62, 63, 64, 65, 12, 66, 14, 47, 15, 67, 68, 69, 70, 42, 71, 72, 73, 74, 75, 76, 77, 78, 79, 80, 38, 39, 40, 41, 16, 17, 18, 19, 48, 49, 50, 81, 82, 83, 84, 85, 86, 87, 88, 89, 90, 91, 92, 93, 94, 95, 96, 97, 98, 99, 100, 101, 102, 103, 104, 105, 106, 107, 108, 109, 110, 111, 112, 113, 114, 115, 116, 117, 118, 119, 120, 121, 122, 123, 124, 125, 126, 127, 128, 129, 130, 131, 132, 133, 134, 135, 136, 137, 138, 139, 140, 141, 142, 143, 144, 145, 146, 147, 148, 149, 150, 151, 152, 153, 154, 155, 156, 157, 158, 159, 160, 161, 162, 163, 164, 58, 165, 51, 52, 53, 54, 355, 356, 357, 358, 359, 360, 361, 362, 363, 364, 365, 366, 367, 368, 369, 370, 371, 372, 373, 378, 379, 380, 381, 382, 383, 384, 385, 386, 387, 388, 389, 374, 375, 376, 377, 390, 391, 392, 393, 394, 395, 396, 397, 398, 399, 400, 401, 402, 403, 404, 405, 406, 407] (by decide +kernel) (by decide +kernel)
set_option maxRecDepth 20000 in
theorem gX11_errors_X11_moveErrors : GoodIn wsX11_errors (wsV RX11 393 RX11 yX11_moveErrors wsX11_moveErrors) := goodIn_app (goodIn_of _ (by decide +kernel)) ggX11_errors_X11_moveErrors
set_option maxRecDepth 20000 in
theorem ggX11_errors_X2_look : GoodIn wsX11_errors wsX2_look := goodIn_r _ [170, 171, 172, 173, 174, 175, 176, 169, 177, 178, 179, 180, 181, 146, 182, 183, 184, 185, 186, 187, 188, 189, 190, 12, 191, 192, 28, 29, 30, 14, 15, 31, 32, 33, 20, 21, 22, 23, 24, 25, 26, 34, 35, 36, 37, 38, 39, 40, 41, 42, 43, 44, 45, 46, 47, 16, 17, 18, 19, 48, 49, 50, 193, 72, 73, 74, 75, 76, 77, 78, 79, 80, 194, 10, 11, 13, 164, 58, 165, 195, 196, 197, 198, 199, 200, 201, 202, 203, 204, 205, 206, 207, 208, 209, 210, 211, 212, 213, 214, 215, 216, 217, 218, 219, 220, 97, 221, 222, 223, 95, 96, 98, 99, 224, 101, 102, 103, 104, 105, 225, 226, 227, 228, 229, 230, 231, 232, 233, 234, 235, 236, 237, 238, 239, 240, 241, 242, 243, 244, 245, 246, 247, 248, 249, 250, 251, 252, 253, 254, 255, 256, 257, 145, 147, 408, 409, 410, 411, 412, 413, 414, 415, 416, 417, 418, 419, 420, 378, 379, 380, 381, 382, 383, 384, 385, 390, 391, 392, 393, 394, 395, 396, 397, 398, 399, 400, 374, 375, 376, 377, 421, 422, 423, 424, 425, 386, 387, 388, 389] (by decide +kernel) (by decide +kernel)
set_option maxRecDepth 20000 in
theorem gX11_errors_X2_look : GoodIn wsX11_errors (wsV RX11 336 RX2 yX2_look wsX2_look) := goodIn_app (goodIn_of _ (by decide +kernel)) ggX11_errors_X2_look
set_option maxRecDepth 20000 in
theorem ggX11_errors_X2_costAt : GoodIn wsX11_errors wsX2_costAt := goodIn_r _ [261, 183, 201, 408, 409, 410, 411, 412, 413, 414, 415, 416, 417, 418, 419, 420] (by decide +kernel) (by decide +kernel)
set_option maxRecDepth 20000 in
theorem gX11_errors_X2_costAt : GoodIn wsX11_errors (wsV RX11 353 RX2 yX2_costAt wsX2_costAt) := goodIn_app (goodIn_of _ (by decide +kernel)) ggX11_errors_X2_costAt
set_option maxRecDepth 20000 in
theorem ggX11_errors_X3_seek : GoodIn wsX11_errors wsX3_seek := goodIn_r _ [266, 267, 268, 269, 270, 271, 272, 273, 274, 275, 276, 277, 278, 279, 280, 281, 282, 283, 284, 207, 208, 209, 210, 211, 212, 213, 285, 64, 65, 12, 66, 14, 47, 15, 67, 68, 69, 70, 42, 286, 287, 288, 265, 289, 290, 291, 292, 293, 294, 295, 296, 297, 298, 299, 300, 301, 302, 303, 304, 305, 306, 307, 82, 83, 84, 85, 86, 87, 88, 89, 90, 91, 92, 93, 94, 95, 96, 97, 98, 99, 100, 101, 102, 103, 104, 105, 106, 107, 108, 109, 110, 111, 112, 113, 114, 78, 115, 116, 117, 118, 119, 120, 121, 122, 123, 124, 125, 126, 127, 128, 129, 130, 131, 132, 133, 134, 135, 136, 137, 138, 139, 140, 141, 142, 143, 144, 145, 146, 147, 148, 149, 150, 151, 152, 153, 154, 155, 156, 157, 158, 159, 160, 161, 162, 308, 226, 227, 228, 229, 230, 231, 232, 233, 234, 235, 236, 237, 238, 309, 240, 241, 242, 243, 244, 245, 246, 310, 215, 216, 217, 48, 49, 50, 34, 35, 36, 37, 38, 39, 40, 41, 311, 219, 220, 221, 222, 223, 224, 312, 313, 314, 315, 316, 317, 318, 72, 73, 74, 75, 76, 77, 79, 80, 16, 17, 18, 19, 164, 58, 165, 426, 427, 428, 429, 430, 431, 432, 433, 378, 379, 380, 381, 382, 383, 384, 385, 434, 435, 436, 437, 438, 374, 375, 376, 377, 421, 422, 423, 424, 425, 390, 391, 392, 393, 394, 395, 396, 397, 398, 399, 400, 386, 387, 388, 389, 401, 402, 403, 404, 405, 406, 407] (by decide +kernel) (by decide +kernel)
set_option maxRecDepth 20000 in
theorem gX11_errors_X3_seek : GoodIn wsX11_errors (wsV RX11 291 RX3 yX3_seek wsX3_seek) := goodIn_app (goodIn_of _ (by decide +kernel)) ggX11_errors_X3_seek
set_option maxRecDepth 20000 in
theorem ggX11_errors_X5_seek : GoodIn wsX11_errors wsX5_seek := goodIn_r _ [323, 324, 325, 326, 327, 328, 329, 82, 83, 84, 85, 86, 87, 88, 89, 90, 91, 92, 93, 94, 95, 96, 97, 98, 99, 100, 101, 102, 103, 104, 105, 106, 107, 108, 109, 110, 111, 112, 113, 114, 78, 115, 116, 117, 118, 119, 120, 121, 122, 123, 124, 125, 126, 127, 128, 129, 130, 131, 132, 133, 134, 135, 136, 137, 138, 139, 140, 141, 142, 143, 144, 145, 146, 147, 148, 149, 150, 151, 152, 153, 154, 155, 156, 157, 158, 159, 160, 161, 162, 330, 64, 65, 12, 66, 14, 47, 15, 67, 68, 69, 70, 42, 331, 332, 333, 322, 334, 335, 336, 337, 338, 339, 340, 341, 219, 220, 221, 222, 223, 224, 342, 343, 344, 345, 164, 58, 165, 346, 72, 73, 74, 75, 76, 77, 79, 80, 38, 39, 40, 41, 16, 17, 18, 19, 48, 49, 50, 347, 348, 349, 350, 351, 352, 353, 354, 439, 440, 441, 442, 443, 444, 445, 446, 378, 379, 380, 381, 382, 383, 384, 385, 390, 391, 392, 393, 394, 395, 396, 397, 398, 399, 400, 386, 387, 388, 389, 374, 375, 376, 377, 401, 402, 403, 404, 405, 406, 407] (by decide +kernel) (by decide +kernel)
set_option maxRecDepth 20000 in
theorem gX11_errors_X5_seek : GoodIn wsX11_errors (wsV RX11 310 RX5 yX5_seek wsX5_seek) := goodIn_app (goodIn_of _ (by decide +kernel)) ggX11_errors_X5_seek
theorem dX11_errors_0 : decode cX11_errors 0 = .ok (.iconst 0, 1) := by decide +kernel
theorem dX11_errors_1 : decode cX11_errors 1 = .ok (.istore_n 1, 1) := by decide +kernel
theorem dX11_errors_2 : decode cX11_errors 2 = .ok (.aload_n 0, 1) := by decide +kernel
theorem dX11_errors_3 : decode cX11_errors 3 = .ok (.getfield 23, 3) := by decide +kernel
theorem dX11_errors_6 : decode cX11_errors 6 = .ok (.aload_n 0, 1) := by decide +kernel
theorem dX11_errors_7 : decode cX11_errors 7 = .ok (.getfield 19, 3) := by decide +kernel
theorem dX11_errors_10 : decode cX11_errors 10 = .ok (.invokevirtual 164, 3) := by decide +kernel
theorem dX11_errors_13 : decode cX11_errors 13 = .ok (.aload_n 0, 1) := by decide +kernel
theorem dX11_errors_14 : decode cX11_errors 14 = .ok (.getfield 19, 3) := by decide +kernel
theorem dX11_errors_17 : decode cX11_errors 17 = .ok (.getfield 388, 3) := by decide +kernel
theorem dX11_errors_20 : decode cX11_errors 20 = .ok (.invokevirtual 125, 3) := by decide +kernel
theorem dX11_errors_23 : decode cX11_errors 23 = .ok (.aload_n 0, 1) := by decide +kernel
theorem dX11_errors_24 : decode cX11_errors 24 = .ok (.getfield 23, 3) := by decide +kernel
theorem dX11_errors_27 : decode cX11_errors 27 = .ok (.aload_n 0, 1) := by decide +kernel
theorem dX11_errors_28 : decode cX11_errors 28 = .ok (.getfield 19, 3) := by decide +kernel
theorem dX11_errors_31 : decode cX11_errors 31 = .ok (.invokevirtual 389, 3) := by decide +kernel
theorem dX11_errors_34 : decode cX11_errors 34 = .ok (.ifCond .ne 6, 3) := by decide +kernel
theorem dX11_errors_37 : decode cX11_errors 37 = .ok (.iinc 1 1, 3) := by decide +kernel
theorem dX11_errors_40 : decode cX11_errors 40 = .ok (.iconst 0, 1) := by decide +kernel
theorem dX11_errors_41 : decode cX11_errors 41 = .ok (.istore_n 2, 1) := by decide +kernel
theorem dX11_errors_42 : decode cX11_errors 42 = .ok (.iload_n 2, 1) := by decide +kernel
theorem dX11_errors_43 : decode cX11_errors 43 = .ok (.iconst 3, 1) := by decide +kernel
theorem dX11_errors_44 : decode cX11_errors 44 = .ok (.if_icmp .gt 17, 3) := by decide +kernel
theorem dX11_errors_47 : decode cX11_errors 47 = .ok (.iload_n 1, 1) := by decide +kernel
theorem dX11_errors_48 : decode cX11_errors 48 = .ok (.aload_n 0, 1) := by decide +kernel
theorem dX11_errors_49 : decode cX11_errors 49 = .ok (.iload_n 2, 1) := by decide +kernel
theorem dX11_errors_50 : decode cX11_errors 50 = .ok (.invokevirtual 393, 3) := by decide +kernel
theorem dX11_errors_53 : decode cX11_errors 53 = .ok (.iadd, 1) := by decide +kernel
theorem dX11_errors_54 : decode cX11_errors 54 = .ok (.istore_n 1, 1) := by decide +kernel
theorem dX11_errors_55 : decode cX11_errors 55 = .ok (.iinc 2 1, 3) := by decide +kernel
theorem dX11_errors_58 : decode cX11_errors 58 = .ok (.goto (-16), 3) := by decide +kernel
theorem dX11_errors_61 : decode cX11_errors 61 = .ok (.aload_n 0, 1) := by decide +kernel
theorem dX11_errors_62 : decode cX11_errors 62 = .ok (.getfield 19, 3) := by decide +kernel
theorem dX11_errors_65 : decode cX11_errors 65 = .ok (.getfield 388, 3) := by decide +kernel
theorem dX11_errors_68 : decode cX11_errors 68 = .ok (.bipush 6, 2) := by decide +kernel
theorem dX11_errors_70 : decode cX11_errors 70 = .ok (.if_icmp .le 5, 3) := by decide +kernel
theorem dX11_errors_73 : decode cX11_errors 73 = .ok (.iload_n 1, 1) := by decide +kernel
theorem dX11_errors_74 : decode cX11_errors 74 = .ok (.ireturn, 1) := by decide +kernel
theorem dX11_errors_75 : decode cX11_errors 75 = .ok (.aload_n 0, 1) := by decide +kernel
theorem dX11_errors_76 : decode cX11_errors 76 = .ok (.getfield 76, 3) := by decide +kernel
theorem dX11_errors_79 : decode cX11_errors 79 = .ok (.aload_n 0, 1) := by decide +kernel
theorem dX11_errors_80 : decode cX11_errors 80 = .ok (.getfield 12, 3) := by decide +kernel
theorem dX11_errors_83 : decode cX11_errors 83 = .ok (.invokevirtual 336, 3) := by decide +kernel
theorem dX11_errors_86 : decode cX11_errors 86 = .ok (.aload_n 0, 1) := by decide +kernel
theorem dX11_errors_87 : decode cX11_errors 87 = .ok (.getfield 76, 3) := by decide +kernel
theorem dX11_errors_90 : decode cX11_errors 90 = .ok (.aload_n 0, 1) := by decide +kernel
theorem dX11_errors_91 : decode cX11_errors 91 = .ok (.getfield 19, 3) := by decide +kernel
theorem dX11_errors_94 : decode cX11_errors 94 = .ok (.invokevirtual 164, 3) := by decide +kernel
theorem dX11_errors_97 : decode cX11_errors 97 = .ok (.invokevirtual 353, 3) := by decide +kernel
theorem dX11_errors_100 : decode cX11_errors 100 = .ok (.istore_n 2, 1) := by decide +kernel
theorem dX11_errors_101 : decode cX11_errors 101 = .ok (.aload_n 0, 1) := by decide +kernel
theorem dX11_errors_102 : decode cX11_errors 102 = .ok (.getfield 55, 3) := by decide +kernel
theorem dX11_errors_105 : decode cX11_errors 105 = .ok (.aload_n 0, 1) := by decide +kernel
theorem dX11_errors_106 : decode cX11_errors 106 = .ok (.getfield 12, 3) := by decide +kernel
theorem dX11_errors_109 : decode cX11_errors 109 = .ok (.aload_n 0, 1) := by decide +kernel
theorem dX11_errors_110 : decode cX11_errors 110 = .ok (.getfield 19, 3) := by decide +kernel
theorem dX11_errors_113 : decode cX11_errors 113 = .ok (.iconst 3, 1) := by decide +kernel
theorem dX11_errors_114 : decode cX11_errors 114 = .ok (.aload_n 0, 1) := by decide +kernel
theorem dX11_errors_115 : decode cX11_errors 115 = .ok (.getfield 86, 3) := by decide +kernel
theorem dX11_errors_118 : decode cX11_errors 118 = .ok (.invokevirtual 291, 3) := by decide +kernel
theorem dX11_errors_121 : decode cX11_errors 121 = .ok (.istore_n 3, 1) := by decide +kernel
theorem dX11_errors_122 : decode cX11_errors 122 = .ok (.aload_n 0, 1) := by decide +kernel
theorem dX11_errors_123 : decode cX11_errors 123 = .ok (.getfield 62, 3) := by decide +kernel
theorem dX11_errors_126 : decode cX11_errors 126 = .ok (.aload_n 0, 1) := by decide +kernel
theorem dX11_errors_127 : decode cX11_errors 127 = .ok (.getfield 12, 3) := by decide +kernel
theorem dX11_errors_130 : decode cX11_errors 130 = .ok (.aload_n 0, 1) := by decide +kernel
theorem dX11_errors_131 : decode cX11_errors 131 = .ok (.getfield 19, 3) := by decide +kernel
theorem dX11_errors_134 : decode cX11_errors 134 = .ok (.iconst 3, 1) := by decide +kernel
theorem dX11_errors_135 : decode cX11_errors 135 = .ok (.aload_n 0, 1) := by decide +kernel
theorem dX11_errors_136 : decode cX11_errors 136 = .ok (.getfield 86, 3) := by decide +kernel
theorem dX11_errors_139 : decode cX11_errors 139 = .ok (.invokevirtual 310, 3) := by decide +kernel
theorem dX11_errors_142 : decode cX11_errors 142 = .ok (.istore 4, 2) := by decide +kernel
theorem dX11_errors_144 : decode cX11_errors 144 = .ok (.iload_n 3, 1) := by decide +kernel
theorem dX11_errors_145 : decode cX11_errors 145 = .ok (.bipush (-2), 2) := by decide +kernel
theorem dX11_errors_147 : decode cX11_errors 147 = .ok (.if_icmp .eq 11, 3) := by decide +kernel
theorem dX11_errors_150 : decode cX11_errors 150 = .ok (.iload_n 3, 1) := by decide +kernel
theorem dX11_errors_151 : decode cX11_errors 151 = .ok (.iload_n 2, 1) := by decide +kernel
theorem dX11_errors_152 : decode cX11_errors 152 = .ok (.if_icmp .eq 6, 3) := by decide +kernel
theorem dX11_errors_155 : decode cX11_errors 155 = .ok (.iinc 1 1, 3) := by decide +kernel
theorem dX11_errors_158 : decode cX11_errors 158 = .ok (.iload 4, 2) := by decide +kernel
theorem dX11_errors_160 : decode cX11_errors 160 = .ok (.bipush (-2), 2) := by decide +kernel
theorem dX11_errors_162 : decode cX11_errors 162 = .ok (.if_icmp .eq 12, 3) := by decide +kernel
theorem dX11_errors_165 : decode cX11_errors 165 = .ok (.iload 4, 2) := by decide +kernel
theorem dX11_errors_167 : decode cX11_errors 167 = .ok (.iload_n 2, 1) := by decide +kernel
theorem dX11_errors_168 : decode cX11_errors 168 = .ok (.if_icmp .eq 6, 3) := by decide +kernel
theorem dX11_errors_171 : decode cX11_errors 171 = .ok (.iinc 1 1, 3) := by decide +kernel
theorem dX11_errors_174 : decode cX11_errors 174 = .ok (.iload_n 1, 1) := by decide +kernel
theorem dX11_errors_175 : decode cX11_errors 175 = .ok (.ireturn, 1) := by decide +kernel
set_option maxRecDepth 20000 in
theorem ggX11_begin_X4_set : GoodIn wsX11_begin wsX4_set := goodIn_r _ [14, 15, 16, 17, 18, 19, 20, 21, 22, 23, 13, 24, 25, 26, 27, 28, 29, 30, 31, 32, 33, 34, 35, 36, 37, 38, 39, 40, 41, 42, 43, 44, 45, 46, 47, 48, 49, 50, 51, 52, 53, 54, 55, 56, 57, 58, 59, 60, 61, 171, 172, 173, 174, 175, 176, 177, 178, 179, 180, 181] (by decide +kernel) (by decide +kernel)
set_option maxRecDepth 20000 in
theorem gX11_begin_X4_set : GoodIn wsX11_begin (wsV RX11 396 RX4 yX4_set wsX4_set) := goodIn_app (goodIn_of _ (by decide +kernel)) ggX11_begin_X4_set
set_option maxRecDepth 20000 in
theorem ggX11_begin_X7_order : GoodIn wsX11_begin wsX7_order := goodIn_r _ [66, 67, 68, 69, 70, 65, 71, 72, 73, 74, 75, 76, 77, 78, 79, 80, 81, 82, 83, 84, 85, 86, 87, 88, 89, 182, 183, 184, 185] (by decide +kernel) (by decide +kernel)
set_option maxRecDepth 20000 in
theorem gX11_begin_X7_order : GoodIn wsX11_begin (wsV RX11 399 RX7 yX7_order wsX7_order) := goodIn_app (goodIn_of _ (by decide +kernel)) ggX11_begin_X7_order
set_option maxRecDepth 20000 in
theorem ggX11_begin_X1_order : GoodIn wsX11_begin wsX1_order := goodIn_r _ [94, 95, 96, 97, 98, 99, 93, 100, 101, 102, 103, 104, 105, 106, 107, 108, 109, 53, 54, 55, 186, 187, 188, 189, 182, 183, 184, 185] (by decide +kernel) (by decide +kernel)
set_option maxRecDepth 20000 in
theorem gX11_begin_X1_order : GoodIn wsX11_begin (wsV RX11 403 RX1 yX1_order wsX1_order) := goodIn_app (goodIn_of _ (by decide +kernel)) ggX11_begin_X1_order
set_option maxRecDepth 20000 in
theorem ggX11_begin_J7_fill_53178 : GoodIn wsX11_begin wsJ7_fill_53178 := goodIn_r _ [55] (by decide +kernel) (by decide +kernel)
set_option maxRecDepth 20000 in
theorem gX11_begin_J7_fill_53178 : GoodIn wsX11_begin (va_wsS RX11 405 yJ7_fill_53178 wsJ7_fill_53178) := goodIn_app (goodIn_of _ (by decide +kernel)) ggX11_begin_J7_fill_53178
set_option maxRecDepth 20000 in
theorem ggX11_begin_X2_forgetTray : GoodIn wsX11_begin wsX2_forgetTray := goodIn_r _ [115, 116, 190, 191, 192, 193, 194, 195, 196, 197, 198, 199, 200, 201, 202] (by decide +kernel) (by decide +kernel)
set_option maxRecDepth 20000 in
theorem gX11_begin_X2_forgetTray : GoodIn wsX11_begin (wsV RX11 411 RX2 yX2_forgetTray wsX2_forgetTray) := goodIn_app (goodIn_of _ (by decide +kernel)) ggX11_begin_X2_forgetTray
set_option maxRecDepth 20000 in
theorem ggX11_begin_X11_forgetAim : GoodIn wsX11_begin wsX11_forgetAim := goodIn_r _ [121, 1, 8, 122, 123, 124, 125, 126, 127, 128, 129, 130, 114, 131, 132, 144, 145, 146, 147, 148, 149, 150, 151, 152, 153, 154, 155, 156, 157, 158, 159, 160, 161, 162, 163, 164, 165, 166, 167, 168, 169, 170, 190, 191, 192, 193, 194, 195, 196, 197, 198, 199, 200, 201, 202] (by decide +kernel) (by decide +kernel)
set_option maxRecDepth 20000 in
theorem gX11_begin_X11_forgetAim : GoodIn wsX11_begin (wsV RX11 161 RX11 yX11_forgetAim wsX11_forgetAim) := goodIn_app (goodIn_of _ (by decide +kernel)) ggX11_begin_X11_forgetAim
set_option maxRecDepth 20000 in
theorem ggX11_begin_X11_forgetMoves : GoodIn wsX11_begin wsX11_forgetMoves := goodIn_r _ [136, 137, 138, 144, 145, 146, 147, 148, 149, 150, 151, 152, 153, 154, 155, 156, 157, 158, 159, 160, 161, 162] (by decide +kernel) (by decide +kernel)
set_option maxRecDepth 20000 in
theorem gX11_begin_X11_forgetMoves : GoodIn wsX11_begin (wsV RX11 129 RX11 yX11_forgetMoves wsX11_forgetMoves) := goodIn_app (goodIn_of _ (by decide +kernel)) ggX11_begin_X11_forgetMoves
set_option maxRecDepth 20000 in
theorem ggX11_begin_X11_tell : GoodIn wsX11_begin wsX11_tell := goodIn_r _ [142, 143, 144, 145, 146, 147, 148, 149, 150, 151, 152, 153, 154, 155, 156, 157, 158, 159, 160, 161, 162] (by decide +kernel) (by decide +kernel)
set_option maxRecDepth 20000 in
theorem gX11_begin_X11_tell : GoodIn wsX11_begin (wsV RX11 307 RX11 yX11_tell wsX11_tell) := goodIn_app (goodIn_of _ (by decide +kernel)) ggX11_begin_X11_tell
theorem dX11_begin_0 : decode cX11_begin 0 = .ok (.aload_n 0, 1) := by decide +kernel
theorem dX11_begin_1 : decode cX11_begin 1 = .ok (.getfield 12, 3) := by decide +kernel
theorem dX11_begin_4 : decode cX11_begin 4 = .ok (.getfield 112, 3) := by decide +kernel
theorem dX11_begin_7 : decode cX11_begin 7 = .ok (.iload_n 1, 1) := by decide +kernel
theorem dX11_begin_8 : decode cX11_begin 8 = .ok (.iload_n 2, 1) := by decide +kernel
theorem dX11_begin_9 : decode cX11_begin 9 = .ok (.iload_n 3, 1) := by decide +kernel
theorem dX11_begin_10 : decode cX11_begin 10 = .ok (.invokevirtual 396, 3) := by decide +kernel
theorem dX11_begin_13 : decode cX11_begin 13 = .ok (.aload_n 0, 1) := by decide +kernel
theorem dX11_begin_14 : decode cX11_begin 14 = .ok (.getfield 19, 3) := by decide +kernel
theorem dX11_begin_17 : decode cX11_begin 17 = .ok (.aload_n 0, 1) := by decide +kernel
theorem dX11_begin_18 : decode cX11_begin 18 = .ok (.getfield 12, 3) := by decide +kernel
theorem dX11_begin_21 : decode cX11_begin 21 = .ok (.getfield 112, 3) := by decide +kernel
theorem dX11_begin_24 : decode cX11_begin 24 = .ok (.getfield 116, 3) := by decide +kernel
theorem dX11_begin_27 : decode cX11_begin 27 = .ok (.invokevirtual 399, 3) := by decide +kernel
theorem dX11_begin_30 : decode cX11_begin 30 = .ok (.aload_n 0, 1) := by decide +kernel
theorem dX11_begin_31 : decode cX11_begin 31 = .ok (.getfield 12, 3) := by decide +kernel
theorem dX11_begin_34 : decode cX11_begin 34 = .ok (.getfield 153, 3) := by decide +kernel
theorem dX11_begin_37 : decode cX11_begin 37 = .ok (.aload_n 0, 1) := by decide +kernel
theorem dX11_begin_38 : decode cX11_begin 38 = .ok (.getfield 19, 3) := by decide +kernel
theorem dX11_begin_41 : decode cX11_begin 41 = .ok (.invokevirtual 403, 3) := by decide +kernel
theorem dX11_begin_44 : decode cX11_begin 44 = .ok (.iconst 0, 1) := by decide +kernel
theorem dX11_begin_45 : decode cX11_begin 45 = .ok (.istore 4, 2) := by decide +kernel
theorem dX11_begin_47 : decode cX11_begin 47 = .ok (.iload 4, 2) := by decide +kernel
theorem dX11_begin_49 : decode cX11_begin 49 = .ok (.iconst 2, 1) := by decide +kernel
theorem dX11_begin_50 : decode cX11_begin 50 = .ok (.if_icmp .ge 17, 3) := by decide +kernel
theorem dX11_begin_53 : decode cX11_begin 53 = .ok (.aload_n 0, 1) := by decide +kernel
theorem dX11_begin_54 : decode cX11_begin 54 = .ok (.getfield 36, 3) := by decide +kernel
theorem dX11_begin_57 : decode cX11_begin 57 = .ok (.iload 4, 2) := by decide +kernel
theorem dX11_begin_59 : decode cX11_begin 59 = .ok (.iconst 0, 1) := by decide +kernel
theorem dX11_begin_60 : decode cX11_begin 60 = .ok (.bastore, 1) := by decide +kernel
theorem dX11_begin_61 : decode cX11_begin 61 = .ok (.iinc 4 1, 3) := by decide +kernel
theorem dX11_begin_64 : decode cX11_begin 64 = .ok (.goto (-17), 3) := by decide +kernel
theorem dX11_begin_67 : decode cX11_begin 67 = .ok (.aload_n 0, 1) := by decide +kernel
theorem dX11_begin_68 : decode cX11_begin 68 = .ok (.getfield 45, 3) := by decide +kernel
theorem dX11_begin_71 : decode cX11_begin 71 = .ok (.iconst 0, 1) := by decide +kernel
theorem dX11_begin_72 : decode cX11_begin 72 = .ok (.invokestatic 405, 3) := by decide +kernel
theorem dX11_begin_75 : decode cX11_begin 75 = .ok (.aload_n 0, 1) := by decide +kernel
theorem dX11_begin_76 : decode cX11_begin 76 = .ok (.getfield 76, 3) := by decide +kernel
theorem dX11_begin_79 : decode cX11_begin 79 = .ok (.invokevirtual 411, 3) := by decide +kernel
theorem dX11_begin_82 : decode cX11_begin 82 = .ok (.aload_n 0, 1) := by decide +kernel
theorem dX11_begin_83 : decode cX11_begin 83 = .ok (.invokevirtual 161, 3) := by decide +kernel
theorem dX11_begin_86 : decode cX11_begin 86 = .ok (.aload_n 0, 1) := by decide +kernel
theorem dX11_begin_87 : decode cX11_begin 87 = .ok (.invokevirtual 129, 3) := by decide +kernel
theorem dX11_begin_90 : decode cX11_begin 90 = .ok (.aload_n 0, 1) := by decide +kernel
theorem dX11_begin_91 : decode cX11_begin 91 = .ok (.iconst 0, 1) := by decide +kernel
theorem dX11_begin_92 : decode cX11_begin 92 = .ok (.putfield 301, 3) := by decide +kernel
theorem dX11_begin_95 : decode cX11_begin 95 = .ok (.aload_n 0, 1) := by decide +kernel
theorem dX11_begin_96 : decode cX11_begin 96 = .ok (.iconst 0, 1) := by decide +kernel
theorem dX11_begin_97 : decode cX11_begin 97 = .ok (.iconst 0, 1) := by decide +kernel
theorem dX11_begin_98 : decode cX11_begin 98 = .ok (.iconst 0, 1) := by decide +kernel
theorem dX11_begin_99 : decode cX11_begin 99 = .ok (.invokevirtual 307, 3) := by decide +kernel
theorem dX11_begin_102 : decode cX11_begin 102 = .ok (.return_, 1) := by decide +kernel
set_option maxRecDepth 20000 in
theorem ggX11_forgetAim_X9_dropParts : GoodIn wsX11_forgetAim wsX9_dropParts := goodIn_r _ [7, 8, 34, 35, 36, 37, 38, 39, 40, 41] (by decide +kernel) (by decide +kernel)
set_option maxRecDepth 20000 in
theorem gX11_forgetAim_X9_dropParts : GoodIn wsX11_forgetAim (wsV RX11 414 RX9 yX9_dropParts wsX9_dropParts) := goodIn_app (goodIn_of _ (by decide +kernel)) ggX11_forgetAim_X9_dropParts
set_option maxRecDepth 20000 in
theorem ggX11_forgetAim_X2_forgetCosts : GoodIn wsX11_forgetAim wsX2_forgetCosts := goodIn_r _ [13, 14, 42, 43, 44, 45, 46, 47, 48, 49, 50, 51, 52, 53, 54] (by decide +kernel) (by decide +kernel)
set_option maxRecDepth 20000 in
theorem gX11_forgetAim_X2_forgetCosts : GoodIn wsX11_forgetAim (wsV RX11 417 RX2 yX2_forgetCosts wsX2_forgetCosts) := goodIn_app (goodIn_of _ (by decide +kernel)) ggX11_forgetAim_X2_forgetCosts
theorem dX11_forgetAim_0 : decode cX11_forgetAim 0 = .ok (.aload_n 0, 1) := by decide +kernel
theorem dX11_forgetAim_1 : decode cX11_forgetAim 1 = .ok (.getfield 12, 3) := by decide +kernel
theorem dX11_forgetAim_4 : decode cX11_forgetAim 4 = .ok (.invokevirtual 414, 3) := by decide +kernel
theorem dX11_forgetAim_7 : decode cX11_forgetAim 7 = .ok (.aload_n 0, 1) := by decide +kernel
theorem dX11_forgetAim_8 : decode cX11_forgetAim 8 = .ok (.getfield 76, 3) := by decide +kernel
theorem dX11_forgetAim_11 : decode cX11_forgetAim 11 = .ok (.invokevirtual 417, 3) := by decide +kernel
theorem dX11_forgetAim_14 : decode cX11_forgetAim 14 = .ok (.return_, 1) := by decide +kernel
theorem dX11_forgetMoves_0 : decode cX11_forgetMoves 0 = .ok (.aload_n 0, 1) := by decide +kernel
theorem dX11_forgetMoves_1 : decode cX11_forgetMoves 1 = .ok (.iconst 0, 1) := by decide +kernel
theorem dX11_forgetMoves_2 : decode cX11_forgetMoves 2 = .ok (.putfield 205, 3) := by decide +kernel
theorem dX11_forgetMoves_5 : decode cX11_forgetMoves 5 = .ok (.aload_n 0, 1) := by decide +kernel
theorem dX11_forgetMoves_6 : decode cX11_forgetMoves 6 = .ok (.iconst 0, 1) := by decide +kernel
theorem dX11_forgetMoves_7 : decode cX11_forgetMoves 7 = .ok (.putfield 213, 3) := by decide +kernel
theorem dX11_forgetMoves_10 : decode cX11_forgetMoves 10 = .ok (.return_, 1) := by decide +kernel
theorem dX11_tell_0 : decode cX11_tell 0 = .ok (.aload_n 0, 1) := by decide +kernel
theorem dX11_tell_1 : decode cX11_tell 1 = .ok (.getfield 83, 3) := by decide +kernel
theorem dX11_tell_4 : decode cX11_tell 4 = .ok (.iconst 0, 1) := by decide +kernel
theorem dX11_tell_5 : decode cX11_tell 5 = .ok (.iload_n 1, 1) := by decide +kernel
theorem dX11_tell_6 : decode cX11_tell 6 = .ok (.iastore, 1) := by decide +kernel
theorem dX11_tell_7 : decode cX11_tell 7 = .ok (.aload_n 0, 1) := by decide +kernel
theorem dX11_tell_8 : decode cX11_tell 8 = .ok (.getfield 83, 3) := by decide +kernel
theorem dX11_tell_11 : decode cX11_tell 11 = .ok (.iconst 1, 1) := by decide +kernel
theorem dX11_tell_12 : decode cX11_tell 12 = .ok (.iload_n 2, 1) := by decide +kernel
theorem dX11_tell_13 : decode cX11_tell 13 = .ok (.iastore, 1) := by decide +kernel
theorem dX11_tell_14 : decode cX11_tell 14 = .ok (.aload_n 0, 1) := by decide +kernel
theorem dX11_tell_15 : decode cX11_tell 15 = .ok (.getfield 83, 3) := by decide +kernel
theorem dX11_tell_18 : decode cX11_tell 18 = .ok (.iconst 2, 1) := by decide +kernel
theorem dX11_tell_19 : decode cX11_tell 19 = .ok (.iload_n 3, 1) := by decide +kernel
theorem dX11_tell_20 : decode cX11_tell 20 = .ok (.iastore, 1) := by decide +kernel
theorem dX11_tell_21 : decode cX11_tell 21 = .ok (.return_, 1) := by decide +kernel
theorem dX11_tiles_0 : decode cX11_tiles 0 = .ok (.aload_n 0, 1) := by decide +kernel
theorem dX11_tiles_1 : decode cX11_tiles 1 = .ok (.getfield 12, 3) := by decide +kernel
theorem dX11_tiles_4 : decode cX11_tiles 4 = .ok (.getfield 112, 3) := by decide +kernel
theorem dX11_tiles_7 : decode cX11_tiles 7 = .ok (.getfield 116, 3) := by decide +kernel
theorem dX11_tiles_10 : decode cX11_tiles 10 = .ok (.iconst 1, 1) := by decide +kernel
theorem dX11_tiles_11 : decode cX11_tiles 11 = .ok (.isub, 1) := by decide +kernel
theorem dX11_tiles_12 : decode cX11_tiles 12 = .ok (.ireturn, 1) := by decide +kernel
theorem dX11_gapCell_0 : decode cX11_gapCell 0 = .ok (.aload_n 0, 1) := by decide +kernel
theorem dX11_gapCell_1 : decode cX11_gapCell 1 = .ok (.getfield 12, 3) := by decide +kernel
theorem dX11_gapCell_4 : decode cX11_gapCell 4 = .ok (.getfield 112, 3) := by decide +kernel
theorem dX11_gapCell_7 : decode cX11_gapCell 7 = .ok (.getfield 420, 3) := by decide +kernel
theorem dX11_gapCell_10 : decode cX11_gapCell 10 = .ok (.aload_n 0, 1) := by decide +kernel
theorem dX11_gapCell_11 : decode cX11_gapCell 11 = .ok (.getfield 19, 3) := by decide +kernel
theorem dX11_gapCell_14 : decode cX11_gapCell 14 = .ok (.getfield 137, 3) := by decide +kernel
theorem dX11_gapCell_17 : decode cX11_gapCell 17 = .ok (.iconst 0, 1) := by decide +kernel
theorem dX11_gapCell_18 : decode cX11_gapCell 18 = .ok (.iaload, 1) := by decide +kernel
theorem dX11_gapCell_19 : decode cX11_gapCell 19 = .ok (.iaload, 1) := by decide +kernel
theorem dX11_gapCell_20 : decode cX11_gapCell 20 = .ok (.ireturn, 1) := by decide +kernel
theorem dX11_isDirection_0 : decode cX11_isDirection 0 = .ok (.iload_n 0, 1) := by decide +kernel
theorem dX11_isDirection_1 : decode cX11_isDirection 1 = .ok (.ifCond .lt 12, 3) := by decide +kernel
theorem dX11_isDirection_4 : decode cX11_isDirection 4 = .ok (.iload_n 0, 1) := by decide +kernel
theorem dX11_isDirection_5 : decode cX11_isDirection 5 = .ok (.iconst 3, 1) := by decide +kernel
theorem dX11_isDirection_6 : decode cX11_isDirection 6 = .ok (.if_icmp .gt 7, 3) := by decide +kernel
theorem dX11_isDirection_9 : decode cX11_isDirection 9 = .ok (.iconst 1, 1) := by decide +kernel
theorem dX11_isDirection_10 : decode cX11_isDirection 10 = .ok (.goto 4, 3) := by decide +kernel
theorem dX11_isDirection_13 : decode cX11_isDirection 13 = .ok (.iconst 0, 1) := by decide +kernel
theorem dX11_isDirection_14 : decode cX11_isDirection 14 = .ok (.ireturn, 1) := by decide +kernel
theorem dX11_opposite_0 : decode cX11_opposite 0 = .ok (.iconst 3, 1) := by decide +kernel
theorem dX11_opposite_1 : decode cX11_opposite 1 = .ok (.iload_n 0, 1) := by decide +kernel
theorem dX11_opposite_2 : decode cX11_opposite 2 = .ok (.isub, 1) := by decide +kernel
theorem dX11_opposite_3 : decode cX11_opposite 3 = .ok (.ireturn, 1) := by decide +kernel
theorem dX11_isMacro_0 : decode cX11_isMacro 0 = .ok (.iload_n 0, 1) := by decide +kernel
theorem dX11_isMacro_1 : decode cX11_isMacro 1 = .ok (.ifCond .lt 12, 3) := by decide +kernel
theorem dX11_isMacro_4 : decode cX11_isMacro 4 = .ok (.iload_n 0, 1) := by decide +kernel
theorem dX11_isMacro_5 : decode cX11_isMacro 5 = .ok (.iconst 4, 1) := by decide +kernel
theorem dX11_isMacro_6 : decode cX11_isMacro 6 = .ok (.if_icmp .ge 7, 3) := by decide +kernel
theorem dX11_isMacro_9 : decode cX11_isMacro 9 = .ok (.iconst 1, 1) := by decide +kernel
theorem dX11_isMacro_10 : decode cX11_isMacro 10 = .ok (.goto 4, 3) := by decide +kernel
theorem dX11_isMacro_13 : decode cX11_isMacro 13 = .ok (.iconst 0, 1) := by decide +kernel
theorem dX11_isMacro_14 : decode cX11_isMacro 14 = .ok (.ireturn, 1) := by decide +kernel
theorem dX11_isImage_0 : decode cX11_isImage 0 = .ok (.iload_n 0, 1) := by decide +kernel
theorem dX11_isImage_1 : decode cX11_isImage 1 = .ok (.ifCond .lt 12, 3) := by decide +kernel
theorem dX11_isImage_4 : decode cX11_isImage 4 = .ok (.iload_n 0, 1) := by decide +kernel
theorem dX11_isImage_5 : decode cX11_isImage 5 = .ok (.iconst 2, 1) := by decide +kernel
theorem dX11_isImage_6 : decode cX11_isImage 6 = .ok (.if_icmp .ge 7, 3) := by decide +kernel
theorem dX11_isImage_9 : decode cX11_isImage 9 = .ok (.iconst 1, 1) := by decide +kernel
theorem dX11_isImage_10 : decode cX11_isImage 10 = .ok (.goto 4, 3) := by decide +kernel
theorem dX11_isImage_13 : decode cX11_isImage 13 = .ok (.iconst 0, 1) := by decide +kernel
theorem dX11_isImage_14 : decode cX11_isImage 14 = .ok (.ireturn, 1) := by decide +kernel
theorem dX11_isEstimate_0 : decode cX11_isEstimate 0 = .ok (.iload_n 0, 1) := by decide +kernel
theorem dX11_isEstimate_1 : decode cX11_isEstimate 1 = .ok (.ifCond .lt 12, 3) := by decide +kernel
theorem dX11_isEstimate_4 : decode cX11_isEstimate 4 = .ok (.iload_n 0, 1) := by decide +kernel
theorem dX11_isEstimate_5 : decode cX11_isEstimate 5 = .ok (.iconst 4, 1) := by decide +kernel
theorem dX11_isEstimate_6 : decode cX11_isEstimate 6 = .ok (.if_icmp .gt 7, 3) := by decide +kernel
theorem dX11_isEstimate_9 : decode cX11_isEstimate 9 = .ok (.iconst 1, 1) := by decide +kernel
theorem dX11_isEstimate_10 : decode cX11_isEstimate 10 = .ok (.goto 4, 3) := by decide +kernel
theorem dX11_isEstimate_13 : decode cX11_isEstimate 13 = .ok (.iconst 0, 1) := by decide +kernel
theorem dX11_isEstimate_14 : decode cX11_isEstimate 14 = .ok (.ireturn, 1) := by decide +kernel
set_option maxRecDepth 20000 in
theorem ggX11_canStride_X4_besideOf : GoodIn wsX11_canStride wsX4_besideOf := goodIn_r _ [9, 10, 42, 43, 44, 45, 46, 47, 48, 49, 50, 51, 52] (by decide +kernel) (by decide +kernel)
set_option maxRecDepth 20000 in
theorem gX11_canStride_X4_besideOf : GoodIn wsX11_canStride (wsV RX11 423 RX4 yX4_besideOf wsX4_besideOf) := goodIn_app (goodIn_of _ (by decide +kernel)) ggX11_canStride_X4_besideOf
theorem dX11_canStride_0 : decode cX11_canStride 0 = .ok (.aload_n 0, 1) := by decide +kernel
theorem dX11_canStride_1 : decode cX11_canStride 1 = .ok (.getfield 19, 3) := by decide +kernel
theorem dX11_canStride_4 : decode cX11_canStride 4 = .ok (.getfield 137, 3) := by decide +kernel
theorem dX11_canStride_7 : decode cX11_canStride 7 = .ok (.iconst 0, 1) := by decide +kernel
theorem dX11_canStride_8 : decode cX11_canStride 8 = .ok (.iaload, 1) := by decide +kernel
theorem dX11_canStride_9 : decode cX11_canStride 9 = .ok (.istore_n 3, 1) := by decide +kernel
theorem dX11_canStride_10 : decode cX11_canStride 10 = .ok (.iconst 0, 1) := by decide +kernel
theorem dX11_canStride_11 : decode cX11_canStride 11 = .ok (.istore 4, 2) := by decide +kernel
theorem dX11_canStride_13 : decode cX11_canStride 13 = .ok (.iload 4, 2) := by decide +kernel
theorem dX11_canStride_15 : decode cX11_canStride 15 = .ok (.iload_n 2, 1) := by decide +kernel
theorem dX11_canStride_16 : decode cX11_canStride 16 = .ok (.if_icmp .ge 27, 3) := by decide +kernel
theorem dX11_canStride_19 : decode cX11_canStride 19 = .ok (.iload_n 3, 1) := by decide +kernel
theorem dX11_canStride_20 : decode cX11_canStride 20 = .ok (.iconst (-1), 1) := by decide +kernel
theorem dX11_canStride_21 : decode cX11_canStride 21 = .ok (.if_icmp .eq 22, 3) := by decide +kernel
theorem dX11_canStride_24 : decode cX11_canStride 24 = .ok (.aload_n 0, 1) := by decide +kernel
theorem dX11_canStride_25 : decode cX11_canStride 25 = .ok (.getfield 12, 3) := by decide +kernel
theorem dX11_canStride_28 : decode cX11_canStride 28 = .ok (.getfield 112, 3) := by decide +kernel
theorem dX11_canStride_31 : decode cX11_canStride 31 = .ok (.iload_n 3, 1) := by decide +kernel
theorem dX11_canStride_32 : decode cX11_canStride 32 = .ok (.iload_n 1, 1) := by decide +kernel
theorem dX11_canStride_33 : decode cX11_canStride 33 = .ok (.invokevirtual 423, 3) := by decide +kernel
theorem dX11_canStride_36 : decode cX11_canStride 36 = .ok (.istore_n 3, 1) := by decide +kernel
theorem dX11_canStride_37 : decode cX11_canStride 37 = .ok (.iinc 4 1, 3) := by decide +kernel
theorem dX11_canStride_40 : decode cX11_canStride 40 = .ok (.goto (-27), 3) := by decide +kernel
theorem dX11_canStride_43 : decode cX11_canStride 43 = .ok (.iload_n 3, 1) := by decide +kernel
theorem dX11_canStride_44 : decode cX11_canStride 44 = .ok (.iconst (-1), 1) := by decide +kernel
theorem dX11_canStride_45 : decode cX11_canStride 45 = .ok (.if_icmp .eq 7, 3) := by decide +kernel
theorem dX11_canStride_48 : decode cX11_canStride 48 = .ok (.iconst 1, 1) := by decide +kernel
theorem dX11_canStride_49 : decode cX11_canStride 49 = .ok (.goto 4, 3) := by decide +kernel
theorem dX11_canStride_52 : decode cX11_canStride 52 = .ok (.iconst 0, 1) := by decide +kernel
theorem dX11_canStride_53 : decode cX11_canStride 53 = .ok (.ireturn, 1) := by decide +kernel
set_option maxRecDepth 20000 in
theorem ggX11_shiftGap_X7_shift : GoodIn wsX11_shiftGap wsX7_shift := goodIn_r _ [11, 12, 13, 14, 15, 16, 17, 18, 19, 20, 21, 22, 23, 10, 24, 25, 26, 27, 28, 29, 30, 31, 32, 60, 61, 62, 63, 64, 65, 66, 67, 68, 69, 70, 71, 72, 73, 74] (by decide +kernel) (by decide +kernel)
set_option maxRecDepth 20000 in
theorem gX11_shiftGap_X7_shift : GoodIn wsX11_shiftGap (wsV RX11 149 RX7 yX7_shift wsX7_shift) := goodIn_app (goodIn_of _ (by decide +kernel)) ggX11_shiftGap_X7_shift
theorem dX11_shiftGap_0 : decode cX11_shiftGap 0 = .ok (.aload_n 0, 1) := by decide +kernel
theorem dX11_shiftGap_1 : decode cX11_shiftGap 1 = .ok (.getfield 19, 3) := by decide +kernel
theorem dX11_shiftGap_4 : decode cX11_shiftGap 4 = .ok (.aload_n 0, 1) := by decide +kernel
theorem dX11_shiftGap_5 : decode cX11_shiftGap 5 = .ok (.getfield 12, 3) := by decide +kernel
theorem dX11_shiftGap_8 : decode cX11_shiftGap 8 = .ok (.getfield 112, 3) := by decide +kernel
theorem dX11_shiftGap_11 : decode cX11_shiftGap 11 = .ok (.iload_n 1, 1) := by decide +kernel
theorem dX11_shiftGap_12 : decode cX11_shiftGap 12 = .ok (.invokevirtual 149, 3) := by decide +kernel
theorem dX11_shiftGap_15 : decode cX11_shiftGap 15 = .ok (.istore_n 2, 1) := by decide +kernel
theorem dX11_shiftGap_16 : decode cX11_shiftGap 16 = .ok (.iload_n 2, 1) := by decide +kernel
theorem dX11_shiftGap_17 : decode cX11_shiftGap 17 = .ok (.ifCond .ne 5, 3) := by decide +kernel
theorem dX11_shiftGap_20 : decode cX11_shiftGap 20 = .ok (.iconst 0, 1) := by decide +kernel
theorem dX11_shiftGap_21 : decode cX11_shiftGap 21 = .ok (.ireturn, 1) := by decide +kernel
theorem dX11_shiftGap_22 : decode cX11_shiftGap 22 = .ok (.aload_n 0, 1) := by decide +kernel
theorem dX11_shiftGap_23 : decode cX11_shiftGap 23 = .ok (.getfield 49, 3) := by decide +kernel
theorem dX11_shiftGap_26 : decode cX11_shiftGap 26 = .ok (.aload_n 0, 1) := by decide +kernel
theorem dX11_shiftGap_27 : decode cX11_shiftGap 27 = .ok (.getfield 213, 3) := by decide +kernel
theorem dX11_shiftGap_30 : decode cX11_shiftGap 30 = .ok (.iload_n 1, 1) := by decide +kernel
theorem dX11_shiftGap_31 : decode cX11_shiftGap 31 = .ok (.iastore, 1) := by decide +kernel
theorem dX11_shiftGap_32 : decode cX11_shiftGap 32 = .ok (.aload_n 0, 1) := by decide +kernel
theorem dX11_shiftGap_33 : decode cX11_shiftGap 33 = .ok (.aload_n 0, 1) := by decide +kernel
theorem dX11_shiftGap_34 : decode cX11_shiftGap 34 = .ok (.getfield 213, 3) := by decide +kernel
theorem dX11_shiftGap_37 : decode cX11_shiftGap 37 = .ok (.iconst 1, 1) := by decide +kernel
theorem dX11_shiftGap_38 : decode cX11_shiftGap 38 = .ok (.iadd, 1) := by decide +kernel
theorem dX11_shiftGap_39 : decode cX11_shiftGap 39 = .ok (.sipush 200, 3) := by decide +kernel
theorem dX11_shiftGap_42 : decode cX11_shiftGap 42 = .ok (.irem, 1) := by decide +kernel
theorem dX11_shiftGap_43 : decode cX11_shiftGap 43 = .ok (.putfield 213, 3) := by decide +kernel
theorem dX11_shiftGap_46 : decode cX11_shiftGap 46 = .ok (.aload_n 0, 1) := by decide +kernel
theorem dX11_shiftGap_47 : decode cX11_shiftGap 47 = .ok (.getfield 205, 3) := by decide +kernel
theorem dX11_shiftGap_50 : decode cX11_shiftGap 50 = .ok (.sipush 200, 3) := by decide +kernel
theorem dX11_shiftGap_53 : decode cX11_shiftGap 53 = .ok (.if_icmp .ge 13, 3) := by decide +kernel
theorem dX11_shiftGap_56 : decode cX11_shiftGap 56 = .ok (.aload_n 0, 1) := by decide +kernel
theorem dX11_shiftGap_57 : decode cX11_shiftGap 57 = .ok (.dup, 1) := by decide +kernel
theorem dX11_shiftGap_58 : decode cX11_shiftGap 58 = .ok (.getfield 205, 3) := by decide +kernel
theorem dX11_shiftGap_61 : decode cX11_shiftGap 61 = .ok (.iconst 1, 1) := by decide +kernel
theorem dX11_shiftGap_62 : decode cX11_shiftGap 62 = .ok (.iadd, 1) := by decide +kernel
theorem dX11_shiftGap_63 : decode cX11_shiftGap 63 = .ok (.putfield 205, 3) := by decide +kernel
theorem dX11_shiftGap_66 : decode cX11_shiftGap 66 = .ok (.iload_n 2, 1) := by decide +kernel
theorem dX11_shiftGap_67 : decode cX11_shiftGap 67 = .ok (.ireturn, 1) := by decide +kernel
theorem dX11_letterAt_0 : decode cX11_letterAt 0 = .ok (.lload_n 0, 1) := by decide +kernel
theorem dX11_letterAt_1 : decode cX11_letterAt 1 = .ok (.bipush 8, 2) := by decide +kernel
theorem dX11_letterAt_3 : decode cX11_letterAt 3 = .ok (.bipush 7, 2) := by decide +kernel
theorem dX11_letterAt_5 : decode cX11_letterAt 5 = .ok (.iload_n 2, 1) := by decide +kernel
theorem dX11_letterAt_6 : decode cX11_letterAt 6 = .ok (.isub, 1) := by decide +kernel
theorem dX11_letterAt_7 : decode cX11_letterAt 7 = .ok (.imul, 1) := by decide +kernel
theorem dX11_letterAt_8 : decode cX11_letterAt 8 = .ok (.lushr, 1) := by decide +kernel
theorem dX11_letterAt_9 : decode cX11_letterAt 9 = .ok (.l2i, 1) := by decide +kernel
theorem dX11_letterAt_10 : decode cX11_letterAt 10 = .ok (.sipush 255, 3) := by decide +kernel
theorem dX11_letterAt_13 : decode cX11_letterAt 13 = .ok (.iand, 1) := by decide +kernel
theorem dX11_letterAt_14 : decode cX11_letterAt 14 = .ok (.ireturn, 1) := by decide +kernel
theorem dX11_directionOf_0 : decode cX11_directionOf 0 = .ok (.iload_n 0, 1) := by decide +kernel
theorem dX11_directionOf_1 : decode cX11_directionOf 1 = .ok (.lookupswitch 51 #[(100, 49), (108, 45), (114, 47), (117, 43)], 43) := by decide +kernel
theorem dX11_directionOf_44 : decode cX11_directionOf 44 = .ok (.iconst 0, 1) := by decide +kernel
theorem dX11_directionOf_45 : decode cX11_directionOf 45 = .ok (.ireturn, 1) := by decide +kernel
theorem dX11_directionOf_46 : decode cX11_directionOf 46 = .ok (.iconst 1, 1) := by decide +kernel
theorem dX11_directionOf_47 : decode cX11_directionOf 47 = .ok (.ireturn, 1) := by decide +kernel
theorem dX11_directionOf_48 : decode cX11_directionOf 48 = .ok (.iconst 2, 1) := by decide +kernel
theorem dX11_directionOf_49 : decode cX11_directionOf 49 = .ok (.ireturn, 1) := by decide +kernel
theorem dX11_directionOf_50 : decode cX11_directionOf 50 = .ok (.iconst 3, 1) := by decide +kernel
theorem dX11_directionOf_51 : decode cX11_directionOf 51 = .ok (.ireturn, 1) := by decide +kernel
theorem dX11_directionOf_52 : decode cX11_directionOf 52 = .ok (.iconst (-1), 1) := by decide +kernel
theorem dX11_directionOf_53 : decode cX11_directionOf 53 = .ok (.ireturn, 1) := by decide +kernel
set_option maxRecDepth 20000 in
theorem ggX11_moveErrors_X7_copy : GoodIn wsX11_moveErrors wsX7_copy := goodIn_r _ [11, 12, 13, 14, 15, 16, 17, 18, 19, 162, 163, 164, 165] (by decide +kernel) (by decide +kernel)
set_option maxRecDepth 20000 in
theorem gX11_moveErrors_X7_copy : GoodIn wsX11_moveErrors (wsV RX11 245 RX7 yX7_copy wsX7_copy) := goodIn_app (goodIn_of _ (by decide +kernel)) ggX11_moveErrors_X7_copy
set_option maxRecDepth 20000 in
theorem ggX11_moveErrors_X7_shift : GoodIn wsX11_moveErrors wsX7_shift := goodIn_r _ [23, 19, 14, 13, 24, 25, 26, 27, 28, 29, 30, 31, 32, 10, 33, 34, 35, 36, 37, 12, 38, 39, 40, 162, 163, 164, 165, 166, 167, 168, 169, 170, 171, 172, 173, 174, 175, 176] (by decide +kernel) (by decide +kernel)
set_option maxRecDepth 20000 in
theorem gX11_moveErrors_X7_shift : GoodIn wsX11_moveErrors (wsV RX11 149 RX7 yX7_shift wsX7_shift) := goodIn_app (goodIn_of _ (by decide +kernel)) ggX11_moveErrors_X7_shift
set_option maxRecDepth 20000 in
theorem ggX11_moveErrors_X9_guess : GoodIn wsX11_moveErrors wsX9_guess := goodIn_r _ [45, 46, 47, 48, 44, 49, 50, 51, 52, 53, 54, 55, 56, 57, 58, 59, 60, 61, 62, 63, 64, 65, 66, 67, 68, 69, 70, 71, 72, 73, 74, 27, 75, 76, 77, 78, 79, 80, 81, 82, 83, 84, 85, 86, 87, 88, 89, 90, 91, 92, 93, 94, 95, 96, 97, 98, 99, 100, 101, 102, 103, 104, 105, 106, 107, 108, 109, 110, 111, 112, 113, 114, 115, 116, 117, 118, 119, 120, 121, 122, 150, 151, 152, 153, 154, 155, 156, 157, 166, 167, 168, 169, 170, 171, 172, 173, 174, 175, 176, 158, 159, 160, 161, 162, 163, 164, 165, 177, 178, 179, 180, 181, 182, 183] (by decide +kernel) (by decide +kernel)
set_option maxRecDepth 20000 in
theorem gX11_moveErrors_X9_guess : GoodIn wsX11_moveErrors (wsV RX11 287 RX9 yX9_guess wsX9_guess) := goodIn_app (goodIn_of _ (by decide +kernel)) ggX11_moveErrors_X9_guess
set_option maxRecDepth 20000 in
theorem ggX11_moveErrors_X11_opposite : GoodIn wsX11_moveErrors wsX11_opposite := goodIn_r _ [126] (by decide +kernel) (by decide +kernel)
set_option maxRecDepth 20000 in
theorem gX11_moveErrors_X11_opposite : GoodIn wsX11_moveErrors (va_wsS RX11 216 yX11_opposite wsX11_opposite) := goodIn_app (goodIn_of _ (by decide +kernel)) ggX11_moveErrors_X11_opposite
set_option maxRecDepth 20000 in
theorem ggX11_moveErrors_X7_isSame : GoodIn wsX11_moveErrors wsX7_isSame := goodIn_r _ [130, 12, 13, 14, 19, 162, 163, 164, 165] (by decide +kernel) (by decide +kernel)
set_option maxRecDepth 20000 in
theorem gX11_moveErrors_X7_isSame : GoodIn wsX11_moveErrors (wsV RX11 389 RX7 yX7_isSame wsX7_isSame) := goodIn_app (goodIn_of _ (by decide +kernel)) ggX11_moveErrors_X7_isSame
theorem dX11_moveErrors_0 : decode cX11_moveErrors 0 = .ok (.aload_n 0, 1) := by decide +kernel
theorem dX11_moveErrors_1 : decode cX11_moveErrors 1 = .ok (.getfield 23, 3) := by decide +kernel
theorem dX11_moveErrors_4 : decode cX11_moveErrors 4 = .ok (.aload_n 0, 1) := by decide +kernel
theorem dX11_moveErrors_5 : decode cX11_moveErrors 5 = .ok (.getfield 19, 3) := by decide +kernel
theorem dX11_moveErrors_8 : decode cX11_moveErrors 8 = .ok (.invokevirtual 245, 3) := by decide +kernel
theorem dX11_moveErrors_11 : decode cX11_moveErrors 11 = .ok (.aload_n 0, 1) := by decide +kernel
theorem dX11_moveErrors_12 : decode cX11_moveErrors 12 = .ok (.getfield 23, 3) := by decide +kernel
theorem dX11_moveErrors_15 : decode cX11_moveErrors 15 = .ok (.aload_n 0, 1) := by decide +kernel
theorem dX11_moveErrors_16 : decode cX11_moveErrors 16 = .ok (.getfield 12, 3) := by decide +kernel
theorem dX11_moveErrors_19 : decode cX11_moveErrors 19 = .ok (.getfield 112, 3) := by decide +kernel
theorem dX11_moveErrors_22 : decode cX11_moveErrors 22 = .ok (.iload_n 1, 1) := by decide +kernel
theorem dX11_moveErrors_23 : decode cX11_moveErrors 23 = .ok (.invokevirtual 149, 3) := by decide +kernel
theorem dX11_moveErrors_26 : decode cX11_moveErrors 26 = .ok (.istore_n 2, 1) := by decide +kernel
theorem dX11_moveErrors_27 : decode cX11_moveErrors 27 = .ok (.iload_n 2, 1) := by decide +kernel
theorem dX11_moveErrors_28 : decode cX11_moveErrors 28 = .ok (.ifCond .ne 5, 3) := by decide +kernel
theorem dX11_moveErrors_31 : decode cX11_moveErrors 31 = .ok (.iconst 0, 1) := by decide +kernel
theorem dX11_moveErrors_32 : decode cX11_moveErrors 32 = .ok (.ireturn, 1) := by decide +kernel
theorem dX11_moveErrors_33 : decode cX11_moveErrors 33 = .ok (.iconst 0, 1) := by decide +kernel
theorem dX11_moveErrors_34 : decode cX11_moveErrors 34 = .ok (.istore_n 3, 1) := by decide +kernel
theorem dX11_moveErrors_35 : decode cX11_moveErrors 35 = .ok (.iconst 0, 1) := by decide +kernel
theorem dX11_moveErrors_36 : decode cX11_moveErrors 36 = .ok (.istore 4, 2) := by decide +kernel
theorem dX11_moveErrors_38 : decode cX11_moveErrors 38 = .ok (.iload 4, 2) := by decide +kernel
theorem dX11_moveErrors_40 : decode cX11_moveErrors 40 = .ok (.iconst 4, 1) := by decide +kernel
theorem dX11_moveErrors_41 : decode cX11_moveErrors 41 = .ok (.if_icmp .gt 54, 3) := by decide +kernel
theorem dX11_moveErrors_44 : decode cX11_moveErrors 44 = .ok (.aload_n 0, 1) := by decide +kernel
theorem dX11_moveErrors_45 : decode cX11_moveErrors 45 = .ok (.getfield 12, 3) := by decide +kernel
theorem dX11_moveErrors_48 : decode cX11_moveErrors 48 = .ok (.aload_n 0, 1) := by decide +kernel
theorem dX11_moveErrors_49 : decode cX11_moveErrors 49 = .ok (.getfield 19, 3) := by decide +kernel
theorem dX11_moveErrors_52 : decode cX11_moveErrors 52 = .ok (.iload 4, 2) := by decide +kernel
theorem dX11_moveErrors_54 : decode cX11_moveErrors 54 = .ok (.invokevirtual 287, 3) := by decide +kernel
theorem dX11_moveErrors_57 : decode cX11_moveErrors 57 = .ok (.aload_n 0, 1) := by decide +kernel
theorem dX11_moveErrors_58 : decode cX11_moveErrors 58 = .ok (.getfield 12, 3) := by decide +kernel
theorem dX11_moveErrors_61 : decode cX11_moveErrors 61 = .ok (.aload_n 0, 1) := by decide +kernel
theorem dX11_moveErrors_62 : decode cX11_moveErrors 62 = .ok (.getfield 23, 3) := by decide +kernel
theorem dX11_moveErrors_65 : decode cX11_moveErrors 65 = .ok (.iload 4, 2) := by decide +kernel
theorem dX11_moveErrors_67 : decode cX11_moveErrors 67 = .ok (.invokevirtual 287, 3) := by decide +kernel
theorem dX11_moveErrors_70 : decode cX11_moveErrors 70 = .ok (.isub, 1) := by decide +kernel
theorem dX11_moveErrors_71 : decode cX11_moveErrors 71 = .ok (.aload_n 0, 1) := by decide +kernel
theorem dX11_moveErrors_72 : decode cX11_moveErrors 72 = .ok (.getfield 12, 3) := by decide +kernel
theorem dX11_moveErrors_75 : decode cX11_moveErrors 75 = .ok (.getfield 153, 3) := by decide +kernel
theorem dX11_moveErrors_78 : decode cX11_moveErrors 78 = .ok (.getfield 183, 3) := by decide +kernel
theorem dX11_moveErrors_81 : decode cX11_moveErrors 81 = .ok (.iload_n 2, 1) := by decide +kernel
theorem dX11_moveErrors_82 : decode cX11_moveErrors 82 = .ok (.iaload, 1) := by decide +kernel
theorem dX11_moveErrors_83 : decode cX11_moveErrors 83 = .ok (.if_icmp .le 6, 3) := by decide +kernel
theorem dX11_moveErrors_86 : decode cX11_moveErrors 86 = .ok (.iinc 3 1, 3) := by decide +kernel
theorem dX11_moveErrors_89 : decode cX11_moveErrors 89 = .ok (.iinc 4 1, 3) := by decide +kernel
theorem dX11_moveErrors_92 : decode cX11_moveErrors 92 = .ok (.goto (-54), 3) := by decide +kernel
theorem dX11_moveErrors_95 : decode cX11_moveErrors 95 = .ok (.aload_n 0, 1) := by decide +kernel
theorem dX11_moveErrors_96 : decode cX11_moveErrors 96 = .ok (.getfield 23, 3) := by decide +kernel
theorem dX11_moveErrors_99 : decode cX11_moveErrors 99 = .ok (.aload_n 0, 1) := by decide +kernel
theorem dX11_moveErrors_100 : decode cX11_moveErrors 100 = .ok (.getfield 12, 3) := by decide +kernel
theorem dX11_moveErrors_103 : decode cX11_moveErrors 103 = .ok (.getfield 112, 3) := by decide +kernel
theorem dX11_moveErrors_106 : decode cX11_moveErrors 106 = .ok (.iload_n 1, 1) := by decide +kernel
theorem dX11_moveErrors_107 : decode cX11_moveErrors 107 = .ok (.invokestatic 216, 3) := by decide +kernel
theorem dX11_moveErrors_110 : decode cX11_moveErrors 110 = .ok (.invokevirtual 149, 3) := by decide +kernel
theorem dX11_moveErrors_113 : decode cX11_moveErrors 113 = .ok (.pop, 1) := by decide +kernel
theorem dX11_moveErrors_114 : decode cX11_moveErrors 114 = .ok (.aload_n 0, 1) := by decide +kernel
theorem dX11_moveErrors_115 : decode cX11_moveErrors 115 = .ok (.getfield 23, 3) := by decide +kernel
theorem dX11_moveErrors_118 : decode cX11_moveErrors 118 = .ok (.aload_n 0, 1) := by decide +kernel
theorem dX11_moveErrors_119 : decode cX11_moveErrors 119 = .ok (.getfield 19, 3) := by decide +kernel
theorem dX11_moveErrors_122 : decode cX11_moveErrors 122 = .ok (.invokevirtual 389, 3) := by decide +kernel
theorem dX11_moveErrors_125 : decode cX11_moveErrors 125 = .ok (.ifCond .ne 6, 3) := by decide +kernel
theorem dX11_moveErrors_128 : decode cX11_moveErrors 128 = .ok (.iinc 3 1, 3) := by decide +kernel
theorem dX11_moveErrors_131 : decode cX11_moveErrors 131 = .ok (.iload_n 3, 1) := by decide +kernel
theorem dX11_moveErrors_132 : decode cX11_moveErrors 132 = .ok (.ireturn, 1) := by decide +kernel
set_option maxRecDepth 20000 in
theorem ggX12_init_X12_makes : GoodIn wsX12_init wsX12_makes := goodIn_r _ [62, 63, 11, 12, 6, 10, 5, 7, 13, 14, 15, 16, 64, 65, 19, 25, 66, 67, 68, 69, 70, 71, 72, 61, 73, 74, 75, 76, 77, 8, 78, 79, 80, 81, 82, 83, 84, 85, 86, 87, 88, 89, 90, 91, 92, 93, 94, 95, 96, 97, 98, 99, 100, 101, 102, 103, 104, 105, 106, 107, 108, 109, 110, 111, 112, 113, 114, 115, 116, 117, 118, 119, 120, 121, 122, 123, 124, 125, 126, 127, 128, 129, 130, 131, 132, 133, 134, 135, 136, 137, 138, 139, 140, 141, 142, 143, 144, 145] (by decide +kernel) (by decide +kernel)
set_option maxRecDepth 20000 in
theorem gX12_init_X12_makes : GoodIn wsX12_init (wsV RX12 164 RX12 yX12_makes wsX12_makes) := goodIn_app (goodIn_of _ (by decide +kernel)) ggX12_init_X12_makes
theorem dX12_init_0 : decode cX12_init 0 = .ok (.aload_n 0, 1) := by decide +kernel
theorem dX12_init_1 : decode cX12_init 1 = .ok (.invokespecial 1, 3) := by decide +kernel
theorem dX12_init_4 : decode cX12_init 4 = .ok (.aload_n 0, 1) := by decide +kernel
theorem dX12_init_5 : decode cX12_init 5 = .ok (.bipush 16, 2) := by decide +kernel
theorem dX12_init_7 : decode cX12_init 7 = .ok (.newarray .int, 2) := by decide +kernel
theorem dX12_init_9 : decode cX12_init 9 = .ok (.putfield 7, 3) := by decide +kernel
theorem dX12_init_12 : decode cX12_init 12 = .ok (.aload_n 0, 1) := by decide +kernel
theorem dX12_init_13 : decode cX12_init 13 = .ok (.bipush 16, 2) := by decide +kernel
theorem dX12_init_15 : decode cX12_init 15 = .ok (.newarray .int, 2) := by decide +kernel
theorem dX12_init_17 : decode cX12_init 17 = .ok (.putfield 13, 3) := by decide +kernel
theorem dX12_init_20 : decode cX12_init 20 = .ok (.aload_n 0, 1) := by decide +kernel
theorem dX12_init_21 : decode cX12_init 21 = .ok (.bipush 64, 2) := by decide +kernel
theorem dX12_init_23 : decode cX12_init 23 = .ok (.newarray .int, 2) := by decide +kernel
theorem dX12_init_25 : decode cX12_init 25 = .ok (.putfield 16, 3) := by decide +kernel
theorem dX12_init_28 : decode cX12_init 28 = .ok (.aload_n 0, 1) := by decide +kernel
theorem dX12_init_29 : decode cX12_init 29 = .ok (.sipush 256, 3) := by decide +kernel
theorem dX12_init_32 : decode cX12_init 32 = .ok (.newarray .int, 2) := by decide +kernel
theorem dX12_init_34 : decode cX12_init 34 = .ok (.putfield 19, 3) := by decide +kernel
theorem dX12_init_37 : decode cX12_init 37 = .ok (.aload_n 0, 1) := by decide +kernel
theorem dX12_init_38 : decode cX12_init 38 = .ok (.bipush 16, 2) := by decide +kernel
theorem dX12_init_40 : decode cX12_init 40 = .ok (.newarray .boolean, 2) := by decide +kernel
theorem dX12_init_42 : decode cX12_init 42 = .ok (.putfield 22, 3) := by decide +kernel
theorem dX12_init_45 : decode cX12_init 45 = .ok (.aload_n 0, 1) := by decide +kernel
theorem dX12_init_46 : decode cX12_init 46 = .ok (.iconst 3, 1) := by decide +kernel
theorem dX12_init_47 : decode cX12_init 47 = .ok (.putfield 26, 3) := by decide +kernel
theorem dX12_init_50 : decode cX12_init 50 = .ok (.aload_n 0, 1) := by decide +kernel
theorem dX12_init_51 : decode cX12_init 51 = .ok (.iconst 3, 1) := by decide +kernel
theorem dX12_init_52 : decode cX12_init 52 = .ok (.putfield 30, 3) := by decide +kernel
theorem dX12_init_55 : decode cX12_init 55 = .ok (.aload_n 0, 1) := by decide +kernel
theorem dX12_init_56 : decode cX12_init 56 = .ok (.bipush 16, 2) := by decide +kernel
theorem dX12_init_58 : decode cX12_init 58 = .ok (.newarray .int, 2) := by decide +kernel
theorem dX12_init_60 : decode cX12_init 60 = .ok (.putfield 33, 3) := by decide +kernel
theorem dX12_init_63 : decode cX12_init 63 = .ok (.aload_n 0, 1) := by decide +kernel
theorem dX12_init_64 : decode cX12_init 64 = .ok (.bipush 16, 2) := by decide +kernel
theorem dX12_init_66 : decode cX12_init 66 = .ok (.newarray .int, 2) := by decide +kernel
theorem dX12_init_68 : decode cX12_init 68 = .ok (.putfield 36, 3) := by decide +kernel
theorem dX12_init_71 : decode cX12_init 71 = .ok (.aload_n 0, 1) := by decide +kernel
theorem dX12_init_72 : decode cX12_init 72 = .ok (.bipush 16, 2) := by decide +kernel
theorem dX12_init_74 : decode cX12_init 74 = .ok (.newarray .int, 2) := by decide +kernel
theorem dX12_init_76 : decode cX12_init 76 = .ok (.putfield 39, 3) := by decide +kernel
theorem dX12_init_79 : decode cX12_init 79 = .ok (.aload_n 0, 1) := by decide +kernel
theorem dX12_init_80 : decode cX12_init 80 = .ok (.bipush 16, 2) := by decide +kernel
theorem dX12_init_82 : decode cX12_init 82 = .ok (.newarray .boolean, 2) := by decide +kernel
theorem dX12_init_84 : decode cX12_init 84 = .ok (.putfield 42, 3) := by decide +kernel
theorem dX12_init_87 : decode cX12_init 87 = .ok (.aload_n 0, 1) := by decide +kernel
theorem dX12_init_88 : decode cX12_init 88 = .ok (.sipush 500, 3) := by decide +kernel
theorem dX12_init_91 : decode cX12_init 91 = .ok (.putfield 45, 3) := by decide +kernel
theorem dX12_init_94 : decode cX12_init 94 = .ok (.aload_n 0, 1) := by decide +kernel
theorem dX12_init_95 : decode cX12_init 95 = .ok (.sipush 200, 3) := by decide +kernel
theorem dX12_init_98 : decode cX12_init 98 = .ok (.newarray .int, 2) := by decide +kernel
theorem dX12_init_100 : decode cX12_init 100 = .ok (.putfield 48, 3) := by decide +kernel
theorem dX12_init_103 : decode cX12_init 103 = .ok (.aload_n 0, 1) := by decide +kernel
theorem dX12_init_104 : decode cX12_init 104 = .ok (.iconst 4, 1) := by decide +kernel
theorem dX12_init_105 : decode cX12_init 105 = .ok (.newarray .int, 2) := by decide +kernel
theorem dX12_init_107 : decode cX12_init 107 = .ok (.putfield 51, 3) := by decide +kernel
theorem dX12_init_110 : decode cX12_init 110 = .ok (.aload_n 0, 1) := by decide +kernel
theorem dX12_init_111 : decode cX12_init 111 = .ok (.bipush 32, 2) := by decide +kernel
theorem dX12_init_113 : decode cX12_init 113 = .ok (.newarray .int, 2) := by decide +kernel
theorem dX12_init_115 : decode cX12_init 115 = .ok (.putfield 54, 3) := by decide +kernel
theorem dX12_init_118 : decode cX12_init 118 = .ok (.aload_n 0, 1) := by decide +kernel
theorem dX12_init_119 : decode cX12_init 119 = .ok (.bipush 32, 2) := by decide +kernel
theorem dX12_init_121 : decode cX12_init 121 = .ok (.newarray .int, 2) := by decide +kernel
theorem dX12_init_123 : decode cX12_init 123 = .ok (.putfield 57, 3) := by decide +kernel
theorem dX12_init_126 : decode cX12_init 126 = .ok (.aload_n 0, 1) := by decide +kernel
theorem dX12_init_127 : decode cX12_init 127 = .ok (.bipush 32, 2) := by decide +kernel
theorem dX12_init_129 : decode cX12_init 129 = .ok (.newarray .int, 2) := by decide +kernel
theorem dX12_init_131 : decode cX12_init 131 = .ok (.putfield 60, 3) := by decide +kernel
theorem dX12_init_134 : decode cX12_init 134 = .ok (.aload_n 0, 1) := by decide +kernel
theorem dX12_init_135 : decode cX12_init 135 = .ok (.bipush 32, 2) := by decide +kernel
theorem dX12_init_137 : decode cX12_init 137 = .ok (.newarray .int, 2) := by decide +kernel
theorem dX12_init_139 : decode cX12_init 139 = .ok (.putfield 63, 3) := by decide +kernel
theorem dX12_init_142 : decode cX12_init 142 = .ok (.aload_n 0, 1) := by decide +kernel
theorem dX12_init_143 : decode cX12_init 143 = .ok (.bipush 32, 2) := by decide +kernel
theorem dX12_init_145 : decode cX12_init 145 = .ok (.newarray .boolean, 2) := by decide +kernel
theorem dX12_init_147 : decode cX12_init 147 = .ok (.putfield 66, 3) := by decide +kernel
theorem dX12_init_150 : decode cX12_init 150 = .ok (.aload_n 0, 1) := by decide +kernel
theorem dX12_init_151 : decode cX12_init 151 = .ok (.iconst 2, 1) := by decide +kernel
theorem dX12_init_152 : decode cX12_init 152 = .ok (.newarray .boolean, 2) := by decide +kernel
theorem dX12_init_154 : decode cX12_init 154 = .ok (.putfield 69, 3) := by decide +kernel
theorem dX12_init_157 : decode cX12_init 157 = .ok (.aload_n 0, 1) := by decide +kernel
theorem dX12_init_158 : decode cX12_init 158 = .ok (.bipush 16, 2) := by decide +kernel
theorem dX12_init_160 : decode cX12_init 160 = .ok (.newarray .boolean, 2) := by decide +kernel
theorem dX12_init_162 : decode cX12_init 162 = .ok (.putfield 72, 3) := by decide +kernel
theorem dX12_init_165 : decode cX12_init 165 = .ok (.aload_n 0, 1) := by decide +kernel
theorem dX12_init_166 : decode cX12_init 166 = .ok (.bipush 16, 2) := by decide +kernel
theorem dX12_init_168 : decode cX12_init 168 = .ok (.newarray .boolean, 2) := by decide +kernel
theorem dX12_init_170 : decode cX12_init 170 = .ok (.putfield 75, 3) := by decide +kernel
theorem dX12_init_173 : decode cX12_init 173 = .ok (.aload_n 0, 1) := by decide +kernel
theorem dX12_init_174 : decode cX12_init 174 = .ok (.bipush 16, 2) := by decide +kernel
theorem dX12_init_176 : decode cX12_init 176 = .ok (.newarray .boolean, 2) := by decide +kernel
theorem dX12_init_178 : decode cX12_init 178 = .ok (.putfield 78, 3) := by decide +kernel
theorem dX12_init_181 : decode cX12_init 181 = .ok (.aload_n 0, 1) := by decide +kernel
theorem dX12_init_182 : decode cX12_init 182 = .ok (.iconst 4, 1) := by decide +kernel
theorem dX12_init_183 : decode cX12_init 183 = .ok (.newarray .int, 2) := by decide +kernel
theorem dX12_init_185 : decode cX12_init 185 = .ok (.putfield 81, 3) := by decide +kernel
theorem dX12_init_188 : decode cX12_init 188 = .ok (.aload_n 0, 1) := by decide +kernel
theorem dX12_init_189 : decode cX12_init 189 = .ok (.iconst 4, 1) := by decide +kernel
theorem dX12_init_190 : decode cX12_init 190 = .ok (.newarray .int, 2) := by decide +kernel
theorem dX12_init_192 : decode cX12_init 192 = .ok (.putfield 84, 3) := by decide +kernel
theorem dX12_init_195 : decode cX12_init 195 = .ok (.aload_n 0, 1) := by decide +kernel
theorem dX12_init_196 : decode cX12_init 196 = .ok (.bipush 6, 2) := by decide +kernel
theorem dX12_init_198 : decode cX12_init 198 = .ok (.newarray .int, 2) := by decide +kernel
theorem dX12_init_200 : decode cX12_init 200 = .ok (.putfield 87, 3) := by decide +kernel
theorem dX12_init_203 : decode cX12_init 203 = .ok (.aload_n 0, 1) := by decide +kernel
theorem dX12_init_204 : decode cX12_init 204 = .ok (.iconst 2, 1) := by decide +kernel
theorem dX12_init_205 : decode cX12_init 205 = .ok (.newarray .int, 2) := by decide +kernel
theorem dX12_init_207 : decode cX12_init 207 = .ok (.putfield 90, 3) := by decide +kernel
theorem dX12_init_210 : decode cX12_init 210 = .ok (.aload_n 0, 1) := by decide +kernel
theorem dX12_init_211 : decode cX12_init 211 = .ok (.sipush 13122, 3) := by decide +kernel
theorem dX12_init_214 : decode cX12_init 214 = .ok (.newarray .int, 2) := by decide +kernel
theorem dX12_init_216 : decode cX12_init 216 = .ok (.putfield 93, 3) := by decide +kernel
theorem dX12_init_219 : decode cX12_init 219 = .ok (.aload_n 0, 1) := by decide +kernel
theorem dX12_init_220 : decode cX12_init 220 = .ok (.iconst 4, 1) := by decide +kernel
theorem dX12_init_221 : decode cX12_init 221 = .ok (.newarray .int, 2) := by decide +kernel
theorem dX12_init_223 : decode cX12_init 223 = .ok (.putfield 96, 3) := by decide +kernel
theorem dX12_init_226 : decode cX12_init 226 = .ok (.aload_n 0, 1) := by decide +kernel
theorem dX12_init_227 : decode cX12_init 227 = .ok (.bipush 16, 2) := by decide +kernel
theorem dX12_init_229 : decode cX12_init 229 = .ok (.newarray .int, 2) := by decide +kernel
theorem dX12_init_231 : decode cX12_init 231 = .ok (.putfield 99, 3) := by decide +kernel
theorem dX12_init_234 : decode cX12_init 234 = .ok (.aload_n 0, 1) := by decide +kernel
theorem dX12_init_235 : decode cX12_init 235 = .ok (.ldc 102, 2) := by decide +kernel
theorem dX12_init_237 : decode cX12_init 237 = .ok (.newarray .int, 2) := by decide +kernel
theorem dX12_init_239 : decode cX12_init 239 = .ok (.putfield 103, 3) := by decide +kernel
theorem dX12_init_242 : decode cX12_init 242 = .ok (.aload_n 0, 1) := by decide +kernel
theorem dX12_init_243 : decode cX12_init 243 = .ok (.sipush 4101, 3) := by decide +kernel
theorem dX12_init_246 : decode cX12_init 246 = .ok (.newarray .int, 2) := by decide +kernel
theorem dX12_init_248 : decode cX12_init 248 = .ok (.putfield 106, 3) := by decide +kernel
theorem dX12_init_251 : decode cX12_init 251 = .ok (.aload_n 0, 1) := by decide +kernel
theorem dX12_init_252 : decode cX12_init 252 = .ok (.sipush 4101, 3) := by decide +kernel
theorem dX12_init_255 : decode cX12_init 255 = .ok (.newarray .int, 2) := by decide +kernel
theorem dX12_init_257 : decode cX12_init 257 = .ok (.putfield 109, 3) := by decide +kernel
theorem dX12_init_260 : decode cX12_init 260 = .ok (.aload_n 0, 1) := by decide +kernel
theorem dX12_init_261 : decode cX12_init 261 = .ok (.sipush 4101, 3) := by decide +kernel
theorem dX12_init_264 : decode cX12_init 264 = .ok (.newarray .int, 2) := by decide +kernel
theorem dX12_init_266 : decode cX12_init 266 = .ok (.putfield 112, 3) := by decide +kernel
theorem dX12_init_269 : decode cX12_init 269 = .ok (.aload_n 0, 1) := by decide +kernel
theorem dX12_init_270 : decode cX12_init 270 = .ok (.sipush 4101, 3) := by decide +kernel
theorem dX12_init_273 : decode cX12_init 273 = .ok (.newarray .int, 2) := by decide +kernel
theorem dX12_init_275 : decode cX12_init 275 = .ok (.putfield 115, 3) := by decide +kernel
theorem dX12_init_278 : decode cX12_init 278 = .ok (.aload_n 0, 1) := by decide +kernel
theorem dX12_init_279 : decode cX12_init 279 = .ok (.sipush 16384, 3) := by decide +kernel
theorem dX12_init_282 : decode cX12_init 282 = .ok (.newarray .int, 2) := by decide +kernel
theorem dX12_init_284 : decode cX12_init 284 = .ok (.putfield 118, 3) := by decide +kernel
theorem dX12_init_287 : decode cX12_init 287 = .ok (.aload_n 0, 1) := by decide +kernel
theorem dX12_init_288 : decode cX12_init 288 = .ok (.sipush 4101, 3) := by decide +kernel
theorem dX12_init_291 : decode cX12_init 291 = .ok (.newarray .long, 2) := by decide +kernel
theorem dX12_init_293 : decode cX12_init 293 = .ok (.putfield 121, 3) := by decide +kernel
theorem dX12_init_296 : decode cX12_init 296 = .ok (.aload_n 0, 1) := by decide +kernel
theorem dX12_init_297 : decode cX12_init 297 = .ok (.sipush 4101, 3) := by decide +kernel
theorem dX12_init_300 : decode cX12_init 300 = .ok (.newarray .boolean, 2) := by decide +kernel
theorem dX12_init_302 : decode cX12_init 302 = .ok (.putfield 125, 3) := by decide +kernel
theorem dX12_init_305 : decode cX12_init 305 = .ok (.aload_n 0, 1) := by decide +kernel
theorem dX12_init_306 : decode cX12_init 306 = .ok (.bipush 16, 2) := by decide +kernel
theorem dX12_init_308 : decode cX12_init 308 = .ok (.newarray .int, 2) := by decide +kernel
theorem dX12_init_310 : decode cX12_init 310 = .ok (.putfield 128, 3) := by decide +kernel
theorem dX12_init_313 : decode cX12_init 313 = .ok (.aload_n 0, 1) := by decide +kernel
theorem dX12_init_314 : decode cX12_init 314 = .ok (.sipush 4101, 3) := by decide +kernel
theorem dX12_init_317 : decode cX12_init 317 = .ok (.newarray .int, 2) := by decide +kernel
theorem dX12_init_319 : decode cX12_init 319 = .ok (.putfield 131, 3) := by decide +kernel
theorem dX12_init_322 : decode cX12_init 322 = .ok (.aload_n 0, 1) := by decide +kernel
theorem dX12_init_323 : decode cX12_init 323 = .ok (.sipush 4101, 3) := by decide +kernel
theorem dX12_init_326 : decode cX12_init 326 = .ok (.newarray .int, 2) := by decide +kernel
theorem dX12_init_328 : decode cX12_init 328 = .ok (.putfield 134, 3) := by decide +kernel
theorem dX12_init_331 : decode cX12_init 331 = .ok (.aload_n 0, 1) := by decide +kernel
theorem dX12_init_332 : decode cX12_init 332 = .ok (.sipush 1001, 3) := by decide +kernel
theorem dX12_init_335 : decode cX12_init 335 = .ok (.newarray .int, 2) := by decide +kernel
theorem dX12_init_337 : decode cX12_init 337 = .ok (.putfield 137, 3) := by decide +kernel
theorem dX12_init_340 : decode cX12_init 340 = .ok (.aload_n 0, 1) := by decide +kernel
theorem dX12_init_341 : decode cX12_init 341 = .ok (.sipush 1001, 3) := by decide +kernel
theorem dX12_init_344 : decode cX12_init 344 = .ok (.newarray .int, 2) := by decide +kernel
theorem dX12_init_346 : decode cX12_init 346 = .ok (.putfield 140, 3) := by decide +kernel
theorem dX12_init_349 : decode cX12_init 349 = .ok (.aload_n 0, 1) := by decide +kernel
theorem dX12_init_350 : decode cX12_init 350 = .ok (.sipush 1001, 3) := by decide +kernel
theorem dX12_init_353 : decode cX12_init 353 = .ok (.newarray .int, 2) := by decide +kernel
theorem dX12_init_355 : decode cX12_init 355 = .ok (.putfield 143, 3) := by decide +kernel
theorem dX12_init_358 : decode cX12_init 358 = .ok (.aload_n 0, 1) := by decide +kernel
theorem dX12_init_359 : decode cX12_init 359 = .ok (.sipush 8202, 3) := by decide +kernel
theorem dX12_init_362 : decode cX12_init 362 = .ok (.newarray .int, 2) := by decide +kernel
theorem dX12_init_364 : decode cX12_init 364 = .ok (.putfield 146, 3) := by decide +kernel
theorem dX12_init_367 : decode cX12_init 367 = .ok (.aload_n 0, 1) := by decide +kernel
theorem dX12_init_368 : decode cX12_init 368 = .ok (.sipush 720, 3) := by decide +kernel
theorem dX12_init_371 : decode cX12_init 371 = .ok (.newarray .int, 2) := by decide +kernel
theorem dX12_init_373 : decode cX12_init 373 = .ok (.putfield 149, 3) := by decide +kernel
theorem dX12_init_376 : decode cX12_init 376 = .ok (.aload_n 0, 1) := by decide +kernel
theorem dX12_init_377 : decode cX12_init 377 = .ok (.sipush 2880, 3) := by decide +kernel
theorem dX12_init_380 : decode cX12_init 380 = .ok (.newarray .int, 2) := by decide +kernel
theorem dX12_init_382 : decode cX12_init 382 = .ok (.putfield 152, 3) := by decide +kernel
theorem dX12_init_385 : decode cX12_init 385 = .ok (.aload_n 0, 1) := by decide +kernel
theorem dX12_init_386 : decode cX12_init 386 = .ok (.sipush 2880, 3) := by decide +kernel
theorem dX12_init_389 : decode cX12_init 389 = .ok (.newarray .int, 2) := by decide +kernel
theorem dX12_init_391 : decode cX12_init 391 = .ok (.putfield 155, 3) := by decide +kernel
theorem dX12_init_394 : decode cX12_init 394 = .ok (.aload_n 0, 1) := by decide +kernel
theorem dX12_init_395 : decode cX12_init 395 = .ok (.sipush 720, 3) := by decide +kernel
theorem dX12_init_398 : decode cX12_init 398 = .ok (.newarray .int, 2) := by decide +kernel
theorem dX12_init_400 : decode cX12_init 400 = .ok (.putfield 158, 3) := by decide +kernel
theorem dX12_init_403 : decode cX12_init 403 = .ok (.aload_n 0, 1) := by decide +kernel
theorem dX12_init_404 : decode cX12_init 404 = .ok (.sipush 720, 3) := by decide +kernel
theorem dX12_init_407 : decode cX12_init 407 = .ok (.newarray .int, 2) := by decide +kernel
theorem dX12_init_409 : decode cX12_init 409 = .ok (.putfield 161, 3) := by decide +kernel
theorem dX12_init_412 : decode cX12_init 412 = .ok (.aload_n 0, 1) := by decide +kernel
theorem dX12_init_413 : decode cX12_init 413 = .ok (.invokevirtual 164, 3) := by decide +kernel
theorem dX12_init_416 : decode cX12_init 416 = .ok (.return_, 1) := by decide +kernel
theorem dX12_thrown_0 : decode cX12_thrown 0 = .ok (.aload_n 0, 1) := by decide +kernel
theorem dX12_thrown_1 : decode cX12_thrown 1 = .ok (.getfield 167, 3) := by decide +kernel
theorem dX12_thrown_4 : decode cX12_thrown 4 = .ok (.ireturn, 1) := by decide +kernel
theorem dX12_in_0 : decode cX12_in 0 = .ok (.iload_n 0, 1) := by decide +kernel
theorem dX12_in_1 : decode cX12_in 1 = .ok (.iload_n 1, 1) := by decide +kernel
theorem dX12_in_2 : decode cX12_in 2 = .ok (.if_icmp .lt 12, 3) := by decide +kernel
theorem dX12_in_5 : decode cX12_in 5 = .ok (.iload_n 0, 1) := by decide +kernel
theorem dX12_in_6 : decode cX12_in 6 = .ok (.iload_n 2, 1) := by decide +kernel
theorem dX12_in_7 : decode cX12_in 7 = .ok (.if_icmp .gt 7, 3) := by decide +kernel
theorem dX12_in_10 : decode cX12_in 10 = .ok (.iconst 1, 1) := by decide +kernel
theorem dX12_in_11 : decode cX12_in 11 = .ok (.goto 4, 3) := by decide +kernel
theorem dX12_in_14 : decode cX12_in 14 = .ok (.iconst 0, 1) := by decide +kernel
theorem dX12_in_15 : decode cX12_in 15 = .ok (.ireturn, 1) := by decide +kernel
theorem dX12_refuse_0 : decode cX12_refuse 0 = .ok (.aload_n 0, 1) := by decide +kernel
theorem dX12_refuse_1 : decode cX12_refuse 1 = .ok (.iload_n 1, 1) := by decide +kernel
theorem dX12_refuse_2 : decode cX12_refuse 2 = .ok (.putfield 167, 3) := by decide +kernel
theorem dX12_refuse_5 : decode cX12_refuse 5 = .ok (.iconst 0, 1) := by decide +kernel
theorem dX12_refuse_6 : decode cX12_refuse 6 = .ok (.ireturn, 1) := by decide +kernel
theorem dX12_told_0 : decode cX12_told 0 = .ok (.aload_n 0, 1) := by decide +kernel
theorem dX12_told_1 : decode cX12_told 1 = .ok (.iconst 0, 1) := by decide +kernel
theorem dX12_told_2 : decode cX12_told 2 = .ok (.putfield 167, 3) := by decide +kernel
theorem dX12_told_5 : decode cX12_told 5 = .ok (.iload_n 1, 1) := by decide +kernel
theorem dX12_told_6 : decode cX12_told 6 = .ok (.ireturn, 1) := by decide +kernel
theorem dX12_says_0 : decode cX12_says 0 = .ok (.aload_n 0, 1) := by decide +kernel
theorem dX12_says_1 : decode cX12_says 1 = .ok (.iconst 0, 1) := by decide +kernel
theorem dX12_says_2 : decode cX12_says 2 = .ok (.putfield 167, 3) := by decide +kernel
theorem dX12_says_5 : decode cX12_says 5 = .ok (.iload_n 1, 1) := by decide +kernel
theorem dX12_says_6 : decode cX12_says 6 = .ok (.ireturn, 1) := by decide +kernel
theorem dX12_denies_0 : decode cX12_denies 0 = .ok (.aload_n 0, 1) := by decide +kernel
theorem dX12_denies_1 : decode cX12_denies 1 = .ok (.iload_n 1, 1) := by decide +kernel
theorem dX12_denies_2 : decode cX12_denies 2 = .ok (.putfield 167, 3) := by decide +kernel
theorem dX12_denies_5 : decode cX12_denies 5 = .ok (.iconst 0, 1) := by decide +kernel
theorem dX12_denies_6 : decode cX12_denies 6 = .ok (.ireturn, 1) := by decide +kernel
theorem dX12_cellBeside_0 : decode cX12_cellBeside 0 = .ok (.iload_n 1, 1) := by decide +kernel
theorem dX12_cellBeside_1 : decode cX12_cellBeside 1 = .ok (.aload_n 0, 1) := by decide +kernel
theorem dX12_cellBeside_2 : decode cX12_cellBeside 2 = .ok (.getfield 30, 3) := by decide +kernel
theorem dX12_cellBeside_5 : decode cX12_cellBeside 5 = .ok (.idiv, 1) := by decide +kernel
theorem dX12_cellBeside_6 : decode cX12_cellBeside 6 = .ok (.istore_n 3, 1) := by decide +kernel
theorem dX12_cellBeside_7 : decode cX12_cellBeside 7 = .ok (.iload_n 1, 1) := by decide +kernel
theorem dX12_cellBeside_8 : decode cX12_cellBeside 8 = .ok (.aload_n 0, 1) := by decide +kernel
theorem dX12_cellBeside_9 : decode cX12_cellBeside 9 = .ok (.getfield 30, 3) := by decide +kernel
theorem dX12_cellBeside_12 : decode cX12_cellBeside 12 = .ok (.irem, 1) := by decide +kernel
theorem dX12_cellBeside_13 : decode cX12_cellBeside 13 = .ok (.istore 4, 2) := by decide +kernel
theorem dX12_cellBeside_15 : decode cX12_cellBeside 15 = .ok (.iload_n 2, 1) := by decide +kernel
theorem dX12_cellBeside_16 : decode cX12_cellBeside 16 = .ok (.tableswitch 75 0 2 #[28, 43, 56], 28) := by decide +kernel
theorem dX12_cellBeside_44 : decode cX12_cellBeside 44 = .ok (.iload_n 3, 1) := by decide +kernel
theorem dX12_cellBeside_45 : decode cX12_cellBeside 45 = .ok (.ifCond .ne 7, 3) := by decide +kernel
theorem dX12_cellBeside_48 : decode cX12_cellBeside 48 = .ok (.iconst (-1), 1) := by decide +kernel
theorem dX12_cellBeside_49 : decode cX12_cellBeside 49 = .ok (.goto 9, 3) := by decide +kernel
theorem dX12_cellBeside_52 : decode cX12_cellBeside 52 = .ok (.iload_n 1, 1) := by decide +kernel
theorem dX12_cellBeside_53 : decode cX12_cellBeside 53 = .ok (.aload_n 0, 1) := by decide +kernel
theorem dX12_cellBeside_54 : decode cX12_cellBeside 54 = .ok (.getfield 30, 3) := by decide +kernel
theorem dX12_cellBeside_57 : decode cX12_cellBeside 57 = .ok (.isub, 1) := by decide +kernel
theorem dX12_cellBeside_58 : decode cX12_cellBeside 58 = .ok (.ireturn, 1) := by decide +kernel
theorem dX12_cellBeside_59 : decode cX12_cellBeside 59 = .ok (.iload 4, 2) := by decide +kernel
theorem dX12_cellBeside_61 : decode cX12_cellBeside 61 = .ok (.ifCond .ne 7, 3) := by decide +kernel
theorem dX12_cellBeside_64 : decode cX12_cellBeside 64 = .ok (.iconst (-1), 1) := by decide +kernel
theorem dX12_cellBeside_65 : decode cX12_cellBeside 65 = .ok (.goto 6, 3) := by decide +kernel
theorem dX12_cellBeside_68 : decode cX12_cellBeside 68 = .ok (.iload_n 1, 1) := by decide +kernel
theorem dX12_cellBeside_69 : decode cX12_cellBeside 69 = .ok (.iconst 1, 1) := by decide +kernel
theorem dX12_cellBeside_70 : decode cX12_cellBeside 70 = .ok (.isub, 1) := by decide +kernel
theorem dX12_cellBeside_71 : decode cX12_cellBeside 71 = .ok (.ireturn, 1) := by decide +kernel
theorem dX12_cellBeside_72 : decode cX12_cellBeside 72 = .ok (.iload 4, 2) := by decide +kernel
theorem dX12_cellBeside_74 : decode cX12_cellBeside 74 = .ok (.iconst 1, 1) := by decide +kernel
theorem dX12_cellBeside_75 : decode cX12_cellBeside 75 = .ok (.iadd, 1) := by decide +kernel
theorem dX12_cellBeside_76 : decode cX12_cellBeside 76 = .ok (.aload_n 0, 1) := by decide +kernel
theorem dX12_cellBeside_77 : decode cX12_cellBeside 77 = .ok (.getfield 30, 3) := by decide +kernel
theorem dX12_cellBeside_80 : decode cX12_cellBeside 80 = .ok (.if_icmp .ne 7, 3) := by decide +kernel
theorem dX12_cellBeside_83 : decode cX12_cellBeside 83 = .ok (.iconst (-1), 1) := by decide +kernel
theorem dX12_cellBeside_84 : decode cX12_cellBeside 84 = .ok (.goto 6, 3) := by decide +kernel
theorem dX12_cellBeside_87 : decode cX12_cellBeside 87 = .ok (.iload_n 1, 1) := by decide +kernel
theorem dX12_cellBeside_88 : decode cX12_cellBeside 88 = .ok (.iconst 1, 1) := by decide +kernel
theorem dX12_cellBeside_89 : decode cX12_cellBeside 89 = .ok (.iadd, 1) := by decide +kernel
theorem dX12_cellBeside_90 : decode cX12_cellBeside 90 = .ok (.ireturn, 1) := by decide +kernel
theorem dX12_cellBeside_91 : decode cX12_cellBeside 91 = .ok (.iload_n 3, 1) := by decide +kernel
theorem dX12_cellBeside_92 : decode cX12_cellBeside 92 = .ok (.iconst 1, 1) := by decide +kernel
theorem dX12_cellBeside_93 : decode cX12_cellBeside 93 = .ok (.iadd, 1) := by decide +kernel
theorem dX12_cellBeside_94 : decode cX12_cellBeside 94 = .ok (.aload_n 0, 1) := by decide +kernel
theorem dX12_cellBeside_95 : decode cX12_cellBeside 95 = .ok (.getfield 26, 3) := by decide +kernel
theorem dX12_cellBeside_98 : decode cX12_cellBeside 98 = .ok (.if_icmp .ne 7, 3) := by decide +kernel
theorem dX12_cellBeside_101 : decode cX12_cellBeside 101 = .ok (.iconst (-1), 1) := by decide +kernel
theorem dX12_cellBeside_102 : decode cX12_cellBeside 102 = .ok (.goto 9, 3) := by decide +kernel
theorem dX12_cellBeside_105 : decode cX12_cellBeside 105 = .ok (.iload_n 1, 1) := by decide +kernel
theorem dX12_cellBeside_106 : decode cX12_cellBeside 106 = .ok (.aload_n 0, 1) := by decide +kernel
theorem dX12_cellBeside_107 : decode cX12_cellBeside 107 = .ok (.getfield 30, 3) := by decide +kernel
theorem dX12_cellBeside_110 : decode cX12_cellBeside 110 = .ok (.iadd, 1) := by decide +kernel
theorem dX12_cellBeside_111 : decode cX12_cellBeside 111 = .ok (.ireturn, 1) := by decide +kernel
set_option maxRecDepth 20000 in
theorem ggX12_makes_X12_cellBeside : GoodIn wsX12_makes wsX12_cellBeside := goodIn_r _ [24, 3, 2, 31, 32, 33, 34, 35, 36, 37, 38, 39, 40, 41, 42, 43, 44, 45, 46, 47, 48, 49, 50, 51, 52, 53, 54, 55, 56, 57, 58, 59, 60, 61, 62, 63, 64, 65, 66, 67, 68, 69, 70, 71, 72, 73, 74, 75, 76, 77, 78, 79, 80, 81, 82, 83, 84, 85, 86, 87, 88, 89, 90, 91, 92, 93, 94, 95, 96, 97] (by decide +kernel) (by decide +kernel)
set_option maxRecDepth 20000 in
theorem gX12_makes_X12_cellBeside : GoodIn wsX12_makes (wsV RX12 173 RX12 yX12_cellBeside wsX12_cellBeside) := goodIn_app (goodIn_of _ (by decide +kernel)) ggX12_makes_X12_cellBeside
set_option maxRecDepth 20000 in
theorem ggX12_makes_X12_walksFrom : GoodIn wsX12_makes wsX12_walksFrom := goodIn_r _ [28, 1, 29, 30, 7, 31, 32, 33, 34, 35, 36, 37, 38, 39, 40, 41, 42, 43, 44, 45, 46, 47, 48, 49, 50, 51, 52, 53, 54, 55, 56, 57, 58, 59, 60, 61, 62, 63, 64, 65, 66, 67, 68, 69, 70, 71, 72, 73, 74, 75, 76, 77, 78, 79, 80, 81, 82, 83, 84, 85, 86, 87, 88, 89, 90, 91, 92, 93, 94, 95, 96, 97] (by decide +kernel) (by decide +kernel)
set_option maxRecDepth 20000 in
theorem gX12_makes_X12_walksFrom : GoodIn wsX12_makes (wsV RX12 177 RX12 yX12_walksFrom wsX12_walksFrom) := goodIn_app (goodIn_of _ (by decide +kernel)) ggX12_makes_X12_walksFrom
theorem dX12_makes_0 : decode cX12_makes 0 = .ok (.aload_n 0, 1) := by decide +kernel
theorem dX12_makes_1 : decode cX12_makes 1 = .ok (.iconst 0, 1) := by decide +kernel
theorem dX12_makes_2 : decode cX12_makes 2 = .ok (.putfield 170, 3) := by decide +kernel
theorem dX12_makes_5 : decode cX12_makes 5 = .ok (.iconst 0, 1) := by decide +kernel
theorem dX12_makes_6 : decode cX12_makes 6 = .ok (.istore_n 1, 1) := by decide +kernel
theorem dX12_makes_7 : decode cX12_makes 7 = .ok (.iload_n 1, 1) := by decide +kernel
theorem dX12_makes_8 : decode cX12_makes 8 = .ok (.aload_n 0, 1) := by decide +kernel
theorem dX12_makes_9 : decode cX12_makes 9 = .ok (.getfield 26, 3) := by decide +kernel
theorem dX12_makes_12 : decode cX12_makes 12 = .ok (.aload_n 0, 1) := by decide +kernel
theorem dX12_makes_13 : decode cX12_makes 13 = .ok (.getfield 30, 3) := by decide +kernel
theorem dX12_makes_16 : decode cX12_makes 16 = .ok (.imul, 1) := by decide +kernel
theorem dX12_makes_17 : decode cX12_makes 17 = .ok (.if_icmp .ge 61, 3) := by decide +kernel
theorem dX12_makes_20 : decode cX12_makes 20 = .ok (.aload_n 0, 1) := by decide +kernel
theorem dX12_makes_21 : decode cX12_makes 21 = .ok (.getfield 13, 3) := by decide +kernel
theorem dX12_makes_24 : decode cX12_makes 24 = .ok (.iload_n 1, 1) := by decide +kernel
theorem dX12_makes_25 : decode cX12_makes 25 = .ok (.aload_n 0, 1) := by decide +kernel
theorem dX12_makes_26 : decode cX12_makes 26 = .ok (.getfield 22, 3) := by decide +kernel
theorem dX12_makes_29 : decode cX12_makes 29 = .ok (.iload_n 1, 1) := by decide +kernel
theorem dX12_makes_30 : decode cX12_makes 30 = .ok (.baload, 1) := by decide +kernel
theorem dX12_makes_31 : decode cX12_makes 31 = .ok (.ifCond .eq 7, 3) := by decide +kernel
theorem dX12_makes_34 : decode cX12_makes 34 = .ok (.iconst (-1), 1) := by decide +kernel
theorem dX12_makes_35 : decode cX12_makes 35 = .ok (.goto 7, 3) := by decide +kernel
theorem dX12_makes_38 : decode cX12_makes 38 = .ok (.aload_n 0, 1) := by decide +kernel
theorem dX12_makes_39 : decode cX12_makes 39 = .ok (.getfield 170, 3) := by decide +kernel
theorem dX12_makes_42 : decode cX12_makes 42 = .ok (.iastore, 1) := by decide +kernel
theorem dX12_makes_43 : decode cX12_makes 43 = .ok (.aload_n 0, 1) := by decide +kernel
theorem dX12_makes_44 : decode cX12_makes 44 = .ok (.getfield 22, 3) := by decide +kernel
theorem dX12_makes_47 : decode cX12_makes 47 = .ok (.iload_n 1, 1) := by decide +kernel
theorem dX12_makes_48 : decode cX12_makes 48 = .ok (.baload, 1) := by decide +kernel
theorem dX12_makes_49 : decode cX12_makes 49 = .ok (.ifCond .ne 23, 3) := by decide +kernel
theorem dX12_makes_52 : decode cX12_makes 52 = .ok (.aload_n 0, 1) := by decide +kernel
theorem dX12_makes_53 : decode cX12_makes 53 = .ok (.getfield 7, 3) := by decide +kernel
theorem dX12_makes_56 : decode cX12_makes 56 = .ok (.aload_n 0, 1) := by decide +kernel
theorem dX12_makes_57 : decode cX12_makes 57 = .ok (.getfield 170, 3) := by decide +kernel
theorem dX12_makes_60 : decode cX12_makes 60 = .ok (.iload_n 1, 1) := by decide +kernel
theorem dX12_makes_61 : decode cX12_makes 61 = .ok (.iastore, 1) := by decide +kernel
theorem dX12_makes_62 : decode cX12_makes 62 = .ok (.aload_n 0, 1) := by decide +kernel
theorem dX12_makes_63 : decode cX12_makes 63 = .ok (.dup, 1) := by decide +kernel
theorem dX12_makes_64 : decode cX12_makes 64 = .ok (.getfield 170, 3) := by decide +kernel
theorem dX12_makes_67 : decode cX12_makes 67 = .ok (.iconst 1, 1) := by decide +kernel
theorem dX12_makes_68 : decode cX12_makes 68 = .ok (.iadd, 1) := by decide +kernel
theorem dX12_makes_69 : decode cX12_makes 69 = .ok (.putfield 170, 3) := by decide +kernel
theorem dX12_makes_72 : decode cX12_makes 72 = .ok (.iinc 1 1, 3) := by decide +kernel
theorem dX12_makes_75 : decode cX12_makes 75 = .ok (.goto (-68), 3) := by decide +kernel
theorem dX12_makes_78 : decode cX12_makes 78 = .ok (.iconst 0, 1) := by decide +kernel
theorem dX12_makes_79 : decode cX12_makes 79 = .ok (.istore_n 1, 1) := by decide +kernel
theorem dX12_makes_80 : decode cX12_makes 80 = .ok (.iload_n 1, 1) := by decide +kernel
theorem dX12_makes_81 : decode cX12_makes 81 = .ok (.aload_n 0, 1) := by decide +kernel
theorem dX12_makes_82 : decode cX12_makes 82 = .ok (.getfield 170, 3) := by decide +kernel
theorem dX12_makes_85 : decode cX12_makes 85 = .ok (.if_icmp .ge 59, 3) := by decide +kernel
theorem dX12_makes_88 : decode cX12_makes 88 = .ok (.iconst 0, 1) := by decide +kernel
theorem dX12_makes_89 : decode cX12_makes 89 = .ok (.istore_n 2, 1) := by decide +kernel
theorem dX12_makes_90 : decode cX12_makes 90 = .ok (.iload_n 2, 1) := by decide +kernel
theorem dX12_makes_91 : decode cX12_makes 91 = .ok (.iconst 4, 1) := by decide +kernel
theorem dX12_makes_92 : decode cX12_makes 92 = .ok (.if_icmp .ge 46, 3) := by decide +kernel
theorem dX12_makes_95 : decode cX12_makes 95 = .ok (.aload_n 0, 1) := by decide +kernel
theorem dX12_makes_96 : decode cX12_makes 96 = .ok (.aload_n 0, 1) := by decide +kernel
theorem dX12_makes_97 : decode cX12_makes 97 = .ok (.getfield 7, 3) := by decide +kernel
theorem dX12_makes_100 : decode cX12_makes 100 = .ok (.iload_n 1, 1) := by decide +kernel
theorem dX12_makes_101 : decode cX12_makes 101 = .ok (.iaload, 1) := by decide +kernel
theorem dX12_makes_102 : decode cX12_makes 102 = .ok (.iload_n 2, 1) := by decide +kernel
theorem dX12_makes_103 : decode cX12_makes 103 = .ok (.invokevirtual 173, 3) := by decide +kernel
theorem dX12_makes_106 : decode cX12_makes 106 = .ok (.istore_n 3, 1) := by decide +kernel
theorem dX12_makes_107 : decode cX12_makes 107 = .ok (.aload_n 0, 1) := by decide +kernel
theorem dX12_makes_108 : decode cX12_makes 108 = .ok (.getfield 16, 3) := by decide +kernel
theorem dX12_makes_111 : decode cX12_makes 111 = .ok (.iconst 4, 1) := by decide +kernel
theorem dX12_makes_112 : decode cX12_makes 112 = .ok (.iload_n 1, 1) := by decide +kernel
theorem dX12_makes_113 : decode cX12_makes 113 = .ok (.imul, 1) := by decide +kernel
theorem dX12_makes_114 : decode cX12_makes 114 = .ok (.iload_n 2, 1) := by decide +kernel
theorem dX12_makes_115 : decode cX12_makes 115 = .ok (.iadd, 1) := by decide +kernel
theorem dX12_makes_116 : decode cX12_makes 116 = .ok (.iload_n 3, 1) := by decide +kernel
theorem dX12_makes_117 : decode cX12_makes 117 = .ok (.iconst (-1), 1) := by decide +kernel
theorem dX12_makes_118 : decode cX12_makes 118 = .ok (.if_icmp .ne 7, 3) := by decide +kernel
theorem dX12_makes_121 : decode cX12_makes 121 = .ok (.iconst (-1), 1) := by decide +kernel
theorem dX12_makes_122 : decode cX12_makes 122 = .ok (.goto 9, 3) := by decide +kernel
theorem dX12_makes_125 : decode cX12_makes 125 = .ok (.aload_n 0, 1) := by decide +kernel
theorem dX12_makes_126 : decode cX12_makes 126 = .ok (.getfield 13, 3) := by decide +kernel
theorem dX12_makes_129 : decode cX12_makes 129 = .ok (.iload_n 3, 1) := by decide +kernel
theorem dX12_makes_130 : decode cX12_makes 130 = .ok (.iaload, 1) := by decide +kernel
theorem dX12_makes_131 : decode cX12_makes 131 = .ok (.iastore, 1) := by decide +kernel
theorem dX12_makes_132 : decode cX12_makes 132 = .ok (.iinc 2 1, 3) := by decide +kernel
theorem dX12_makes_135 : decode cX12_makes 135 = .ok (.goto (-45), 3) := by decide +kernel
theorem dX12_makes_138 : decode cX12_makes 138 = .ok (.iinc 1 1, 3) := by decide +kernel
theorem dX12_makes_141 : decode cX12_makes 141 = .ok (.goto (-61), 3) := by decide +kernel
theorem dX12_makes_144 : decode cX12_makes 144 = .ok (.iconst 0, 1) := by decide +kernel
theorem dX12_makes_145 : decode cX12_makes 145 = .ok (.istore_n 1, 1) := by decide +kernel
theorem dX12_makes_146 : decode cX12_makes 146 = .ok (.iload_n 1, 1) := by decide +kernel
theorem dX12_makes_147 : decode cX12_makes 147 = .ok (.aload_n 0, 1) := by decide +kernel
theorem dX12_makes_148 : decode cX12_makes 148 = .ok (.getfield 170, 3) := by decide +kernel
theorem dX12_makes_151 : decode cX12_makes 151 = .ok (.if_icmp .ge 14, 3) := by decide +kernel
theorem dX12_makes_154 : decode cX12_makes 154 = .ok (.aload_n 0, 1) := by decide +kernel
theorem dX12_makes_155 : decode cX12_makes 155 = .ok (.iload_n 1, 1) := by decide +kernel
theorem dX12_makes_156 : decode cX12_makes 156 = .ok (.invokevirtual 177, 3) := by decide +kernel
theorem dX12_makes_159 : decode cX12_makes 159 = .ok (.iinc 1 1, 3) := by decide +kernel
theorem dX12_makes_162 : decode cX12_makes 162 = .ok (.goto (-16), 3) := by decide +kernel
theorem dX12_makes_165 : decode cX12_makes 165 = .ok (.iconst 0, 1) := by decide +kernel
theorem dX12_makes_166 : decode cX12_makes 166 = .ok (.istore_n 1, 1) := by decide +kernel
theorem dX12_makes_167 : decode cX12_makes 167 = .ok (.iload_n 1, 1) := by decide +kernel
theorem dX12_makes_168 : decode cX12_makes 168 = .ok (.aload_n 0, 1) := by decide +kernel
theorem dX12_makes_169 : decode cX12_makes 169 = .ok (.getfield 170, 3) := by decide +kernel
theorem dX12_makes_172 : decode cX12_makes 172 = .ok (.if_icmp .ge 55, 3) := by decide +kernel
theorem dX12_makes_175 : decode cX12_makes 175 = .ok (.iload_n 1, 1) := by decide +kernel
theorem dX12_makes_176 : decode cX12_makes 176 = .ok (.iconst 1, 1) := by decide +kernel
theorem dX12_makes_177 : decode cX12_makes 177 = .ok (.iadd, 1) := by decide +kernel
theorem dX12_makes_178 : decode cX12_makes 178 = .ok (.aload_n 0, 1) := by decide +kernel
theorem dX12_makes_179 : decode cX12_makes 179 = .ok (.getfield 170, 3) := by decide +kernel
theorem dX12_makes_182 : decode cX12_makes 182 = .ok (.if_icmp .ge 9, 3) := by decide +kernel
theorem dX12_makes_185 : decode cX12_makes 185 = .ok (.iload_n 1, 1) := by decide +kernel
theorem dX12_makes_186 : decode cX12_makes 186 = .ok (.iconst 1, 1) := by decide +kernel
theorem dX12_makes_187 : decode cX12_makes 187 = .ok (.iadd, 1) := by decide +kernel
theorem dX12_makes_188 : decode cX12_makes 188 = .ok (.goto 4, 3) := by decide +kernel
theorem dX12_makes_191 : decode cX12_makes 191 = .ok (.iconst 0, 1) := by decide +kernel
theorem dX12_makes_192 : decode cX12_makes 192 = .ok (.istore_n 2, 1) := by decide +kernel
theorem dX12_makes_193 : decode cX12_makes 193 = .ok (.aload_n 0, 1) := by decide +kernel
theorem dX12_makes_194 : decode cX12_makes 194 = .ok (.getfield 33, 3) := by decide +kernel
theorem dX12_makes_197 : decode cX12_makes 197 = .ok (.iload_n 1, 1) := by decide +kernel
theorem dX12_makes_198 : decode cX12_makes 198 = .ok (.iload_n 2, 1) := by decide +kernel
theorem dX12_makes_199 : decode cX12_makes 199 = .ok (.iastore, 1) := by decide +kernel
theorem dX12_makes_200 : decode cX12_makes 200 = .ok (.aload_n 0, 1) := by decide +kernel
theorem dX12_makes_201 : decode cX12_makes 201 = .ok (.getfield 36, 3) := by decide +kernel
theorem dX12_makes_204 : decode cX12_makes 204 = .ok (.iload_n 2, 1) := by decide +kernel
theorem dX12_makes_205 : decode cX12_makes 205 = .ok (.iload_n 1, 1) := by decide +kernel
theorem dX12_makes_206 : decode cX12_makes 206 = .ok (.iastore, 1) := by decide +kernel
theorem dX12_makes_207 : decode cX12_makes 207 = .ok (.aload_n 0, 1) := by decide +kernel
theorem dX12_makes_208 : decode cX12_makes 208 = .ok (.getfield 39, 3) := by decide +kernel
theorem dX12_makes_211 : decode cX12_makes 211 = .ok (.iload_n 1, 1) := by decide +kernel
theorem dX12_makes_212 : decode cX12_makes 212 = .ok (.iconst 1, 1) := by decide +kernel
theorem dX12_makes_213 : decode cX12_makes 213 = .ok (.iastore, 1) := by decide +kernel
theorem dX12_makes_214 : decode cX12_makes 214 = .ok (.aload_n 0, 1) := by decide +kernel
theorem dX12_makes_215 : decode cX12_makes 215 = .ok (.getfield 42, 3) := by decide +kernel
theorem dX12_makes_218 : decode cX12_makes 218 = .ok (.iload_n 1, 1) := by decide +kernel
theorem dX12_makes_219 : decode cX12_makes 219 = .ok (.iconst 0, 1) := by decide +kernel
theorem dX12_makes_220 : decode cX12_makes 220 = .ok (.bastore, 1) := by decide +kernel
theorem dX12_makes_221 : decode cX12_makes 221 = .ok (.iinc 1 1, 3) := by decide +kernel
theorem dX12_makes_224 : decode cX12_makes 224 = .ok (.goto (-57), 3) := by decide +kernel
theorem dX12_makes_227 : decode cX12_makes 227 = .ok (.aload_n 0, 1) := by decide +kernel
theorem dX12_makes_228 : decode cX12_makes 228 = .ok (.iconst 0, 1) := by decide +kernel
theorem dX12_makes_229 : decode cX12_makes 229 = .ok (.putfield 181, 3) := by decide +kernel
theorem dX12_makes_232 : decode cX12_makes 232 = .ok (.aload_n 0, 1) := by decide +kernel
theorem dX12_makes_233 : decode cX12_makes 233 = .ok (.iconst 0, 1) := by decide +kernel
theorem dX12_makes_234 : decode cX12_makes 234 = .ok (.putfield 184, 3) := by decide +kernel
theorem dX12_makes_237 : decode cX12_makes 237 = .ok (.iconst 0, 1) := by decide +kernel
theorem dX12_makes_238 : decode cX12_makes 238 = .ok (.istore_n 1, 1) := by decide +kernel
theorem dX12_makes_239 : decode cX12_makes 239 = .ok (.iload_n 1, 1) := by decide +kernel
theorem dX12_makes_240 : decode cX12_makes 240 = .ok (.iconst 4, 1) := by decide +kernel
theorem dX12_makes_241 : decode cX12_makes 241 = .ok (.if_icmp .ge 16, 3) := by decide +kernel
theorem dX12_makes_244 : decode cX12_makes 244 = .ok (.aload_n 0, 1) := by decide +kernel
theorem dX12_makes_245 : decode cX12_makes 245 = .ok (.getfield 51, 3) := by decide +kernel
theorem dX12_makes_248 : decode cX12_makes 248 = .ok (.iload_n 1, 1) := by decide +kernel
theorem dX12_makes_249 : decode cX12_makes 249 = .ok (.iconst 0, 1) := by decide +kernel
theorem dX12_makes_250 : decode cX12_makes 250 = .ok (.iastore, 1) := by decide +kernel
theorem dX12_makes_251 : decode cX12_makes 251 = .ok (.iinc 1 1, 3) := by decide +kernel
theorem dX12_makes_254 : decode cX12_makes 254 = .ok (.goto (-15), 3) := by decide +kernel
theorem dX12_makes_257 : decode cX12_makes 257 = .ok (.aload_n 0, 1) := by decide +kernel
theorem dX12_makes_258 : decode cX12_makes 258 = .ok (.getfield 69, 3) := by decide +kernel
theorem dX12_makes_261 : decode cX12_makes 261 = .ok (.iconst 0, 1) := by decide +kernel
theorem dX12_makes_262 : decode cX12_makes 262 = .ok (.iconst 0, 1) := by decide +kernel
theorem dX12_makes_263 : decode cX12_makes 263 = .ok (.bastore, 1) := by decide +kernel
theorem dX12_makes_264 : decode cX12_makes 264 = .ok (.aload_n 0, 1) := by decide +kernel
theorem dX12_makes_265 : decode cX12_makes 265 = .ok (.getfield 69, 3) := by decide +kernel
theorem dX12_makes_268 : decode cX12_makes 268 = .ok (.iconst 1, 1) := by decide +kernel
theorem dX12_makes_269 : decode cX12_makes 269 = .ok (.iconst 0, 1) := by decide +kernel
theorem dX12_makes_270 : decode cX12_makes 270 = .ok (.bastore, 1) := by decide +kernel
