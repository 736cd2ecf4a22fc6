set_option maxRecDepth 20000 in
theorem ggX0_init_J7_fill_53178 : GoodIn wsX0_init wsJ7_fill_53178 := goodIn_r _ [13] (by decide +kernel) (by decide +kernel)
set_option maxRecDepth 20000 in
theorem gX0_init_J7_fill_53178 : GoodIn wsX0_init (va_wsS RX0 25 yJ7_fill_53178 wsJ7_fill_53178) := goodIn_app (goodIn_of _ (by decide +kernel)) ggX0_init_J7_fill_53178
theorem dX0_init_0 : decode cX0_init 0 = .ok (.aload_n 0, 1) := by decide +kernel
theorem dX0_init_1 : decode cX0_init 1 = .ok (.invokespecial 3, 3) := by decide +kernel
theorem dX0_init_4 : decode cX0_init 4 = .ok (.aload_n 0, 1) := by decide +kernel
theorem dX0_init_5 : decode cX0_init 5 = .ok (.iload_n 1, 1) := by decide +kernel
theorem dX0_init_6 : decode cX0_init 6 = .ok (.newarray .long, 2) := by decide +kernel
theorem dX0_init_8 : decode cX0_init 8 = .ok (.putfield 9, 3) := by decide +kernel
theorem dX0_init_11 : decode cX0_init 11 = .ok (.aload_n 0, 1) := by decide +kernel
theorem dX0_init_12 : decode cX0_init 12 = .ok (.iload_n 1, 1) := by decide +kernel
theorem dX0_init_13 : decode cX0_init 13 = .ok (.newarray .long, 2) := by decide +kernel
theorem dX0_init_15 : decode cX0_init 15 = .ok (.putfield 15, 3) := by decide +kernel
theorem dX0_init_18 : decode cX0_init 18 = .ok (.aload_n 0, 1) := by decide +kernel
theorem dX0_init_19 : decode cX0_init 19 = .ok (.iload_n 1, 1) := by decide +kernel
theorem dX0_init_20 : decode cX0_init 20 = .ok (.newarray .int, 2) := by decide +kernel
theorem dX0_init_22 : decode cX0_init 22 = .ok (.putfield 18, 3) := by decide +kernel
theorem dX0_init_25 : decode cX0_init 25 = .ok (.aload_n 0, 1) := by decide +kernel
theorem dX0_init_26 : decode cX0_init 26 = .ok (.iload_n 1, 1) := by decide +kernel
theorem dX0_init_27 : decode cX0_init 27 = .ok (.newarray .int, 2) := by decide +kernel
theorem dX0_init_29 : decode cX0_init 29 = .ok (.putfield 22, 3) := by decide +kernel
theorem dX0_init_32 : decode cX0_init 32 = .ok (.aload_n 0, 1) := by decide +kernel
theorem dX0_init_33 : decode cX0_init 33 = .ok (.getfield 22, 3) := by decide +kernel
theorem dX0_init_36 : decode cX0_init 36 = .ok (.iconst (-1), 1) := by decide +kernel
theorem dX0_init_37 : decode cX0_init 37 = .ok (.invokestatic 25, 3) := by decide +kernel
theorem dX0_init_40 : decode cX0_init 40 = .ok (.return_, 1) := by decide +kernel
theorem dX0_clear_0 : decode cX0_clear 0 = .ok (.iconst 0, 1) := by decide +kernel
theorem dX0_clear_1 : decode cX0_clear 1 = .ok (.istore_n 1, 1) := by decide +kernel
theorem dX0_clear_2 : decode cX0_clear 2 = .ok (.iload_n 1, 1) := by decide +kernel
theorem dX0_clear_3 : decode cX0_clear 3 = .ok (.aload_n 0, 1) := by decide +kernel
theorem dX0_clear_4 : decode cX0_clear 4 = .ok (.getfield 31, 3) := by decide +kernel
theorem dX0_clear_7 : decode cX0_clear 7 = .ok (.if_icmp .ge 21, 3) := by decide +kernel
theorem dX0_clear_10 : decode cX0_clear 10 = .ok (.aload_n 0, 1) := by decide +kernel
theorem dX0_clear_11 : decode cX0_clear 11 = .ok (.getfield 22, 3) := by decide +kernel
theorem dX0_clear_14 : decode cX0_clear 14 = .ok (.aload_n 0, 1) := by decide +kernel
theorem dX0_clear_15 : decode cX0_clear 15 = .ok (.getfield 18, 3) := by decide +kernel
theorem dX0_clear_18 : decode cX0_clear 18 = .ok (.iload_n 1, 1) := by decide +kernel
theorem dX0_clear_19 : decode cX0_clear 19 = .ok (.iaload, 1) := by decide +kernel
theorem dX0_clear_20 : decode cX0_clear 20 = .ok (.iconst (-1), 1) := by decide +kernel
theorem dX0_clear_21 : decode cX0_clear 21 = .ok (.iastore, 1) := by decide +kernel
theorem dX0_clear_22 : decode cX0_clear 22 = .ok (.iinc 1 1, 3) := by decide +kernel
theorem dX0_clear_25 : decode cX0_clear 25 = .ok (.goto (-23), 3) := by decide +kernel
theorem dX0_clear_28 : decode cX0_clear 28 = .ok (.aload_n 0, 1) := by decide +kernel
theorem dX0_clear_29 : decode cX0_clear 29 = .ok (.iconst 0, 1) := by decide +kernel
theorem dX0_clear_30 : decode cX0_clear 30 = .ok (.putfield 31, 3) := by decide +kernel
theorem dX0_clear_33 : decode cX0_clear 33 = .ok (.return_, 1) := by decide +kernel
set_option maxRecDepth 20000 in
theorem ggX0_put_X0_isBefore : GoodIn wsX0_put wsX0_isBefore := goodIn_r _ [10, 1, 2, 15, 16, 17, 18, 19] (by decide +kernel) (by decide +kernel)
set_option maxRecDepth 20000 in
theorem gX0_put_X0_isBefore : GoodIn wsX0_put (wsV RX0 35 RX0 yX0_isBefore wsX0_isBefore) := goodIn_app (goodIn_of _ (by decide +kernel)) ggX0_put_X0_isBefore
set_option maxRecDepth 20000 in
theorem ggX0_put_X0_place : GoodIn wsX0_put wsX0_place := goodIn_r _ [14, 5, 3, 15, 16, 17, 18, 19] (by decide +kernel) (by decide +kernel)
set_option maxRecDepth 20000 in
theorem gX0_put_X0_place : GoodIn wsX0_put (wsV RX0 39 RX0 yX0_place wsX0_place) := goodIn_app (goodIn_of _ (by decide +kernel)) ggX0_put_X0_place
theorem dX0_put_0 : decode cX0_put 0 = .ok (.aload_n 0, 1) := by decide +kernel
theorem dX0_put_1 : decode cX0_put 1 = .ok (.getfield 9, 3) := by decide +kernel
theorem dX0_put_4 : decode cX0_put 4 = .ok (.iload_n 1, 1) := by decide +kernel
theorem dX0_put_5 : decode cX0_put 5 = .ok (.lload_n 2, 1) := by decide +kernel
theorem dX0_put_6 : decode cX0_put 6 = .ok (.lastore, 1) := by decide +kernel
theorem dX0_put_7 : decode cX0_put 7 = .ok (.aload_n 0, 1) := by decide +kernel
theorem dX0_put_8 : decode cX0_put 8 = .ok (.getfield 15, 3) := by decide +kernel
theorem dX0_put_11 : decode cX0_put 11 = .ok (.iload_n 1, 1) := by decide +kernel
theorem dX0_put_12 : decode cX0_put 12 = .ok (.lload 4, 2) := by decide +kernel
theorem dX0_put_14 : decode cX0_put 14 = .ok (.lastore, 1) := by decide +kernel
theorem dX0_put_15 : decode cX0_put 15 = .ok (.aload_n 0, 1) := by decide +kernel
theorem dX0_put_16 : decode cX0_put 16 = .ok (.getfield 22, 3) := by decide +kernel
theorem dX0_put_19 : decode cX0_put 19 = .ok (.iload_n 1, 1) := by decide +kernel
theorem dX0_put_20 : decode cX0_put 20 = .ok (.iaload, 1) := by decide +kernel
theorem dX0_put_21 : decode cX0_put 21 = .ok (.istore 6, 2) := by decide +kernel
theorem dX0_put_23 : decode cX0_put 23 = .ok (.iload 6, 2) := by decide +kernel
theorem dX0_put_25 : decode cX0_put 25 = .ok (.iconst (-1), 1) := by decide +kernel
theorem dX0_put_26 : decode cX0_put 26 = .ok (.if_icmp .ne 19, 3) := by decide +kernel
theorem dX0_put_29 : decode cX0_put 29 = .ok (.aload_n 0, 1) := by decide +kernel
theorem dX0_put_30 : decode cX0_put 30 = .ok (.getfield 31, 3) := by decide +kernel
theorem dX0_put_33 : decode cX0_put 33 = .ok (.istore 6, 2) := by decide +kernel
theorem dX0_put_35 : decode cX0_put 35 = .ok (.aload_n 0, 1) := by decide +kernel
theorem dX0_put_36 : decode cX0_put 36 = .ok (.dup, 1) := by decide +kernel
theorem dX0_put_37 : decode cX0_put 37 = .ok (.getfield 31, 3) := by decide +kernel
theorem dX0_put_40 : decode cX0_put 40 = .ok (.iconst 1, 1) := by decide +kernel
theorem dX0_put_41 : decode cX0_put 41 = .ok (.iadd, 1) := by decide +kernel
theorem dX0_put_42 : decode cX0_put 42 = .ok (.putfield 31, 3) := by decide +kernel
theorem dX0_put_45 : decode cX0_put 45 = .ok (.iload 6, 2) := by decide +kernel
theorem dX0_put_47 : decode cX0_put 47 = .ok (.ifCond .le 50, 3) := by decide +kernel
theorem dX0_put_50 : decode cX0_put 50 = .ok (.aload_n 0, 1) := by decide +kernel
theorem dX0_put_51 : decode cX0_put 51 = .ok (.iload_n 1, 1) := by decide +kernel
theorem dX0_put_52 : decode cX0_put 52 = .ok (.aload_n 0, 1) := by decide +kernel
theorem dX0_put_53 : decode cX0_put 53 = .ok (.getfield 18, 3) := by decide +kernel
theorem dX0_put_56 : decode cX0_put 56 = .ok (.iload 6, 2) := by decide +kernel
theorem dX0_put_58 : decode cX0_put 58 = .ok (.iconst 1, 1) := by decide +kernel
theorem dX0_put_59 : decode cX0_put 59 = .ok (.isub, 1) := by decide +kernel
theorem dX0_put_60 : decode cX0_put 60 = .ok (.iconst 2, 1) := by decide +kernel
theorem dX0_put_61 : decode cX0_put 61 = .ok (.idiv, 1) := by decide +kernel
theorem dX0_put_62 : decode cX0_put 62 = .ok (.iaload, 1) := by decide +kernel
theorem dX0_put_63 : decode cX0_put 63 = .ok (.invokevirtual 35, 3) := by decide +kernel
theorem dX0_put_66 : decode cX0_put 66 = .ok (.ifCond .eq 31, 3) := by decide +kernel
theorem dX0_put_69 : decode cX0_put 69 = .ok (.aload_n 0, 1) := by decide +kernel
theorem dX0_put_70 : decode cX0_put 70 = .ok (.aload_n 0, 1) := by decide +kernel
theorem dX0_put_71 : decode cX0_put 71 = .ok (.getfield 18, 3) := by decide +kernel
theorem dX0_put_74 : decode cX0_put 74 = .ok (.iload 6, 2) := by decide +kernel
theorem dX0_put_76 : decode cX0_put 76 = .ok (.iconst 1, 1) := by decide +kernel
theorem dX0_put_77 : decode cX0_put 77 = .ok (.isub, 1) := by decide +kernel
theorem dX0_put_78 : decode cX0_put 78 = .ok (.iconst 2, 1) := by decide +kernel
theorem dX0_put_79 : decode cX0_put 79 = .ok (.idiv, 1) := by decide +kernel
theorem dX0_put_80 : decode cX0_put 80 = .ok (.iaload, 1) := by decide +kernel
theorem dX0_put_81 : decode cX0_put 81 = .ok (.iload 6, 2) := by decide +kernel
theorem dX0_put_83 : decode cX0_put 83 = .ok (.invokevirtual 39, 3) := by decide +kernel
theorem dX0_put_86 : decode cX0_put 86 = .ok (.iload 6, 2) := by decide +kernel
theorem dX0_put_88 : decode cX0_put 88 = .ok (.iconst 1, 1) := by decide +kernel
theorem dX0_put_89 : decode cX0_put 89 = .ok (.isub, 1) := by decide +kernel
theorem dX0_put_90 : decode cX0_put 90 = .ok (.iconst 2, 1) := by decide +kernel
theorem dX0_put_91 : decode cX0_put 91 = .ok (.idiv, 1) := by decide +kernel
theorem dX0_put_92 : decode cX0_put 92 = .ok (.istore 6, 2) := by decide +kernel
theorem dX0_put_94 : decode cX0_put 94 = .ok (.goto (-49), 3) := by decide +kernel
theorem dX0_put_97 : decode cX0_put 97 = .ok (.aload_n 0, 1) := by decide +kernel
theorem dX0_put_98 : decode cX0_put 98 = .ok (.iload_n 1, 1) := by decide +kernel
theorem dX0_put_99 : decode cX0_put 99 = .ok (.iload 6, 2) := by decide +kernel
theorem dX0_put_101 : decode cX0_put 101 = .ok (.invokevirtual 39, 3) := by decide +kernel
theorem dX0_put_104 : decode cX0_put 104 = .ok (.return_, 1) := by decide +kernel
set_option maxRecDepth 20000 in
theorem ggX0_take_X0_sink : GoodIn wsX0_take wsX0_sink := goodIn_r _ [8, 1, 2, 9, 10, 11, 7, 12, 13, 14, 15, 16, 17, 18, 3, 19, 20, 21, 22, 23] (by decide +kernel) (by decide +kernel)
set_option maxRecDepth 20000 in
theorem gX0_take_X0_sink : GoodIn wsX0_take (wsV RX0 43 RX0 yX0_sink wsX0_sink) := goodIn_app (goodIn_of _ (by decide +kernel)) ggX0_take_X0_sink
theorem dX0_take_0 : decode cX0_take 0 = .ok (.aload_n 0, 1) := by decide +kernel
theorem dX0_take_1 : decode cX0_take 1 = .ok (.getfield 31, 3) := by decide +kernel
theorem dX0_take_4 : decode cX0_take 4 = .ok (.ifCond .ne 5, 3) := by decide +kernel
theorem dX0_take_7 : decode cX0_take 7 = .ok (.iconst (-1), 1) := by decide +kernel
theorem dX0_take_8 : decode cX0_take 8 = .ok (.ireturn, 1) := by decide +kernel
theorem dX0_take_9 : decode cX0_take 9 = .ok (.aload_n 0, 1) := by decide +kernel
theorem dX0_take_10 : decode cX0_take 10 = .ok (.getfield 18, 3) := by decide +kernel
theorem dX0_take_13 : decode cX0_take 13 = .ok (.iconst 0, 1) := by decide +kernel
theorem dX0_take_14 : decode cX0_take 14 = .ok (.iaload, 1) := by decide +kernel
theorem dX0_take_15 : decode cX0_take 15 = .ok (.istore_n 1, 1) := by decide +kernel
theorem dX0_take_16 : decode cX0_take 16 = .ok (.aload_n 0, 1) := by decide +kernel
theorem dX0_take_17 : decode cX0_take 17 = .ok (.getfield 22, 3) := by decide +kernel
theorem dX0_take_20 : decode cX0_take 20 = .ok (.iload_n 1, 1) := by decide +kernel
theorem dX0_take_21 : decode cX0_take 21 = .ok (.iconst (-1), 1) := by decide +kernel
theorem dX0_take_22 : decode cX0_take 22 = .ok (.iastore, 1) := by decide +kernel
theorem dX0_take_23 : decode cX0_take 23 = .ok (.aload_n 0, 1) := by decide +kernel
theorem dX0_take_24 : decode cX0_take 24 = .ok (.dup, 1) := by decide +kernel
theorem dX0_take_25 : decode cX0_take 25 = .ok (.getfield 31, 3) := by decide +kernel
theorem dX0_take_28 : decode cX0_take 28 = .ok (.iconst 1, 1) := by decide +kernel
theorem dX0_take_29 : decode cX0_take 29 = .ok (.isub, 1) := by decide +kernel
theorem dX0_take_30 : decode cX0_take 30 = .ok (.putfield 31, 3) := by decide +kernel
theorem dX0_take_33 : decode cX0_take 33 = .ok (.aload_n 0, 1) := by decide +kernel
theorem dX0_take_34 : decode cX0_take 34 = .ok (.getfield 31, 3) := by decide +kernel
theorem dX0_take_37 : decode cX0_take 37 = .ok (.ifCond .le 16, 3) := by decide +kernel
theorem dX0_take_40 : decode cX0_take 40 = .ok (.aload_n 0, 1) := by decide +kernel
theorem dX0_take_41 : decode cX0_take 41 = .ok (.aload_n 0, 1) := by decide +kernel
theorem dX0_take_42 : decode cX0_take 42 = .ok (.getfield 18, 3) := by decide +kernel
theorem dX0_take_45 : decode cX0_take 45 = .ok (.aload_n 0, 1) := by decide +kernel
theorem dX0_take_46 : decode cX0_take 46 = .ok (.getfield 31, 3) := by decide +kernel
theorem dX0_take_49 : decode cX0_take 49 = .ok (.iaload, 1) := by decide +kernel
theorem dX0_take_50 : decode cX0_take 50 = .ok (.invokevirtual 43, 3) := by decide +kernel
theorem dX0_take_53 : decode cX0_take 53 = .ok (.iload_n 1, 1) := by decide +kernel
theorem dX0_take_54 : decode cX0_take 54 = .ok (.ireturn, 1) := by decide +kernel
theorem dX0_isBefore_0 : decode cX0_isBefore 0 = .ok (.aload_n 0, 1) := by decide +kernel
theorem dX0_isBefore_1 : decode cX0_isBefore 1 = .ok (.getfield 9, 3) := by decide +kernel
theorem dX0_isBefore_4 : decode cX0_isBefore 4 = .ok (.iload_n 1, 1) := by decide +kernel
theorem dX0_isBefore_5 : decode cX0_isBefore 5 = .ok (.laload, 1) := by decide +kernel
theorem dX0_isBefore_6 : decode cX0_isBefore 6 = .ok (.aload_n 0, 1) := by decide +kernel
theorem dX0_isBefore_7 : decode cX0_isBefore 7 = .ok (.getfield 9, 3) := by decide +kernel
theorem dX0_isBefore_10 : decode cX0_isBefore 10 = .ok (.iload_n 2, 1) := by decide +kernel
theorem dX0_isBefore_11 : decode cX0_isBefore 11 = .ok (.laload, 1) := by decide +kernel
theorem dX0_isBefore_12 : decode cX0_isBefore 12 = .ok (.lcmp, 1) := by decide +kernel
theorem dX0_isBefore_13 : decode cX0_isBefore 13 = .ok (.ifCond .eq 25, 3) := by decide +kernel
theorem dX0_isBefore_16 : decode cX0_isBefore 16 = .ok (.aload_n 0, 1) := by decide +kernel
theorem dX0_isBefore_17 : decode cX0_isBefore 17 = .ok (.getfield 9, 3) := by decide +kernel
theorem dX0_isBefore_20 : decode cX0_isBefore 20 = .ok (.iload_n 1, 1) := by decide +kernel
theorem dX0_isBefore_21 : decode cX0_isBefore 21 = .ok (.laload, 1) := by decide +kernel
theorem dX0_isBefore_22 : decode cX0_isBefore 22 = .ok (.aload_n 0, 1) := by decide +kernel
theorem dX0_isBefore_23 : decode cX0_isBefore 23 = .ok (.getfield 9, 3) := by decide +kernel
theorem dX0_isBefore_26 : decode cX0_isBefore 26 = .ok (.iload_n 2, 1) := by decide +kernel
theorem dX0_isBefore_27 : decode cX0_isBefore 27 = .ok (.laload, 1) := by decide +kernel
theorem dX0_isBefore_28 : decode cX0_isBefore 28 = .ok (.lcmp, 1) := by decide +kernel
theorem dX0_isBefore_29 : decode cX0_isBefore 29 = .ok (.ifCond .ge 7, 3) := by decide +kernel
theorem dX0_isBefore_32 : decode cX0_isBefore 32 = .ok (.iconst 1, 1) := by decide +kernel
theorem dX0_isBefore_33 : decode cX0_isBefore 33 = .ok (.goto 4, 3) := by decide +kernel
theorem dX0_isBefore_36 : decode cX0_isBefore 36 = .ok (.iconst 0, 1) := by decide +kernel
theorem dX0_isBefore_37 : decode cX0_isBefore 37 = .ok (.ireturn, 1) := by decide +kernel
theorem dX0_isBefore_38 : decode cX0_isBefore 38 = .ok (.aload_n 0, 1) := by decide +kernel
theorem dX0_isBefore_39 : decode cX0_isBefore 39 = .ok (.getfield 15, 3) := by decide +kernel
theorem dX0_isBefore_42 : decode cX0_isBefore 42 = .ok (.iload_n 1, 1) := by decide +kernel
theorem dX0_isBefore_43 : decode cX0_isBefore 43 = .ok (.laload, 1) := by decide +kernel
theorem dX0_isBefore_44 : decode cX0_isBefore 44 = .ok (.aload_n 0, 1) := by decide +kernel
theorem dX0_isBefore_45 : decode cX0_isBefore 45 = .ok (.getfield 15, 3) := by decide +kernel
theorem dX0_isBefore_48 : decode cX0_isBefore 48 = .ok (.iload_n 2, 1) := by decide +kernel
theorem dX0_isBefore_49 : decode cX0_isBefore 49 = .ok (.laload, 1) := by decide +kernel
theorem dX0_isBefore_50 : decode cX0_isBefore 50 = .ok (.lcmp, 1) := by decide +kernel
theorem dX0_isBefore_51 : decode cX0_isBefore 51 = .ok (.ifCond .ge 7, 3) := by decide +kernel
theorem dX0_isBefore_54 : decode cX0_isBefore 54 = .ok (.iconst 1, 1) := by decide +kernel
theorem dX0_isBefore_55 : decode cX0_isBefore 55 = .ok (.goto 4, 3) := by decide +kernel
theorem dX0_isBefore_58 : decode cX0_isBefore 58 = .ok (.iconst 0, 1) := by decide +kernel
theorem dX0_isBefore_59 : decode cX0_isBefore 59 = .ok (.ireturn, 1) := by decide +kernel
theorem dX0_place_0 : decode cX0_place 0 = .ok (.aload_n 0, 1) := by decide +kernel
theorem dX0_place_1 : decode cX0_place 1 = .ok (.getfield 18, 3) := by decide +kernel
theorem dX0_place_4 : decode cX0_place 4 = .ok (.iload_n 2, 1) := by decide +kernel
theorem dX0_place_5 : decode cX0_place 5 = .ok (.iload_n 1, 1) := by decide +kernel
theorem dX0_place_6 : decode cX0_place 6 = .ok (.iastore, 1) := by decide +kernel
theorem dX0_place_7 : decode cX0_place 7 = .ok (.aload_n 0, 1) := by decide +kernel
theorem dX0_place_8 : decode cX0_place 8 = .ok (.getfield 22, 3) := by decide +kernel
theorem dX0_place_11 : decode cX0_place 11 = .ok (.iload_n 1, 1) := by decide +kernel
theorem dX0_place_12 : decode cX0_place 12 = .ok (.iload_n 2, 1) := by decide +kernel
theorem dX0_place_13 : decode cX0_place 13 = .ok (.iastore, 1) := by decide +kernel
theorem dX0_place_14 : decode cX0_place 14 = .ok (.return_, 1) := by decide +kernel
set_option maxRecDepth 20000 in
theorem ggX0_sink_X0_isBefore : GoodIn wsX0_sink wsX0_isBefore := goodIn_r _ [7, 8, 9, 15, 16, 17, 18, 19] (by decide +kernel) (by decide +kernel)
set_option maxRecDepth 20000 in
theorem gX0_sink_X0_isBefore : GoodIn wsX0_sink (wsV RX0 35 RX0 yX0_isBefore wsX0_isBefore) := goodIn_app (goodIn_of _ (by decide +kernel)) ggX0_sink_X0_isBefore
set_option maxRecDepth 20000 in
theorem ggX0_sink_X0_place : GoodIn wsX0_sink wsX0_place := goodIn_r _ [13, 2, 14, 15, 16, 17, 18, 19] (by decide +kernel) (by decide +kernel)
set_option maxRecDepth 20000 in
theorem gX0_sink_X0_place : GoodIn wsX0_sink (wsV RX0 39 RX0 yX0_place wsX0_place) := goodIn_app (goodIn_of _ (by decide +kernel)) ggX0_sink_X0_place
theorem dX0_sink_0 : decode cX0_sink 0 = .ok (.iconst 0, 1) := by decide +kernel
theorem dX0_sink_1 : decode cX0_sink 1 = .ok (.istore_n 2, 1) := by decide +kernel
theorem dX0_sink_2 : decode cX0_sink 2 = .ok (.iconst 1, 1) := by decide +kernel
theorem dX0_sink_3 : decode cX0_sink 3 = .ok (.istore_n 3, 1) := by decide +kernel
theorem dX0_sink_4 : decode cX0_sink 4 = .ok (.iload_n 3, 1) := by decide +kernel
theorem dX0_sink_5 : decode cX0_sink 5 = .ok (.aload_n 0, 1) := by decide +kernel
theorem dX0_sink_6 : decode cX0_sink 6 = .ok (.getfield 31, 3) := by decide +kernel
theorem dX0_sink_9 : decode cX0_sink 9 = .ok (.if_icmp .ge 76, 3) := by decide +kernel
theorem dX0_sink_12 : decode cX0_sink 12 = .ok (.iload_n 3, 1) := by decide +kernel
theorem dX0_sink_13 : decode cX0_sink 13 = .ok (.iconst 1, 1) := by decide +kernel
theorem dX0_sink_14 : decode cX0_sink 14 = .ok (.iadd, 1) := by decide +kernel
theorem dX0_sink_15 : decode cX0_sink 15 = .ok (.aload_n 0, 1) := by decide +kernel
theorem dX0_sink_16 : decode cX0_sink 16 = .ok (.getfield 31, 3) := by decide +kernel
theorem dX0_sink_19 : decode cX0_sink 19 = .ok (.if_icmp .ge 27, 3) := by decide +kernel
theorem dX0_sink_22 : decode cX0_sink 22 = .ok (.aload_n 0, 1) := by decide +kernel
theorem dX0_sink_23 : decode cX0_sink 23 = .ok (.aload_n 0, 1) := by decide +kernel
theorem dX0_sink_24 : decode cX0_sink 24 = .ok (.getfield 18, 3) := by decide +kernel
theorem dX0_sink_27 : decode cX0_sink 27 = .ok (.iload_n 3, 1) := by decide +kernel
theorem dX0_sink_28 : decode cX0_sink 28 = .ok (.iconst 1, 1) := by decide +kernel
theorem dX0_sink_29 : decode cX0_sink 29 = .ok (.iadd, 1) := by decide +kernel
theorem dX0_sink_30 : decode cX0_sink 30 = .ok (.iaload, 1) := by decide +kernel
theorem dX0_sink_31 : decode cX0_sink 31 = .ok (.aload_n 0, 1) := by decide +kernel
theorem dX0_sink_32 : decode cX0_sink 32 = .ok (.getfield 18, 3) := by decide +kernel
theorem dX0_sink_35 : decode cX0_sink 35 = .ok (.iload_n 3, 1) := by decide +kernel
theorem dX0_sink_36 : decode cX0_sink 36 = .ok (.iaload, 1) := by decide +kernel
theorem dX0_sink_37 : decode cX0_sink 37 = .ok (.invokevirtual 35, 3) := by decide +kernel
theorem dX0_sink_40 : decode cX0_sink 40 = .ok (.ifCond .eq 6, 3) := by decide +kernel
theorem dX0_sink_43 : decode cX0_sink 43 = .ok (.iinc 3 1, 3) := by decide +kernel
theorem dX0_sink_46 : decode cX0_sink 46 = .ok (.aload_n 0, 1) := by decide +kernel
theorem dX0_sink_47 : decode cX0_sink 47 = .ok (.aload_n 0, 1) := by decide +kernel
theorem dX0_sink_48 : decode cX0_sink 48 = .ok (.getfield 18, 3) := by decide +kernel
theorem dX0_sink_51 : decode cX0_sink 51 = .ok (.iload_n 3, 1) := by decide +kernel
theorem dX0_sink_52 : decode cX0_sink 52 = .ok (.iaload, 1) := by decide +kernel
theorem dX0_sink_53 : decode cX0_sink 53 = .ok (.iload_n 1, 1) := by decide +kernel
theorem dX0_sink_54 : decode cX0_sink 54 = .ok (.invokevirtual 35, 3) := by decide +kernel
theorem dX0_sink_57 : decode cX0_sink 57 = .ok (.ifCond .ne 6, 3) := by decide +kernel
theorem dX0_sink_60 : decode cX0_sink 60 = .ok (.goto 25, 3) := by decide +kernel
theorem dX0_sink_63 : decode cX0_sink 63 = .ok (.aload_n 0, 1) := by decide +kernel
theorem dX0_sink_64 : decode cX0_sink 64 = .ok (.aload_n 0, 1) := by decide +kernel
theorem dX0_sink_65 : decode cX0_sink 65 = .ok (.getfield 18, 3) := by decide +kernel
theorem dX0_sink_68 : decode cX0_sink 68 = .ok (.iload_n 3, 1) := by decide +kernel
theorem dX0_sink_69 : decode cX0_sink 69 = .ok (.iaload, 1) := by decide +kernel
theorem dX0_sink_70 : decode cX0_sink 70 = .ok (.iload_n 2, 1) := by decide +kernel
theorem dX0_sink_71 : decode cX0_sink 71 = .ok (.invokevirtual 39, 3) := by decide +kernel
theorem dX0_sink_74 : decode cX0_sink 74 = .ok (.iload_n 3, 1) := by decide +kernel
theorem dX0_sink_75 : decode cX0_sink 75 = .ok (.istore_n 2, 1) := by decide +kernel
theorem dX0_sink_76 : decode cX0_sink 76 = .ok (.iconst 2, 1) := by decide +kernel
theorem dX0_sink_77 : decode cX0_sink 77 = .ok (.iload_n 2, 1) := by decide +kernel
theorem dX0_sink_78 : decode cX0_sink 78 = .ok (.imul, 1) := by decide +kernel
theorem dX0_sink_79 : decode cX0_sink 79 = .ok (.iconst 1, 1) := by decide +kernel
theorem dX0_sink_80 : decode cX0_sink 80 = .ok (.iadd, 1) := by decide +kernel
theorem dX0_sink_81 : decode cX0_sink 81 = .ok (.istore_n 3, 1) := by decide +kernel
theorem dX0_sink_82 : decode cX0_sink 82 = .ok (.goto (-78), 3) := by decide +kernel
theorem dX0_sink_85 : decode cX0_sink 85 = .ok (.aload_n 0, 1) := by decide +kernel
theorem dX0_sink_86 : decode cX0_sink 86 = .ok (.iload_n 1, 1) := by decide +kernel
theorem dX0_sink_87 : decode cX0_sink 87 = .ok (.iload_n 2, 1) := by decide +kernel
theorem dX0_sink_88 : decode cX0_sink 88 = .ok (.invokevirtual 39, 3) := by decide +kernel
theorem dX0_sink_91 : decode cX0_sink 91 = .ok (.return_, 1) := by decide +kernel
theorem dX1_init_0 : decode cX1_init 0 = .ok (.aload_n 0, 1) := by decide +kernel
theorem dX1_init_1 : decode cX1_init 1 = .ok (.invokespecial 3, 3) := by decide +kernel
theorem dX1_init_4 : decode cX1_init 4 = .ok (.aload_n 0, 1) := by decide +kernel
theorem dX1_init_5 : decode cX1_init 5 = .ok (.bipush 16, 2) := by decide +kernel
theorem dX1_init_7 : decode cX1_init 7 = .ok (.newarray .int, 2) := by decide +kernel
theorem dX1_init_9 : decode cX1_init 9 = .ok (.putfield 9, 3) := by decide +kernel
theorem dX1_init_12 : decode cX1_init 12 = .ok (.aload_n 0, 1) := by decide +kernel
theorem dX1_init_13 : decode cX1_init 13 = .ok (.bipush 16, 2) := by decide +kernel
theorem dX1_init_15 : decode cX1_init 15 = .ok (.newarray .int, 2) := by decide +kernel
theorem dX1_init_17 : decode cX1_init 17 = .ok (.putfield 15, 3) := by decide +kernel
theorem dX1_init_20 : decode cX1_init 20 = .ok (.return_, 1) := by decide +kernel
set_option maxRecDepth 20000 in
theorem ggX1_order_X1_aimAt : GoodIn wsX1_order wsX1_aimAt := goodIn_r _ [7, 8, 9, 10, 11, 12, 13, 14, 15, 24, 25, 26, 27, 20, 21, 22, 23] (by decide +kernel) (by decide +kernel)
set_option maxRecDepth 20000 in
theorem gX1_order_X1_aimAt : GoodIn wsX1_order (wsV RX1 18 RX1 yX1_aimAt wsX1_aimAt) := goodIn_app (goodIn_of _ (by decide +kernel)) ggX1_order_X1_aimAt
set_option maxRecDepth 20000 in
theorem ggX1_order_J7_fill_53178 : GoodIn wsX1_order wsJ7_fill_53178 := goodIn_r _ [19] (by decide +kernel) (by decide +kernel)
set_option maxRecDepth 20000 in
theorem gX1_order_J7_fill_53178 : GoodIn wsX1_order (va_wsS RX1 22 yJ7_fill_53178 wsJ7_fill_53178) := goodIn_app (goodIn_of _ (by decide +kernel)) ggX1_order_J7_fill_53178
theorem dX1_order_0 : decode cX1_order 0 = .ok (.aload_n 0, 1) := by decide +kernel
theorem dX1_order_1 : decode cX1_order 1 = .ok (.aload_n 1, 1) := by decide +kernel
theorem dX1_order_2 : decode cX1_order 2 = .ok (.invokevirtual 18, 3) := by decide +kernel
theorem dX1_order_5 : decode cX1_order 5 = .ok (.aload_n 0, 1) := by decide +kernel
theorem dX1_order_6 : decode cX1_order 6 = .ok (.getfield 15, 3) := by decide +kernel
theorem dX1_order_9 : decode cX1_order 9 = .ok (.iconst 1, 1) := by decide +kernel
theorem dX1_order_10 : decode cX1_order 10 = .ok (.invokestatic 22, 3) := by decide +kernel
theorem dX1_order_13 : decode cX1_order 13 = .ok (.aload_n 0, 1) := by decide +kernel
theorem dX1_order_14 : decode cX1_order 14 = .ok (.iconst 0, 1) := by decide +kernel
theorem dX1_order_15 : decode cX1_order 15 = .ok (.putfield 28, 3) := by decide +kernel
theorem dX1_order_18 : decode cX1_order 18 = .ok (.return_, 1) := by decide +kernel
theorem dX1_aimAt_0 : decode cX1_aimAt 0 = .ok (.aload_n 0, 1) := by decide +kernel
theorem dX1_aimAt_1 : decode cX1_aimAt 1 = .ok (.aload_n 1, 1) := by decide +kernel
theorem dX1_aimAt_2 : decode cX1_aimAt 2 = .ok (.getfield 32, 3) := by decide +kernel
theorem dX1_aimAt_5 : decode cX1_aimAt 5 = .ok (.putfield 37, 3) := by decide +kernel
theorem dX1_aimAt_8 : decode cX1_aimAt 8 = .ok (.aload_n 1, 1) := by decide +kernel
theorem dX1_aimAt_9 : decode cX1_aimAt 9 = .ok (.getfield 38, 3) := by decide +kernel
theorem dX1_aimAt_12 : decode cX1_aimAt 12 = .ok (.iconst 0, 1) := by decide +kernel
theorem dX1_aimAt_13 : decode cX1_aimAt 13 = .ok (.aload_n 0, 1) := by decide +kernel
theorem dX1_aimAt_14 : decode cX1_aimAt 14 = .ok (.getfield 9, 3) := by decide +kernel
theorem dX1_aimAt_17 : decode cX1_aimAt 17 = .ok (.iconst 0, 1) := by decide +kernel
theorem dX1_aimAt_18 : decode cX1_aimAt 18 = .ok (.bipush 16, 2) := by decide +kernel
theorem dX1_aimAt_20 : decode cX1_aimAt 20 = .ok (.invokestatic 41, 3) := by decide +kernel
theorem dX1_aimAt_23 : decode cX1_aimAt 23 = .ok (.return_, 1) := by decide +kernel
theorem dX1_copy_0 : decode cX1_copy 0 = .ok (.aload_n 0, 1) := by decide +kernel
theorem dX1_copy_1 : decode cX1_copy 1 = .ok (.aload_n 1, 1) := by decide +kernel
theorem dX1_copy_2 : decode cX1_copy 2 = .ok (.getfield 37, 3) := by decide +kernel
theorem dX1_copy_5 : decode cX1_copy 5 = .ok (.putfield 37, 3) := by decide +kernel
theorem dX1_copy_8 : decode cX1_copy 8 = .ok (.aload_n 0, 1) := by decide +kernel
theorem dX1_copy_9 : decode cX1_copy 9 = .ok (.aload_n 1, 1) := by decide +kernel
theorem dX1_copy_10 : decode cX1_copy 10 = .ok (.getfield 28, 3) := by decide +kernel
theorem dX1_copy_13 : decode cX1_copy 13 = .ok (.putfield 28, 3) := by decide +kernel
theorem dX1_copy_16 : decode cX1_copy 16 = .ok (.aload_n 1, 1) := by decide +kernel
theorem dX1_copy_17 : decode cX1_copy 17 = .ok (.getfield 9, 3) := by decide +kernel
theorem dX1_copy_20 : decode cX1_copy 20 = .ok (.iconst 0, 1) := by decide +kernel
theorem dX1_copy_21 : decode cX1_copy 21 = .ok (.aload_n 0, 1) := by decide +kernel
theorem dX1_copy_22 : decode cX1_copy 22 = .ok (.getfield 9, 3) := by decide +kernel
theorem dX1_copy_25 : decode cX1_copy 25 = .ok (.iconst 0, 1) := by decide +kernel
theorem dX1_copy_26 : decode cX1_copy 26 = .ok (.bipush 16, 2) := by decide +kernel
theorem dX1_copy_28 : decode cX1_copy 28 = .ok (.invokestatic 41, 3) := by decide +kernel
theorem dX1_copy_31 : decode cX1_copy 31 = .ok (.aload_n 1, 1) := by decide +kernel
theorem dX1_copy_32 : decode cX1_copy 32 = .ok (.getfield 15, 3) := by decide +kernel
theorem dX1_copy_35 : decode cX1_copy 35 = .ok (.iconst 0, 1) := by decide +kernel
theorem dX1_copy_36 : decode cX1_copy 36 = .ok (.aload_n 0, 1) := by decide +kernel
theorem dX1_copy_37 : decode cX1_copy 37 = .ok (.getfield 15, 3) := by decide +kernel
theorem dX1_copy_40 : decode cX1_copy 40 = .ok (.iconst 0, 1) := by decide +kernel
theorem dX1_copy_41 : decode cX1_copy 41 = .ok (.bipush 16, 2) := by decide +kernel
theorem dX1_copy_43 : decode cX1_copy 43 = .ok (.invokestatic 41, 3) := by decide +kernel
theorem dX1_copy_46 : decode cX1_copy 46 = .ok (.return_, 1) := by decide +kernel
set_option maxRecDepth 20000 in
theorem ggX1_layOut_X7_put : GoodIn wsX1_layOut wsX7_put := goodIn_r _ [8, 9, 10, 28, 29, 30, 31] (by decide +kernel) (by decide +kernel)
set_option maxRecDepth 20000 in
theorem gX1_layOut_X7_put : GoodIn wsX1_layOut (wsV RX1 47 RX7 yX7_put wsX7_put) := goodIn_app (goodIn_of _ (by decide +kernel)) ggX1_layOut_X7_put
set_option maxRecDepth 20000 in
theorem ggX1_layOut_X7_pack : GoodIn wsX1_layOut wsX7_pack := goodIn_r _ [14, 15, 16, 9, 17, 18, 19, 7, 20, 21, 22, 23, 28, 29, 30, 31] (by decide +kernel) (by decide +kernel)
set_option maxRecDepth 20000 in
theorem gX1_layOut_X7_pack : GoodIn wsX1_layOut (wsV RX1 51 RX7 yX7_pack wsX7_pack) := goodIn_app (goodIn_of _ (by decide +kernel)) ggX1_layOut_X7_pack
theorem dX1_layOut_0 : decode cX1_layOut 0 = .ok (.aload_n 1, 1) := by decide +kernel
theorem dX1_layOut_1 : decode cX1_layOut 1 = .ok (.aload_n 0, 1) := by decide +kernel
theorem dX1_layOut_2 : decode cX1_layOut 2 = .ok (.getfield 37, 3) := by decide +kernel
theorem dX1_layOut_5 : decode cX1_layOut 5 = .ok (.putfield 32, 3) := by decide +kernel
theorem dX1_layOut_8 : decode cX1_layOut 8 = .ok (.iconst 0, 1) := by decide +kernel
theorem dX1_layOut_9 : decode cX1_layOut 9 = .ok (.istore_n 2, 1) := by decide +kernel
theorem dX1_layOut_10 : decode cX1_layOut 10 = .ok (.iload_n 2, 1) := by decide +kernel
theorem dX1_layOut_11 : decode cX1_layOut 11 = .ok (.aload_n 0, 1) := by decide +kernel
theorem dX1_layOut_12 : decode cX1_layOut 12 = .ok (.getfield 37, 3) := by decide +kernel
theorem dX1_layOut_15 : decode cX1_layOut 15 = .ok (.if_icmp .ge 20, 3) := by decide +kernel
theorem dX1_layOut_18 : decode cX1_layOut 18 = .ok (.aload_n 1, 1) := by decide +kernel
theorem dX1_layOut_19 : decode cX1_layOut 19 = .ok (.iload_n 2, 1) := by decide +kernel
theorem dX1_layOut_20 : decode cX1_layOut 20 = .ok (.aload_n 0, 1) := by decide +kernel
theorem dX1_layOut_21 : decode cX1_layOut 21 = .ok (.getfield 9, 3) := by decide +kernel
theorem dX1_layOut_24 : decode cX1_layOut 24 = .ok (.iload_n 2, 1) := by decide +kernel
theorem dX1_layOut_25 : decode cX1_layOut 25 = .ok (.iaload, 1) := by decide +kernel
theorem dX1_layOut_26 : decode cX1_layOut 26 = .ok (.invokevirtual 47, 3) := by decide +kernel
theorem dX1_layOut_29 : decode cX1_layOut 29 = .ok (.iinc 2 1, 3) := by decide +kernel
theorem dX1_layOut_32 : decode cX1_layOut 32 = .ok (.goto (-22), 3) := by decide +kernel
theorem dX1_layOut_35 : decode cX1_layOut 35 = .ok (.aload_n 1, 1) := by decide +kernel
theorem dX1_layOut_36 : decode cX1_layOut 36 = .ok (.invokevirtual 51, 3) := by decide +kernel
theorem dX1_layOut_39 : decode cX1_layOut 39 = .ok (.return_, 1) := by decide +kernel
theorem dX1_frees_0 : decode cX1_frees 0 = .ok (.aload_n 0, 1) := by decide +kernel
theorem dX1_frees_1 : decode cX1_frees 1 = .ok (.getfield 28, 3) := by decide +kernel
theorem dX1_frees_4 : decode cX1_frees 4 = .ok (.iload_n 1, 1) := by decide +kernel
theorem dX1_frees_5 : decode cX1_frees 5 = .ok (.ishr, 1) := by decide +kernel
theorem dX1_frees_6 : decode cX1_frees 6 = .ok (.iconst 1, 1) := by decide +kernel
theorem dX1_frees_7 : decode cX1_frees 7 = .ok (.iand, 1) := by decide +kernel
theorem dX1_frees_8 : decode cX1_frees 8 = .ok (.iconst 1, 1) := by decide +kernel
theorem dX1_frees_9 : decode cX1_frees 9 = .ok (.if_icmp .ne 7, 3) := by decide +kernel
theorem dX1_frees_12 : decode cX1_frees 12 = .ok (.iconst 1, 1) := by decide +kernel
theorem dX1_frees_13 : decode cX1_frees 13 = .ok (.goto 4, 3) := by decide +kernel
theorem dX1_frees_16 : decode cX1_frees 16 = .ok (.iconst 0, 1) := by decide +kernel
theorem dX1_frees_17 : decode cX1_frees 17 = .ok (.ireturn, 1) := by decide +kernel
theorem dX1_makeFree_0 : decode cX1_makeFree 0 = .ok (.aload_n 0, 1) := by decide +kernel
theorem dX1_makeFree_1 : decode cX1_makeFree 1 = .ok (.iload_n 2, 1) := by decide +kernel
theorem dX1_makeFree_2 : decode cX1_makeFree 2 = .ok (.ifCond .eq 14, 3) := by decide +kernel
theorem dX1_makeFree_5 : decode cX1_makeFree 5 = .ok (.aload_n 0, 1) := by decide +kernel
theorem dX1_makeFree_6 : decode cX1_makeFree 6 = .ok (.getfield 28, 3) := by decide +kernel
theorem dX1_makeFree_9 : decode cX1_makeFree 9 = .ok (.iconst 1, 1) := by decide +kernel
theorem dX1_makeFree_10 : decode cX1_makeFree 10 = .ok (.iload_n 1, 1) := by decide +kernel
theorem dX1_makeFree_11 : decode cX1_makeFree 11 = .ok (.ishl, 1) := by decide +kernel
theorem dX1_makeFree_12 : decode cX1_makeFree 12 = .ok (.ior, 1) := by decide +kernel
theorem dX1_makeFree_13 : decode cX1_makeFree 13 = .ok (.goto 13, 3) := by decide +kernel
theorem dX1_makeFree_16 : decode cX1_makeFree 16 = .ok (.aload_n 0, 1) := by decide +kernel
theorem dX1_makeFree_17 : decode cX1_makeFree 17 = .ok (.getfield 28, 3) := by decide +kernel
theorem dX1_makeFree_20 : decode cX1_makeFree 20 = .ok (.iconst 1, 1) := by decide +kernel
theorem dX1_makeFree_21 : decode cX1_makeFree 21 = .ok (.iload_n 1, 1) := by decide +kernel
theorem dX1_makeFree_22 : decode cX1_makeFree 22 = .ok (.ishl, 1) := by decide +kernel
theorem dX1_makeFree_23 : decode cX1_makeFree 23 = .ok (.iconst (-1), 1) := by decide +kernel
theorem dX1_makeFree_24 : decode cX1_makeFree 24 = .ok (.ixor, 1) := by decide +kernel
theorem dX1_makeFree_25 : decode cX1_makeFree 25 = .ok (.iand, 1) := by decide +kernel
theorem dX1_makeFree_26 : decode cX1_makeFree 26 = .ok (.putfield 28, 3) := by decide +kernel
theorem dX1_makeFree_29 : decode cX1_makeFree 29 = .ok (.return_, 1) := by decide +kernel
theorem dX1_leavesFree_0 : decode cX1_leavesFree 0 = .ok (.aload_n 0, 1) := by decide +kernel
theorem dX1_leavesFree_1 : decode cX1_leavesFree 1 = .ok (.getfield 28, 3) := by decide +kernel
theorem dX1_leavesFree_4 : decode cX1_leavesFree 4 = .ok (.ifCond .eq 7, 3) := by decide +kernel
theorem dX1_leavesFree_7 : decode cX1_leavesFree 7 = .ok (.iconst 1, 1) := by decide +kernel
theorem dX1_leavesFree_8 : decode cX1_leavesFree 8 = .ok (.goto 4, 3) := by decide +kernel
theorem dX1_leavesFree_11 : decode cX1_leavesFree 11 = .ok (.iconst 0, 1) := by decide +kernel
theorem dX1_leavesFree_12 : decode cX1_leavesFree 12 = .ok (.ireturn, 1) := by decide +kernel
theorem dX1_isHome_0 : decode cX1_isHome 0 = .ok (.aload_n 1, 1) := by decide +kernel
theorem dX1_isHome_1 : decode cX1_isHome 1 = .ok (.getfield 38, 3) := by decide +kernel
theorem dX1_isHome_4 : decode cX1_isHome 4 = .ok (.iload_n 2, 1) := by decide +kernel
theorem dX1_isHome_5 : decode cX1_isHome 5 = .ok (.iaload, 1) := by decide +kernel
theorem dX1_isHome_6 : decode cX1_isHome 6 = .ok (.aload_n 0, 1) := by decide +kernel
theorem dX1_isHome_7 : decode cX1_isHome 7 = .ok (.getfield 9, 3) := by decide +kernel
theorem dX1_isHome_10 : decode cX1_isHome 10 = .ok (.iload_n 2, 1) := by decide +kernel
theorem dX1_isHome_11 : decode cX1_isHome 11 = .ok (.iaload, 1) := by decide +kernel
theorem dX1_isHome_12 : decode cX1_isHome 12 = .ok (.if_icmp .ne 7, 3) := by decide +kernel
theorem dX1_isHome_15 : decode cX1_isHome 15 = .ok (.iconst 1, 1) := by decide +kernel
theorem dX1_isHome_16 : decode cX1_isHome 16 = .ok (.goto 4, 3) := by decide +kernel
theorem dX1_isHome_19 : decode cX1_isHome 19 = .ok (.iconst 0, 1) := by decide +kernel
theorem dX1_isHome_20 : decode cX1_isHome 20 = .ok (.ireturn, 1) := by decide +kernel
set_option maxRecDepth 20000 in
theorem ggX1_isReachedBy_X1_frees : GoodIn wsX1_isReachedBy wsX1_frees := goodIn_r _ [6, 7, 14, 15, 16, 17] (by decide +kernel) (by decide +kernel)
set_option maxRecDepth 20000 in
theorem gX1_isReachedBy_X1_frees : GoodIn wsX1_isReachedBy (wsV RX1 54 RX1 yX1_frees wsX1_frees) := goodIn_app (goodIn_of _ (by decide +kernel)) ggX1_isReachedBy_X1_frees
set_option maxRecDepth 20000 in
theorem ggX1_isReachedBy_X1_isHome : GoodIn wsX1_isReachedBy wsX1_isHome := goodIn_r _ [11, 12, 13, 18, 19, 20, 21, 14, 15, 16, 17] (by decide +kernel) (by decide +kernel)
set_option maxRecDepth 20000 in
theorem gX1_isReachedBy_X1_isHome : GoodIn wsX1_isReachedBy (wsV RX1 58 RX1 yX1_isHome wsX1_isHome) := goodIn_app (goodIn_of _ (by decide +kernel)) ggX1_isReachedBy_X1_isHome
theorem dX1_isReachedBy_0 : decode cX1_isReachedBy 0 = .ok (.iconst 0, 1) := by decide +kernel
theorem dX1_isReachedBy_1 : decode cX1_isReachedBy 1 = .ok (.istore_n 2, 1) := by decide +kernel
theorem dX1_isReachedBy_2 : decode cX1_isReachedBy 2 = .ok (.iload_n 2, 1) := by decide +kernel
theorem dX1_isReachedBy_3 : decode cX1_isReachedBy 3 = .ok (.aload_n 0, 1) := by decide +kernel
theorem dX1_isReachedBy_4 : decode cX1_isReachedBy 4 = .ok (.getfield 37, 3) := by decide +kernel
theorem dX1_isReachedBy_7 : decode cX1_isReachedBy 7 = .ok (.if_icmp .ge 28, 3) := by decide +kernel
theorem dX1_isReachedBy_10 : decode cX1_isReachedBy 10 = .ok (.aload_n 0, 1) := by decide +kernel
theorem dX1_isReachedBy_11 : decode cX1_isReachedBy 11 = .ok (.iload_n 2, 1) := by decide +kernel
theorem dX1_isReachedBy_12 : decode cX1_isReachedBy 12 = .ok (.invokevirtual 54, 3) := by decide +kernel
theorem dX1_isReachedBy_15 : decode cX1_isReachedBy 15 = .ok (.ifCond .ne 14, 3) := by decide +kernel
theorem dX1_isReachedBy_18 : decode cX1_isReachedBy 18 = .ok (.aload_n 0, 1) := by decide +kernel
theorem dX1_isReachedBy_19 : decode cX1_isReachedBy 19 = .ok (.aload_n 1, 1) := by decide +kernel
theorem dX1_isReachedBy_20 : decode cX1_isReachedBy 20 = .ok (.iload_n 2, 1) := by decide +kernel
theorem dX1_isReachedBy_21 : decode cX1_isReachedBy 21 = .ok (.invokevirtual 58, 3) := by decide +kernel
theorem dX1_isReachedBy_24 : decode cX1_isReachedBy 24 = .ok (.ifCond .ne 5, 3) := by decide +kernel
theorem dX1_isReachedBy_27 : decode cX1_isReachedBy 27 = .ok (.iconst 0, 1) := by decide +kernel
theorem dX1_isReachedBy_28 : decode cX1_isReachedBy 28 = .ok (.ireturn, 1) := by decide +kernel
theorem dX1_isReachedBy_29 : decode cX1_isReachedBy 29 = .ok (.iinc 2 1, 3) := by decide +kernel
theorem dX1_isReachedBy_32 : decode cX1_isReachedBy 32 = .ok (.goto (-30), 3) := by decide +kernel
theorem dX1_isReachedBy_35 : decode cX1_isReachedBy 35 = .ok (.iconst 1, 1) := by decide +kernel
theorem dX1_isReachedBy_36 : decode cX1_isReachedBy 36 = .ok (.ireturn, 1) := by decide +kernel
set_option maxRecDepth 20000 in
theorem ggX2_init_X7_init : GoodIn wsX2_init wsX7_init := goodIn_r _ [18, 19, 2, 3, 6, 20, 21, 35, 36, 37, 38] (by decide +kernel) (by decide +kernel)
set_option maxRecDepth 20000 in
theorem gX2_init_X7_init : GoodIn wsX2_init (wsX7_init) := ggX2_init_X7_init
theorem dX2_init_0 : decode cX2_init 0 = .ok (.aload_n 0, 1) := by decide +kernel
theorem dX2_init_1 : decode cX2_init 1 = .ok (.invokespecial 3, 3) := by decide +kernel
theorem dX2_init_4 : decode cX2_init 4 = .ok (.aload_n 0, 1) := by decide +kernel
theorem dX2_init_5 : decode cX2_init 5 = .ok (.sipush 720, 3) := by decide +kernel
theorem dX2_init_8 : decode cX2_init 8 = .ok (.newarray .long, 2) := by decide +kernel
theorem dX2_init_10 : decode cX2_init 10 = .ok (.putfield 9, 3) := by decide +kernel
theorem dX2_init_13 : decode cX2_init 13 = .ok (.aload_n 0, 1) := by decide +kernel
theorem dX2_init_14 : decode cX2_init 14 = .ok (.sipush 2880, 3) := by decide +kernel
theorem dX2_init_17 : decode cX2_init 17 = .ok (.newarray .int, 2) := by decide +kernel
theorem dX2_init_19 : decode cX2_init 19 = .ok (.putfield 15, 3) := by decide +kernel
theorem dX2_init_22 : decode cX2_init 22 = .ok (.aload_n 0, 1) := by decide +kernel
theorem dX2_init_23 : decode cX2_init 23 = .ok (.sipush 2880, 3) := by decide +kernel
theorem dX2_init_26 : decode cX2_init 26 = .ok (.newarray .int, 2) := by decide +kernel
theorem dX2_init_28 : decode cX2_init 28 = .ok (.putfield 19, 3) := by decide +kernel
theorem dX2_init_31 : decode cX2_init 31 = .ok (.aload_n 0, 1) := by decide +kernel
theorem dX2_init_32 : decode cX2_init 32 = .ok (.sipush 720, 3) := by decide +kernel
theorem dX2_init_35 : decode cX2_init 35 = .ok (.newarray .int, 2) := by decide +kernel
theorem dX2_init_37 : decode cX2_init 37 = .ok (.putfield 22, 3) := by decide +kernel
theorem dX2_init_40 : decode cX2_init 40 = .ok (.aload_n 0, 1) := by decide +kernel
theorem dX2_init_41 : decode cX2_init 41 = .ok (.sipush 720, 3) := by decide +kernel
theorem dX2_init_44 : decode cX2_init 44 = .ok (.newarray .int, 2) := by decide +kernel
theorem dX2_init_46 : decode cX2_init 46 = .ok (.putfield 25, 3) := by decide +kernel
theorem dX2_init_49 : decode cX2_init 49 = .ok (.aload_n 0, 1) := by decide +kernel
theorem dX2_init_50 : decode cX2_init 50 = .ok (.sipush 720, 3) := by decide +kernel
theorem dX2_init_53 : decode cX2_init 53 = .ok (.newarray .int, 2) := by decide +kernel
theorem dX2_init_55 : decode cX2_init 55 = .ok (.putfield 28, 3) := by decide +kernel
theorem dX2_init_58 : decode cX2_init 58 = .ok (.aload_n 0, 1) := by decide +kernel
theorem dX2_init_59 : decode cX2_init 59 = .ok (.new 31, 3) := by decide +kernel
theorem dX2_init_62 : decode cX2_init 62 = .ok (.dup, 1) := by decide +kernel
theorem dX2_init_63 : decode cX2_init 63 = .ok (.invokespecial 33, 3) := by decide +kernel
theorem dX2_init_66 : decode cX2_init 66 = .ok (.putfield 34, 3) := by decide +kernel
theorem dX2_init_69 : decode cX2_init 69 = .ok (.return_, 1) := by decide +kernel
theorem dX2_forgetTray_0 : decode cX2_forgetTray 0 = .ok (.aload_n 0, 1) := by decide +kernel
theorem dX2_forgetTray_1 : decode cX2_forgetTray 1 = .ok (.iconst 0, 1) := by decide +kernel
theorem dX2_forgetTray_2 : decode cX2_forgetTray 2 = .ok (.putfield 38, 3) := by decide +kernel
theorem dX2_forgetTray_5 : decode cX2_forgetTray 5 = .ok (.return_, 1) := by decide +kernel
theorem dX2_forgetCosts_0 : decode cX2_forgetCosts 0 = .ok (.aload_n 0, 1) := by decide +kernel
theorem dX2_forgetCosts_1 : decode cX2_forgetCosts 1 = .ok (.iconst 0, 1) := by decide +kernel
theorem dX2_forgetCosts_2 : decode cX2_forgetCosts 2 = .ok (.putfield 42, 3) := by decide +kernel
theorem dX2_forgetCosts_5 : decode cX2_forgetCosts 5 = .ok (.return_, 1) := by decide +kernel
set_option maxRecDepth 20000 in
theorem ggX2_look_X2_map : GoodIn wsX2_look wsX2_map := goodIn_r _ [8, 9, 10, 11, 12, 13, 14, 15, 16, 17, 18, 19, 20, 21, 22, 23, 24, 25, 26, 27, 28, 29, 30, 31, 32, 33, 34, 35, 36, 37, 38, 39, 40, 41, 42, 43, 44, 45, 46, 47, 48, 49, 50, 51, 52, 53, 54, 55, 56, 57, 58, 59, 60, 61, 62, 63, 64, 65, 66, 67, 68, 69, 70, 71, 72, 73, 74, 75, 76, 77, 78, 175, 176, 177, 178, 179, 180, 181, 182, 183, 184, 185, 154, 155, 156, 157, 158, 159, 160, 161, 162, 163, 164, 165, 166, 186, 187, 188, 189] (by decide +kernel) (by decide +kernel)
set_option maxRecDepth 20000 in
theorem gX2_look_X2_map : GoodIn wsX2_look (wsV RX2 51 RX2 yX2_map wsX2_map) := goodIn_app (goodIn_of _ (by decide +kernel)) ggX2_look_X2_map
set_option maxRecDepth 20000 in
theorem ggX2_look_X2_reckon : GoodIn wsX2_look wsX2_reckon := goodIn_r _ [82, 83, 15, 16, 17, 2, 9, 84, 85, 86, 87, 88, 89, 90, 91, 92, 93, 94, 95, 96, 97, 98, 99, 100, 23, 101, 29, 54, 59, 60, 61, 41, 42, 43, 44, 45, 46, 47, 48, 30, 49, 102, 103, 104, 105, 106, 107, 108, 109, 110, 111, 112, 113, 114, 115, 116, 117, 118, 119, 120, 121, 122, 123, 124, 125, 126, 127, 128, 129, 130, 131, 132, 133, 134, 135, 136, 137, 138, 139, 140, 141, 142, 143, 7, 144, 145, 146, 147, 148, 20, 149, 19, 150, 151, 152, 13, 153, 167, 168, 169, 170, 171, 172, 173, 174, 154, 155, 156, 157, 158, 159, 160, 161, 162, 163, 164, 165, 166, 175, 176, 177, 178, 179, 180, 181, 182, 183, 184, 185, 190, 191, 192, 193, 194, 186, 187, 188, 189, 195, 196, 197, 198] (by decide +kernel) (by decide +kernel)
set_option maxRecDepth 20000 in
theorem gX2_look_X2_reckon : GoodIn wsX2_look (wsV RX2 55 RX2 yX2_reckon wsX2_reckon) := goodIn_app (goodIn_of _ (by decide +kernel)) ggX2_look_X2_reckon
theorem dX2_look_0 : decode cX2_look 0 = .ok (.aload_n 0, 1) := by decide +kernel
theorem dX2_look_1 : decode cX2_look 1 = .ok (.getfield 38, 3) := by decide +kernel
theorem dX2_look_4 : decode cX2_look 4 = .ok (.ifCond .ne 11, 3) := by decide +kernel
theorem dX2_look_7 : decode cX2_look 7 = .ok (.aload_n 0, 1) := by decide +kernel
theorem dX2_look_8 : decode cX2_look 8 = .ok (.aload_n 1, 1) := by decide +kernel
theorem dX2_look_9 : decode cX2_look 9 = .ok (.getfield 45, 3) := by decide +kernel
theorem dX2_look_12 : decode cX2_look 12 = .ok (.invokevirtual 51, 3) := by decide +kernel
theorem dX2_look_15 : decode cX2_look 15 = .ok (.aload_n 0, 1) := by decide +kernel
theorem dX2_look_16 : decode cX2_look 16 = .ok (.iconst 1, 1) := by decide +kernel
theorem dX2_look_17 : decode cX2_look 17 = .ok (.putfield 38, 3) := by decide +kernel
theorem dX2_look_20 : decode cX2_look 20 = .ok (.aload_n 0, 1) := by decide +kernel
theorem dX2_look_21 : decode cX2_look 21 = .ok (.getfield 42, 3) := by decide +kernel
theorem dX2_look_24 : decode cX2_look 24 = .ok (.ifCond .ne 8, 3) := by decide +kernel
theorem dX2_look_27 : decode cX2_look 27 = .ok (.aload_n 0, 1) := by decide +kernel
theorem dX2_look_28 : decode cX2_look 28 = .ok (.aload_n 1, 1) := by decide +kernel
theorem dX2_look_29 : decode cX2_look 29 = .ok (.invokevirtual 55, 3) := by decide +kernel
theorem dX2_look_32 : decode cX2_look 32 = .ok (.aload_n 0, 1) := by decide +kernel
theorem dX2_look_33 : decode cX2_look 33 = .ok (.iconst 1, 1) := by decide +kernel
theorem dX2_look_34 : decode cX2_look 34 = .ok (.putfield 42, 3) := by decide +kernel
theorem dX2_look_37 : decode cX2_look 37 = .ok (.return_, 1) := by decide +kernel
set_option maxRecDepth 20000 in
theorem ggX2_map_X7_arrangements : GoodIn wsX2_map wsX7_arrangements := goodIn_r _ [16] (by decide +kernel) (by decide +kernel)
set_option maxRecDepth 20000 in
theorem gX2_map_X7_arrangements : GoodIn wsX2_map (va_wsS RX2 65 yX7_arrangements wsX7_arrangements) := goodIn_app (goodIn_of _ (by decide +kernel)) ggX2_map_X7_arrangements
set_option maxRecDepth 20000 in
theorem ggX2_map_X7_fromRank : GoodIn wsX2_map wsX7_fromRank := goodIn_r _ [20, 21, 22, 23, 24, 15, 25, 26, 27, 28, 29, 30, 31, 32, 33, 34, 35, 36, 37, 38, 39, 40, 41, 42, 43, 44, 45, 46, 47, 48, 49, 50, 51, 52, 53, 95, 96, 97, 98] (by decide +kernel) (by decide +kernel)
set_option maxRecDepth 20000 in
theorem gX2_map_X7_fromRank : GoodIn wsX2_map (wsV RX2 80 RX7 yX7_fromRank wsX7_fromRank) := goodIn_app (goodIn_of _ (by decide +kernel)) ggX2_map_X7_fromRank
set_option maxRecDepth 20000 in
theorem ggX2_map_X7_shift : GoodIn wsX2_map wsX7_shift := goodIn_r _ [57, 41, 22, 46, 58, 59, 60, 61, 62, 63, 37, 38, 39, 15, 40, 47, 48, 49, 50, 21, 51, 52, 53, 95, 96, 97, 98, 71, 72, 73, 74, 75, 76, 77, 78, 79, 80, 81] (by decide +kernel) (by decide +kernel)
set_option maxRecDepth 20000 in
theorem gX2_map_X7_shift : GoodIn wsX2_map (wsV RX2 87 RX7 yX7_shift wsX7_shift) := goodIn_app (goodIn_of _ (by decide +kernel)) ggX2_map_X7_shift
set_option maxRecDepth 20000 in
theorem ggX2_map_X7_toRank : GoodIn wsX2_map wsX7_toRank := goodIn_r _ [67, 21, 22, 47, 48, 49, 15, 50, 26, 27, 28, 29, 30, 31, 32, 95, 96, 97, 98] (by decide +kernel) (by decide +kernel)
set_option maxRecDepth 20000 in
theorem gX2_map_X7_toRank : GoodIn wsX2_map (wsV RX2 91 RX7 yX7_toRank wsX7_toRank) := goodIn_app (goodIn_of _ (by decide +kernel)) ggX2_map_X7_toRank
set_option maxRecDepth 20000 in
theorem ggX2_map_X11_opposite : GoodIn wsX2_map wsX11_opposite := goodIn_r _ [70] (by decide +kernel) (by decide +kernel)
set_option maxRecDepth 20000 in
theorem gX2_map_X11_opposite_n95 : GoodIn wsX2_map (wsX11_opposite) := ggX2_map_X11_opposite
theorem dX2_map_0 : decode cX2_map 0 = .ok (.aload_n 0, 1) := by decide +kernel
theorem dX2_map_1 : decode cX2_map 1 = .ok (.aload_n 1, 1) := by decide +kernel
theorem dX2_map_2 : decode cX2_map 2 = .ok (.getfield 59, 3) := by decide +kernel
theorem dX2_map_5 : decode cX2_map 5 = .ok (.invokestatic 65, 3) := by decide +kernel
theorem dX2_map_8 : decode cX2_map 8 = .ok (.ldc2_w 69, 3) := by decide +kernel
theorem dX2_map_11 : decode cX2_map 11 = .ok (.invokestatic 71, 3) := by decide +kernel
theorem dX2_map_14 : decode cX2_map 14 = .ok (.l2i, 1) := by decide +kernel
theorem dX2_map_15 : decode cX2_map 15 = .ok (.putfield 77, 3) := by decide +kernel
theorem dX2_map_18 : decode cX2_map 18 = .ok (.iconst 0, 1) := by decide +kernel
theorem dX2_map_19 : decode cX2_map 19 = .ok (.istore_n 2, 1) := by decide +kernel
theorem dX2_map_20 : decode cX2_map 20 = .ok (.iload_n 2, 1) := by decide +kernel
theorem dX2_map_21 : decode cX2_map 21 = .ok (.aload_n 0, 1) := by decide +kernel
theorem dX2_map_22 : decode cX2_map 22 = .ok (.getfield 77, 3) := by decide +kernel
theorem dX2_map_25 : decode cX2_map 25 = .ok (.if_icmp .ge 116, 3) := by decide +kernel
theorem dX2_map_28 : decode cX2_map 28 = .ok (.aload_n 0, 1) := by decide +kernel
theorem dX2_map_29 : decode cX2_map 29 = .ok (.getfield 34, 3) := by decide +kernel
theorem dX2_map_32 : decode cX2_map 32 = .ok (.iload_n 2, 1) := by decide +kernel
theorem dX2_map_33 : decode cX2_map 33 = .ok (.i2l, 1) := by decide +kernel
theorem dX2_map_34 : decode cX2_map 34 = .ok (.aload_n 1, 1) := by decide +kernel
theorem dX2_map_35 : decode cX2_map 35 = .ok (.getfield 59, 3) := by decide +kernel
theorem dX2_map_38 : decode cX2_map 38 = .ok (.invokevirtual 80, 3) := by decide +kernel
theorem dX2_map_41 : decode cX2_map 41 = .ok (.aload_n 0, 1) := by decide +kernel
theorem dX2_map_42 : decode cX2_map 42 = .ok (.getfield 9, 3) := by decide +kernel
theorem dX2_map_45 : decode cX2_map 45 = .ok (.iload_n 2, 1) := by decide +kernel
theorem dX2_map_46 : decode cX2_map 46 = .ok (.aload_n 0, 1) := by decide +kernel
theorem dX2_map_47 : decode cX2_map 47 = .ok (.getfield 34, 3) := by decide +kernel
theorem dX2_map_50 : decode cX2_map 50 = .ok (.getfield 84, 3) := by decide +kernel
theorem dX2_map_53 : decode cX2_map 53 = .ok (.lastore, 1) := by decide +kernel
theorem dX2_map_54 : decode cX2_map 54 = .ok (.iconst 0, 1) := by decide +kernel
theorem dX2_map_55 : decode cX2_map 55 = .ok (.istore_n 3, 1) := by decide +kernel
theorem dX2_map_56 : decode cX2_map 56 = .ok (.iload_n 3, 1) := by decide +kernel
theorem dX2_map_57 : decode cX2_map 57 = .ok (.iconst 3, 1) := by decide +kernel
theorem dX2_map_58 : decode cX2_map 58 = .ok (.if_icmp .gt 77, 3) := by decide +kernel
theorem dX2_map_61 : decode cX2_map 61 = .ok (.aload_n 0, 1) := by decide +kernel
theorem dX2_map_62 : decode cX2_map 62 = .ok (.getfield 34, 3) := by decide +kernel
theorem dX2_map_65 : decode cX2_map 65 = .ok (.aload_n 1, 1) := by decide +kernel
theorem dX2_map_66 : decode cX2_map 66 = .ok (.iload_n 3, 1) := by decide +kernel
theorem dX2_map_67 : decode cX2_map 67 = .ok (.invokevirtual 87, 3) := by decide +kernel
theorem dX2_map_70 : decode cX2_map 70 = .ok (.istore 4, 2) := by decide +kernel
theorem dX2_map_72 : decode cX2_map 72 = .ok (.aload_n 0, 1) := by decide +kernel
theorem dX2_map_73 : decode cX2_map 73 = .ok (.getfield 19, 3) := by decide +kernel
theorem dX2_map_76 : decode cX2_map 76 = .ok (.iload_n 2, 1) := by decide +kernel
theorem dX2_map_77 : decode cX2_map 77 = .ok (.iconst 4, 1) := by decide +kernel
theorem dX2_map_78 : decode cX2_map 78 = .ok (.imul, 1) := by decide +kernel
theorem dX2_map_79 : decode cX2_map 79 = .ok (.iload_n 3, 1) := by decide +kernel
theorem dX2_map_80 : decode cX2_map 80 = .ok (.iadd, 1) := by decide +kernel
theorem dX2_map_81 : decode cX2_map 81 = .ok (.iload 4, 2) := by decide +kernel
theorem dX2_map_83 : decode cX2_map 83 = .ok (.iastore, 1) := by decide +kernel
theorem dX2_map_84 : decode cX2_map 84 = .ok (.aload_n 0, 1) := by decide +kernel
theorem dX2_map_85 : decode cX2_map 85 = .ok (.getfield 15, 3) := by decide +kernel
theorem dX2_map_88 : decode cX2_map 88 = .ok (.iload_n 2, 1) := by decide +kernel
theorem dX2_map_89 : decode cX2_map 89 = .ok (.iconst 4, 1) := by decide +kernel
theorem dX2_map_90 : decode cX2_map 90 = .ok (.imul, 1) := by decide +kernel
theorem dX2_map_91 : decode cX2_map 91 = .ok (.iload_n 3, 1) := by decide +kernel
theorem dX2_map_92 : decode cX2_map 92 = .ok (.iadd, 1) := by decide +kernel
theorem dX2_map_93 : decode cX2_map 93 = .ok (.iload 4, 2) := by decide +kernel
theorem dX2_map_95 : decode cX2_map 95 = .ok (.ifCond .ne 7, 3) := by decide +kernel
theorem dX2_map_98 : decode cX2_map 98 = .ok (.iconst (-1), 1) := by decide +kernel
theorem dX2_map_99 : decode cX2_map 99 = .ok (.goto 11, 3) := by decide +kernel
theorem dX2_map_102 : decode cX2_map 102 = .ok (.aload_n 0, 1) := by decide +kernel
theorem dX2_map_103 : decode cX2_map 103 = .ok (.getfield 34, 3) := by decide +kernel
theorem dX2_map_106 : decode cX2_map 106 = .ok (.invokevirtual 91, 3) := by decide +kernel
theorem dX2_map_109 : decode cX2_map 109 = .ok (.l2i, 1) := by decide +kernel
theorem dX2_map_110 : decode cX2_map 110 = .ok (.iastore, 1) := by decide +kernel
theorem dX2_map_111 : decode cX2_map 111 = .ok (.iload 4, 2) := by decide +kernel
theorem dX2_map_113 : decode cX2_map 113 = .ok (.ifCond .eq 16, 3) := by decide +kernel
theorem dX2_map_116 : decode cX2_map 116 = .ok (.aload_n 0, 1) := by decide +kernel
theorem dX2_map_117 : decode cX2_map 117 = .ok (.getfield 34, 3) := by decide +kernel
theorem dX2_map_120 : decode cX2_map 120 = .ok (.aload_n 1, 1) := by decide +kernel
theorem dX2_map_121 : decode cX2_map 121 = .ok (.iload_n 3, 1) := by decide +kernel
theorem dX2_map_122 : decode cX2_map 122 = .ok (.invokestatic 95, 3) := by decide +kernel
theorem dX2_map_125 : decode cX2_map 125 = .ok (.invokevirtual 87, 3) := by decide +kernel
theorem dX2_map_128 : decode cX2_map 128 = .ok (.pop, 1) := by decide +kernel
theorem dX2_map_129 : decode cX2_map 129 = .ok (.iinc 3 1, 3) := by decide +kernel
theorem dX2_map_132 : decode cX2_map 132 = .ok (.goto (-76), 3) := by decide +kernel
theorem dX2_map_135 : decode cX2_map 135 = .ok (.iinc 2 1, 3) := by decide +kernel
theorem dX2_map_138 : decode cX2_map 138 = .ok (.goto (-118), 3) := by decide +kernel
theorem dX2_map_141 : decode cX2_map 141 = .ok (.return_, 1) := by decide +kernel
set_option maxRecDepth 20000 in
theorem ggX2_reckon_X0_clear : GoodIn wsX2_reckon wsX0_clear := goodIn_r _ [17, 18, 19, 20, 129, 130, 131, 132, 133] (by decide +kernel) (by decide +kernel)
set_option maxRecDepth 20000 in
theorem gX2_reckon_X0_clear : GoodIn wsX2_reckon (wsV RX2 103 RX0 yX0_clear wsX0_clear) := goodIn_app (goodIn_of _ (by decide +kernel)) ggX2_reckon_X0_clear
set_option maxRecDepth 20000 in
theorem ggX2_reckon_X7_unpack : GoodIn wsX2_reckon wsX7_unpack := goodIn_r _ [25, 26, 27, 28, 29, 24, 30, 31, 32, 33, 34, 35, 36, 37, 38, 39, 40, 134, 135, 136, 137] (by decide +kernel) (by decide +kernel)
set_option maxRecDepth 20000 in
theorem gX2_reckon_X7_unpack : GoodIn wsX2_reckon (wsV RX2 108 RX7 yX7_unpack wsX7_unpack) := goodIn_app (goodIn_of _ (by decide +kernel)) ggX2_reckon_X7_unpack
set_option maxRecDepth 20000 in
theorem ggX2_reckon_X1_isReachedBy : GoodIn wsX2_reckon wsX1_isReachedBy := goodIn_r _ [45, 46, 47, 48, 49, 44, 50, 51, 52, 53, 54, 55, 56, 57, 138, 139, 140, 141, 134, 135, 136, 137] (by decide +kernel) (by decide +kernel)
set_option maxRecDepth 20000 in
theorem gX2_reckon_X1_isReachedBy : GoodIn wsX2_reckon (wsV RX2 115 RX1 yX1_isReachedBy wsX1_isReachedBy) := goodIn_app (goodIn_of _ (by decide +kernel)) ggX2_reckon_X1_isReachedBy
set_option maxRecDepth 20000 in
theorem ggX2_reckon_X0_put : GoodIn wsX2_reckon wsX0_put := goodIn_r _ [61, 62, 63, 19, 18, 20, 64, 65, 66, 16, 67, 68, 69, 70, 71, 129, 130, 131, 132, 133] (by decide +kernel) (by decide +kernel)
set_option maxRecDepth 20000 in
theorem gX2_reckon_X0_put : GoodIn wsX2_reckon (wsV RX2 121 RX0 yX0_put wsX0_put) := goodIn_app (goodIn_of _ (by decide +kernel)) ggX2_reckon_X0_put
set_option maxRecDepth 20000 in
theorem ggX2_reckon_X0_take : GoodIn wsX2_reckon wsX0_take := goodIn_r _ [75, 18, 20, 19, 76, 77, 78, 16, 79, 64, 65, 66, 67, 62, 63, 68, 69, 70, 71, 129, 130, 131, 132, 133] (by decide +kernel) (by decide +kernel)
set_option maxRecDepth 20000 in
theorem gX2_reckon_X0_take : GoodIn wsX2_reckon (wsV RX2 134 RX0 yX0_take wsX0_take) := goodIn_app (goodIn_of _ (by decide +kernel)) ggX2_reckon_X0_take
set_option maxRecDepth 20000 in
theorem ggX2_reckon_X2_tally : GoodIn wsX2_reckon wsX2_tally := goodIn_r _ [84, 10, 11, 12, 105, 106, 107, 108, 109, 110, 111, 112, 113, 114, 115, 116, 117] (by decide +kernel) (by decide +kernel)
set_option maxRecDepth 20000 in
theorem gX2_reckon_X2_tally : GoodIn wsX2_reckon (wsV RX2 138 RX2 yX2_tally wsX2_tally) := goodIn_app (goodIn_of _ (by decide +kernel)) ggX2_reckon_X2_tally
set_option maxRecDepth 20000 in
theorem ggX2_reckon_X2_spread : GoodIn wsX2_reckon wsX2_spread := goodIn_r _ [88, 89, 8, 7, 90, 91, 9, 92, 93, 94, 95, 96, 1, 58, 59, 60, 16, 61, 62, 63, 19, 18, 20, 64, 65, 66, 67, 68, 69, 70, 71, 105, 106, 107, 108, 109, 110, 111, 112, 113, 114, 115, 116, 117, 97, 98, 99, 100, 101, 102, 103, 104, 138, 139, 140, 141, 129, 130, 131, 132, 133] (by decide +kernel) (by decide +kernel)
set_option maxRecDepth 20000 in
theorem gX2_reckon_X2_spread : GoodIn wsX2_reckon (wsV RX2 142 RX2 yX2_spread wsX2_spread) := goodIn_app (goodIn_of _ (by decide +kernel)) ggX2_reckon_X2_spread
theorem dX2_reckon_0 : decode cX2_reckon 0 = .ok (.aload_n 1, 1) := by decide +kernel
theorem dX2_reckon_1 : decode cX2_reckon 1 = .ok (.getfield 99, 3) := by decide +kernel
theorem dX2_reckon_4 : decode cX2_reckon 4 = .ok (.invokevirtual 103, 3) := by decide +kernel
theorem dX2_reckon_7 : decode cX2_reckon 7 = .ok (.iconst 0, 1) := by decide +kernel
theorem dX2_reckon_8 : decode cX2_reckon 8 = .ok (.istore_n 2, 1) := by decide +kernel
theorem dX2_reckon_9 : decode cX2_reckon 9 = .ok (.iload_n 2, 1) := by decide +kernel
theorem dX2_reckon_10 : decode cX2_reckon 10 = .ok (.aload_n 0, 1) := by decide +kernel
theorem dX2_reckon_11 : decode cX2_reckon 11 = .ok (.getfield 77, 3) := by decide +kernel
theorem dX2_reckon_14 : decode cX2_reckon 14 = .ok (.if_icmp .ge 86, 3) := by decide +kernel
theorem dX2_reckon_17 : decode cX2_reckon 17 = .ok (.aload_n 0, 1) := by decide +kernel
theorem dX2_reckon_18 : decode cX2_reckon 18 = .ok (.getfield 34, 3) := by decide +kernel
theorem dX2_reckon_21 : decode cX2_reckon 21 = .ok (.aload_n 0, 1) := by decide +kernel
theorem dX2_reckon_22 : decode cX2_reckon 22 = .ok (.getfield 9, 3) := by decide +kernel
theorem dX2_reckon_25 : decode cX2_reckon 25 = .ok (.iload_n 2, 1) := by decide +kernel
theorem dX2_reckon_26 : decode cX2_reckon 26 = .ok (.laload, 1) := by decide +kernel
theorem dX2_reckon_27 : decode cX2_reckon 27 = .ok (.aload_n 1, 1) := by decide +kernel
theorem dX2_reckon_28 : decode cX2_reckon 28 = .ok (.getfield 45, 3) := by decide +kernel
theorem dX2_reckon_31 : decode cX2_reckon 31 = .ok (.getfield 59, 3) := by decide +kernel
theorem dX2_reckon_34 : decode cX2_reckon 34 = .ok (.invokevirtual 108, 3) := by decide +kernel
theorem dX2_reckon_37 : decode cX2_reckon 37 = .ok (.aload_n 1, 1) := by decide +kernel
theorem dX2_reckon_38 : decode cX2_reckon 38 = .ok (.getfield 111, 3) := by decide +kernel
theorem dX2_reckon_41 : decode cX2_reckon 41 = .ok (.aload_n 0, 1) := by decide +kernel
theorem dX2_reckon_42 : decode cX2_reckon 42 = .ok (.getfield 34, 3) := by decide +kernel
theorem dX2_reckon_45 : decode cX2_reckon 45 = .ok (.invokevirtual 115, 3) := by decide +kernel
theorem dX2_reckon_48 : decode cX2_reckon 48 = .ok (.istore_n 3, 1) := by decide +kernel
theorem dX2_reckon_49 : decode cX2_reckon 49 = .ok (.aload_n 0, 1) := by decide +kernel
theorem dX2_reckon_50 : decode cX2_reckon 50 = .ok (.getfield 22, 3) := by decide +kernel
theorem dX2_reckon_53 : decode cX2_reckon 53 = .ok (.iload_n 2, 1) := by decide +kernel
theorem dX2_reckon_54 : decode cX2_reckon 54 = .ok (.iload_n 3, 1) := by decide +kernel
theorem dX2_reckon_55 : decode cX2_reckon 55 = .ok (.ifCond .eq 7, 3) := by decide +kernel
theorem dX2_reckon_58 : decode cX2_reckon 58 = .ok (.iconst 0, 1) := by decide +kernel
theorem dX2_reckon_59 : decode cX2_reckon 59 = .ok (.goto 4, 3) := by decide +kernel
theorem dX2_reckon_62 : decode cX2_reckon 62 = .ok (.iconst (-1), 1) := by decide +kernel
theorem dX2_reckon_63 : decode cX2_reckon 63 = .ok (.iastore, 1) := by decide +kernel
theorem dX2_reckon_64 : decode cX2_reckon 64 = .ok (.aload_n 0, 1) := by decide +kernel
theorem dX2_reckon_65 : decode cX2_reckon 65 = .ok (.getfield 25, 3) := by decide +kernel
theorem dX2_reckon_68 : decode cX2_reckon 68 = .ok (.iload_n 2, 1) := by decide +kernel
theorem dX2_reckon_69 : decode cX2_reckon 69 = .ok (.iload_n 3, 1) := by decide +kernel
theorem dX2_reckon_70 : decode cX2_reckon 70 = .ok (.ifCond .eq 7, 3) := by decide +kernel
theorem dX2_reckon_73 : decode cX2_reckon 73 = .ok (.iconst 1, 1) := by decide +kernel
theorem dX2_reckon_74 : decode cX2_reckon 74 = .ok (.goto 4, 3) := by decide +kernel
theorem dX2_reckon_77 : decode cX2_reckon 77 = .ok (.iconst 0, 1) := by decide +kernel
theorem dX2_reckon_78 : decode cX2_reckon 78 = .ok (.iastore, 1) := by decide +kernel
theorem dX2_reckon_79 : decode cX2_reckon 79 = .ok (.iload_n 3, 1) := by decide +kernel
theorem dX2_reckon_80 : decode cX2_reckon 80 = .ok (.ifCond .eq 14, 3) := by decide +kernel
theorem dX2_reckon_83 : decode cX2_reckon 83 = .ok (.aload_n 1, 1) := by decide +kernel
theorem dX2_reckon_84 : decode cX2_reckon 84 = .ok (.getfield 99, 3) := by decide +kernel
theorem dX2_reckon_87 : decode cX2_reckon 87 = .ok (.iload_n 2, 1) := by decide +kernel
theorem dX2_reckon_88 : decode cX2_reckon 88 = .ok (.lconst 0, 1) := by decide +kernel
theorem dX2_reckon_89 : decode cX2_reckon 89 = .ok (.iload_n 2, 1) := by decide +kernel
theorem dX2_reckon_90 : decode cX2_reckon 90 = .ok (.i2l, 1) := by decide +kernel
theorem dX2_reckon_91 : decode cX2_reckon 91 = .ok (.invokevirtual 121, 3) := by decide +kernel
theorem dX2_reckon_94 : decode cX2_reckon 94 = .ok (.iinc 2 1, 3) := by decide +kernel
theorem dX2_reckon_97 : decode cX2_reckon 97 = .ok (.goto (-88), 3) := by decide +kernel
theorem dX2_reckon_100 : decode cX2_reckon 100 = .ok (.aload_n 0, 1) := by decide +kernel
theorem dX2_reckon_101 : decode cX2_reckon 101 = .ok (.iconst 0, 1) := by decide +kernel
theorem dX2_reckon_102 : decode cX2_reckon 102 = .ok (.putfield 125, 3) := by decide +kernel
theorem dX2_reckon_105 : decode cX2_reckon 105 = .ok (.aload_n 0, 1) := by decide +kernel
theorem dX2_reckon_106 : decode cX2_reckon 106 = .ok (.iconst (-1), 1) := by decide +kernel
theorem dX2_reckon_107 : decode cX2_reckon 107 = .ok (.putfield 128, 3) := by decide +kernel
theorem dX2_reckon_110 : decode cX2_reckon 110 = .ok (.aload_n 0, 1) := by decide +kernel
theorem dX2_reckon_111 : decode cX2_reckon 111 = .ok (.iconst 0, 1) := by decide +kernel
theorem dX2_reckon_112 : decode cX2_reckon 112 = .ok (.putfield 131, 3) := by decide +kernel
theorem dX2_reckon_115 : decode cX2_reckon 115 = .ok (.iconst 0, 1) := by decide +kernel
theorem dX2_reckon_116 : decode cX2_reckon 116 = .ok (.istore_n 2, 1) := by decide +kernel
theorem dX2_reckon_117 : decode cX2_reckon 117 = .ok (.iload_n 2, 1) := by decide +kernel
theorem dX2_reckon_118 : decode cX2_reckon 118 = .ok (.aload_n 0, 1) := by decide +kernel
theorem dX2_reckon_119 : decode cX2_reckon 119 = .ok (.getfield 77, 3) := by decide +kernel
theorem dX2_reckon_122 : decode cX2_reckon 122 = .ok (.if_icmp .ge 39, 3) := by decide +kernel
theorem dX2_reckon_125 : decode cX2_reckon 125 = .ok (.aload_n 1, 1) := by decide +kernel
theorem dX2_reckon_126 : decode cX2_reckon 126 = .ok (.getfield 99, 3) := by decide +kernel
theorem dX2_reckon_129 : decode cX2_reckon 129 = .ok (.invokevirtual 134, 3) := by decide +kernel
theorem dX2_reckon_132 : decode cX2_reckon 132 = .ok (.istore_n 3, 1) := by decide +kernel
theorem dX2_reckon_133 : decode cX2_reckon 133 = .ok (.iload_n 3, 1) := by decide +kernel
theorem dX2_reckon_134 : decode cX2_reckon 134 = .ok (.iconst (-1), 1) := by decide +kernel
theorem dX2_reckon_135 : decode cX2_reckon 135 = .ok (.if_icmp .ne 4, 3) := by decide +kernel
theorem dX2_reckon_138 : decode cX2_reckon 138 = .ok (.return_, 1) := by decide +kernel
theorem dX2_reckon_139 : decode cX2_reckon 139 = .ok (.aload_n 0, 1) := by decide +kernel
theorem dX2_reckon_140 : decode cX2_reckon 140 = .ok (.aload_n 0, 1) := by decide +kernel
theorem dX2_reckon_141 : decode cX2_reckon 141 = .ok (.getfield 22, 3) := by decide +kernel
theorem dX2_reckon_144 : decode cX2_reckon 144 = .ok (.iload_n 3, 1) := by decide +kernel
theorem dX2_reckon_145 : decode cX2_reckon 145 = .ok (.iaload, 1) := by decide +kernel
theorem dX2_reckon_146 : decode cX2_reckon 146 = .ok (.invokevirtual 138, 3) := by decide +kernel
theorem dX2_reckon_149 : decode cX2_reckon 149 = .ok (.aload_n 0, 1) := by decide +kernel
theorem dX2_reckon_150 : decode cX2_reckon 150 = .ok (.aload_n 1, 1) := by decide +kernel
theorem dX2_reckon_151 : decode cX2_reckon 151 = .ok (.iload_n 3, 1) := by decide +kernel
theorem dX2_reckon_152 : decode cX2_reckon 152 = .ok (.invokevirtual 142, 3) := by decide +kernel
theorem dX2_reckon_155 : decode cX2_reckon 155 = .ok (.iinc 2 1, 3) := by decide +kernel
theorem dX2_reckon_158 : decode cX2_reckon 158 = .ok (.goto (-41), 3) := by decide +kernel
theorem dX2_reckon_161 : decode cX2_reckon 161 = .ok (.return_, 1) := by decide +kernel
theorem dX2_tally_0 : decode cX2_tally 0 = .ok (.aload_n 0, 1) := by decide +kernel
theorem dX2_tally_1 : decode cX2_tally 1 = .ok (.dup, 1) := by decide +kernel
theorem dX2_tally_2 : decode cX2_tally 2 = .ok (.getfield 125, 3) := by decide +kernel
theorem dX2_tally_5 : decode cX2_tally 5 = .ok (.iconst 1, 1) := by decide +kernel
theorem dX2_tally_6 : decode cX2_tally 6 = .ok (.iadd, 1) := by decide +kernel
theorem dX2_tally_7 : decode cX2_tally 7 = .ok (.putfield 125, 3) := by decide +kernel
theorem dX2_tally_10 : decode cX2_tally 10 = .ok (.aload_n 0, 1) := by decide +kernel
theorem dX2_tally_11 : decode cX2_tally 11 = .ok (.iload_n 1, 1) := by decide +kernel
theorem dX2_tally_12 : decode cX2_tally 12 = .ok (.aload_n 0, 1) := by decide +kernel
theorem dX2_tally_13 : decode cX2_tally 13 = .ok (.getfield 128, 3) := by decide +kernel
theorem dX2_tally_16 : decode cX2_tally 16 = .ok (.if_icmp .ne 12, 3) := by decide +kernel
theorem dX2_tally_19 : decode cX2_tally 19 = .ok (.aload_n 0, 1) := by decide +kernel
theorem dX2_tally_20 : decode cX2_tally 20 = .ok (.getfield 131, 3) := by decide +kernel
theorem dX2_tally_23 : decode cX2_tally 23 = .ok (.iconst 1, 1) := by decide +kernel
theorem dX2_tally_24 : decode cX2_tally 24 = .ok (.iadd, 1) := by decide +kernel
theorem dX2_tally_25 : decode cX2_tally 25 = .ok (.goto 4, 3) := by decide +kernel
theorem dX2_tally_28 : decode cX2_tally 28 = .ok (.iconst 1, 1) := by decide +kernel
theorem dX2_tally_29 : decode cX2_tally 29 = .ok (.putfield 131, 3) := by decide +kernel
theorem dX2_tally_32 : decode cX2_tally 32 = .ok (.aload_n 0, 1) := by decide +kernel
theorem dX2_tally_33 : decode cX2_tally 33 = .ok (.iload_n 1, 1) := by decide +kernel
theorem dX2_tally_34 : decode cX2_tally 34 = .ok (.putfield 128, 3) := by decide +kernel
theorem dX2_tally_37 : decode cX2_tally 37 = .ok (.return_, 1) := by decide +kernel
set_option maxRecDepth 20000 in
theorem ggX2_spread_X0_put : GoodIn wsX2_spread wsX0_put := goodIn_r _ [17, 18, 19, 20, 21, 22, 23, 24, 25, 16, 26, 27, 28, 29, 30, 56, 57, 58, 59, 60] (by decide +kernel) (by decide +kernel)
set_option maxRecDepth 20000 in
theorem gX2_spread_X0_put : GoodIn wsX2_spread (wsV RX2 121 RX0 yX0_put wsX0_put) := goodIn_app (goodIn_of _ (by decide +kernel)) ggX2_spread_X0_put
theorem dX2_spread_0 : decode cX2_spread 0 = .ok (.iconst 0, 1) := by decide +kernel
theorem dX2_spread_1 : decode cX2_spread 1 = .ok (.istore_n 3, 1) := by decide +kernel
theorem dX2_spread_2 : decode cX2_spread 2 = .ok (.iload_n 3, 1) := by decide +kernel
theorem dX2_spread_3 : decode cX2_spread 3 = .ok (.iconst 3, 1) := by decide +kernel
theorem dX2_spread_4 : decode cX2_spread 4 = .ok (.if_icmp .gt 158, 3) := by decide +kernel
theorem dX2_spread_7 : decode cX2_spread 7 = .ok (.aload_n 0, 1) := by decide +kernel
theorem dX2_spread_8 : decode cX2_spread 8 = .ok (.getfield 15, 3) := by decide +kernel
theorem dX2_spread_11 : decode cX2_spread 11 = .ok (.iload_n 2, 1) := by decide +kernel
theorem dX2_spread_12 : decode cX2_spread 12 = .ok (.iconst 4, 1) := by decide +kernel
theorem dX2_spread_13 : decode cX2_spread 13 = .ok (.imul, 1) := by decide +kernel
theorem dX2_spread_14 : decode cX2_spread 14 = .ok (.iload_n 3, 1) := by decide +kernel
theorem dX2_spread_15 : decode cX2_spread 15 = .ok (.iadd, 1) := by decide +kernel
theorem dX2_spread_16 : decode cX2_spread 16 = .ok (.iaload, 1) := by decide +kernel
theorem dX2_spread_17 : decode cX2_spread 17 = .ok (.istore 4, 2) := by decide +kernel
theorem dX2_spread_19 : decode cX2_spread 19 = .ok (.iload 4, 2) := by decide +kernel
theorem dX2_spread_21 : decode cX2_spread 21 = .ok (.iconst (-1), 1) := by decide +kernel
theorem dX2_spread_22 : decode cX2_spread 22 = .ok (.if_icmp .ne 6, 3) := by decide +kernel
theorem dX2_spread_25 : decode cX2_spread 25 = .ok (.goto 131, 3) := by decide +kernel
theorem dX2_spread_28 : decode cX2_spread 28 = .ok (.aload_n 0, 1) := by decide +kernel
theorem dX2_spread_29 : decode cX2_spread 29 = .ok (.getfield 22, 3) := by decide +kernel
theorem dX2_spread_32 : decode cX2_spread 32 = .ok (.iload_n 2, 1) := by decide +kernel
theorem dX2_spread_33 : decode cX2_spread 33 = .ok (.iaload, 1) := by decide +kernel
theorem dX2_spread_34 : decode cX2_spread 34 = .ok (.aload_n 1, 1) := by decide +kernel
theorem dX2_spread_35 : decode cX2_spread 35 = .ok (.getfield 111, 3) := by decide +kernel
theorem dX2_spread_38 : decode cX2_spread 38 = .ok (.getfield 146, 3) := by decide +kernel
theorem dX2_spread_41 : decode cX2_spread 41 = .ok (.aload_n 0, 1) := by decide +kernel
theorem dX2_spread_42 : decode cX2_spread 42 = .ok (.getfield 19, 3) := by decide +kernel
theorem dX2_spread_45 : decode cX2_spread 45 = .ok (.iload_n 2, 1) := by decide +kernel
theorem dX2_spread_46 : decode cX2_spread 46 = .ok (.iconst 4, 1) := by decide +kernel
theorem dX2_spread_47 : decode cX2_spread 47 = .ok (.imul, 1) := by decide +kernel
theorem dX2_spread_48 : decode cX2_spread 48 = .ok (.iload_n 3, 1) := by decide +kernel
theorem dX2_spread_49 : decode cX2_spread 49 = .ok (.iadd, 1) := by decide +kernel
theorem dX2_spread_50 : decode cX2_spread 50 = .ok (.iaload, 1) := by decide +kernel
theorem dX2_spread_51 : decode cX2_spread 51 = .ok (.iaload, 1) := by decide +kernel
theorem dX2_spread_52 : decode cX2_spread 52 = .ok (.iadd, 1) := by decide +kernel
theorem dX2_spread_53 : decode cX2_spread 53 = .ok (.istore 5, 2) := by decide +kernel
theorem dX2_spread_55 : decode cX2_spread 55 = .ok (.iload 5, 2) := by decide +kernel
theorem dX2_spread_57 : decode cX2_spread 57 = .ok (.aload_n 0, 1) := by decide +kernel
theorem dX2_spread_58 : decode cX2_spread 58 = .ok (.getfield 22, 3) := by decide +kernel
theorem dX2_spread_61 : decode cX2_spread 61 = .ok (.iload 4, 2) := by decide +kernel
theorem dX2_spread_63 : decode cX2_spread 63 = .ok (.iaload, 1) := by decide +kernel
theorem dX2_spread_64 : decode cX2_spread 64 = .ok (.if_icmp .ne 29, 3) := by decide +kernel
theorem dX2_spread_67 : decode cX2_spread 67 = .ok (.aload_n 0, 1) := by decide +kernel
theorem dX2_spread_68 : decode cX2_spread 68 = .ok (.getfield 25, 3) := by decide +kernel
theorem dX2_spread_71 : decode cX2_spread 71 = .ok (.iload 4, 2) := by decide +kernel
theorem dX2_spread_73 : decode cX2_spread 73 = .ok (.ldc 149, 2) := by decide +kernel
theorem dX2_spread_75 : decode cX2_spread 75 = .ok (.aload_n 0, 1) := by decide +kernel
theorem dX2_spread_76 : decode cX2_spread 76 = .ok (.getfield 25, 3) := by decide +kernel
theorem dX2_spread_79 : decode cX2_spread 79 = .ok (.iload 4, 2) := by decide +kernel
theorem dX2_spread_81 : decode cX2_spread 81 = .ok (.iaload, 1) := by decide +kernel
theorem dX2_spread_82 : decode cX2_spread 82 = .ok (.aload_n 0, 1) := by decide +kernel
theorem dX2_spread_83 : decode cX2_spread 83 = .ok (.getfield 25, 3) := by decide +kernel
theorem dX2_spread_86 : decode cX2_spread 86 = .ok (.iload_n 2, 1) := by decide +kernel
theorem dX2_spread_87 : decode cX2_spread 87 = .ok (.iaload, 1) := by decide +kernel
theorem dX2_spread_88 : decode cX2_spread 88 = .ok (.iadd, 1) := by decide +kernel
theorem dX2_spread_89 : decode cX2_spread 89 = .ok (.invokestatic 150, 3) := by decide +kernel
theorem dX2_spread_92 : decode cX2_spread 92 = .ok (.iastore, 1) := by decide +kernel
theorem dX2_spread_93 : decode cX2_spread 93 = .ok (.aload_n 0, 1) := by decide +kernel
theorem dX2_spread_94 : decode cX2_spread 94 = .ok (.getfield 22, 3) := by decide +kernel
theorem dX2_spread_97 : decode cX2_spread 97 = .ok (.iload 4, 2) := by decide +kernel
theorem dX2_spread_99 : decode cX2_spread 99 = .ok (.iaload, 1) := by decide +kernel
theorem dX2_spread_100 : decode cX2_spread 100 = .ok (.iconst (-1), 1) := by decide +kernel
theorem dX2_spread_101 : decode cX2_spread 101 = .ok (.if_icmp .eq 18, 3) := by decide +kernel
theorem dX2_spread_104 : decode cX2_spread 104 = .ok (.aload_n 0, 1) := by decide +kernel
theorem dX2_spread_105 : decode cX2_spread 105 = .ok (.getfield 22, 3) := by decide +kernel
theorem dX2_spread_108 : decode cX2_spread 108 = .ok (.iload 4, 2) := by decide +kernel
theorem dX2_spread_110 : decode cX2_spread 110 = .ok (.iaload, 1) := by decide +kernel
theorem dX2_spread_111 : decode cX2_spread 111 = .ok (.iload 5, 2) := by decide +kernel
theorem dX2_spread_113 : decode cX2_spread 113 = .ok (.if_icmp .gt 6, 3) := by decide +kernel
theorem dX2_spread_116 : decode cX2_spread 116 = .ok (.goto 40, 3) := by decide +kernel
theorem dX2_spread_119 : decode cX2_spread 119 = .ok (.aload_n 0, 1) := by decide +kernel
theorem dX2_spread_120 : decode cX2_spread 120 = .ok (.getfield 22, 3) := by decide +kernel
theorem dX2_spread_123 : decode cX2_spread 123 = .ok (.iload 4, 2) := by decide +kernel
theorem dX2_spread_125 : decode cX2_spread 125 = .ok (.iload 5, 2) := by decide +kernel
theorem dX2_spread_127 : decode cX2_spread 127 = .ok (.iastore, 1) := by decide +kernel
theorem dX2_spread_128 : decode cX2_spread 128 = .ok (.aload_n 0, 1) := by decide +kernel
theorem dX2_spread_129 : decode cX2_spread 129 = .ok (.getfield 25, 3) := by decide +kernel
theorem dX2_spread_132 : decode cX2_spread 132 = .ok (.iload 4, 2) := by decide +kernel
theorem dX2_spread_134 : decode cX2_spread 134 = .ok (.aload_n 0, 1) := by decide +kernel
theorem dX2_spread_135 : decode cX2_spread 135 = .ok (.getfield 25, 3) := by decide +kernel
theorem dX2_spread_138 : decode cX2_spread 138 = .ok (.iload_n 2, 1) := by decide +kernel
theorem dX2_spread_139 : decode cX2_spread 139 = .ok (.iaload, 1) := by decide +kernel
theorem dX2_spread_140 : decode cX2_spread 140 = .ok (.iastore, 1) := by decide +kernel
theorem dX2_spread_141 : decode cX2_spread 141 = .ok (.aload_n 1, 1) := by decide +kernel
theorem dX2_spread_142 : decode cX2_spread 142 = .ok (.getfield 99, 3) := by decide +kernel
theorem dX2_spread_145 : decode cX2_spread 145 = .ok (.iload 4, 2) := by decide +kernel
theorem dX2_spread_147 : decode cX2_spread 147 = .ok (.iload 5, 2) := by decide +kernel
theorem dX2_spread_149 : decode cX2_spread 149 = .ok (.i2l, 1) := by decide +kernel
theorem dX2_spread_150 : decode cX2_spread 150 = .ok (.iload 4, 2) := by decide +kernel
theorem dX2_spread_152 : decode cX2_spread 152 = .ok (.i2l, 1) := by decide +kernel
theorem dX2_spread_153 : decode cX2_spread 153 = .ok (.invokevirtual 121, 3) := by decide +kernel
theorem dX2_spread_156 : decode cX2_spread 156 = .ok (.iinc 3 1, 3) := by decide +kernel
theorem dX2_spread_159 : decode cX2_spread 159 = .ok (.goto (-157), 3) := by decide +kernel
theorem dX2_spread_162 : decode cX2_spread 162 = .ok (.return_, 1) := by decide +kernel
theorem dX2_costAt_0 : decode cX2_costAt 0 = .ok (.lload_n 1, 1) := by decide +kernel
theorem dX2_costAt_1 : decode cX2_costAt 1 = .ok (.lconst 0, 1) := by decide +kernel
theorem dX2_costAt_2 : decode cX2_costAt 2 = .ok (.lcmp, 1) := by decide +kernel
theorem dX2_costAt_3 : decode cX2_costAt 3 = .ok (.ifCond .lt 13, 3) := by decide +kernel
theorem dX2_costAt_6 : decode cX2_costAt 6 = .ok (.lload_n 1, 1) := by decide +kernel
theorem dX2_costAt_7 : decode cX2_costAt 7 = .ok (.aload_n 0, 1) := by decide +kernel
theorem dX2_costAt_8 : decode cX2_costAt 8 = .ok (.getfield 77, 3) := by decide +kernel
theorem dX2_costAt_11 : decode cX2_costAt 11 = .ok (.i2l, 1) := by decide +kernel
theorem dX2_costAt_12 : decode cX2_costAt 12 = .ok (.lcmp, 1) := by decide +kernel
theorem dX2_costAt_13 : decode cX2_costAt 13 = .ok (.ifCond .lt 7, 3) := by decide +kernel
theorem dX2_costAt_16 : decode cX2_costAt 16 = .ok (.iconst (-1), 1) := by decide +kernel
theorem dX2_costAt_17 : decode cX2_costAt 17 = .ok (.goto 10, 3) := by decide +kernel
theorem dX2_costAt_20 : decode cX2_costAt 20 = .ok (.aload_n 0, 1) := by decide +kernel
theorem dX2_costAt_21 : decode cX2_costAt 21 = .ok (.getfield 22, 3) := by decide +kernel
theorem dX2_costAt_24 : decode cX2_costAt 24 = .ok (.lload_n 1, 1) := by decide +kernel
theorem dX2_costAt_25 : decode cX2_costAt 25 = .ok (.l2i, 1) := by decide +kernel
theorem dX2_costAt_26 : decode cX2_costAt 26 = .ok (.iaload, 1) := by decide +kernel
theorem dX2_costAt_27 : decode cX2_costAt 27 = .ok (.ireturn, 1) := by decide +kernel
theorem dX2_waysAt_0 : decode cX2_waysAt 0 = .ok (.lload_n 1, 1) := by decide +kernel
theorem dX2_waysAt_1 : decode cX2_waysAt 1 = .ok (.lconst 0, 1) := by decide +kernel
theorem dX2_waysAt_2 : decode cX2_waysAt 2 = .ok (.lcmp, 1) := by decide +kernel
theorem dX2_waysAt_3 : decode cX2_waysAt 3 = .ok (.ifCond .lt 13, 3) := by decide +kernel
theorem dX2_waysAt_6 : decode cX2_waysAt 6 = .ok (.lload_n 1, 1) := by decide +kernel
theorem dX2_waysAt_7 : decode cX2_waysAt 7 = .ok (.aload_n 0, 1) := by decide +kernel
theorem dX2_waysAt_8 : decode cX2_waysAt 8 = .ok (.getfield 77, 3) := by decide +kernel
theorem dX2_waysAt_11 : decode cX2_waysAt 11 = .ok (.i2l, 1) := by decide +kernel
theorem dX2_waysAt_12 : decode cX2_waysAt 12 = .ok (.lcmp, 1) := by decide +kernel
theorem dX2_waysAt_13 : decode cX2_waysAt 13 = .ok (.ifCond .lt 7, 3) := by decide +kernel
theorem dX2_waysAt_16 : decode cX2_waysAt 16 = .ok (.iconst 0, 1) := by decide +kernel
theorem dX2_waysAt_17 : decode cX2_waysAt 17 = .ok (.goto 10, 3) := by decide +kernel
theorem dX2_waysAt_20 : decode cX2_waysAt 20 = .ok (.aload_n 0, 1) := by decide +kernel
theorem dX2_waysAt_21 : decode cX2_waysAt 21 = .ok (.getfield 25, 3) := by decide +kernel
theorem dX2_waysAt_24 : decode cX2_waysAt 24 = .ok (.lload_n 1, 1) := by decide +kernel
theorem dX2_waysAt_25 : decode cX2_waysAt 25 = .ok (.l2i, 1) := by decide +kernel
theorem dX2_waysAt_26 : decode cX2_waysAt 26 = .ok (.iaload, 1) := by decide +kernel
theorem dX2_waysAt_27 : decode cX2_waysAt 27 = .ok (.ireturn, 1) := by decide +kernel
theorem dX2_leastRankWith_0 : decode cX2_leastRankWith 0 = .ok (.iconst 0, 1) := by decide +kernel
theorem dX2_leastRankWith_1 : decode cX2_leastRankWith 1 = .ok (.istore_n 3, 1) := by decide +kernel
theorem dX2_leastRankWith_2 : decode cX2_leastRankWith 2 = .ok (.iload_n 3, 1) := by decide +kernel
theorem dX2_leastRankWith_3 : decode cX2_leastRankWith 3 = .ok (.aload_n 0, 1) := by decide +kernel
theorem dX2_leastRankWith_4 : decode cX2_leastRankWith 4 = .ok (.getfield 77, 3) := by decide +kernel
theorem dX2_leastRankWith_7 : decode cX2_leastRankWith 7 = .ok (.if_icmp .ge 35, 3) := by decide +kernel
theorem dX2_leastRankWith_10 : decode cX2_leastRankWith 10 = .ok (.aload_n 0, 1) := by decide +kernel
theorem dX2_leastRankWith_11 : decode cX2_leastRankWith 11 = .ok (.getfield 22, 3) := by decide +kernel
theorem dX2_leastRankWith_14 : decode cX2_leastRankWith 14 = .ok (.iload_n 3, 1) := by decide +kernel
theorem dX2_leastRankWith_15 : decode cX2_leastRankWith 15 = .ok (.iaload, 1) := by decide +kernel
theorem dX2_leastRankWith_16 : decode cX2_leastRankWith 16 = .ok (.iload_n 1, 1) := by decide +kernel
theorem dX2_leastRankWith_17 : decode cX2_leastRankWith 17 = .ok (.if_icmp .ne 19, 3) := by decide +kernel
theorem dX2_leastRankWith_20 : decode cX2_leastRankWith 20 = .ok (.iload_n 2, 1) := by decide +kernel
theorem dX2_leastRankWith_21 : decode cX2_leastRankWith 21 = .ok (.ifCond .eq 13, 3) := by decide +kernel
theorem dX2_leastRankWith_24 : decode cX2_leastRankWith 24 = .ok (.aload_n 0, 1) := by decide +kernel
theorem dX2_leastRankWith_25 : decode cX2_leastRankWith 25 = .ok (.getfield 25, 3) := by decide +kernel
theorem dX2_leastRankWith_28 : decode cX2_leastRankWith 28 = .ok (.iload_n 3, 1) := by decide +kernel
theorem dX2_leastRankWith_29 : decode cX2_leastRankWith 29 = .ok (.iaload, 1) := by decide +kernel
theorem dX2_leastRankWith_30 : decode cX2_leastRankWith 30 = .ok (.iconst 1, 1) := by decide +kernel
theorem dX2_leastRankWith_31 : decode cX2_leastRankWith 31 = .ok (.if_icmp .ne 5, 3) := by decide +kernel
theorem dX2_leastRankWith_34 : decode cX2_leastRankWith 34 = .ok (.iload_n 3, 1) := by decide +kernel
theorem dX2_leastRankWith_35 : decode cX2_leastRankWith 35 = .ok (.ireturn, 1) := by decide +kernel
theorem dX2_leastRankWith_36 : decode cX2_leastRankWith 36 = .ok (.iinc 3 1, 3) := by decide +kernel
theorem dX2_leastRankWith_39 : decode cX2_leastRankWith 39 = .ok (.goto (-37), 3) := by decide +kernel
theorem dX2_leastRankWith_42 : decode cX2_leastRankWith 42 = .ok (.iconst (-1), 1) := by decide +kernel
theorem dX2_leastRankWith_43 : decode cX2_leastRankWith 43 = .ok (.ireturn, 1) := by decide +kernel
set_option maxRecDepth 20000 in
theorem ggX2_agreesWith_X7_unpack : GoodIn wsX2_agreesWith wsX7_unpack := goodIn_r _ [13, 14, 15, 16, 17, 12, 18, 19, 20, 21, 22, 23, 24, 25, 26, 27, 28, 152, 153, 154, 155] (by decide +kernel) (by decide +kernel)
set_option maxRecDepth 20000 in
theorem gX2_agreesWith_X7_unpack : GoodIn wsX2_agreesWith (wsV RX2 108 RX7 yX7_unpack wsX7_unpack) := goodIn_app (goodIn_of _ (by decide +kernel)) ggX2_agreesWith_X7_unpack
set_option maxRecDepth 20000 in
theorem ggX2_agreesWith_X9_guess : GoodIn wsX2_agreesWith wsX9_guess := goodIn_r _ [33, 34, 35, 36, 32, 37, 38, 39, 40, 41, 42, 43, 44, 45, 46, 47, 48, 49, 50, 51, 52, 53, 54, 55, 56, 57, 58, 59, 60, 61, 62, 63, 64, 65, 66, 67, 68, 69, 70, 71, 72, 73, 74, 75, 76, 77, 78, 79, 80, 81, 82, 83, 84, 85, 86, 87, 88, 89, 90, 91, 92, 93, 94, 95, 96, 97, 98, 99, 100, 101, 102, 103, 104, 105, 106, 107, 108, 109, 110, 111, 133, 134, 135, 136, 137, 138, 139, 140, 141, 142, 143, 144, 145, 146, 147, 148, 149, 150, 151, 156, 157, 158, 159, 152, 153, 154, 155, 160, 161, 162, 163, 164, 165, 166] (by decide +kernel) (by decide +kernel)
set_option maxRecDepth 20000 in
theorem gX2_agreesWith_X9_guess : GoodIn wsX2_agreesWith (wsV RX2 153 RX9 yX9_guess wsX9_guess) := goodIn_app (goodIn_of _ (by decide +kernel)) ggX2_agreesWith_X9_guess
set_option maxRecDepth 20000 in
theorem ggX2_agreesWith_X2_fallsTooFar : GoodIn wsX2_agreesWith wsX2_fallsTooFar := goodIn_r _ [116, 117, 118, 119, 7, 120, 121, 122, 123, 124, 125, 126, 127, 128, 129, 130, 131, 132, 156, 157, 158, 159] (by decide +kernel) (by decide +kernel)
set_option maxRecDepth 20000 in
theorem gX2_agreesWith_X2_fallsTooFar : GoodIn wsX2_agreesWith (wsV RX2 157 RX2 yX2_fallsTooFar wsX2_fallsTooFar) := goodIn_app (goodIn_of _ (by decide +kernel)) ggX2_agreesWith_X2_fallsTooFar
theorem dX2_agreesWith_0 : decode cX2_agreesWith 0 = .ok (.iconst 0, 1) := by decide +kernel
theorem dX2_agreesWith_1 : decode cX2_agreesWith 1 = .ok (.istore_n 3, 1) := by decide +kernel
theorem dX2_agreesWith_2 : decode cX2_agreesWith 2 = .ok (.iload_n 3, 1) := by decide +kernel
theorem dX2_agreesWith_3 : decode cX2_agreesWith 3 = .ok (.aload_n 0, 1) := by decide +kernel
theorem dX2_agreesWith_4 : decode cX2_agreesWith 4 = .ok (.getfield 77, 3) := by decide +kernel
theorem dX2_agreesWith_7 : decode cX2_agreesWith 7 = .ok (.if_icmp .ge 74, 3) := by decide +kernel
theorem dX2_agreesWith_10 : decode cX2_agreesWith 10 = .ok (.aload_n 0, 1) := by decide +kernel
theorem dX2_agreesWith_11 : decode cX2_agreesWith 11 = .ok (.getfield 22, 3) := by decide +kernel
theorem dX2_agreesWith_14 : decode cX2_agreesWith 14 = .ok (.iload_n 3, 1) := by decide +kernel
theorem dX2_agreesWith_15 : decode cX2_agreesWith 15 = .ok (.iaload, 1) := by decide +kernel
theorem dX2_agreesWith_16 : decode cX2_agreesWith 16 = .ok (.iconst (-1), 1) := by decide +kernel
theorem dX2_agreesWith_17 : decode cX2_agreesWith 17 = .ok (.if_icmp .ne 6, 3) := by decide +kernel
theorem dX2_agreesWith_20 : decode cX2_agreesWith 20 = .ok (.goto 55, 3) := by decide +kernel
theorem dX2_agreesWith_23 : decode cX2_agreesWith 23 = .ok (.aload_n 0, 1) := by decide +kernel
theorem dX2_agreesWith_24 : decode cX2_agreesWith 24 = .ok (.getfield 34, 3) := by decide +kernel
theorem dX2_agreesWith_27 : decode cX2_agreesWith 27 = .ok (.aload_n 0, 1) := by decide +kernel
theorem dX2_agreesWith_28 : decode cX2_agreesWith 28 = .ok (.getfield 9, 3) := by decide +kernel
theorem dX2_agreesWith_31 : decode cX2_agreesWith 31 = .ok (.iload_n 3, 1) := by decide +kernel
theorem dX2_agreesWith_32 : decode cX2_agreesWith 32 = .ok (.laload, 1) := by decide +kernel
theorem dX2_agreesWith_33 : decode cX2_agreesWith 33 = .ok (.aload_n 1, 1) := by decide +kernel
theorem dX2_agreesWith_34 : decode cX2_agreesWith 34 = .ok (.getfield 45, 3) := by decide +kernel
theorem dX2_agreesWith_37 : decode cX2_agreesWith 37 = .ok (.getfield 59, 3) := by decide +kernel
theorem dX2_agreesWith_40 : decode cX2_agreesWith 40 = .ok (.invokevirtual 108, 3) := by decide +kernel
theorem dX2_agreesWith_43 : decode cX2_agreesWith 43 = .ok (.aload_n 0, 1) := by decide +kernel
theorem dX2_agreesWith_44 : decode cX2_agreesWith 44 = .ok (.getfield 28, 3) := by decide +kernel
theorem dX2_agreesWith_47 : decode cX2_agreesWith 47 = .ok (.iload_n 3, 1) := by decide +kernel
theorem dX2_agreesWith_48 : decode cX2_agreesWith 48 = .ok (.aload_n 1, 1) := by decide +kernel
theorem dX2_agreesWith_49 : decode cX2_agreesWith 49 = .ok (.aload_n 0, 1) := by decide +kernel
theorem dX2_agreesWith_50 : decode cX2_agreesWith 50 = .ok (.getfield 34, 3) := by decide +kernel
theorem dX2_agreesWith_53 : decode cX2_agreesWith 53 = .ok (.iload_n 2, 1) := by decide +kernel
theorem dX2_agreesWith_54 : decode cX2_agreesWith 54 = .ok (.invokevirtual 153, 3) := by decide +kernel
theorem dX2_agreesWith_57 : decode cX2_agreesWith 57 = .ok (.iastore, 1) := by decide +kernel
theorem dX2_agreesWith_58 : decode cX2_agreesWith 58 = .ok (.aload_n 0, 1) := by decide +kernel
theorem dX2_agreesWith_59 : decode cX2_agreesWith 59 = .ok (.getfield 28, 3) := by decide +kernel
theorem dX2_agreesWith_62 : decode cX2_agreesWith 62 = .ok (.iload_n 3, 1) := by decide +kernel
theorem dX2_agreesWith_63 : decode cX2_agreesWith 63 = .ok (.iaload, 1) := by decide +kernel
theorem dX2_agreesWith_64 : decode cX2_agreesWith 64 = .ok (.aload_n 0, 1) := by decide +kernel
theorem dX2_agreesWith_65 : decode cX2_agreesWith 65 = .ok (.getfield 22, 3) := by decide +kernel
theorem dX2_agreesWith_68 : decode cX2_agreesWith 68 = .ok (.iload_n 3, 1) := by decide +kernel
theorem dX2_agreesWith_69 : decode cX2_agreesWith 69 = .ok (.iaload, 1) := by decide +kernel
theorem dX2_agreesWith_70 : decode cX2_agreesWith 70 = .ok (.if_icmp .le 5, 3) := by decide +kernel
theorem dX2_agreesWith_73 : decode cX2_agreesWith 73 = .ok (.iconst 0, 1) := by decide +kernel
theorem dX2_agreesWith_74 : decode cX2_agreesWith 74 = .ok (.ireturn, 1) := by decide +kernel
theorem dX2_agreesWith_75 : decode cX2_agreesWith 75 = .ok (.iinc 3 1, 3) := by decide +kernel
theorem dX2_agreesWith_78 : decode cX2_agreesWith 78 = .ok (.goto (-76), 3) := by decide +kernel
theorem dX2_agreesWith_81 : decode cX2_agreesWith 81 = .ok (.iconst 0, 1) := by decide +kernel
theorem dX2_agreesWith_82 : decode cX2_agreesWith 82 = .ok (.istore_n 3, 1) := by decide +kernel
theorem dX2_agreesWith_83 : decode cX2_agreesWith 83 = .ok (.iload_n 3, 1) := by decide +kernel
theorem dX2_agreesWith_84 : decode cX2_agreesWith 84 = .ok (.aload_n 0, 1) := by decide +kernel
theorem dX2_agreesWith_85 : decode cX2_agreesWith 85 = .ok (.getfield 77, 3) := by decide +kernel
theorem dX2_agreesWith_88 : decode cX2_agreesWith 88 = .ok (.if_icmp .ge 33, 3) := by decide +kernel
theorem dX2_agreesWith_91 : decode cX2_agreesWith 91 = .ok (.aload_n 0, 1) := by decide +kernel
theorem dX2_agreesWith_92 : decode cX2_agreesWith 92 = .ok (.getfield 22, 3) := by decide +kernel
theorem dX2_agreesWith_95 : decode cX2_agreesWith 95 = .ok (.iload_n 3, 1) := by decide +kernel
theorem dX2_agreesWith_96 : decode cX2_agreesWith 96 = .ok (.iaload, 1) := by decide +kernel
theorem dX2_agreesWith_97 : decode cX2_agreesWith 97 = .ok (.iconst (-1), 1) := by decide +kernel
theorem dX2_agreesWith_98 : decode cX2_agreesWith 98 = .ok (.if_icmp .eq 17, 3) := by decide +kernel
theorem dX2_agreesWith_101 : decode cX2_agreesWith 101 = .ok (.aload_n 0, 1) := by decide +kernel
theorem dX2_agreesWith_102 : decode cX2_agreesWith 102 = .ok (.aload_n 1, 1) := by decide +kernel
theorem dX2_agreesWith_103 : decode cX2_agreesWith 103 = .ok (.getfield 111, 3) := by decide +kernel
theorem dX2_agreesWith_106 : decode cX2_agreesWith 106 = .ok (.iload_n 3, 1) := by decide +kernel
theorem dX2_agreesWith_107 : decode cX2_agreesWith 107 = .ok (.invokevirtual 157, 3) := by decide +kernel
theorem dX2_agreesWith_110 : decode cX2_agreesWith 110 = .ok (.ifCond .eq 5, 3) := by decide +kernel
theorem dX2_agreesWith_113 : decode cX2_agreesWith 113 = .ok (.iconst 0, 1) := by decide +kernel
theorem dX2_agreesWith_114 : decode cX2_agreesWith 114 = .ok (.ireturn, 1) := by decide +kernel
theorem dX2_agreesWith_115 : decode cX2_agreesWith 115 = .ok (.iinc 3 1, 3) := by decide +kernel
theorem dX2_agreesWith_118 : decode cX2_agreesWith 118 = .ok (.goto (-35), 3) := by decide +kernel
theorem dX2_agreesWith_121 : decode cX2_agreesWith 121 = .ok (.iconst 1, 1) := by decide +kernel
theorem dX2_agreesWith_122 : decode cX2_agreesWith 122 = .ok (.ireturn, 1) := by decide +kernel
theorem dX2_fallsTooFar_0 : decode cX2_fallsTooFar 0 = .ok (.iconst 0, 1) := by decide +kernel
theorem dX2_fallsTooFar_1 : decode cX2_fallsTooFar 1 = .ok (.istore_n 3, 1) := by decide +kernel
theorem dX2_fallsTooFar_2 : decode cX2_fallsTooFar 2 = .ok (.iload_n 3, 1) := by decide +kernel
theorem dX2_fallsTooFar_3 : decode cX2_fallsTooFar 3 = .ok (.iconst 3, 1) := by decide +kernel
theorem dX2_fallsTooFar_4 : decode cX2_fallsTooFar 4 = .ok (.if_icmp .gt 68, 3) := by decide +kernel
theorem dX2_fallsTooFar_7 : decode cX2_fallsTooFar 7 = .ok (.aload_n 0, 1) := by decide +kernel
theorem dX2_fallsTooFar_8 : decode cX2_fallsTooFar 8 = .ok (.getfield 15, 3) := by decide +kernel
theorem dX2_fallsTooFar_11 : decode cX2_fallsTooFar 11 = .ok (.iload_n 2, 1) := by decide +kernel
theorem dX2_fallsTooFar_12 : decode cX2_fallsTooFar 12 = .ok (.iconst 4, 1) := by decide +kernel
theorem dX2_fallsTooFar_13 : decode cX2_fallsTooFar 13 = .ok (.imul, 1) := by decide +kernel
theorem dX2_fallsTooFar_14 : decode cX2_fallsTooFar 14 = .ok (.iload_n 3, 1) := by decide +kernel
theorem dX2_fallsTooFar_15 : decode cX2_fallsTooFar 15 = .ok (.iadd, 1) := by decide +kernel
theorem dX2_fallsTooFar_16 : decode cX2_fallsTooFar 16 = .ok (.iaload, 1) := by decide +kernel
theorem dX2_fallsTooFar_17 : decode cX2_fallsTooFar 17 = .ok (.istore 4, 2) := by decide +kernel
theorem dX2_fallsTooFar_19 : decode cX2_fallsTooFar 19 = .ok (.iload 4, 2) := by decide +kernel
theorem dX2_fallsTooFar_21 : decode cX2_fallsTooFar 21 = .ok (.iconst (-1), 1) := by decide +kernel
theorem dX2_fallsTooFar_22 : decode cX2_fallsTooFar 22 = .ok (.if_icmp .ne 6, 3) := by decide +kernel
theorem dX2_fallsTooFar_25 : decode cX2_fallsTooFar 25 = .ok (.goto 41, 3) := by decide +kernel
theorem dX2_fallsTooFar_28 : decode cX2_fallsTooFar 28 = .ok (.aload_n 1, 1) := by decide +kernel
theorem dX2_fallsTooFar_29 : decode cX2_fallsTooFar 29 = .ok (.getfield 146, 3) := by decide +kernel
theorem dX2_fallsTooFar_32 : decode cX2_fallsTooFar 32 = .ok (.aload_n 0, 1) := by decide +kernel
theorem dX2_fallsTooFar_33 : decode cX2_fallsTooFar 33 = .ok (.getfield 19, 3) := by decide +kernel
theorem dX2_fallsTooFar_36 : decode cX2_fallsTooFar 36 = .ok (.iload_n 2, 1) := by decide +kernel
theorem dX2_fallsTooFar_37 : decode cX2_fallsTooFar 37 = .ok (.iconst 4, 1) := by decide +kernel
theorem dX2_fallsTooFar_38 : decode cX2_fallsTooFar 38 = .ok (.imul, 1) := by decide +kernel
theorem dX2_fallsTooFar_39 : decode cX2_fallsTooFar 39 = .ok (.iload_n 3, 1) := by decide +kernel
theorem dX2_fallsTooFar_40 : decode cX2_fallsTooFar 40 = .ok (.iadd, 1) := by decide +kernel
theorem dX2_fallsTooFar_41 : decode cX2_fallsTooFar 41 = .ok (.iaload, 1) := by decide +kernel
theorem dX2_fallsTooFar_42 : decode cX2_fallsTooFar 42 = .ok (.iaload, 1) := by decide +kernel
theorem dX2_fallsTooFar_43 : decode cX2_fallsTooFar 43 = .ok (.istore 5, 2) := by decide +kernel
theorem dX2_fallsTooFar_45 : decode cX2_fallsTooFar 45 = .ok (.aload_n 0, 1) := by decide +kernel
theorem dX2_fallsTooFar_46 : decode cX2_fallsTooFar 46 = .ok (.getfield 28, 3) := by decide +kernel
theorem dX2_fallsTooFar_49 : decode cX2_fallsTooFar 49 = .ok (.iload_n 2, 1) := by decide +kernel
theorem dX2_fallsTooFar_50 : decode cX2_fallsTooFar 50 = .ok (.iaload, 1) := by decide +kernel
theorem dX2_fallsTooFar_51 : decode cX2_fallsTooFar 51 = .ok (.aload_n 0, 1) := by decide +kernel
theorem dX2_fallsTooFar_52 : decode cX2_fallsTooFar 52 = .ok (.getfield 28, 3) := by decide +kernel
theorem dX2_fallsTooFar_55 : decode cX2_fallsTooFar 55 = .ok (.iload 4, 2) := by decide +kernel
theorem dX2_fallsTooFar_57 : decode cX2_fallsTooFar 57 = .ok (.iaload, 1) := by decide +kernel
theorem dX2_fallsTooFar_58 : decode cX2_fallsTooFar 58 = .ok (.isub, 1) := by decide +kernel
theorem dX2_fallsTooFar_59 : decode cX2_fallsTooFar 59 = .ok (.iload 5, 2) := by decide +kernel
theorem dX2_fallsTooFar_61 : decode cX2_fallsTooFar 61 = .ok (.if_icmp .le 5, 3) := by decide +kernel
theorem dX2_fallsTooFar_64 : decode cX2_fallsTooFar 64 = .ok (.iconst 1, 1) := by decide +kernel
theorem dX2_fallsTooFar_65 : decode cX2_fallsTooFar 65 = .ok (.ireturn, 1) := by decide +kernel
theorem dX2_fallsTooFar_66 : decode cX2_fallsTooFar 66 = .ok (.iinc 3 1, 3) := by decide +kernel
theorem dX2_fallsTooFar_69 : decode cX2_fallsTooFar 69 = .ok (.goto (-67), 3) := by decide +kernel
theorem dX2_fallsTooFar_72 : decode cX2_fallsTooFar 72 = .ok (.iconst 0, 1) := by decide +kernel
theorem dX2_fallsTooFar_73 : decode cX2_fallsTooFar 73 = .ok (.ireturn, 1) := by decide +kernel
set_option maxRecDepth 20000 in
theorem ggX3_init_X6_init : GoodIn wsX3_init wsX6_init := goodIn_r _ [19, 20, 2, 3, 21, 22, 8, 23, 24, 25, 26, 27, 28, 29, 36, 37, 38, 39, 40] (by decide +kernel) (by decide +kernel)
set_option maxRecDepth 20000 in
theorem gX3_init_X6_init : GoodIn wsX3_init (wsX6_init) := ggX3_init_X6_init
set_option maxRecDepth 20000 in
theorem ggX3_init_X7_init : GoodIn wsX3_init wsX7_init := goodIn_r _ [32, 33, 2, 3, 8, 34, 35, 49, 50, 51, 52] (by decide +kernel) (by decide +kernel)
set_option maxRecDepth 20000 in
theorem gX3_init_X7_init : GoodIn wsX3_init (wsX7_init) := ggX3_init_X7_init
theorem dX3_init_0 : decode cX3_init 0 = .ok (.aload_n 0, 1) := by decide +kernel
theorem dX3_init_1 : decode cX3_init 1 = .ok (.invokespecial 3, 3) := by decide +kernel
theorem dX3_init_4 : decode cX3_init 4 = .ok (.aload_n 0, 1) := by decide +kernel
theorem dX3_init_5 : decode cX3_init 5 = .ok (.new 9, 3) := by decide +kernel
theorem dX3_init_8 : decode cX3_init 8 = .ok (.dup, 1) := by decide +kernel
theorem dX3_init_9 : decode cX3_init 9 = .ok (.sipush 3002, 3) := by decide +kernel
theorem dX3_init_12 : decode cX3_init 12 = .ok (.bipush 13, 2) := by decide +kernel
theorem dX3_init_14 : decode cX3_init 14 = .ok (.invokespecial 11, 3) := by decide +kernel
theorem dX3_init_17 : decode cX3_init 17 = .ok (.putfield 14, 3) := by decide +kernel
theorem dX3_init_20 : decode cX3_init 20 = .ok (.aload_n 0, 1) := by decide +kernel
theorem dX3_init_21 : decode cX3_init 21 = .ok (.sipush 3002, 3) := by decide +kernel
theorem dX3_init_24 : decode cX3_init 24 = .ok (.newarray .int, 2) := by decide +kernel
theorem dX3_init_26 : decode cX3_init 26 = .ok (.putfield 20, 3) := by decide +kernel
theorem dX3_init_29 : decode cX3_init 29 = .ok (.aload_n 0, 1) := by decide +kernel
theorem dX3_init_30 : decode cX3_init 30 = .ok (.sipush 3002, 3) := by decide +kernel
theorem dX3_init_33 : decode cX3_init 33 = .ok (.newarray .int, 2) := by decide +kernel
theorem dX3_init_35 : decode cX3_init 35 = .ok (.putfield 24, 3) := by decide +kernel
theorem dX3_init_38 : decode cX3_init 38 = .ok (.aload_n 0, 1) := by decide +kernel
theorem dX3_init_39 : decode cX3_init 39 = .ok (.sipush 3002, 3) := by decide +kernel
theorem dX3_init_42 : decode cX3_init 42 = .ok (.newarray .int, 2) := by decide +kernel
theorem dX3_init_44 : decode cX3_init 44 = .ok (.putfield 27, 3) := by decide +kernel
theorem dX3_init_47 : decode cX3_init 47 = .ok (.aload_n 0, 1) := by decide +kernel
theorem dX3_init_48 : decode cX3_init 48 = .ok (.sipush 3002, 3) := by decide +kernel
theorem dX3_init_51 : decode cX3_init 51 = .ok (.newarray .int, 2) := by decide +kernel
theorem dX3_init_53 : decode cX3_init 53 = .ok (.putfield 30, 3) := by decide +kernel
theorem dX3_init_56 : decode cX3_init 56 = .ok (.aload_n 0, 1) := by decide +kernel
theorem dX3_init_57 : decode cX3_init 57 = .ok (.new 33, 3) := by decide +kernel
theorem dX3_init_60 : decode cX3_init 60 = .ok (.dup, 1) := by decide +kernel
theorem dX3_init_61 : decode cX3_init 61 = .ok (.invokespecial 35, 3) := by decide +kernel
theorem dX3_init_64 : decode cX3_init 64 = .ok (.putfield 36, 3) := by decide +kernel
theorem dX3_init_67 : decode cX3_init 67 = .ok (.return_, 1) := by decide +kernel
set_option maxRecDepth 20000 in
theorem ggX3_seek_X6_clear : GoodIn wsX3_seek wsX6_clear := goodIn_r _ [14, 15, 16, 17, 226, 227, 228, 229, 230] (by decide +kernel) (by decide +kernel)
set_option maxRecDepth 20000 in
theorem gX3_seek_X6_clear : GoodIn wsX3_seek (wsV RX3 40 RX6 yX6_clear wsX6_clear) := goodIn_app (goodIn_of _ (by decide +kernel)) ggX3_seek_X6_clear
set_option maxRecDepth 20000 in
theorem ggX3_seek_X0_clear : GoodIn wsX3_seek wsX0_clear := goodIn_r _ [22, 23, 24, 25, 235, 236, 237, 238, 239] (by decide +kernel) (by decide +kernel)
set_option maxRecDepth 20000 in
theorem gX3_seek_X0_clear : GoodIn wsX3_seek (wsV RX3 49 RX0 yX0_clear wsX0_clear) := goodIn_app (goodIn_of _ (by decide +kernel)) ggX3_seek_X0_clear
set_option maxRecDepth 20000 in
theorem ggX3_seek_X7_copy : GoodIn wsX3_seek wsX7_copy := goodIn_r _ [30, 31, 32, 33, 34, 35, 36, 37, 38, 231, 232, 233, 234] (by decide +kernel) (by decide +kernel)
set_option maxRecDepth 20000 in
theorem gX3_seek_X7_copy : GoodIn wsX3_seek (wsV RX3 59 RX7 yX7_copy wsX7_copy) := goodIn_app (goodIn_of _ (by decide +kernel)) ggX3_seek_X7_copy
set_option maxRecDepth 20000 in
theorem ggX3_seek_X3_meet : GoodIn wsX3_seek wsX3_meet := goodIn_r _ [43, 1, 44, 5, 45, 9, 46, 47, 48, 2, 49, 50, 51, 52, 13, 53, 54, 55, 16, 56, 57, 58, 59, 60, 15, 17, 61, 62, 63, 64, 65, 66, 67, 68, 69, 70, 71, 72, 73, 74, 75, 76, 77, 78, 79, 80, 81, 82, 83, 84, 85, 86, 87, 88, 89, 90, 91, 92, 93, 94, 95, 96, 97, 98, 99, 100, 101, 102, 103, 104, 105, 106, 107, 108, 109, 110, 111, 112, 113, 114, 115, 116, 117, 118, 119, 120, 121, 122, 123, 124, 125, 126, 127, 128, 129, 130, 131, 132, 133, 134, 135, 136, 137, 138, 139, 140, 141, 142, 143, 144, 145, 146, 21, 147, 148, 149, 24, 23, 25, 150, 151, 152, 153, 154, 155, 156, 157, 210, 211, 212, 213, 214, 215, 216, 217, 226, 227, 228, 229, 230, 231, 232, 233, 234, 218, 219, 220, 221, 222, 223, 224, 225, 240, 241, 242, 243, 244, 245, 246, 247, 248, 249, 250, 251, 252, 253, 254, 255, 256, 257, 258, 259, 260, 261, 235, 236, 237, 238, 239] (by decide +kernel) (by decide +kernel)
set_option maxRecDepth 20000 in
theorem gX3_seek_X3_meet : GoodIn wsX3_seek (wsV RX3 63 RX3 yX3_meet wsX3_meet) := goodIn_app (goodIn_of _ (by decide +kernel)) ggX3_seek_X3_meet
set_option maxRecDepth 20000 in
theorem ggX3_seek_X0_take : GoodIn wsX3_seek wsX0_take := goodIn_r _ [161, 23, 25, 24, 162, 163, 164, 21, 165, 150, 151, 152, 153, 148, 149, 154, 155, 156, 157, 235, 236, 237, 238, 239] (by decide +kernel) (by decide +kernel)
set_option maxRecDepth 20000 in
theorem gX3_seek_X0_take : GoodIn wsX3_seek (wsV RX3 67 RX0 yX0_take wsX0_take) := goodIn_app (goodIn_of _ (by decide +kernel)) ggX3_seek_X0_take
set_option maxRecDepth 20000 in
theorem ggX3_seek_X7_unpack : GoodIn wsX3_seek wsX7_unpack := goodIn_r _ [169, 31, 32, 170, 171, 29, 172, 173, 174, 175, 176, 177, 178, 179, 180, 33, 38, 231, 232, 233, 234] (by decide +kernel) (by decide +kernel)
set_option maxRecDepth 20000 in
theorem gX3_seek_X7_unpack : GoodIn wsX3_seek (wsV RX3 78 RX7 yX7_unpack wsX7_unpack) := goodIn_app (goodIn_of _ (by decide +kernel)) ggX3_seek_X7_unpack
set_option maxRecDepth 20000 in
theorem ggX3_seek_X1_isReachedBy : GoodIn wsX3_seek wsX1_isReachedBy := goodIn_r _ [184, 185, 186, 75, 76, 77, 78, 79, 187, 81, 82, 83, 84, 85, 251, 252, 253, 254, 231, 232, 233, 234] (by decide +kernel) (by decide +kernel)
set_option maxRecDepth 20000 in
theorem gX3_seek_X1_isReachedBy : GoodIn wsX3_seek (wsV RX3 86 RX1 yX1_isReachedBy wsX1_isReachedBy) := goodIn_app (goodIn_of _ (by decide +kernel)) ggX3_seek_X1_isReachedBy
set_option maxRecDepth 20000 in
theorem ggX3_seek_X3_spread : GoodIn wsX3_seek wsX3_spread := goodIn_r _ [191, 5, 192, 9, 8, 193, 194, 195, 196, 29, 197, 38, 33, 32, 198, 199, 200, 95, 201, 202, 177, 178, 179, 180, 203, 204, 205, 206, 31, 170, 171, 172, 39, 40, 41, 42, 43, 1, 44, 45, 46, 47, 48, 2, 49, 50, 51, 52, 13, 53, 54, 55, 16, 56, 57, 58, 59, 60, 15, 17, 61, 62, 63, 64, 65, 66, 67, 68, 69, 70, 71, 72, 73, 74, 75, 76, 77, 78, 79, 80, 81, 82, 83, 84, 85, 86, 87, 88, 89, 90, 91, 92, 93, 94, 96, 97, 98, 99, 100, 101, 102, 103, 104, 105, 106, 107, 108, 109, 110, 111, 112, 113, 114, 115, 116, 117, 118, 119, 120, 121, 122, 123, 124, 125, 126, 127, 128, 129, 130, 131, 132, 133, 134, 135, 136, 137, 138, 139, 140, 141, 142, 143, 144, 145, 146, 21, 147, 148, 149, 24, 23, 25, 150, 151, 152, 153, 154, 155, 156, 157, 207, 208, 209, 210, 211, 212, 213, 214, 215, 216, 217, 218, 219, 220, 221, 222, 223, 224, 225, 251, 252, 253, 254, 231, 232, 233, 234, 240, 241, 242, 243, 244, 245, 246, 247, 248, 249, 250, 226, 227, 228, 229, 230, 255, 256, 257, 258, 259, 260, 261, 235, 236, 237, 238, 239] (by decide +kernel) (by decide +kernel)
set_option maxRecDepth 20000 in
theorem gX3_seek_X3_spread : GoodIn wsX3_seek (wsV RX3 92 RX3 yX3_spread wsX3_spread) := goodIn_app (goodIn_of _ (by decide +kernel)) ggX3_seek_X3_spread
theorem dX3_seek_0 : decode cX3_seek 0 = .ok (.aload_n 0, 1) := by decide +kernel
theorem dX3_seek_1 : decode cX3_seek 1 = .ok (.getfield 14, 3) := by decide +kernel
theorem dX3_seek_4 : decode cX3_seek 4 = .ok (.invokevirtual 40, 3) := by decide +kernel
theorem dX3_seek_7 : decode cX3_seek 7 = .ok (.aload_n 1, 1) := by decide +kernel
theorem dX3_seek_8 : decode cX3_seek 8 = .ok (.getfield 43, 3) := by decide +kernel
theorem dX3_seek_11 : decode cX3_seek 11 = .ok (.invokevirtual 49, 3) := by decide +kernel
theorem dX3_seek_14 : decode cX3_seek 14 = .ok (.aload_n 0, 1) := by decide +kernel
theorem dX3_seek_15 : decode cX3_seek 15 = .ok (.iconst 0, 1) := by decide +kernel
theorem dX3_seek_16 : decode cX3_seek 16 = .ok (.putfield 52, 3) := by decide +kernel
theorem dX3_seek_19 : decode cX3_seek 19 = .ok (.aload_n 0, 1) := by decide +kernel
theorem dX3_seek_20 : decode cX3_seek 20 = .ok (.iconst (-1), 1) := by decide +kernel
theorem dX3_seek_21 : decode cX3_seek 21 = .ok (.putfield 56, 3) := by decide +kernel
theorem dX3_seek_24 : decode cX3_seek 24 = .ok (.aload_n 0, 1) := by decide +kernel
theorem dX3_seek_25 : decode cX3_seek 25 = .ok (.getfield 36, 3) := by decide +kernel
theorem dX3_seek_28 : decode cX3_seek 28 = .ok (.aload_n 2, 1) := by decide +kernel
theorem dX3_seek_29 : decode cX3_seek 29 = .ok (.invokevirtual 59, 3) := by decide +kernel
theorem dX3_seek_32 : decode cX3_seek 32 = .ok (.aload_n 0, 1) := by decide +kernel
theorem dX3_seek_33 : decode cX3_seek 33 = .ok (.aload_n 1, 1) := by decide +kernel
theorem dX3_seek_34 : decode cX3_seek 34 = .ok (.iload_n 3, 1) := by decide +kernel
theorem dX3_seek_35 : decode cX3_seek 35 = .ok (.iconst (-1), 1) := by decide +kernel
theorem dX3_seek_36 : decode cX3_seek 36 = .ok (.iconst (-1), 1) := by decide +kernel
theorem dX3_seek_37 : decode cX3_seek 37 = .ok (.iconst 0, 1) := by decide +kernel
theorem dX3_seek_38 : decode cX3_seek 38 = .ok (.invokevirtual 63, 3) := by decide +kernel
theorem dX3_seek_41 : decode cX3_seek 41 = .ok (.iconst 0, 1) := by decide +kernel
theorem dX3_seek_42 : decode cX3_seek 42 = .ok (.istore 5, 2) := by decide +kernel
theorem dX3_seek_44 : decode cX3_seek 44 = .ok (.iload 5, 2) := by decide +kernel
theorem dX3_seek_46 : decode cX3_seek 46 = .ok (.iload 4, 2) := by decide +kernel
theorem dX3_seek_48 : decode cX3_seek 48 = .ok (.if_icmp .ge 93, 3) := by decide +kernel
theorem dX3_seek_51 : decode cX3_seek 51 = .ok (.aload_n 1, 1) := by decide +kernel
theorem dX3_seek_52 : decode cX3_seek 52 = .ok (.getfield 43, 3) := by decide +kernel
theorem dX3_seek_55 : decode cX3_seek 55 = .ok (.invokevirtual 67, 3) := by decide +kernel
theorem dX3_seek_58 : decode cX3_seek 58 = .ok (.istore 6, 2) := by decide +kernel
theorem dX3_seek_60 : decode cX3_seek 60 = .ok (.iload 6, 2) := by decide +kernel
theorem dX3_seek_62 : decode cX3_seek 62 = .ok (.iconst (-1), 1) := by decide +kernel
theorem dX3_seek_63 : decode cX3_seek 63 = .ok (.if_icmp .ne 5, 3) := by decide +kernel
theorem dX3_seek_66 : decode cX3_seek 66 = .ok (.iconst (-1), 1) := by decide +kernel
theorem dX3_seek_67 : decode cX3_seek 67 = .ok (.ireturn, 1) := by decide +kernel
theorem dX3_seek_68 : decode cX3_seek 68 = .ok (.aload_n 0, 1) := by decide +kernel
theorem dX3_seek_69 : decode cX3_seek 69 = .ok (.dup, 1) := by decide +kernel
theorem dX3_seek_70 : decode cX3_seek 70 = .ok (.getfield 52, 3) := by decide +kernel
theorem dX3_seek_73 : decode cX3_seek 73 = .ok (.iconst 1, 1) := by decide +kernel
theorem dX3_seek_74 : decode cX3_seek 74 = .ok (.iadd, 1) := by decide +kernel
theorem dX3_seek_75 : decode cX3_seek 75 = .ok (.putfield 52, 3) := by decide +kernel
theorem dX3_seek_78 : decode cX3_seek 78 = .ok (.aload_n 0, 1) := by decide +kernel
theorem dX3_seek_79 : decode cX3_seek 79 = .ok (.getfield 36, 3) := by decide +kernel
theorem dX3_seek_82 : decode cX3_seek 82 = .ok (.aload_n 0, 1) := by decide +kernel
theorem dX3_seek_83 : decode cX3_seek 83 = .ok (.getfield 14, 3) := by decide +kernel
theorem dX3_seek_86 : decode cX3_seek 86 = .ok (.getfield 71, 3) := by decide +kernel
theorem dX3_seek_89 : decode cX3_seek 89 = .ok (.iload 6, 2) := by decide +kernel
theorem dX3_seek_91 : decode cX3_seek 91 = .ok (.laload, 1) := by decide +kernel
theorem dX3_seek_92 : decode cX3_seek 92 = .ok (.aload_n 2, 1) := by decide +kernel
theorem dX3_seek_93 : decode cX3_seek 93 = .ok (.getfield 75, 3) := by decide +kernel
theorem dX3_seek_96 : decode cX3_seek 96 = .ok (.invokevirtual 78, 3) := by decide +kernel
theorem dX3_seek_99 : decode cX3_seek 99 = .ok (.aload_n 1, 1) := by decide +kernel
theorem dX3_seek_100 : decode cX3_seek 100 = .ok (.getfield 82, 3) := by decide +kernel
theorem dX3_seek_103 : decode cX3_seek 103 = .ok (.aload_n 0, 1) := by decide +kernel
theorem dX3_seek_104 : decode cX3_seek 104 = .ok (.getfield 36, 3) := by decide +kernel
theorem dX3_seek_107 : decode cX3_seek 107 = .ok (.invokevirtual 86, 3) := by decide +kernel
theorem dX3_seek_110 : decode cX3_seek 110 = .ok (.ifCond .eq 17, 3) := by decide +kernel
theorem dX3_seek_113 : decode cX3_seek 113 = .ok (.aload_n 0, 1) := by decide +kernel
theorem dX3_seek_114 : decode cX3_seek 114 = .ok (.iload 6, 2) := by decide +kernel
theorem dX3_seek_116 : decode cX3_seek 116 = .ok (.putfield 56, 3) := by decide +kernel
theorem dX3_seek_119 : decode cX3_seek 119 = .ok (.aload_n 0, 1) := by decide +kernel
theorem dX3_seek_120 : decode cX3_seek 120 = .ok (.getfield 20, 3) := by decide +kernel
theorem dX3_seek_123 : decode cX3_seek 123 = .ok (.iload 6, 2) := by decide +kernel
theorem dX3_seek_125 : decode cX3_seek 125 = .ok (.iaload, 1) := by decide +kernel
theorem dX3_seek_126 : decode cX3_seek 126 = .ok (.ireturn, 1) := by decide +kernel
theorem dX3_seek_127 : decode cX3_seek 127 = .ok (.aload_n 0, 1) := by decide +kernel
theorem dX3_seek_128 : decode cX3_seek 128 = .ok (.aload_n 1, 1) := by decide +kernel
theorem dX3_seek_129 : decode cX3_seek 129 = .ok (.iload_n 3, 1) := by decide +kernel
theorem dX3_seek_130 : decode cX3_seek 130 = .ok (.iload 6, 2) := by decide +kernel
theorem dX3_seek_132 : decode cX3_seek 132 = .ok (.invokevirtual 92, 3) := by decide +kernel
theorem dX3_seek_135 : decode cX3_seek 135 = .ok (.iinc 5 1, 3) := by decide +kernel
theorem dX3_seek_138 : decode cX3_seek 138 = .ok (.goto (-94), 3) := by decide +kernel
theorem dX3_seek_141 : decode cX3_seek 141 = .ok (.aload_n 1, 1) := by decide +kernel
theorem dX3_seek_142 : decode cX3_seek 142 = .ok (.getfield 43, 3) := by decide +kernel
theorem dX3_seek_145 : decode cX3_seek 145 = .ok (.invokevirtual 67, 3) := by decide +kernel
theorem dX3_seek_148 : decode cX3_seek 148 = .ok (.iconst (-1), 1) := by decide +kernel
theorem dX3_seek_149 : decode cX3_seek 149 = .ok (.if_icmp .ne 7, 3) := by decide +kernel
theorem dX3_seek_152 : decode cX3_seek 152 = .ok (.iconst (-1), 1) := by decide +kernel
theorem dX3_seek_153 : decode cX3_seek 153 = .ok (.goto 5, 3) := by decide +kernel
theorem dX3_seek_156 : decode cX3_seek 156 = .ok (.bipush (-2), 2) := by decide +kernel
theorem dX3_seek_158 : decode cX3_seek 158 = .ok (.ireturn, 1) := by decide +kernel
set_option maxRecDepth 20000 in
theorem ggX3_spread_X7_shift : GoodIn wsX3_spread wsX7_shift := goodIn_r _ [10, 11, 12, 13, 14, 15, 16, 17, 18, 19, 20, 21, 22, 9, 23, 24, 25, 26, 27, 28, 29, 30, 31, 183, 184, 185, 186, 187, 188, 189, 190, 191, 192, 193, 194, 195, 196, 197] (by decide +kernel) (by decide +kernel)
set_option maxRecDepth 20000 in
theorem gX3_spread_X7_shift : GoodIn wsX3_spread (wsV RX3 100 RX7 yX7_shift wsX7_shift) := goodIn_app (goodIn_of _ (by decide +kernel)) ggX3_spread_X7_shift
set_option maxRecDepth 20000 in
theorem ggX3_spread_X3_meet : GoodIn wsX3_spread wsX3_meet := goodIn_r _ [36, 37, 38, 1, 39, 3, 40, 41, 42, 43, 44, 45, 46, 47, 48, 49, 50, 51, 52, 53, 54, 55, 56, 57, 58, 59, 60, 61, 62, 63, 64, 65, 66, 67, 68, 69, 70, 71, 72, 73, 74, 75, 76, 77, 78, 79, 80, 81, 82, 83, 84, 85, 86, 87, 88, 89, 90, 91, 92, 93, 17, 94, 95, 96, 97, 98, 99, 100, 101, 102, 103, 104, 105, 106, 107, 108, 109, 110, 111, 112, 113, 114, 115, 116, 117, 118, 119, 120, 121, 122, 123, 124, 125, 126, 127, 128, 129, 130, 131, 132, 133, 134, 135, 136, 137, 138, 139, 140, 141, 142, 143, 144, 145, 146, 147, 148, 149, 150, 151, 152, 153, 154, 155, 156, 157, 158, 159, 163, 164, 165, 166, 167, 168, 169, 170, 198, 199, 200, 201, 202, 183, 184, 185, 186, 171, 172, 173, 174, 175, 176, 177, 178, 187, 188, 189, 190, 191, 192, 193, 194, 195, 196, 197, 179, 180, 181, 182, 203, 204, 205, 206, 207, 208, 209, 210, 211, 212, 213, 214] (by decide +kernel) (by decide +kernel)
set_option maxRecDepth 20000 in
theorem gX3_spread_X3_meet : GoodIn wsX3_spread (wsV RX3 63 RX3 yX3_meet wsX3_meet) := goodIn_app (goodIn_of _ (by decide +kernel)) ggX3_spread_X3_meet
set_option maxRecDepth 20000 in
theorem ggX3_spread_X11_opposite : GoodIn wsX3_spread wsX11_opposite := goodIn_r _ [162] (by decide +kernel) (by decide +kernel)
set_option maxRecDepth 20000 in
theorem gX3_spread_X11_opposite_n107 : GoodIn wsX3_spread (wsX11_opposite) := ggX3_spread_X11_opposite
theorem dX3_spread_0 : decode cX3_spread 0 = .ok (.iconst 0, 1) := by decide +kernel
theorem dX3_spread_1 : decode cX3_spread 1 = .ok (.istore 4, 2) := by decide +kernel
theorem dX3_spread_3 : decode cX3_spread 3 = .ok (.iload 4, 2) := by decide +kernel
theorem dX3_spread_5 : decode cX3_spread 5 = .ok (.iconst 3, 1) := by decide +kernel
theorem dX3_spread_6 : decode cX3_spread 6 = .ok (.if_icmp .gt 75, 3) := by decide +kernel
theorem dX3_spread_9 : decode cX3_spread 9 = .ok (.aload_n 0, 1) := by decide +kernel
theorem dX3_spread_10 : decode cX3_spread 10 = .ok (.getfield 36, 3) := by decide +kernel
theorem dX3_spread_13 : decode cX3_spread 13 = .ok (.aload_n 1, 1) := by decide +kernel
theorem dX3_spread_14 : decode cX3_spread 14 = .ok (.getfield 96, 3) := by decide +kernel
theorem dX3_spread_17 : decode cX3_spread 17 = .ok (.iload 4, 2) := by decide +kernel
theorem dX3_spread_19 : decode cX3_spread 19 = .ok (.invokevirtual 100, 3) := by decide +kernel
theorem dX3_spread_22 : decode cX3_spread 22 = .ok (.istore 5, 2) := by decide +kernel
theorem dX3_spread_24 : decode cX3_spread 24 = .ok (.iload 5, 2) := by decide +kernel
theorem dX3_spread_26 : decode cX3_spread 26 = .ok (.ifCond .ne 6, 3) := by decide +kernel
theorem dX3_spread_29 : decode cX3_spread 29 = .ok (.goto 46, 3) := by decide +kernel
theorem dX3_spread_32 : decode cX3_spread 32 = .ok (.aload_n 0, 1) := by decide +kernel
theorem dX3_spread_33 : decode cX3_spread 33 = .ok (.aload_n 1, 1) := by decide +kernel
theorem dX3_spread_34 : decode cX3_spread 34 = .ok (.iload_n 2, 1) := by decide +kernel
theorem dX3_spread_35 : decode cX3_spread 35 = .ok (.iload_n 3, 1) := by decide +kernel
theorem dX3_spread_36 : decode cX3_spread 36 = .ok (.iload 4, 2) := by decide +kernel
theorem dX3_spread_38 : decode cX3_spread 38 = .ok (.aload_n 0, 1) := by decide +kernel
theorem dX3_spread_39 : decode cX3_spread 39 = .ok (.getfield 20, 3) := by decide +kernel
theorem dX3_spread_42 : decode cX3_spread 42 = .ok (.iload_n 3, 1) := by decide +kernel
theorem dX3_spread_43 : decode cX3_spread 43 = .ok (.iaload, 1) := by decide +kernel
theorem dX3_spread_44 : decode cX3_spread 44 = .ok (.aload_n 1, 1) := by decide +kernel
theorem dX3_spread_45 : decode cX3_spread 45 = .ok (.getfield 82, 3) := by decide +kernel
theorem dX3_spread_48 : decode cX3_spread 48 = .ok (.getfield 104, 3) := by decide +kernel
theorem dX3_spread_51 : decode cX3_spread 51 = .ok (.iload 5, 2) := by decide +kernel
theorem dX3_spread_53 : decode cX3_spread 53 = .ok (.iaload, 1) := by decide +kernel
theorem dX3_spread_54 : decode cX3_spread 54 = .ok (.iadd, 1) := by decide +kernel
theorem dX3_spread_55 : decode cX3_spread 55 = .ok (.invokevirtual 63, 3) := by decide +kernel
theorem dX3_spread_58 : decode cX3_spread 58 = .ok (.aload_n 0, 1) := by decide +kernel
theorem dX3_spread_59 : decode cX3_spread 59 = .ok (.getfield 36, 3) := by decide +kernel
theorem dX3_spread_62 : decode cX3_spread 62 = .ok (.aload_n 1, 1) := by decide +kernel
theorem dX3_spread_63 : decode cX3_spread 63 = .ok (.getfield 96, 3) := by decide +kernel
theorem dX3_spread_66 : decode cX3_spread 66 = .ok (.iload 4, 2) := by decide +kernel
theorem dX3_spread_68 : decode cX3_spread 68 = .ok (.invokestatic 107, 3) := by decide +kernel
theorem dX3_spread_71 : decode cX3_spread 71 = .ok (.invokevirtual 100, 3) := by decide +kernel
theorem dX3_spread_74 : decode cX3_spread 74 = .ok (.pop, 1) := by decide +kernel
theorem dX3_spread_75 : decode cX3_spread 75 = .ok (.iinc 4 1, 3) := by decide +kernel
theorem dX3_spread_78 : decode cX3_spread 78 = .ok (.goto (-75), 3) := by decide +kernel
theorem dX3_spread_81 : decode cX3_spread 81 = .ok (.return_, 1) := by decide +kernel
set_option maxRecDepth 20000 in
theorem ggX3_meet_X6_enter : GoodIn wsX3_meet wsX6_enter := goodIn_r _ [15, 16, 17, 18, 19, 20, 21, 22, 14, 23, 24, 25, 135, 136, 137, 138, 139] (by decide +kernel) (by decide +kernel)
set_option maxRecDepth 20000 in
theorem gX3_meet_X6_enter : GoodIn wsX3_meet (wsV RX3 117 RX6 yX6_enter wsX6_enter) := goodIn_app (goodIn_of _ (by decide +kernel)) ggX3_meet_X6_enter
set_option maxRecDepth 20000 in
theorem ggX3_meet_X9_guess : GoodIn wsX3_meet wsX9_guess := goodIn_r _ [30, 31, 32, 33, 29, 34, 35, 36, 37, 38, 39, 40, 41, 42, 43, 44, 45, 46, 47, 48, 49, 50, 51, 52, 53, 54, 55, 56, 57, 58, 59, 60, 61, 62, 63, 64, 65, 66, 67, 68, 69, 70, 71, 72, 73, 74, 75, 76, 77, 78, 79, 80, 81, 82, 83, 84, 85, 86, 87, 88, 89, 90, 91, 92, 93, 94, 95, 96, 97, 98, 99, 100, 101, 102, 103, 104, 105, 106, 107, 108, 144, 145, 146, 147, 148, 149, 150, 151, 152, 153, 154, 155, 156, 157, 158, 159, 160, 161, 162, 163, 164, 165, 166, 140, 141, 142, 143, 167, 168, 169, 170, 171, 172, 173] (by decide +kernel) (by decide +kernel)
set_option maxRecDepth 20000 in
theorem gX3_meet_X9_guess : GoodIn wsX3_meet (wsV RX3 121 RX9 yX9_guess wsX9_guess) := goodIn_app (goodIn_of _ (by decide +kernel)) ggX3_meet_X9_guess
set_option maxRecDepth 20000 in
theorem ggX3_meet_X0_put : GoodIn wsX3_meet wsX0_put := goodIn_r _ [113, 114, 115, 116, 117, 118, 119, 120, 121, 112, 122, 123, 124, 125, 126, 174, 175, 176, 177, 178] (by decide +kernel) (by decide +kernel)
set_option maxRecDepth 20000 in
theorem gX3_meet_X0_put : GoodIn wsX3_meet (wsV RX3 127 RX0 yX0_put wsX0_put) := goodIn_app (goodIn_of _ (by decide +kernel)) ggX3_meet_X0_put
theorem dX3_meet_0 : decode cX3_meet 0 = .ok (.aload_n 0, 1) := by decide +kernel
theorem dX3_meet_1 : decode cX3_meet 1 = .ok (.getfield 14, 3) := by decide +kernel
theorem dX3_meet_4 : decode cX3_meet 4 = .ok (.getfield 111, 3) := by decide +kernel
theorem dX3_meet_7 : decode cX3_meet 7 = .ok (.istore 6, 2) := by decide +kernel
theorem dX3_meet_9 : decode cX3_meet 9 = .ok (.aload_n 0, 1) := by decide +kernel
theorem dX3_meet_10 : decode cX3_meet 10 = .ok (.getfield 14, 3) := by decide +kernel
theorem dX3_meet_13 : decode cX3_meet 13 = .ok (.aload_n 0, 1) := by decide +kernel
theorem dX3_meet_14 : decode cX3_meet 14 = .ok (.getfield 36, 3) := by decide +kernel
theorem dX3_meet_17 : decode cX3_meet 17 = .ok (.getfield 114, 3) := by decide +kernel
theorem dX3_meet_20 : decode cX3_meet 20 = .ok (.invokevirtual 117, 3) := by decide +kernel
theorem dX3_meet_23 : decode cX3_meet 23 = .ok (.istore 7, 2) := by decide +kernel
theorem dX3_meet_25 : decode cX3_meet 25 = .ok (.iload 7, 2) := by decide +kernel
theorem dX3_meet_27 : decode cX3_meet 27 = .ok (.iconst (-1), 1) := by decide +kernel
theorem dX3_meet_28 : decode cX3_meet 28 = .ok (.if_icmp .ne 4, 3) := by decide +kernel
theorem dX3_meet_31 : decode cX3_meet 31 = .ok (.return_, 1) := by decide +kernel
theorem dX3_meet_32 : decode cX3_meet 32 = .ok (.aload_n 0, 1) := by decide +kernel
theorem dX3_meet_33 : decode cX3_meet 33 = .ok (.getfield 14, 3) := by decide +kernel
theorem dX3_meet_36 : decode cX3_meet 36 = .ok (.getfield 111, 3) := by decide +kernel
theorem dX3_meet_39 : decode cX3_meet 39 = .ok (.iload 6, 2) := by decide +kernel
theorem dX3_meet_41 : decode cX3_meet 41 = .ok (.if_icmp .le 7, 3) := by decide +kernel
theorem dX3_meet_44 : decode cX3_meet 44 = .ok (.iconst 1, 1) := by decide +kernel
theorem dX3_meet_45 : decode cX3_meet 45 = .ok (.goto 4, 3) := by decide +kernel
theorem dX3_meet_48 : decode cX3_meet 48 = .ok (.iconst 0, 1) := by decide +kernel
theorem dX3_meet_49 : decode cX3_meet 49 = .ok (.istore 8, 2) := by decide +kernel
theorem dX3_meet_51 : decode cX3_meet 51 = .ok (.iload 8, 2) := by decide +kernel
theorem dX3_meet_53 : decode cX3_meet 53 = .ok (.ifCond .ne 16, 3) := by decide +kernel
theorem dX3_meet_56 : decode cX3_meet 56 = .ok (.iload 5, 2) := by decide +kernel
theorem dX3_meet_58 : decode cX3_meet 58 = .ok (.aload_n 0, 1) := by decide +kernel
theorem dX3_meet_59 : decode cX3_meet 59 = .ok (.getfield 20, 3) := by decide +kernel
theorem dX3_meet_62 : decode cX3_meet 62 = .ok (.iload 7, 2) := by decide +kernel
theorem dX3_meet_64 : decode cX3_meet 64 = .ok (.iaload, 1) := by decide +kernel
theorem dX3_meet_65 : decode cX3_meet 65 = .ok (.if_icmp .lt 4, 3) := by decide +kernel
theorem dX3_meet_68 : decode cX3_meet 68 = .ok (.return_, 1) := by decide +kernel
theorem dX3_meet_69 : decode cX3_meet 69 = .ok (.iload 8, 2) := by decide +kernel
theorem dX3_meet_71 : decode cX3_meet 71 = .ok (.ifCond .eq 19, 3) := by decide +kernel
theorem dX3_meet_74 : decode cX3_meet 74 = .ok (.aload_n 0, 1) := by decide +kernel
theorem dX3_meet_75 : decode cX3_meet 75 = .ok (.getfield 24, 3) := by decide +kernel
theorem dX3_meet_78 : decode cX3_meet 78 = .ok (.iload 7, 2) := by decide +kernel
theorem dX3_meet_80 : decode cX3_meet 80 = .ok (.aload_n 1, 1) := by decide +kernel
theorem dX3_meet_81 : decode cX3_meet 81 = .ok (.aload_n 0, 1) := by decide +kernel
theorem dX3_meet_82 : decode cX3_meet 82 = .ok (.getfield 36, 3) := by decide +kernel
theorem dX3_meet_85 : decode cX3_meet 85 = .ok (.iload_n 2, 1) := by decide +kernel
theorem dX3_meet_86 : decode cX3_meet 86 = .ok (.invokevirtual 121, 3) := by decide +kernel
theorem dX3_meet_89 : decode cX3_meet 89 = .ok (.iastore, 1) := by decide +kernel
theorem dX3_meet_90 : decode cX3_meet 90 = .ok (.aload_n 0, 1) := by decide +kernel
theorem dX3_meet_91 : decode cX3_meet 91 = .ok (.getfield 20, 3) := by decide +kernel
theorem dX3_meet_94 : decode cX3_meet 94 = .ok (.iload 7, 2) := by decide +kernel
theorem dX3_meet_96 : decode cX3_meet 96 = .ok (.iload 5, 2) := by decide +kernel
theorem dX3_meet_98 : decode cX3_meet 98 = .ok (.iastore, 1) := by decide +kernel
theorem dX3_meet_99 : decode cX3_meet 99 = .ok (.aload_n 0, 1) := by decide +kernel
theorem dX3_meet_100 : decode cX3_meet 100 = .ok (.getfield 27, 3) := by decide +kernel
theorem dX3_meet_103 : decode cX3_meet 103 = .ok (.iload 7, 2) := by decide +kernel
theorem dX3_meet_105 : decode cX3_meet 105 = .ok (.iload_n 3, 1) := by decide +kernel
theorem dX3_meet_106 : decode cX3_meet 106 = .ok (.iastore, 1) := by decide +kernel
theorem dX3_meet_107 : decode cX3_meet 107 = .ok (.aload_n 0, 1) := by decide +kernel
theorem dX3_meet_108 : decode cX3_meet 108 = .ok (.getfield 30, 3) := by decide +kernel
theorem dX3_meet_111 : decode cX3_meet 111 = .ok (.iload 7, 2) := by decide +kernel
theorem dX3_meet_113 : decode cX3_meet 113 = .ok (.iload 4, 2) := by decide +kernel
theorem dX3_meet_115 : decode cX3_meet 115 = .ok (.iastore, 1) := by decide +kernel
theorem dX3_meet_116 : decode cX3_meet 116 = .ok (.iload 5, 2) := by decide +kernel
theorem dX3_meet_118 : decode cX3_meet 118 = .ok (.aload_n 0, 1) := by decide +kernel
theorem dX3_meet_119 : decode cX3_meet 119 = .ok (.getfield 24, 3) := by decide +kernel
theorem dX3_meet_122 : decode cX3_meet 122 = .ok (.iload 7, 2) := by decide +kernel
theorem dX3_meet_124 : decode cX3_meet 124 = .ok (.iaload, 1) := by decide +kernel
theorem dX3_meet_125 : decode cX3_meet 125 = .ok (.iadd, 1) := by decide +kernel
theorem dX3_meet_126 : decode cX3_meet 126 = .ok (.i2l, 1) := by decide +kernel
theorem dX3_meet_127 : decode cX3_meet 127 = .ok (.bipush 32, 2) := by decide +kernel
theorem dX3_meet_129 : decode cX3_meet 129 = .ok (.lshl, 1) := by decide +kernel
theorem dX3_meet_130 : decode cX3_meet 130 = .ok (.aload_n 0, 1) := by decide +kernel
theorem dX3_meet_131 : decode cX3_meet 131 = .ok (.getfield 24, 3) := by decide +kernel
theorem dX3_meet_134 : decode cX3_meet 134 = .ok (.iload 7, 2) := by decide +kernel
theorem dX3_meet_136 : decode cX3_meet 136 = .ok (.iaload, 1) := by decide +kernel
theorem dX3_meet_137 : decode cX3_meet 137 = .ok (.i2l, 1) := by decide +kernel
theorem dX3_meet_138 : decode cX3_meet 138 = .ok (.lor, 1) := by decide +kernel
theorem dX3_meet_139 : decode cX3_meet 139 = .ok (.lstore 9, 2) := by decide +kernel
theorem dX3_meet_141 : decode cX3_meet 141 = .ok (.aload_n 1, 1) := by decide +kernel
theorem dX3_meet_142 : decode cX3_meet 142 = .ok (.getfield 43, 3) := by decide +kernel
theorem dX3_meet_145 : decode cX3_meet 145 = .ok (.iload 7, 2) := by decide +kernel
theorem dX3_meet_147 : decode cX3_meet 147 = .ok (.lload 9, 2) := by decide +kernel
theorem dX3_meet_149 : decode cX3_meet 149 = .ok (.aload_n 0, 1) := by decide +kernel
theorem dX3_meet_150 : decode cX3_meet 150 = .ok (.getfield 36, 3) := by decide +kernel
theorem dX3_meet_153 : decode cX3_meet 153 = .ok (.getfield 114, 3) := by decide +kernel
theorem dX3_meet_156 : decode cX3_meet 156 = .ok (.ldc2_w 125, 3) := by decide +kernel
theorem dX3_meet_159 : decode cX3_meet 159 = .ok (.lxor, 1) := by decide +kernel
theorem dX3_meet_160 : decode cX3_meet 160 = .ok (.invokevirtual 127, 3) := by decide +kernel
theorem dX3_meet_163 : decode cX3_meet 163 = .ok (.return_, 1) := by decide +kernel
theorem dX3_copyWay_0 : decode cX3_copyWay 0 = .ok (.aload_n 0, 1) := by decide +kernel
theorem dX3_copyWay_1 : decode cX3_copyWay 1 = .ok (.getfield 56, 3) := by decide +kernel
theorem dX3_copyWay_4 : decode cX3_copyWay 4 = .ok (.iconst (-1), 1) := by decide +kernel
theorem dX3_copyWay_5 : decode cX3_copyWay 5 = .ok (.if_icmp .ne 5, 3) := by decide +kernel
theorem dX3_copyWay_8 : decode cX3_copyWay 8 = .ok (.iconst 0, 1) := by decide +kernel
theorem dX3_copyWay_9 : decode cX3_copyWay 9 = .ok (.ireturn, 1) := by decide +kernel
theorem dX3_copyWay_10 : decode cX3_copyWay 10 = .ok (.iconst 0, 1) := by decide +kernel
theorem dX3_copyWay_11 : decode cX3_copyWay 11 = .ok (.istore_n 2, 1) := by decide +kernel
theorem dX3_copyWay_12 : decode cX3_copyWay 12 = .ok (.aload_n 0, 1) := by decide +kernel
theorem dX3_copyWay_13 : decode cX3_copyWay 13 = .ok (.getfield 56, 3) := by decide +kernel
theorem dX3_copyWay_16 : decode cX3_copyWay 16 = .ok (.istore_n 3, 1) := by decide +kernel
theorem dX3_copyWay_17 : decode cX3_copyWay 17 = .ok (.aload_n 0, 1) := by decide +kernel
theorem dX3_copyWay_18 : decode cX3_copyWay 18 = .ok (.getfield 27, 3) := by decide +kernel
theorem dX3_copyWay_21 : decode cX3_copyWay 21 = .ok (.iload_n 3, 1) := by decide +kernel
theorem dX3_copyWay_22 : decode cX3_copyWay 22 = .ok (.iaload, 1) := by decide +kernel
theorem dX3_copyWay_23 : decode cX3_copyWay 23 = .ok (.iconst (-1), 1) := by decide +kernel
theorem dX3_copyWay_24 : decode cX3_copyWay 24 = .ok (.if_icmp .eq 22, 3) := by decide +kernel
theorem dX3_copyWay_27 : decode cX3_copyWay 27 = .ok (.iload_n 2, 1) := by decide +kernel
theorem dX3_copyWay_28 : decode cX3_copyWay 28 = .ok (.aload_n 1, 1) := by decide +kernel
theorem dX3_copyWay_29 : decode cX3_copyWay 29 = .ok (.arraylength, 1) := by decide +kernel
theorem dX3_copyWay_30 : decode cX3_copyWay 30 = .ok (.if_icmp .ge 16, 3) := by decide +kernel
theorem dX3_copyWay_33 : decode cX3_copyWay 33 = .ok (.iinc 2 1, 3) := by decide +kernel
theorem dX3_copyWay_36 : decode cX3_copyWay 36 = .ok (.aload_n 0, 1) := by decide +kernel
theorem dX3_copyWay_37 : decode cX3_copyWay 37 = .ok (.getfield 27, 3) := by decide +kernel
theorem dX3_copyWay_40 : decode cX3_copyWay 40 = .ok (.iload_n 3, 1) := by decide +kernel
theorem dX3_copyWay_41 : decode cX3_copyWay 41 = .ok (.iaload, 1) := by decide +kernel
theorem dX3_copyWay_42 : decode cX3_copyWay 42 = .ok (.istore_n 3, 1) := by decide +kernel
theorem dX3_copyWay_43 : decode cX3_copyWay 43 = .ok (.goto (-26), 3) := by decide +kernel
theorem dX3_copyWay_46 : decode cX3_copyWay 46 = .ok (.aload_n 0, 1) := by decide +kernel
theorem dX3_copyWay_47 : decode cX3_copyWay 47 = .ok (.getfield 56, 3) := by decide +kernel
theorem dX3_copyWay_50 : decode cX3_copyWay 50 = .ok (.istore_n 3, 1) := by decide +kernel
theorem dX3_copyWay_51 : decode cX3_copyWay 51 = .ok (.iload_n 2, 1) := by decide +kernel
theorem dX3_copyWay_52 : decode cX3_copyWay 52 = .ok (.iconst 1, 1) := by decide +kernel
theorem dX3_copyWay_53 : decode cX3_copyWay 53 = .ok (.isub, 1) := by decide +kernel
theorem dX3_copyWay_54 : decode cX3_copyWay 54 = .ok (.istore 4, 2) := by decide +kernel
theorem dX3_copyWay_56 : decode cX3_copyWay 56 = .ok (.iload 4, 2) := by decide +kernel
theorem dX3_copyWay_58 : decode cX3_copyWay 58 = .ok (.ifCond .lt 26, 3) := by decide +kernel
theorem dX3_copyWay_61 : decode cX3_copyWay 61 = .ok (.aload_n 1, 1) := by decide +kernel
theorem dX3_copyWay_62 : decode cX3_copyWay 62 = .ok (.iload 4, 2) := by decide +kernel
theorem dX3_copyWay_64 : decode cX3_copyWay 64 = .ok (.aload_n 0, 1) := by decide +kernel
theorem dX3_copyWay_65 : decode cX3_copyWay 65 = .ok (.getfield 30, 3) := by decide +kernel
theorem dX3_copyWay_68 : decode cX3_copyWay 68 = .ok (.iload_n 3, 1) := by decide +kernel
theorem dX3_copyWay_69 : decode cX3_copyWay 69 = .ok (.iaload, 1) := by decide +kernel
theorem dX3_copyWay_70 : decode cX3_copyWay 70 = .ok (.iastore, 1) := by decide +kernel
theorem dX3_copyWay_71 : decode cX3_copyWay 71 = .ok (.aload_n 0, 1) := by decide +kernel
theorem dX3_copyWay_72 : decode cX3_copyWay 72 = .ok (.getfield 27, 3) := by decide +kernel
theorem dX3_copyWay_75 : decode cX3_copyWay 75 = .ok (.iload_n 3, 1) := by decide +kernel
theorem dX3_copyWay_76 : decode cX3_copyWay 76 = .ok (.iaload, 1) := by decide +kernel
theorem dX3_copyWay_77 : decode cX3_copyWay 77 = .ok (.istore_n 3, 1) := by decide +kernel
theorem dX3_copyWay_78 : decode cX3_copyWay 78 = .ok (.iinc 4 (-1), 3) := by decide +kernel
theorem dX3_copyWay_81 : decode cX3_copyWay 81 = .ok (.goto (-25), 3) := by decide +kernel
theorem dX3_copyWay_84 : decode cX3_copyWay 84 = .ok (.iload_n 2, 1) := by decide +kernel
theorem dX3_copyWay_85 : decode cX3_copyWay 85 = .ok (.ireturn, 1) := by decide +kernel
theorem dX4_init_0 : decode cX4_init 0 = .ok (.aload_n 0, 1) := by decide +kernel
theorem dX4_init_1 : decode cX4_init 1 = .ok (.invokespecial 3, 3) := by decide +kernel
theorem dX4_init_4 : decode cX4_init 4 = .ok (.aload_n 0, 1) := by decide +kernel
theorem dX4_init_5 : decode cX4_init 5 = .ok (.bipush 16, 2) := by decide +kernel
theorem dX4_init_7 : decode cX4_init 7 = .ok (.newarray .int, 2) := by decide +kernel
theorem dX4_init_9 : decode cX4_init 9 = .ok (.putfield 9, 3) := by decide +kernel
theorem dX4_init_12 : decode cX4_init 12 = .ok (.aload_n 0, 1) := by decide +kernel
theorem dX4_init_13 : decode cX4_init 13 = .ok (.bipush 16, 2) := by decide +kernel
theorem dX4_init_15 : decode cX4_init 15 = .ok (.newarray .int, 2) := by decide +kernel
theorem dX4_init_17 : decode cX4_init 17 = .ok (.putfield 15, 3) := by decide +kernel
theorem dX4_init_20 : decode cX4_init 20 = .ok (.aload_n 0, 1) := by decide +kernel
theorem dX4_init_21 : decode cX4_init 21 = .ok (.bipush 64, 2) := by decide +kernel
theorem dX4_init_23 : decode cX4_init 23 = .ok (.newarray .int, 2) := by decide +kernel
theorem dX4_init_25 : decode cX4_init 25 = .ok (.putfield 18, 3) := by decide +kernel
theorem dX4_init_28 : decode cX4_init 28 = .ok (.aload_n 0, 1) := by decide +kernel
theorem dX4_init_29 : decode cX4_init 29 = .ok (.sipush 256, 3) := by decide +kernel
theorem dX4_init_32 : decode cX4_init 32 = .ok (.newarray .int, 2) := by decide +kernel
theorem dX4_init_34 : decode cX4_init 34 = .ok (.putfield 21, 3) := by decide +kernel
theorem dX4_init_37 : decode cX4_init 37 = .ok (.aload_n 0, 1) := by decide +kernel
theorem dX4_init_38 : decode cX4_init 38 = .ok (.bipush 8, 2) := by decide +kernel
theorem dX4_init_40 : decode cX4_init 40 = .ok (.newarray .int, 2) := by decide +kernel
theorem dX4_init_42 : decode cX4_init 42 = .ok (.putfield 24, 3) := by decide +kernel
theorem dX4_init_45 : decode cX4_init 45 = .ok (.aload_n 0, 1) := by decide +kernel
theorem dX4_init_46 : decode cX4_init 46 = .ok (.bipush 32, 2) := by decide +kernel
theorem dX4_init_48 : decode cX4_init 48 = .ok (.newarray .int, 2) := by decide +kernel
theorem dX4_init_50 : decode cX4_init 50 = .ok (.putfield 27, 3) := by decide +kernel
theorem dX4_init_53 : decode cX4_init 53 = .ok (.aload_n 0, 1) := by decide +kernel
theorem dX4_init_54 : decode cX4_init 54 = .ok (.sipush 128, 3) := by decide +kernel
theorem dX4_init_57 : decode cX4_init 57 = .ok (.newarray .int, 2) := by decide +kernel
theorem dX4_init_59 : decode cX4_init 59 = .ok (.putfield 30, 3) := by decide +kernel
theorem dX4_init_62 : decode cX4_init 62 = .ok (.return_, 1) := by decide +kernel
set_option maxRecDepth 20000 in
theorem ggX4_isTray_J6_bitCount_0f7a4 : GoodIn wsX4_isTray wsJ6_bitCount_0f7a4 := goodIn_r _ [4, 5, 6, 7] (by decide +kernel) (by decide +kernel)
set_option maxRecDepth 20000 in
theorem gX4_isTray_J6_bitCount_0f7a4 : GoodIn wsX4_isTray (va_wsS RX4 33 yJ6_bitCount_0f7a4 wsJ6_bitCount_0f7a4) := goodIn_app (goodIn_of _ (by decide +kernel)) ggX4_isTray_J6_bitCount_0f7a4
set_option maxRecDepth 20000 in
theorem ggX4_isTray_X4_isConnected : GoodIn wsX4_isTray wsX4_isConnected := goodIn_r _ [11] (by decide +kernel) (by decide +kernel)
set_option maxRecDepth 20000 in
theorem gX4_isTray_X4_isConnected : GoodIn wsX4_isTray (va_wsS RX4 39 yX4_isConnected wsX4_isConnected) := goodIn_app (goodIn_of _ (by decide +kernel)) ggX4_isTray_X4_isConnected
theorem dX4_isTray_0 : decode cX4_isTray 0 = .ok (.iload_n 0, 1) := by decide +kernel
theorem dX4_isTray_1 : decode cX4_isTray 1 = .ok (.iconst 2, 1) := by decide +kernel
theorem dX4_isTray_2 : decode cX4_isTray 2 = .ok (.if_icmp .lt 8, 3) := by decide +kernel
theorem dX4_isTray_5 : decode cX4_isTray 5 = .ok (.iload_n 0, 1) := by decide +kernel
theorem dX4_isTray_6 : decode cX4_isTray 6 = .ok (.iconst 4, 1) := by decide +kernel
theorem dX4_isTray_7 : decode cX4_isTray 7 = .ok (.if_icmp .le 5, 3) := by decide +kernel
theorem dX4_isTray_10 : decode cX4_isTray 10 = .ok (.iconst 0, 1) := by decide +kernel
theorem dX4_isTray_11 : decode cX4_isTray 11 = .ok (.ireturn, 1) := by decide +kernel
theorem dX4_isTray_12 : decode cX4_isTray 12 = .ok (.iload_n 1, 1) := by decide +kernel
theorem dX4_isTray_13 : decode cX4_isTray 13 = .ok (.iconst 2, 1) := by decide +kernel
theorem dX4_isTray_14 : decode cX4_isTray 14 = .ok (.if_icmp .lt 8, 3) := by decide +kernel
theorem dX4_isTray_17 : decode cX4_isTray 17 = .ok (.iload_n 1, 1) := by decide +kernel
theorem dX4_isTray_18 : decode cX4_isTray 18 = .ok (.iconst 4, 1) := by decide +kernel
theorem dX4_isTray_19 : decode cX4_isTray 19 = .ok (.if_icmp .le 5, 3) := by decide +kernel
theorem dX4_isTray_22 : decode cX4_isTray 22 = .ok (.iconst 0, 1) := by decide +kernel
theorem dX4_isTray_23 : decode cX4_isTray 23 = .ok (.ireturn, 1) := by decide +kernel
theorem dX4_isTray_24 : decode cX4_isTray 24 = .ok (.iconst 1, 1) := by decide +kernel
theorem dX4_isTray_25 : decode cX4_isTray 25 = .ok (.iload_n 0, 1) := by decide +kernel
theorem dX4_isTray_26 : decode cX4_isTray 26 = .ok (.iload_n 1, 1) := by decide +kernel
theorem dX4_isTray_27 : decode cX4_isTray 27 = .ok (.imul, 1) := by decide +kernel
theorem dX4_isTray_28 : decode cX4_isTray 28 = .ok (.ishl, 1) := by decide +kernel
theorem dX4_isTray_29 : decode cX4_isTray 29 = .ok (.iconst 1, 1) := by decide +kernel
theorem dX4_isTray_30 : decode cX4_isTray 30 = .ok (.isub, 1) := by decide +kernel
theorem dX4_isTray_31 : decode cX4_isTray 31 = .ok (.istore_n 3, 1) := by decide +kernel
theorem dX4_isTray_32 : decode cX4_isTray 32 = .ok (.iload_n 2, 1) := by decide +kernel
theorem dX4_isTray_33 : decode cX4_isTray 33 = .ok (.iload_n 3, 1) := by decide +kernel
theorem dX4_isTray_34 : decode cX4_isTray 34 = .ok (.iconst (-1), 1) := by decide +kernel
theorem dX4_isTray_35 : decode cX4_isTray 35 = .ok (.ixor, 1) := by decide +kernel
theorem dX4_isTray_36 : decode cX4_isTray 36 = .ok (.iand, 1) := by decide +kernel
theorem dX4_isTray_37 : decode cX4_isTray 37 = .ok (.ifCond .eq 5, 3) := by decide +kernel
theorem dX4_isTray_40 : decode cX4_isTray 40 = .ok (.iconst 0, 1) := by decide +kernel
theorem dX4_isTray_41 : decode cX4_isTray 41 = .ok (.ireturn, 1) := by decide +kernel
theorem dX4_isTray_42 : decode cX4_isTray 42 = .ok (.iload_n 3, 1) := by decide +kernel
theorem dX4_isTray_43 : decode cX4_isTray 43 = .ok (.iload_n 2, 1) := by decide +kernel
theorem dX4_isTray_44 : decode cX4_isTray 44 = .ok (.iconst (-1), 1) := by decide +kernel
theorem dX4_isTray_45 : decode cX4_isTray 45 = .ok (.ixor, 1) := by decide +kernel
theorem dX4_isTray_46 : decode cX4_isTray 46 = .ok (.iand, 1) := by decide +kernel
theorem dX4_isTray_47 : decode cX4_isTray 47 = .ok (.istore 4, 2) := by decide +kernel
theorem dX4_isTray_49 : decode cX4_isTray 49 = .ok (.iload 4, 2) := by decide +kernel
theorem dX4_isTray_51 : decode cX4_isTray 51 = .ok (.invokestatic 33, 3) := by decide +kernel
theorem dX4_isTray_54 : decode cX4_isTray 54 = .ok (.iconst 3, 1) := by decide +kernel
theorem dX4_isTray_55 : decode cX4_isTray 55 = .ok (.if_icmp .lt 17, 3) := by decide +kernel
theorem dX4_isTray_58 : decode cX4_isTray 58 = .ok (.iload_n 0, 1) := by decide +kernel
theorem dX4_isTray_59 : decode cX4_isTray 59 = .ok (.iload_n 1, 1) := by decide +kernel
theorem dX4_isTray_60 : decode cX4_isTray 60 = .ok (.iload 4, 2) := by decide +kernel
theorem dX4_isTray_62 : decode cX4_isTray 62 = .ok (.invokestatic 39, 3) := by decide +kernel
theorem dX4_isTray_65 : decode cX4_isTray 65 = .ok (.ifCond .eq 7, 3) := by decide +kernel
theorem dX4_isTray_68 : decode cX4_isTray 68 = .ok (.iconst 1, 1) := by decide +kernel
theorem dX4_isTray_69 : decode cX4_isTray 69 = .ok (.goto 4, 3) := by decide +kernel
theorem dX4_isTray_72 : decode cX4_isTray 72 = .ok (.iconst 0, 1) := by decide +kernel
theorem dX4_isTray_73 : decode cX4_isTray 73 = .ok (.ireturn, 1) := by decide +kernel
theorem dX4_isConnected_0 : decode cX4_isConnected 0 = .ok (.iconst 0, 1) := by decide +kernel
theorem dX4_isConnected_1 : decode cX4_isConnected 1 = .ok (.istore_n 3, 1) := by decide +kernel
theorem dX4_isConnected_2 : decode cX4_isConnected 2 = .ok (.iconst 0, 1) := by decide +kernel
theorem dX4_isConnected_3 : decode cX4_isConnected 3 = .ok (.istore 4, 2) := by decide +kernel
theorem dX4_isConnected_5 : decode cX4_isConnected 5 = .ok (.iload 4, 2) := by decide +kernel
theorem dX4_isConnected_7 : decode cX4_isConnected 7 = .ok (.iload_n 0, 1) := by decide +kernel
theorem dX4_isConnected_8 : decode cX4_isConnected 8 = .ok (.if_icmp .ge 18, 3) := by decide +kernel
theorem dX4_isConnected_11 : decode cX4_isConnected 11 = .ok (.iload_n 3, 1) := by decide +kernel
theorem dX4_isConnected_12 : decode cX4_isConnected 12 = .ok (.iconst 1, 1) := by decide +kernel
theorem dX4_isConnected_13 : decode cX4_isConnected 13 = .ok (.iload 4, 2) := by decide +kernel
theorem dX4_isConnected_15 : decode cX4_isConnected 15 = .ok (.iload_n 1, 1) := by decide +kernel
theorem dX4_isConnected_16 : decode cX4_isConnected 16 = .ok (.imul, 1) := by decide +kernel
theorem dX4_isConnected_17 : decode cX4_isConnected 17 = .ok (.ishl, 1) := by decide +kernel
theorem dX4_isConnected_18 : decode cX4_isConnected 18 = .ok (.ior, 1) := by decide +kernel
theorem dX4_isConnected_19 : decode cX4_isConnected 19 = .ok (.istore_n 3, 1) := by decide +kernel
theorem dX4_isConnected_20 : decode cX4_isConnected 20 = .ok (.iinc 4 1, 3) := by decide +kernel
theorem dX4_isConnected_23 : decode cX4_isConnected 23 = .ok (.goto (-18), 3) := by decide +kernel
theorem dX4_isConnected_26 : decode cX4_isConnected 26 = .ok (.iload_n 3, 1) := by decide +kernel
theorem dX4_isConnected_27 : decode cX4_isConnected 27 = .ok (.iload_n 1, 1) := by decide +kernel
theorem dX4_isConnected_28 : decode cX4_isConnected 28 = .ok (.iconst 1, 1) := by decide +kernel
theorem dX4_isConnected_29 : decode cX4_isConnected 29 = .ok (.isub, 1) := by decide +kernel
theorem dX4_isConnected_30 : decode cX4_isConnected 30 = .ok (.ishl, 1) := by decide +kernel
theorem dX4_isConnected_31 : decode cX4_isConnected 31 = .ok (.istore 4, 2) := by decide +kernel
theorem dX4_isConnected_33 : decode cX4_isConnected 33 = .ok (.iload_n 2, 1) := by decide +kernel
theorem dX4_isConnected_34 : decode cX4_isConnected 34 = .ok (.iload_n 2, 1) := by decide +kernel
theorem dX4_isConnected_35 : decode cX4_isConnected 35 = .ok (.ineg, 1) := by decide +kernel
theorem dX4_isConnected_36 : decode cX4_isConnected 36 = .ok (.iand, 1) := by decide +kernel
theorem dX4_isConnected_37 : decode cX4_isConnected 37 = .ok (.istore 5, 2) := by decide +kernel
theorem dX4_isConnected_39 : decode cX4_isConnected 39 = .ok (.iconst 0, 1) := by decide +kernel
theorem dX4_isConnected_40 : decode cX4_isConnected 40 = .ok (.istore 6, 2) := by decide +kernel
theorem dX4_isConnected_42 : decode cX4_isConnected 42 = .ok (.iload 6, 2) := by decide +kernel
theorem dX4_isConnected_44 : decode cX4_isConnected 44 = .ok (.bipush 16, 2) := by decide +kernel
theorem dX4_isConnected_46 : decode cX4_isConnected 46 = .ok (.if_icmp .ge 48, 3) := by decide +kernel
theorem dX4_isConnected_49 : decode cX4_isConnected 49 = .ok (.iload 5, 2) := by decide +kernel
theorem dX4_isConnected_51 : decode cX4_isConnected 51 = .ok (.iload 4, 2) := by decide +kernel
theorem dX4_isConnected_53 : decode cX4_isConnected 53 = .ok (.iconst (-1), 1) := by decide +kernel
theorem dX4_isConnected_54 : decode cX4_isConnected 54 = .ok (.ixor, 1) := by decide +kernel
theorem dX4_isConnected_55 : decode cX4_isConnected 55 = .ok (.iand, 1) := by decide +kernel
theorem dX4_isConnected_56 : decode cX4_isConnected 56 = .ok (.iconst 1, 1) := by decide +kernel
theorem dX4_isConnected_57 : decode cX4_isConnected 57 = .ok (.ishl, 1) := by decide +kernel
theorem dX4_isConnected_58 : decode cX4_isConnected 58 = .ok (.iload 5, 2) := by decide +kernel
theorem dX4_isConnected_60 : decode cX4_isConnected 60 = .ok (.iload_n 3, 1) := by decide +kernel
theorem dX4_isConnected_61 : decode cX4_isConnected 61 = .ok (.iconst (-1), 1) := by decide +kernel
theorem dX4_isConnected_62 : decode cX4_isConnected 62 = .ok (.ixor, 1) := by decide +kernel
theorem dX4_isConnected_63 : decode cX4_isConnected 63 = .ok (.iand, 1) := by decide +kernel
theorem dX4_isConnected_64 : decode cX4_isConnected 64 = .ok (.iconst 1, 1) := by decide +kernel
theorem dX4_isConnected_65 : decode cX4_isConnected 65 = .ok (.iushr, 1) := by decide +kernel
theorem dX4_isConnected_66 : decode cX4_isConnected 66 = .ok (.ior, 1) := by decide +kernel
theorem dX4_isConnected_67 : decode cX4_isConnected 67 = .ok (.istore 7, 2) := by decide +kernel
theorem dX4_isConnected_69 : decode cX4_isConnected 69 = .ok (.iload 5, 2) := by decide +kernel
theorem dX4_isConnected_71 : decode cX4_isConnected 71 = .ok (.iload 7, 2) := by decide +kernel
theorem dX4_isConnected_73 : decode cX4_isConnected 73 = .ok (.iload 5, 2) := by decide +kernel
theorem dX4_isConnected_75 : decode cX4_isConnected 75 = .ok (.iload_n 1, 1) := by decide +kernel
theorem dX4_isConnected_76 : decode cX4_isConnected 76 = .ok (.ishl, 1) := by decide +kernel
theorem dX4_isConnected_77 : decode cX4_isConnected 77 = .ok (.ior, 1) := by decide +kernel
theorem dX4_isConnected_78 : decode cX4_isConnected 78 = .ok (.iload 5, 2) := by decide +kernel
theorem dX4_isConnected_80 : decode cX4_isConnected 80 = .ok (.iload_n 1, 1) := by decide +kernel
theorem dX4_isConnected_81 : decode cX4_isConnected 81 = .ok (.iushr, 1) := by decide +kernel
theorem dX4_isConnected_82 : decode cX4_isConnected 82 = .ok (.ior, 1) := by decide +kernel
theorem dX4_isConnected_83 : decode cX4_isConnected 83 = .ok (.iload_n 2, 1) := by decide +kernel
theorem dX4_isConnected_84 : decode cX4_isConnected 84 = .ok (.iand, 1) := by decide +kernel
theorem dX4_isConnected_85 : decode cX4_isConnected 85 = .ok (.ior, 1) := by decide +kernel
theorem dX4_isConnected_86 : decode cX4_isConnected 86 = .ok (.istore 5, 2) := by decide +kernel
theorem dX4_isConnected_88 : decode cX4_isConnected 88 = .ok (.iinc 6 1, 3) := by decide +kernel
theorem dX4_isConnected_91 : decode cX4_isConnected 91 = .ok (.goto (-49), 3) := by decide +kernel
theorem dX4_isConnected_94 : decode cX4_isConnected 94 = .ok (.iload 5, 2) := by decide +kernel
theorem dX4_isConnected_96 : decode cX4_isConnected 96 = .ok (.iload_n 2, 1) := by decide +kernel
theorem dX4_isConnected_97 : decode cX4_isConnected 97 = .ok (.if_icmp .ne 7, 3) := by decide +kernel
theorem dX4_isConnected_100 : decode cX4_isConnected 100 = .ok (.iconst 1, 1) := by decide +kernel
theorem dX4_isConnected_101 : decode cX4_isConnected 101 = .ok (.goto 4, 3) := by decide +kernel
theorem dX4_isConnected_104 : decode cX4_isConnected 104 = .ok (.iconst 0, 1) := by decide +kernel
theorem dX4_isConnected_105 : decode cX4_isConnected 105 = .ok (.ireturn, 1) := by decide +kernel
set_option maxRecDepth 20000 in
theorem ggX4_set_X4_link : GoodIn wsX4_set wsX4_link := goodIn_r _ [11, 1, 2, 12, 13, 14, 15, 10, 16, 5, 49, 50, 51, 52, 53, 54, 55, 56, 57, 58, 59] (by decide +kernel) (by decide +kernel)
set_option maxRecDepth 20000 in
theorem gX4_set_X4_link : GoodIn wsX4_set (wsV RX4 56 RX4 yX4_link wsX4_link) := goodIn_app (goodIn_of _ (by decide +kernel)) ggX4_set_X4_link
set_option maxRecDepth 20000 in
theorem ggX4_set_X4_measure : GoodIn wsX4_set wsX4_measure := goodIn_r _ [20, 4, 21, 22, 23, 24, 10, 25, 12, 26, 27, 28, 29, 30, 31, 32, 33, 49, 50, 51, 52, 53, 54, 55, 56, 57, 58, 59] (by decide +kernel) (by decide +kernel)
set_option maxRecDepth 20000 in
theorem gX4_set_X4_measure : GoodIn wsX4_set (wsV RX4 59 RX4 yX4_measure wsX4_measure) := goodIn_app (goodIn_of _ (by decide +kernel)) ggX4_set_X4_measure
set_option maxRecDepth 20000 in
theorem ggX4_set_X4_drawLines : GoodIn wsX4_set wsX4_drawLines := goodIn_r _ [37, 38, 2, 1, 39, 40, 41, 42, 43, 44, 45, 10, 46, 47, 5, 48, 49, 50, 51, 52, 53, 54, 55, 56, 57, 58, 59] (by decide +kernel) (by decide +kernel)
set_option maxRecDepth 20000 in
theorem gX4_set_X4_drawLines : GoodIn wsX4_set (wsV RX4 62 RX4 yX4_drawLines wsX4_drawLines) := goodIn_app (goodIn_of _ (by decide +kernel)) ggX4_set_X4_drawLines
theorem dX4_set_0 : decode cX4_set 0 = .ok (.aload_n 0, 1) := by decide +kernel
theorem dX4_set_1 : decode cX4_set 1 = .ok (.iload_n 1, 1) := by decide +kernel
theorem dX4_set_2 : decode cX4_set 2 = .ok (.putfield 43, 3) := by decide +kernel
theorem dX4_set_5 : decode cX4_set 5 = .ok (.aload_n 0, 1) := by decide +kernel
theorem dX4_set_6 : decode cX4_set 6 = .ok (.iload_n 2, 1) := by decide +kernel
theorem dX4_set_7 : decode cX4_set 7 = .ok (.putfield 47, 3) := by decide +kernel
theorem dX4_set_10 : decode cX4_set 10 = .ok (.aload_n 0, 1) := by decide +kernel
theorem dX4_set_11 : decode cX4_set 11 = .ok (.iload_n 1, 1) := by decide +kernel
theorem dX4_set_12 : decode cX4_set 12 = .ok (.iload_n 2, 1) := by decide +kernel
theorem dX4_set_13 : decode cX4_set 13 = .ok (.imul, 1) := by decide +kernel
theorem dX4_set_14 : decode cX4_set 14 = .ok (.putfield 50, 3) := by decide +kernel
theorem dX4_set_17 : decode cX4_set 17 = .ok (.aload_n 0, 1) := by decide +kernel
theorem dX4_set_18 : decode cX4_set 18 = .ok (.iconst 0, 1) := by decide +kernel
theorem dX4_set_19 : decode cX4_set 19 = .ok (.putfield 53, 3) := by decide +kernel
theorem dX4_set_22 : decode cX4_set 22 = .ok (.iconst 0, 1) := by decide +kernel
theorem dX4_set_23 : decode cX4_set 23 = .ok (.istore 4, 2) := by decide +kernel
theorem dX4_set_25 : decode cX4_set 25 = .ok (.iload 4, 2) := by decide +kernel
theorem dX4_set_27 : decode cX4_set 27 = .ok (.aload_n 0, 1) := by decide +kernel
theorem dX4_set_28 : decode cX4_set 28 = .ok (.getfield 50, 3) := by decide +kernel
theorem dX4_set_31 : decode cX4_set 31 = .ok (.if_icmp .ge 75, 3) := by decide +kernel
theorem dX4_set_34 : decode cX4_set 34 = .ok (.iload_n 3, 1) := by decide +kernel
theorem dX4_set_35 : decode cX4_set 35 = .ok (.iload 4, 2) := by decide +kernel
theorem dX4_set_37 : decode cX4_set 37 = .ok (.ishr, 1) := by decide +kernel
theorem dX4_set_38 : decode cX4_set 38 = .ok (.iconst 1, 1) := by decide +kernel
theorem dX4_set_39 : decode cX4_set 39 = .ok (.iand, 1) := by decide +kernel
theorem dX4_set_40 : decode cX4_set 40 = .ok (.iconst 1, 1) := by decide +kernel
theorem dX4_set_41 : decode cX4_set 41 = .ok (.if_icmp .ne 7, 3) := by decide +kernel
theorem dX4_set_44 : decode cX4_set 44 = .ok (.iconst 1, 1) := by decide +kernel
theorem dX4_set_45 : decode cX4_set 45 = .ok (.goto 4, 3) := by decide +kernel
theorem dX4_set_48 : decode cX4_set 48 = .ok (.iconst 0, 1) := by decide +kernel
theorem dX4_set_49 : decode cX4_set 49 = .ok (.istore 5, 2) := by decide +kernel
theorem dX4_set_51 : decode cX4_set 51 = .ok (.aload_n 0, 1) := by decide +kernel
theorem dX4_set_52 : decode cX4_set 52 = .ok (.getfield 9, 3) := by decide +kernel
theorem dX4_set_55 : decode cX4_set 55 = .ok (.iload 4, 2) := by decide +kernel
theorem dX4_set_57 : decode cX4_set 57 = .ok (.iload 5, 2) := by decide +kernel
theorem dX4_set_59 : decode cX4_set 59 = .ok (.ifCond .eq 7, 3) := by decide +kernel
theorem dX4_set_62 : decode cX4_set 62 = .ok (.iconst (-1), 1) := by decide +kernel
theorem dX4_set_63 : decode cX4_set 63 = .ok (.goto 7, 3) := by decide +kernel
theorem dX4_set_66 : decode cX4_set 66 = .ok (.aload_n 0, 1) := by decide +kernel
theorem dX4_set_67 : decode cX4_set 67 = .ok (.getfield 53, 3) := by decide +kernel
theorem dX4_set_70 : decode cX4_set 70 = .ok (.iastore, 1) := by decide +kernel
theorem dX4_set_71 : decode cX4_set 71 = .ok (.iload 5, 2) := by decide +kernel
theorem dX4_set_73 : decode cX4_set 73 = .ok (.ifCond .eq 6, 3) := by decide +kernel
theorem dX4_set_76 : decode cX4_set 76 = .ok (.goto 24, 3) := by decide +kernel
theorem dX4_set_79 : decode cX4_set 79 = .ok (.aload_n 0, 1) := by decide +kernel
theorem dX4_set_80 : decode cX4_set 80 = .ok (.getfield 15, 3) := by decide +kernel
theorem dX4_set_83 : decode cX4_set 83 = .ok (.aload_n 0, 1) := by decide +kernel
theorem dX4_set_84 : decode cX4_set 84 = .ok (.getfield 53, 3) := by decide +kernel
theorem dX4_set_87 : decode cX4_set 87 = .ok (.iload 4, 2) := by decide +kernel
theorem dX4_set_89 : decode cX4_set 89 = .ok (.iastore, 1) := by decide +kernel
theorem dX4_set_90 : decode cX4_set 90 = .ok (.aload_n 0, 1) := by decide +kernel
theorem dX4_set_91 : decode cX4_set 91 = .ok (.dup, 1) := by decide +kernel
theorem dX4_set_92 : decode cX4_set 92 = .ok (.getfield 53, 3) := by decide +kernel
theorem dX4_set_95 : decode cX4_set 95 = .ok (.iconst 1, 1) := by decide +kernel
theorem dX4_set_96 : decode cX4_set 96 = .ok (.iadd, 1) := by decide +kernel
theorem dX4_set_97 : decode cX4_set 97 = .ok (.putfield 53, 3) := by decide +kernel
theorem dX4_set_100 : decode cX4_set 100 = .ok (.iinc 4 1, 3) := by decide +kernel
theorem dX4_set_103 : decode cX4_set 103 = .ok (.goto (-78), 3) := by decide +kernel
theorem dX4_set_106 : decode cX4_set 106 = .ok (.aload_n 0, 1) := by decide +kernel
theorem dX4_set_107 : decode cX4_set 107 = .ok (.invokevirtual 56, 3) := by decide +kernel
theorem dX4_set_110 : decode cX4_set 110 = .ok (.aload_n 0, 1) := by decide +kernel
theorem dX4_set_111 : decode cX4_set 111 = .ok (.invokevirtual 59, 3) := by decide +kernel
theorem dX4_set_114 : decode cX4_set 114 = .ok (.aload_n 0, 1) := by decide +kernel
theorem dX4_set_115 : decode cX4_set 115 = .ok (.invokevirtual 62, 3) := by decide +kernel
theorem dX4_set_118 : decode cX4_set 118 = .ok (.return_, 1) := by decide +kernel
set_option maxRecDepth 20000 in
theorem ggX4_link_X4_placeOn : GoodIn wsX4_link wsX4_placeOn := goodIn_r _ [8, 1, 2, 9, 10, 11, 12, 13, 14, 15, 16, 17, 18, 19, 20] (by decide +kernel) (by decide +kernel)
set_option maxRecDepth 20000 in
theorem gX4_link_X4_placeOn : GoodIn wsX4_link (wsV RX4 65 RX4 yX4_placeOn wsX4_placeOn) := goodIn_app (goodIn_of _ (by decide +kernel)) ggX4_link_X4_placeOn
theorem dX4_link_0 : decode cX4_link 0 = .ok (.iconst 0, 1) := by decide +kernel
theorem dX4_link_1 : decode cX4_link 1 = .ok (.istore_n 1, 1) := by decide +kernel
theorem dX4_link_2 : decode cX4_link 2 = .ok (.iload_n 1, 1) := by decide +kernel
theorem dX4_link_3 : decode cX4_link 3 = .ok (.aload_n 0, 1) := by decide +kernel
theorem dX4_link_4 : decode cX4_link 4 = .ok (.getfield 43, 3) := by decide +kernel
theorem dX4_link_7 : decode cX4_link 7 = .ok (.if_icmp .ge 112, 3) := by decide +kernel
theorem dX4_link_10 : decode cX4_link 10 = .ok (.iconst 0, 1) := by decide +kernel
theorem dX4_link_11 : decode cX4_link 11 = .ok (.istore_n 2, 1) := by decide +kernel
theorem dX4_link_12 : decode cX4_link 12 = .ok (.iload_n 2, 1) := by decide +kernel
theorem dX4_link_13 : decode cX4_link 13 = .ok (.aload_n 0, 1) := by decide +kernel
theorem dX4_link_14 : decode cX4_link 14 = .ok (.getfield 47, 3) := by decide +kernel
theorem dX4_link_17 : decode cX4_link 17 = .ok (.if_icmp .ge 96, 3) := by decide +kernel
theorem dX4_link_20 : decode cX4_link 20 = .ok (.aload_n 0, 1) := by decide +kernel
theorem dX4_link_21 : decode cX4_link 21 = .ok (.iload_n 1, 1) := by decide +kernel
theorem dX4_link_22 : decode cX4_link 22 = .ok (.iload_n 2, 1) := by decide +kernel
theorem dX4_link_23 : decode cX4_link 23 = .ok (.invokevirtual 65, 3) := by decide +kernel
theorem dX4_link_26 : decode cX4_link 26 = .ok (.istore_n 3, 1) := by decide +kernel
theorem dX4_link_27 : decode cX4_link 27 = .ok (.iload_n 3, 1) := by decide +kernel
theorem dX4_link_28 : decode cX4_link 28 = .ok (.iconst (-1), 1) := by decide +kernel
theorem dX4_link_29 : decode cX4_link 29 = .ok (.if_icmp .ne 6, 3) := by decide +kernel
theorem dX4_link_32 : decode cX4_link 32 = .ok (.goto 75, 3) := by decide +kernel
theorem dX4_link_35 : decode cX4_link 35 = .ok (.aload_n 0, 1) := by decide +kernel
theorem dX4_link_36 : decode cX4_link 36 = .ok (.getfield 18, 3) := by decide +kernel
theorem dX4_link_39 : decode cX4_link 39 = .ok (.iload_n 3, 1) := by decide +kernel
theorem dX4_link_40 : decode cX4_link 40 = .ok (.iconst 4, 1) := by decide +kernel
theorem dX4_link_41 : decode cX4_link 41 = .ok (.imul, 1) := by decide +kernel
theorem dX4_link_42 : decode cX4_link 42 = .ok (.iconst 0, 1) := by decide +kernel
theorem dX4_link_43 : decode cX4_link 43 = .ok (.iadd, 1) := by decide +kernel
theorem dX4_link_44 : decode cX4_link 44 = .ok (.aload_n 0, 1) := by decide +kernel
theorem dX4_link_45 : decode cX4_link 45 = .ok (.iload_n 1, 1) := by decide +kernel
theorem dX4_link_46 : decode cX4_link 46 = .ok (.iconst 1, 1) := by decide +kernel
theorem dX4_link_47 : decode cX4_link 47 = .ok (.isub, 1) := by decide +kernel
theorem dX4_link_48 : decode cX4_link 48 = .ok (.iload_n 2, 1) := by decide +kernel
theorem dX4_link_49 : decode cX4_link 49 = .ok (.invokevirtual 65, 3) := by decide +kernel
theorem dX4_link_52 : decode cX4_link 52 = .ok (.iastore, 1) := by decide +kernel
theorem dX4_link_53 : decode cX4_link 53 = .ok (.aload_n 0, 1) := by decide +kernel
theorem dX4_link_54 : decode cX4_link 54 = .ok (.getfield 18, 3) := by decide +kernel
theorem dX4_link_57 : decode cX4_link 57 = .ok (.iload_n 3, 1) := by decide +kernel
theorem dX4_link_58 : decode cX4_link 58 = .ok (.iconst 4, 1) := by decide +kernel
theorem dX4_link_59 : decode cX4_link 59 = .ok (.imul, 1) := by decide +kernel
theorem dX4_link_60 : decode cX4_link 60 = .ok (.iconst 1, 1) := by decide +kernel
theorem dX4_link_61 : decode cX4_link 61 = .ok (.iadd, 1) := by decide +kernel
theorem dX4_link_62 : decode cX4_link 62 = .ok (.aload_n 0, 1) := by decide +kernel
theorem dX4_link_63 : decode cX4_link 63 = .ok (.iload_n 1, 1) := by decide +kernel
theorem dX4_link_64 : decode cX4_link 64 = .ok (.iload_n 2, 1) := by decide +kernel
theorem dX4_link_65 : decode cX4_link 65 = .ok (.iconst 1, 1) := by decide +kernel
theorem dX4_link_66 : decode cX4_link 66 = .ok (.isub, 1) := by decide +kernel
theorem dX4_link_67 : decode cX4_link 67 = .ok (.invokevirtual 65, 3) := by decide +kernel
theorem dX4_link_70 : decode cX4_link 70 = .ok (.iastore, 1) := by decide +kernel
theorem dX4_link_71 : decode cX4_link 71 = .ok (.aload_n 0, 1) := by decide +kernel
theorem dX4_link_72 : decode cX4_link 72 = .ok (.getfield 18, 3) := by decide +kernel
theorem dX4_link_75 : decode cX4_link 75 = .ok (.iload_n 3, 1) := by decide +kernel
theorem dX4_link_76 : decode cX4_link 76 = .ok (.iconst 4, 1) := by decide +kernel
theorem dX4_link_77 : decode cX4_link 77 = .ok (.imul, 1) := by decide +kernel
theorem dX4_link_78 : decode cX4_link 78 = .ok (.iconst 2, 1) := by decide +kernel
theorem dX4_link_79 : decode cX4_link 79 = .ok (.iadd, 1) := by decide +kernel
theorem dX4_link_80 : decode cX4_link 80 = .ok (.aload_n 0, 1) := by decide +kernel
theorem dX4_link_81 : decode cX4_link 81 = .ok (.iload_n 1, 1) := by decide +kernel
theorem dX4_link_82 : decode cX4_link 82 = .ok (.iload_n 2, 1) := by decide +kernel
theorem dX4_link_83 : decode cX4_link 83 = .ok (.iconst 1, 1) := by decide +kernel
theorem dX4_link_84 : decode cX4_link 84 = .ok (.iadd, 1) := by decide +kernel
theorem dX4_link_85 : decode cX4_link 85 = .ok (.invokevirtual 65, 3) := by decide +kernel
theorem dX4_link_88 : decode cX4_link 88 = .ok (.iastore, 1) := by decide +kernel
theorem dX4_link_89 : decode cX4_link 89 = .ok (.aload_n 0, 1) := by decide +kernel
theorem dX4_link_90 : decode cX4_link 90 = .ok (.getfield 18, 3) := by decide +kernel
theorem dX4_link_93 : decode cX4_link 93 = .ok (.iload_n 3, 1) := by decide +kernel
theorem dX4_link_94 : decode cX4_link 94 = .ok (.iconst 4, 1) := by decide +kernel
theorem dX4_link_95 : decode cX4_link 95 = .ok (.imul, 1) := by decide +kernel
theorem dX4_link_96 : decode cX4_link 96 = .ok (.iconst 3, 1) := by decide +kernel
theorem dX4_link_97 : decode cX4_link 97 = .ok (.iadd, 1) := by decide +kernel
theorem dX4_link_98 : decode cX4_link 98 = .ok (.aload_n 0, 1) := by decide +kernel
theorem dX4_link_99 : decode cX4_link 99 = .ok (.iload_n 1, 1) := by decide +kernel
theorem dX4_link_100 : decode cX4_link 100 = .ok (.iconst 1, 1) := by decide +kernel
theorem dX4_link_101 : decode cX4_link 101 = .ok (.iadd, 1) := by decide +kernel
theorem dX4_link_102 : decode cX4_link 102 = .ok (.iload_n 2, 1) := by decide +kernel
theorem dX4_link_103 : decode cX4_link 103 = .ok (.invokevirtual 65, 3) := by decide +kernel
theorem dX4_link_106 : decode cX4_link 106 = .ok (.iastore, 1) := by decide +kernel
theorem dX4_link_107 : decode cX4_link 107 = .ok (.iinc 2 1, 3) := by decide +kernel
theorem dX4_link_110 : decode cX4_link 110 = .ok (.goto (-98), 3) := by decide +kernel
theorem dX4_link_113 : decode cX4_link 113 = .ok (.iinc 1 1, 3) := by decide +kernel
theorem dX4_link_116 : decode cX4_link 116 = .ok (.goto (-114), 3) := by decide +kernel
theorem dX4_link_119 : decode cX4_link 119 = .ok (.return_, 1) := by decide +kernel
theorem dX4_placeOn_0 : decode cX4_placeOn 0 = .ok (.iload_n 1, 1) := by decide +kernel
theorem dX4_placeOn_1 : decode cX4_placeOn 1 = .ok (.ifCond .lt 23, 3) := by decide +kernel
theorem dX4_placeOn_4 : decode cX4_placeOn 4 = .ok (.iload_n 1, 1) := by decide +kernel
theorem dX4_placeOn_5 : decode cX4_placeOn 5 = .ok (.aload_n 0, 1) := by decide +kernel
theorem dX4_placeOn_6 : decode cX4_placeOn 6 = .ok (.getfield 43, 3) := by decide +kernel
theorem dX4_placeOn_9 : decode cX4_placeOn 9 = .ok (.if_icmp .ge 15, 3) := by decide +kernel
theorem dX4_placeOn_12 : decode cX4_placeOn 12 = .ok (.iload_n 2, 1) := by decide +kernel
theorem dX4_placeOn_13 : decode cX4_placeOn 13 = .ok (.ifCond .lt 11, 3) := by decide +kernel
theorem dX4_placeOn_16 : decode cX4_placeOn 16 = .ok (.iload_n 2, 1) := by decide +kernel
theorem dX4_placeOn_17 : decode cX4_placeOn 17 = .ok (.aload_n 0, 1) := by decide +kernel
theorem dX4_placeOn_18 : decode cX4_placeOn 18 = .ok (.getfield 47, 3) := by decide +kernel
theorem dX4_placeOn_21 : decode cX4_placeOn 21 = .ok (.if_icmp .lt 5, 3) := by decide +kernel
theorem dX4_placeOn_24 : decode cX4_placeOn 24 = .ok (.iconst (-1), 1) := by decide +kernel
theorem dX4_placeOn_25 : decode cX4_placeOn 25 = .ok (.ireturn, 1) := by decide +kernel
theorem dX4_placeOn_26 : decode cX4_placeOn 26 = .ok (.aload_n 0, 1) := by decide +kernel
theorem dX4_placeOn_27 : decode cX4_placeOn 27 = .ok (.getfield 9, 3) := by decide +kernel
theorem dX4_placeOn_30 : decode cX4_placeOn 30 = .ok (.iload_n 1, 1) := by decide +kernel
theorem dX4_placeOn_31 : decode cX4_placeOn 31 = .ok (.aload_n 0, 1) := by decide +kernel
theorem dX4_placeOn_32 : decode cX4_placeOn 32 = .ok (.getfield 47, 3) := by decide +kernel
theorem dX4_placeOn_35 : decode cX4_placeOn 35 = .ok (.imul, 1) := by decide +kernel
theorem dX4_placeOn_36 : decode cX4_placeOn 36 = .ok (.iload_n 2, 1) := by decide +kernel
theorem dX4_placeOn_37 : decode cX4_placeOn 37 = .ok (.iadd, 1) := by decide +kernel
theorem dX4_placeOn_38 : decode cX4_placeOn 38 = .ok (.iaload, 1) := by decide +kernel
theorem dX4_placeOn_39 : decode cX4_placeOn 39 = .ok (.ireturn, 1) := by decide +kernel
set_option maxRecDepth 20000 in
theorem ggX4_measure_X4_besideOf : GoodIn wsX4_measure wsX4_besideOf := goodIn_r _ [7, 8, 17, 18, 19, 20, 21, 22, 23, 24, 25, 26, 27] (by decide +kernel) (by decide +kernel)
set_option maxRecDepth 20000 in
theorem gX4_measure_X4_besideOf : GoodIn wsX4_measure (wsV RX4 69 RX4 yX4_besideOf wsX4_besideOf) := goodIn_app (goodIn_of _ (by decide +kernel)) ggX4_measure_X4_besideOf
set_option maxRecDepth 20000 in
theorem ggX4_measure_X4_shortenOver : GoodIn wsX4_measure wsX4_shortenOver := goodIn_r _ [12, 1, 2, 13, 14, 15, 6, 16, 17, 18, 19, 20, 21, 22, 23, 24, 25, 26, 27] (by decide +kernel) (by decide +kernel)
set_option maxRecDepth 20000 in
theorem gX4_measure_X4_shortenOver : GoodIn wsX4_measure (wsV RX4 72 RX4 yX4_shortenOver wsX4_shortenOver) := goodIn_app (goodIn_of _ (by decide +kernel)) ggX4_measure_X4_shortenOver
theorem dX4_measure_0 : decode cX4_measure 0 = .ok (.iconst 0, 1) := by decide +kernel
theorem dX4_measure_1 : decode cX4_measure 1 = .ok (.istore_n 1, 1) := by decide +kernel
theorem dX4_measure_2 : decode cX4_measure 2 = .ok (.iload_n 1, 1) := by decide +kernel
theorem dX4_measure_3 : decode cX4_measure 3 = .ok (.aload_n 0, 1) := by decide +kernel
theorem dX4_measure_4 : decode cX4_measure 4 = .ok (.getfield 53, 3) := by decide +kernel
theorem dX4_measure_7 : decode cX4_measure 7 = .ok (.if_icmp .ge 84, 3) := by decide +kernel
theorem dX4_measure_10 : decode cX4_measure 10 = .ok (.iconst 0, 1) := by decide +kernel
theorem dX4_measure_11 : decode cX4_measure 11 = .ok (.istore_n 2, 1) := by decide +kernel
theorem dX4_measure_12 : decode cX4_measure 12 = .ok (.iload_n 2, 1) := by decide +kernel
theorem dX4_measure_13 : decode cX4_measure 13 = .ok (.aload_n 0, 1) := by decide +kernel
theorem dX4_measure_14 : decode cX4_measure 14 = .ok (.getfield 53, 3) := by decide +kernel
theorem dX4_measure_17 : decode cX4_measure 17 = .ok (.if_icmp .ge 31, 3) := by decide +kernel
theorem dX4_measure_20 : decode cX4_measure 20 = .ok (.aload_n 0, 1) := by decide +kernel
theorem dX4_measure_21 : decode cX4_measure 21 = .ok (.getfield 21, 3) := by decide +kernel
theorem dX4_measure_24 : decode cX4_measure 24 = .ok (.iload_n 1, 1) := by decide +kernel
theorem dX4_measure_25 : decode cX4_measure 25 = .ok (.bipush 16, 2) := by decide +kernel
theorem dX4_measure_27 : decode cX4_measure 27 = .ok (.imul, 1) := by decide +kernel
theorem dX4_measure_28 : decode cX4_measure 28 = .ok (.iload_n 2, 1) := by decide +kernel
theorem dX4_measure_29 : decode cX4_measure 29 = .ok (.iadd, 1) := by decide +kernel
theorem dX4_measure_30 : decode cX4_measure 30 = .ok (.iload_n 1, 1) := by decide +kernel
theorem dX4_measure_31 : decode cX4_measure 31 = .ok (.iload_n 2, 1) := by decide +kernel
theorem dX4_measure_32 : decode cX4_measure 32 = .ok (.if_icmp .ne 7, 3) := by decide +kernel
theorem dX4_measure_35 : decode cX4_measure 35 = .ok (.iconst 0, 1) := by decide +kernel
theorem dX4_measure_36 : decode cX4_measure 36 = .ok (.goto 5, 3) := by decide +kernel
theorem dX4_measure_39 : decode cX4_measure 39 = .ok (.bipush 16, 2) := by decide +kernel
theorem dX4_measure_41 : decode cX4_measure 41 = .ok (.iastore, 1) := by decide +kernel
theorem dX4_measure_42 : decode cX4_measure 42 = .ok (.iinc 2 1, 3) := by decide +kernel
theorem dX4_measure_45 : decode cX4_measure 45 = .ok (.goto (-33), 3) := by decide +kernel
theorem dX4_measure_48 : decode cX4_measure 48 = .ok (.iconst 0, 1) := by decide +kernel
theorem dX4_measure_49 : decode cX4_measure 49 = .ok (.istore_n 2, 1) := by decide +kernel
theorem dX4_measure_50 : decode cX4_measure 50 = .ok (.iload_n 2, 1) := by decide +kernel
theorem dX4_measure_51 : decode cX4_measure 51 = .ok (.iconst 3, 1) := by decide +kernel
theorem dX4_measure_52 : decode cX4_measure 52 = .ok (.if_icmp .gt 33, 3) := by decide +kernel
theorem dX4_measure_55 : decode cX4_measure 55 = .ok (.aload_n 0, 1) := by decide +kernel
theorem dX4_measure_56 : decode cX4_measure 56 = .ok (.iload_n 1, 1) := by decide +kernel
theorem dX4_measure_57 : decode cX4_measure 57 = .ok (.iload_n 2, 1) := by decide +kernel
theorem dX4_measure_58 : decode cX4_measure 58 = .ok (.invokevirtual 69, 3) := by decide +kernel
theorem dX4_measure_61 : decode cX4_measure 61 = .ok (.istore_n 3, 1) := by decide +kernel
theorem dX4_measure_62 : decode cX4_measure 62 = .ok (.iload_n 3, 1) := by decide +kernel
theorem dX4_measure_63 : decode cX4_measure 63 = .ok (.iconst (-1), 1) := by decide +kernel
theorem dX4_measure_64 : decode cX4_measure 64 = .ok (.if_icmp .eq 15, 3) := by decide +kernel
theorem dX4_measure_67 : decode cX4_measure 67 = .ok (.aload_n 0, 1) := by decide +kernel
theorem dX4_measure_68 : decode cX4_measure 68 = .ok (.getfield 21, 3) := by decide +kernel
theorem dX4_measure_71 : decode cX4_measure 71 = .ok (.iload_n 1, 1) := by decide +kernel
theorem dX4_measure_72 : decode cX4_measure 72 = .ok (.bipush 16, 2) := by decide +kernel
theorem dX4_measure_74 : decode cX4_measure 74 = .ok (.imul, 1) := by decide +kernel
theorem dX4_measure_75 : decode cX4_measure 75 = .ok (.iload_n 3, 1) := by decide +kernel
theorem dX4_measure_76 : decode cX4_measure 76 = .ok (.iadd, 1) := by decide +kernel
theorem dX4_measure_77 : decode cX4_measure 77 = .ok (.iconst 1, 1) := by decide +kernel
theorem dX4_measure_78 : decode cX4_measure 78 = .ok (.iastore, 1) := by decide +kernel
theorem dX4_measure_79 : decode cX4_measure 79 = .ok (.iinc 2 1, 3) := by decide +kernel
theorem dX4_measure_82 : decode cX4_measure 82 = .ok (.goto (-32), 3) := by decide +kernel
theorem dX4_measure_85 : decode cX4_measure 85 = .ok (.iinc 1 1, 3) := by decide +kernel
theorem dX4_measure_88 : decode cX4_measure 88 = .ok (.goto (-86), 3) := by decide +kernel
theorem dX4_measure_91 : decode cX4_measure 91 = .ok (.iconst 0, 1) := by decide +kernel
theorem dX4_measure_92 : decode cX4_measure 92 = .ok (.istore_n 1, 1) := by decide +kernel
theorem dX4_measure_93 : decode cX4_measure 93 = .ok (.iload_n 1, 1) := by decide +kernel
theorem dX4_measure_94 : decode cX4_measure 94 = .ok (.aload_n 0, 1) := by decide +kernel
theorem dX4_measure_95 : decode cX4_measure 95 = .ok (.getfield 53, 3) := by decide +kernel
theorem dX4_measure_98 : decode cX4_measure 98 = .ok (.if_icmp .ge 31, 3) := by decide +kernel
theorem dX4_measure_101 : decode cX4_measure 101 = .ok (.iconst 0, 1) := by decide +kernel
theorem dX4_measure_102 : decode cX4_measure 102 = .ok (.istore_n 2, 1) := by decide +kernel
theorem dX4_measure_103 : decode cX4_measure 103 = .ok (.iload_n 2, 1) := by decide +kernel
theorem dX4_measure_104 : decode cX4_measure 104 = .ok (.aload_n 0, 1) := by decide +kernel
theorem dX4_measure_105 : decode cX4_measure 105 = .ok (.getfield 53, 3) := by decide +kernel
theorem dX4_measure_108 : decode cX4_measure 108 = .ok (.if_icmp .ge 15, 3) := by decide +kernel
theorem dX4_measure_111 : decode cX4_measure 111 = .ok (.aload_n 0, 1) := by decide +kernel
theorem dX4_measure_112 : decode cX4_measure 112 = .ok (.iload_n 2, 1) := by decide +kernel
theorem dX4_measure_113 : decode cX4_measure 113 = .ok (.iload_n 1, 1) := by decide +kernel
theorem dX4_measure_114 : decode cX4_measure 114 = .ok (.invokevirtual 72, 3) := by decide +kernel
theorem dX4_measure_117 : decode cX4_measure 117 = .ok (.iinc 2 1, 3) := by decide +kernel
theorem dX4_measure_120 : decode cX4_measure 120 = .ok (.goto (-17), 3) := by decide +kernel
theorem dX4_measure_123 : decode cX4_measure 123 = .ok (.iinc 1 1, 3) := by decide +kernel
theorem dX4_measure_126 : decode cX4_measure 126 = .ok (.goto (-33), 3) := by decide +kernel
theorem dX4_measure_129 : decode cX4_measure 129 = .ok (.return_, 1) := by decide +kernel
set_option maxRecDepth 20000 in
theorem ggX4_shortenOver_X4_stepsBetween : GoodIn wsX4_shortenOver wsX4_stepsBetween := goodIn_r _ [7, 2, 8, 9, 10, 11, 12, 13, 14, 15, 16, 17, 18] (by decide +kernel) (by decide +kernel)
set_option maxRecDepth 20000 in
theorem gX4_shortenOver_X4_stepsBetween : GoodIn wsX4_shortenOver (wsV RX4 76 RX4 yX4_stepsBetween wsX4_stepsBetween) := goodIn_app (goodIn_of _ (by decide +kernel)) ggX4_shortenOver_X4_stepsBetween
theorem dX4_shortenOver_0 : decode cX4_shortenOver 0 = .ok (.aload_n 0, 1) := by decide +kernel
theorem dX4_shortenOver_1 : decode cX4_shortenOver 1 = .ok (.iload_n 1, 1) := by decide +kernel
theorem dX4_shortenOver_2 : decode cX4_shortenOver 2 = .ok (.iload_n 2, 1) := by decide +kernel
theorem dX4_shortenOver_3 : decode cX4_shortenOver 3 = .ok (.invokevirtual 76, 3) := by decide +kernel
theorem dX4_shortenOver_6 : decode cX4_shortenOver 6 = .ok (.istore_n 3, 1) := by decide +kernel
theorem dX4_shortenOver_7 : decode cX4_shortenOver 7 = .ok (.iconst 0, 1) := by decide +kernel
theorem dX4_shortenOver_8 : decode cX4_shortenOver 8 = .ok (.istore 4, 2) := by decide +kernel
theorem dX4_shortenOver_10 : decode cX4_shortenOver 10 = .ok (.iload 4, 2) := by decide +kernel
theorem dX4_shortenOver_12 : decode cX4_shortenOver 12 = .ok (.aload_n 0, 1) := by decide +kernel
theorem dX4_shortenOver_13 : decode cX4_shortenOver 13 = .ok (.getfield 53, 3) := by decide +kernel
theorem dX4_shortenOver_16 : decode cX4_shortenOver 16 = .ok (.if_icmp .ge 46, 3) := by decide +kernel
theorem dX4_shortenOver_19 : decode cX4_shortenOver 19 = .ok (.iload_n 3, 1) := by decide +kernel
theorem dX4_shortenOver_20 : decode cX4_shortenOver 20 = .ok (.aload_n 0, 1) := by decide +kernel
theorem dX4_shortenOver_21 : decode cX4_shortenOver 21 = .ok (.iload_n 2, 1) := by decide +kernel
theorem dX4_shortenOver_22 : decode cX4_shortenOver 22 = .ok (.iload 4, 2) := by decide +kernel
theorem dX4_shortenOver_24 : decode cX4_shortenOver 24 = .ok (.invokevirtual 76, 3) := by decide +kernel
theorem dX4_shortenOver_27 : decode cX4_shortenOver 27 = .ok (.iadd, 1) := by decide +kernel
theorem dX4_shortenOver_28 : decode cX4_shortenOver 28 = .ok (.istore 5, 2) := by decide +kernel
theorem dX4_shortenOver_30 : decode cX4_shortenOver 30 = .ok (.iload 5, 2) := by decide +kernel
theorem dX4_shortenOver_32 : decode cX4_shortenOver 32 = .ok (.aload_n 0, 1) := by decide +kernel
theorem dX4_shortenOver_33 : decode cX4_shortenOver 33 = .ok (.iload_n 1, 1) := by decide +kernel
theorem dX4_shortenOver_34 : decode cX4_shortenOver 34 = .ok (.iload 4, 2) := by decide +kernel
theorem dX4_shortenOver_36 : decode cX4_shortenOver 36 = .ok (.invokevirtual 76, 3) := by decide +kernel
theorem dX4_shortenOver_39 : decode cX4_shortenOver 39 = .ok (.if_icmp .ge 17, 3) := by decide +kernel
theorem dX4_shortenOver_42 : decode cX4_shortenOver 42 = .ok (.aload_n 0, 1) := by decide +kernel
theorem dX4_shortenOver_43 : decode cX4_shortenOver 43 = .ok (.getfield 21, 3) := by decide +kernel
theorem dX4_shortenOver_46 : decode cX4_shortenOver 46 = .ok (.iload_n 1, 1) := by decide +kernel
theorem dX4_shortenOver_47 : decode cX4_shortenOver 47 = .ok (.bipush 16, 2) := by decide +kernel
theorem dX4_shortenOver_49 : decode cX4_shortenOver 49 = .ok (.imul, 1) := by decide +kernel
theorem dX4_shortenOver_50 : decode cX4_shortenOver 50 = .ok (.iload 4, 2) := by decide +kernel
theorem dX4_shortenOver_52 : decode cX4_shortenOver 52 = .ok (.iadd, 1) := by decide +kernel
theorem dX4_shortenOver_53 : decode cX4_shortenOver 53 = .ok (.iload 5, 2) := by decide +kernel
theorem dX4_shortenOver_55 : decode cX4_shortenOver 55 = .ok (.iastore, 1) := by decide +kernel
theorem dX4_shortenOver_56 : decode cX4_shortenOver 56 = .ok (.iinc 4 1, 3) := by decide +kernel
theorem dX4_shortenOver_59 : decode cX4_shortenOver 59 = .ok (.goto (-49), 3) := by decide +kernel
theorem dX4_shortenOver_62 : decode cX4_shortenOver 62 = .ok (.return_, 1) := by decide +kernel
set_option maxRecDepth 20000 in
theorem ggX4_drawLines_J7_fill_53178 : GoodIn wsX4_drawLines wsJ7_fill_53178 := goodIn_r _ [7] (by decide +kernel) (by decide +kernel)
set_option maxRecDepth 20000 in
theorem gX4_drawLines_J7_fill_53178 : GoodIn wsX4_drawLines (va_wsS RX4 79 yJ7_fill_53178 wsJ7_fill_53178) := goodIn_app (goodIn_of _ (by decide +kernel)) ggX4_drawLines_J7_fill_53178
set_option maxRecDepth 20000 in
theorem ggX4_drawLines_X4_drawLine : GoodIn wsX4_drawLines wsX4_drawLine := goodIn_r _ [12, 13, 14, 15, 1, 16, 17, 18, 19, 20, 21, 22, 23, 24, 25, 26] (by decide +kernel) (by decide +kernel)
set_option maxRecDepth 20000 in
theorem gX4_drawLines_X4_drawLine : GoodIn wsX4_drawLines (wsV RX4 85 RX4 yX4_drawLine wsX4_drawLine) := goodIn_app (goodIn_of _ (by decide +kernel)) ggX4_drawLines_X4_drawLine
theorem dX4_drawLines_0 : decode cX4_drawLines 0 = .ok (.aload_n 0, 1) := by decide +kernel
theorem dX4_drawLines_1 : decode cX4_drawLines 1 = .ok (.getfield 30, 3) := by decide +kernel
theorem dX4_drawLines_4 : decode cX4_drawLines 4 = .ok (.iconst (-1), 1) := by decide +kernel
theorem dX4_drawLines_5 : decode cX4_drawLines 5 = .ok (.invokestatic 79, 3) := by decide +kernel
theorem dX4_drawLines_8 : decode cX4_drawLines 8 = .ok (.iconst 0, 1) := by decide +kernel
theorem dX4_drawLines_9 : decode cX4_drawLines 9 = .ok (.istore_n 1, 1) := by decide +kernel
theorem dX4_drawLines_10 : decode cX4_drawLines 10 = .ok (.iload_n 1, 1) := by decide +kernel
theorem dX4_drawLines_11 : decode cX4_drawLines 11 = .ok (.iconst 4, 1) := by decide +kernel
theorem dX4_drawLines_12 : decode cX4_drawLines 12 = .ok (.if_icmp .ge 65, 3) := by decide +kernel
theorem dX4_drawLines_15 : decode cX4_drawLines 15 = .ok (.aload_n 0, 1) := by decide +kernel
theorem dX4_drawLines_16 : decode cX4_drawLines 16 = .ok (.iload_n 1, 1) := by decide +kernel
theorem dX4_drawLines_17 : decode cX4_drawLines 17 = .ok (.iload_n 1, 1) := by decide +kernel
theorem dX4_drawLines_18 : decode cX4_drawLines 18 = .ok (.aload_n 0, 1) := by decide +kernel
theorem dX4_drawLines_19 : decode cX4_drawLines 19 = .ok (.getfield 47, 3) := by decide +kernel
theorem dX4_drawLines_22 : decode cX4_drawLines 22 = .ok (.imul, 1) := by decide +kernel
theorem dX4_drawLines_23 : decode cX4_drawLines 23 = .ok (.iconst 1, 1) := by decide +kernel
theorem dX4_drawLines_24 : decode cX4_drawLines 24 = .ok (.iload_n 1, 1) := by decide +kernel
theorem dX4_drawLines_25 : decode cX4_drawLines 25 = .ok (.aload_n 0, 1) := by decide +kernel
theorem dX4_drawLines_26 : decode cX4_drawLines 26 = .ok (.getfield 43, 3) := by decide +kernel
theorem dX4_drawLines_29 : decode cX4_drawLines 29 = .ok (.if_icmp .ge 10, 3) := by decide +kernel
theorem dX4_drawLines_32 : decode cX4_drawLines 32 = .ok (.aload_n 0, 1) := by decide +kernel
theorem dX4_drawLines_33 : decode cX4_drawLines 33 = .ok (.getfield 47, 3) := by decide +kernel
theorem dX4_drawLines_36 : decode cX4_drawLines 36 = .ok (.goto 4, 3) := by decide +kernel
theorem dX4_drawLines_39 : decode cX4_drawLines 39 = .ok (.iconst 0, 1) := by decide +kernel
theorem dX4_drawLines_40 : decode cX4_drawLines 40 = .ok (.invokevirtual 85, 3) := by decide +kernel
theorem dX4_drawLines_43 : decode cX4_drawLines 43 = .ok (.aload_n 0, 1) := by decide +kernel
theorem dX4_drawLines_44 : decode cX4_drawLines 44 = .ok (.iconst 4, 1) := by decide +kernel
theorem dX4_drawLines_45 : decode cX4_drawLines 45 = .ok (.iload_n 1, 1) := by decide +kernel
theorem dX4_drawLines_46 : decode cX4_drawLines 46 = .ok (.iadd, 1) := by decide +kernel
theorem dX4_drawLines_47 : decode cX4_drawLines 47 = .ok (.iload_n 1, 1) := by decide +kernel
theorem dX4_drawLines_48 : decode cX4_drawLines 48 = .ok (.aload_n 0, 1) := by decide +kernel
theorem dX4_drawLines_49 : decode cX4_drawLines 49 = .ok (.getfield 47, 3) := by decide +kernel
theorem dX4_drawLines_52 : decode cX4_drawLines 52 = .ok (.iload_n 1, 1) := by decide +kernel
theorem dX4_drawLines_53 : decode cX4_drawLines 53 = .ok (.aload_n 0, 1) := by decide +kernel
theorem dX4_drawLines_54 : decode cX4_drawLines 54 = .ok (.getfield 47, 3) := by decide +kernel
theorem dX4_drawLines_57 : decode cX4_drawLines 57 = .ok (.if_icmp .ge 10, 3) := by decide +kernel
theorem dX4_drawLines_60 : decode cX4_drawLines 60 = .ok (.aload_n 0, 1) := by decide +kernel
theorem dX4_drawLines_61 : decode cX4_drawLines 61 = .ok (.getfield 43, 3) := by decide +kernel
theorem dX4_drawLines_64 : decode cX4_drawLines 64 = .ok (.goto 4, 3) := by decide +kernel
theorem dX4_drawLines_67 : decode cX4_drawLines 67 = .ok (.iconst 0, 1) := by decide +kernel
theorem dX4_drawLines_68 : decode cX4_drawLines 68 = .ok (.invokevirtual 85, 3) := by decide +kernel
theorem dX4_drawLines_71 : decode cX4_drawLines 71 = .ok (.iinc 1 1, 3) := by decide +kernel
theorem dX4_drawLines_74 : decode cX4_drawLines 74 = .ok (.goto (-64), 3) := by decide +kernel
theorem dX4_drawLines_77 : decode cX4_drawLines 77 = .ok (.return_, 1) := by decide +kernel
theorem dX4_drawLine_0 : decode cX4_drawLine 0 = .ok (.aload_n 0, 1) := by decide +kernel
theorem dX4_drawLine_1 : decode cX4_drawLine 1 = .ok (.getfield 24, 3) := by decide +kernel
theorem dX4_drawLine_4 : decode cX4_drawLine 4 = .ok (.iload_n 1, 1) := by decide +kernel
theorem dX4_drawLine_5 : decode cX4_drawLine 5 = .ok (.iconst 0, 1) := by decide +kernel
theorem dX4_drawLine_6 : decode cX4_drawLine 6 = .ok (.iastore, 1) := by decide +kernel
theorem dX4_drawLine_7 : decode cX4_drawLine 7 = .ok (.iconst 0, 1) := by decide +kernel
theorem dX4_drawLine_8 : decode cX4_drawLine 8 = .ok (.istore 5, 2) := by decide +kernel
theorem dX4_drawLine_10 : decode cX4_drawLine 10 = .ok (.iload 5, 2) := by decide +kernel
theorem dX4_drawLine_12 : decode cX4_drawLine 12 = .ok (.iload 4, 2) := by decide +kernel
theorem dX4_drawLine_14 : decode cX4_drawLine 14 = .ok (.if_icmp .ge 25, 3) := by decide +kernel
theorem dX4_drawLine_17 : decode cX4_drawLine 17 = .ok (.aload_n 0, 1) := by decide +kernel
theorem dX4_drawLine_18 : decode cX4_drawLine 18 = .ok (.getfield 9, 3) := by decide +kernel
theorem dX4_drawLine_21 : decode cX4_drawLine 21 = .ok (.iload_n 2, 1) := by decide +kernel
theorem dX4_drawLine_22 : decode cX4_drawLine 22 = .ok (.iload 5, 2) := by decide +kernel
theorem dX4_drawLine_24 : decode cX4_drawLine 24 = .ok (.iload_n 3, 1) := by decide +kernel
theorem dX4_drawLine_25 : decode cX4_drawLine 25 = .ok (.imul, 1) := by decide +kernel
theorem dX4_drawLine_26 : decode cX4_drawLine 26 = .ok (.iadd, 1) := by decide +kernel
theorem dX4_drawLine_27 : decode cX4_drawLine 27 = .ok (.iaload, 1) := by decide +kernel
theorem dX4_drawLine_28 : decode cX4_drawLine 28 = .ok (.iconst (-1), 1) := by decide +kernel
theorem dX4_drawLine_29 : decode cX4_drawLine 29 = .ok (.if_icmp .ne 4, 3) := by decide +kernel
theorem dX4_drawLine_32 : decode cX4_drawLine 32 = .ok (.return_, 1) := by decide +kernel
theorem dX4_drawLine_33 : decode cX4_drawLine 33 = .ok (.iinc 5 1, 3) := by decide +kernel
theorem dX4_drawLine_36 : decode cX4_drawLine 36 = .ok (.goto (-26), 3) := by decide +kernel
theorem dX4_drawLine_39 : decode cX4_drawLine 39 = .ok (.iconst 0, 1) := by decide +kernel
theorem dX4_drawLine_40 : decode cX4_drawLine 40 = .ok (.istore 5, 2) := by decide +kernel
theorem dX4_drawLine_42 : decode cX4_drawLine 42 = .ok (.iload 5, 2) := by decide +kernel
theorem dX4_drawLine_44 : decode cX4_drawLine 44 = .ok (.iload 4, 2) := by decide +kernel
theorem dX4_drawLine_46 : decode cX4_drawLine 46 = .ok (.if_icmp .ge 49, 3) := by decide +kernel
theorem dX4_drawLine_49 : decode cX4_drawLine 49 = .ok (.aload_n 0, 1) := by decide +kernel
theorem dX4_drawLine_50 : decode cX4_drawLine 50 = .ok (.getfield 9, 3) := by decide +kernel
theorem dX4_drawLine_53 : decode cX4_drawLine 53 = .ok (.iload_n 2, 1) := by decide +kernel
theorem dX4_drawLine_54 : decode cX4_drawLine 54 = .ok (.iload 5, 2) := by decide +kernel
theorem dX4_drawLine_56 : decode cX4_drawLine 56 = .ok (.iload_n 3, 1) := by decide +kernel
theorem dX4_drawLine_57 : decode cX4_drawLine 57 = .ok (.imul, 1) := by decide +kernel
theorem dX4_drawLine_58 : decode cX4_drawLine 58 = .ok (.iadd, 1) := by decide +kernel
theorem dX4_drawLine_59 : decode cX4_drawLine 59 = .ok (.iaload, 1) := by decide +kernel
theorem dX4_drawLine_60 : decode cX4_drawLine 60 = .ok (.istore 6, 2) := by decide +kernel
theorem dX4_drawLine_62 : decode cX4_drawLine 62 = .ok (.aload_n 0, 1) := by decide +kernel
theorem dX4_drawLine_63 : decode cX4_drawLine 63 = .ok (.getfield 27, 3) := by decide +kernel
theorem dX4_drawLine_66 : decode cX4_drawLine 66 = .ok (.iload_n 1, 1) := by decide +kernel
theorem dX4_drawLine_67 : decode cX4_drawLine 67 = .ok (.iconst 4, 1) := by decide +kernel
theorem dX4_drawLine_68 : decode cX4_drawLine 68 = .ok (.imul, 1) := by decide +kernel
theorem dX4_drawLine_69 : decode cX4_drawLine 69 = .ok (.iload 5, 2) := by decide +kernel
theorem dX4_drawLine_71 : decode cX4_drawLine 71 = .ok (.iadd, 1) := by decide +kernel
theorem dX4_drawLine_72 : decode cX4_drawLine 72 = .ok (.iload 6, 2) := by decide +kernel
theorem dX4_drawLine_74 : decode cX4_drawLine 74 = .ok (.iastore, 1) := by decide +kernel
theorem dX4_drawLine_75 : decode cX4_drawLine 75 = .ok (.aload_n 0, 1) := by decide +kernel
theorem dX4_drawLine_76 : decode cX4_drawLine 76 = .ok (.getfield 30, 3) := by decide +kernel
theorem dX4_drawLine_79 : decode cX4_drawLine 79 = .ok (.iload_n 1, 1) := by decide +kernel
theorem dX4_drawLine_80 : decode cX4_drawLine 80 = .ok (.bipush 16, 2) := by decide +kernel
theorem dX4_drawLine_82 : decode cX4_drawLine 82 = .ok (.imul, 1) := by decide +kernel
theorem dX4_drawLine_83 : decode cX4_drawLine 83 = .ok (.iload 6, 2) := by decide +kernel
theorem dX4_drawLine_85 : decode cX4_drawLine 85 = .ok (.iadd, 1) := by decide +kernel
theorem dX4_drawLine_86 : decode cX4_drawLine 86 = .ok (.iload 5, 2) := by decide +kernel
theorem dX4_drawLine_88 : decode cX4_drawLine 88 = .ok (.iastore, 1) := by decide +kernel
theorem dX4_drawLine_89 : decode cX4_drawLine 89 = .ok (.iinc 5 1, 3) := by decide +kernel
theorem dX4_drawLine_92 : decode cX4_drawLine 92 = .ok (.goto (-50), 3) := by decide +kernel
theorem dX4_drawLine_95 : decode cX4_drawLine 95 = .ok (.aload_n 0, 1) := by decide +kernel
theorem dX4_drawLine_96 : decode cX4_drawLine 96 = .ok (.getfield 24, 3) := by decide +kernel
theorem dX4_drawLine_99 : decode cX4_drawLine 99 = .ok (.iload_n 1, 1) := by decide +kernel
theorem dX4_drawLine_100 : decode cX4_drawLine 100 = .ok (.iload 4, 2) := by decide +kernel
theorem dX4_drawLine_102 : decode cX4_drawLine 102 = .ok (.iastore, 1) := by decide +kernel
theorem dX4_drawLine_103 : decode cX4_drawLine 103 = .ok (.return_, 1) := by decide +kernel
theorem dX4_hasWalls_0 : decode cX4_hasWalls 0 = .ok (.aload_n 0, 1) := by decide +kernel
theorem dX4_hasWalls_1 : decode cX4_hasWalls 1 = .ok (.getfield 53, 3) := by decide +kernel
theorem dX4_hasWalls_4 : decode cX4_hasWalls 4 = .ok (.aload_n 0, 1) := by decide +kernel
theorem dX4_hasWalls_5 : decode cX4_hasWalls 5 = .ok (.getfield 50, 3) := by decide +kernel
theorem dX4_hasWalls_8 : decode cX4_hasWalls 8 = .ok (.if_icmp .ge 7, 3) := by decide +kernel
theorem dX4_hasWalls_11 : decode cX4_hasWalls 11 = .ok (.iconst 1, 1) := by decide +kernel
theorem dX4_hasWalls_12 : decode cX4_hasWalls 12 = .ok (.goto 4, 3) := by decide +kernel
theorem dX4_hasWalls_15 : decode cX4_hasWalls 15 = .ok (.iconst 0, 1) := by decide +kernel
theorem dX4_hasWalls_16 : decode cX4_hasWalls 16 = .ok (.ireturn, 1) := by decide +kernel
theorem dX4_besideOf_0 : decode cX4_besideOf 0 = .ok (.aload_n 0, 1) := by decide +kernel
theorem dX4_besideOf_1 : decode cX4_besideOf 1 = .ok (.getfield 18, 3) := by decide +kernel
theorem dX4_besideOf_4 : decode cX4_besideOf 4 = .ok (.iload_n 1, 1) := by decide +kernel
theorem dX4_besideOf_5 : decode cX4_besideOf 5 = .ok (.iconst 4, 1) := by decide +kernel
theorem dX4_besideOf_6 : decode cX4_besideOf 6 = .ok (.imul, 1) := by decide +kernel
theorem dX4_besideOf_7 : decode cX4_besideOf 7 = .ok (.iload_n 2, 1) := by decide +kernel
theorem dX4_besideOf_8 : decode cX4_besideOf 8 = .ok (.iadd, 1) := by decide +kernel
theorem dX4_besideOf_9 : decode cX4_besideOf 9 = .ok (.iaload, 1) := by decide +kernel
theorem dX4_besideOf_10 : decode cX4_besideOf 10 = .ok (.ireturn, 1) := by decide +kernel
theorem dX4_stepsBetween_0 : decode cX4_stepsBetween 0 = .ok (.aload_n 0, 1) := by decide +kernel
theorem dX4_stepsBetween_1 : decode cX4_stepsBetween 1 = .ok (.getfield 21, 3) := by decide +kernel
theorem dX4_stepsBetween_4 : decode cX4_stepsBetween 4 = .ok (.iload_n 1, 1) := by decide +kernel
theorem dX4_stepsBetween_5 : decode cX4_stepsBetween 5 = .ok (.bipush 16, 2) := by decide +kernel
theorem dX4_stepsBetween_7 : decode cX4_stepsBetween 7 = .ok (.imul, 1) := by decide +kernel
theorem dX4_stepsBetween_8 : decode cX4_stepsBetween 8 = .ok (.iload_n 2, 1) := by decide +kernel
theorem dX4_stepsBetween_9 : decode cX4_stepsBetween 9 = .ok (.iadd, 1) := by decide +kernel
theorem dX4_stepsBetween_10 : decode cX4_stepsBetween 10 = .ok (.iaload, 1) := by decide +kernel
theorem dX4_stepsBetween_11 : decode cX4_stepsBetween 11 = .ok (.ireturn, 1) := by decide +kernel
theorem dX4_linePlace_0 : decode cX4_linePlace 0 = .ok (.aload_n 0, 1) := by decide +kernel
theorem dX4_linePlace_1 : decode cX4_linePlace 1 = .ok (.getfield 27, 3) := by decide +kernel
theorem dX4_linePlace_4 : decode cX4_linePlace 4 = .ok (.iload_n 1, 1) := by decide +kernel
theorem dX4_linePlace_5 : decode cX4_linePlace 5 = .ok (.iconst 4, 1) := by decide +kernel
theorem dX4_linePlace_6 : decode cX4_linePlace 6 = .ok (.imul, 1) := by decide +kernel
theorem dX4_linePlace_7 : decode cX4_linePlace 7 = .ok (.iload_n 2, 1) := by decide +kernel
theorem dX4_linePlace_8 : decode cX4_linePlace 8 = .ok (.iadd, 1) := by decide +kernel
theorem dX4_linePlace_9 : decode cX4_linePlace 9 = .ok (.iaload, 1) := by decide +kernel
theorem dX4_linePlace_10 : decode cX4_linePlace 10 = .ok (.ireturn, 1) := by decide +kernel
theorem dX4_indexOn_0 : decode cX4_indexOn 0 = .ok (.aload_n 0, 1) := by decide +kernel
theorem dX4_indexOn_1 : decode cX4_indexOn 1 = .ok (.getfield 30, 3) := by decide +kernel
theorem dX4_indexOn_4 : decode cX4_indexOn 4 = .ok (.iload_n 1, 1) := by decide +kernel
theorem dX4_indexOn_5 : decode cX4_indexOn 5 = .ok (.bipush 16, 2) := by decide +kernel
theorem dX4_indexOn_7 : decode cX4_indexOn 7 = .ok (.imul, 1) := by decide +kernel
theorem dX4_indexOn_8 : decode cX4_indexOn 8 = .ok (.iload_n 2, 1) := by decide +kernel
theorem dX4_indexOn_9 : decode cX4_indexOn 9 = .ok (.iadd, 1) := by decide +kernel
theorem dX4_indexOn_10 : decode cX4_indexOn 10 = .ok (.iaload, 1) := by decide +kernel
theorem dX4_indexOn_11 : decode cX4_indexOn 11 = .ok (.ireturn, 1) := by decide +kernel
set_option maxRecDepth 20000 in
theorem ggX4_exits_X4_besideOf : GoodIn wsX4_exits wsX4_besideOf := goodIn_r _ [5, 6, 7, 8, 9, 10, 11, 12, 13, 14, 15, 16, 17] (by decide +kernel) (by decide +kernel)
set_option maxRecDepth 20000 in
theorem gX4_exits_X4_besideOf : GoodIn wsX4_exits (wsV RX4 69 RX4 yX4_besideOf wsX4_besideOf) := goodIn_app (goodIn_of _ (by decide +kernel)) ggX4_exits_X4_besideOf
theorem dX4_exits_0 : decode cX4_exits 0 = .ok (.iconst 0, 1) := by decide +kernel
theorem dX4_exits_1 : decode cX4_exits 1 = .ok (.istore_n 2, 1) := by decide +kernel
theorem dX4_exits_2 : decode cX4_exits 2 = .ok (.iconst 0, 1) := by decide +kernel
theorem dX4_exits_3 : decode cX4_exits 3 = .ok (.istore_n 3, 1) := by decide +kernel
theorem dX4_exits_4 : decode cX4_exits 4 = .ok (.iload_n 3, 1) := by decide +kernel
theorem dX4_exits_5 : decode cX4_exits 5 = .ok (.iconst 3, 1) := by decide +kernel
theorem dX4_exits_6 : decode cX4_exits 6 = .ok (.if_icmp .gt 22, 3) := by decide +kernel
theorem dX4_exits_9 : decode cX4_exits 9 = .ok (.aload_n 0, 1) := by decide +kernel
theorem dX4_exits_10 : decode cX4_exits 10 = .ok (.iload_n 1, 1) := by decide +kernel
theorem dX4_exits_11 : decode cX4_exits 11 = .ok (.iload_n 3, 1) := by decide +kernel
theorem dX4_exits_12 : decode cX4_exits 12 = .ok (.invokevirtual 69, 3) := by decide +kernel
theorem dX4_exits_15 : decode cX4_exits 15 = .ok (.iconst (-1), 1) := by decide +kernel
theorem dX4_exits_16 : decode cX4_exits 16 = .ok (.if_icmp .eq 6, 3) := by decide +kernel
theorem dX4_exits_19 : decode cX4_exits 19 = .ok (.iinc 2 1, 3) := by decide +kernel
theorem dX4_exits_22 : decode cX4_exits 22 = .ok (.iinc 3 1, 3) := by decide +kernel
theorem dX4_exits_25 : decode cX4_exits 25 = .ok (.goto (-21), 3) := by decide +kernel
theorem dX4_exits_28 : decode cX4_exits 28 = .ok (.iload_n 2, 1) := by decide +kernel
theorem dX4_exits_29 : decode cX4_exits 29 = .ok (.ireturn, 1) := by decide +kernel
set_option maxRecDepth 20000 in
theorem ggX4_exit_X4_besideOf : GoodIn wsX4_exit wsX4_besideOf := goodIn_r _ [5, 6, 7, 8, 9, 10, 11, 12, 13, 14, 15, 16, 17] (by decide +kernel) (by decide +kernel)
set_option maxRecDepth 20000 in
theorem gX4_exit_X4_besideOf : GoodIn wsX4_exit (wsV RX4 69 RX4 yX4_besideOf wsX4_besideOf) := goodIn_app (goodIn_of _ (by decide +kernel)) ggX4_exit_X4_besideOf
theorem dX4_exit_0 : decode cX4_exit 0 = .ok (.iconst 0, 1) := by decide +kernel
theorem dX4_exit_1 : decode cX4_exit 1 = .ok (.istore_n 3, 1) := by decide +kernel
theorem dX4_exit_2 : decode cX4_exit 2 = .ok (.iconst 0, 1) := by decide +kernel
theorem dX4_exit_3 : decode cX4_exit 3 = .ok (.istore 4, 2) := by decide +kernel
theorem dX4_exit_5 : decode cX4_exit 5 = .ok (.iload 4, 2) := by decide +kernel
theorem dX4_exit_7 : decode cX4_exit 7 = .ok (.iconst 3, 1) := by decide +kernel
theorem dX4_exit_8 : decode cX4_exit 8 = .ok (.if_icmp .ge 34, 3) := by decide +kernel
theorem dX4_exit_11 : decode cX4_exit 11 = .ok (.aload_n 0, 1) := by decide +kernel
theorem dX4_exit_12 : decode cX4_exit 12 = .ok (.iload_n 1, 1) := by decide +kernel
theorem dX4_exit_13 : decode cX4_exit 13 = .ok (.iload 4, 2) := by decide +kernel
theorem dX4_exit_15 : decode cX4_exit 15 = .ok (.invokevirtual 69, 3) := by decide +kernel
theorem dX4_exit_18 : decode cX4_exit 18 = .ok (.iconst (-1), 1) := by decide +kernel
theorem dX4_exit_19 : decode cX4_exit 19 = .ok (.if_icmp .ne 6, 3) := by decide +kernel
theorem dX4_exit_22 : decode cX4_exit 22 = .ok (.goto 14, 3) := by decide +kernel
theorem dX4_exit_25 : decode cX4_exit 25 = .ok (.iload_n 3, 1) := by decide +kernel
theorem dX4_exit_26 : decode cX4_exit 26 = .ok (.iload_n 2, 1) := by decide +kernel
theorem dX4_exit_27 : decode cX4_exit 27 = .ok (.if_icmp .ne 6, 3) := by decide +kernel
theorem dX4_exit_30 : decode cX4_exit 30 = .ok (.iload 4, 2) := by decide +kernel
theorem dX4_exit_32 : decode cX4_exit 32 = .ok (.ireturn, 1) := by decide +kernel
theorem dX4_exit_33 : decode cX4_exit 33 = .ok (.iinc 3 1, 3) := by decide +kernel
theorem dX4_exit_36 : decode cX4_exit 36 = .ok (.iinc 4 1, 3) := by decide +kernel
theorem dX4_exit_39 : decode cX4_exit 39 = .ok (.goto (-34), 3) := by decide +kernel
theorem dX4_exit_42 : decode cX4_exit 42 = .ok (.iconst 3, 1) := by decide +kernel
theorem dX4_exit_43 : decode cX4_exit 43 = .ok (.ireturn, 1) := by decide +kernel
set_option maxRecDepth 20000 in
theorem ggX5_init_X7_init : GoodIn wsX5_init wsX7_init := goodIn_r _ [14, 15, 2, 3, 4, 16, 17, 26, 27, 28, 29] (by decide +kernel) (by decide +kernel)
set_option maxRecDepth 20000 in
theorem gX5_init_X7_init : GoodIn wsX5_init (wsX7_init) := ggX5_init_X7_init
theorem dX5_init_0 : decode cX5_init 0 = .ok (.aload_n 0, 1) := by decide +kernel
theorem dX5_init_1 : decode cX5_init 1 = .ok (.invokespecial 3, 3) := by decide +kernel
theorem dX5_init_4 : decode cX5_init 4 = .ok (.aload_n 0, 1) := by decide +kernel
theorem dX5_init_5 : decode cX5_init 5 = .ok (.sipush 1000, 3) := by decide +kernel
theorem dX5_init_8 : decode cX5_init 8 = .ok (.newarray .int, 2) := by decide +kernel
theorem dX5_init_10 : decode cX5_init 10 = .ok (.putfield 9, 3) := by decide +kernel
theorem dX5_init_13 : decode cX5_init 13 = .ok (.aload_n 0, 1) := by decide +kernel
theorem dX5_init_14 : decode cX5_init 14 = .ok (.sipush 1001, 3) := by decide +kernel
theorem dX5_init_17 : decode cX5_init 17 = .ok (.newarray .int, 2) := by decide +kernel
theorem dX5_init_19 : decode cX5_init 19 = .ok (.putfield 15, 3) := by decide +kernel
theorem dX5_init_22 : decode cX5_init 22 = .ok (.aload_n 0, 1) := by decide +kernel
theorem dX5_init_23 : decode cX5_init 23 = .ok (.sipush 1001, 3) := by decide +kernel
theorem dX5_init_26 : decode cX5_init 26 = .ok (.newarray .int, 2) := by decide +kernel
theorem dX5_init_28 : decode cX5_init 28 = .ok (.putfield 18, 3) := by decide +kernel
theorem dX5_init_31 : decode cX5_init 31 = .ok (.aload_n 0, 1) := by decide +kernel
theorem dX5_init_32 : decode cX5_init 32 = .ok (.new 21, 3) := by decide +kernel
theorem dX5_init_35 : decode cX5_init 35 = .ok (.dup, 1) := by decide +kernel
theorem dX5_init_36 : decode cX5_init 36 = .ok (.invokespecial 23, 3) := by decide +kernel
theorem dX5_init_39 : decode cX5_init 39 = .ok (.putfield 24, 3) := by decide +kernel
theorem dX5_init_42 : decode cX5_init 42 = .ok (.return_, 1) := by decide +kernel
set_option maxRecDepth 20000 in
theorem ggX5_seek_X9_guess : GoodIn wsX5_seek wsX9_guess := goodIn_r _ [10, 11, 12, 13, 9, 14, 15, 16, 17, 18, 19, 20, 21, 22, 23, 24, 25, 26, 27, 28, 29, 30, 31, 32, 33, 34, 35, 36, 37, 38, 39, 40, 41, 42, 43, 44, 45, 46, 47, 48, 49, 50, 51, 52, 53, 54, 55, 56, 57, 58, 59, 60, 61, 62, 63, 64, 65, 66, 67, 68, 69, 70, 71, 72, 73, 74, 75, 76, 77, 78, 79, 80, 81, 82, 83, 84, 85, 86, 87, 88, 163, 164, 165, 166, 167, 168, 169, 170, 171, 172, 173, 174, 175, 176, 177, 178, 179, 180, 181, 182, 183, 184, 185, 186, 187, 188, 189, 190, 191, 192, 193, 194, 195, 196] (by decide +kernel) (by decide +kernel)
set_option maxRecDepth 20000 in
theorem gX5_seek_X9_guess : GoodIn wsX5_seek (wsV RX5 35 RX9 yX9_guess wsX9_guess) := goodIn_app (goodIn_of _ (by decide +kernel)) ggX5_seek_X9_guess
set_option maxRecDepth 20000 in
theorem ggX5_seek_X7_copy : GoodIn wsX5_seek wsX7_copy := goodIn_r _ [93, 94, 95, 96, 97, 98, 99, 100, 101, 186, 187, 188, 189] (by decide +kernel) (by decide +kernel)
set_option maxRecDepth 20000 in
theorem gX5_seek_X7_copy : GoodIn wsX5_seek (wsV RX5 41 RX7 yX7_copy wsX7_copy) := goodIn_app (goodIn_of _ (by decide +kernel)) ggX5_seek_X7_copy
set_option maxRecDepth 20000 in
theorem ggX5_seek_X5_goThrough : GoodIn wsX5_seek wsX5_goThrough := goodIn_r _ [106, 1, 107, 5, 108, 109, 3, 4, 110, 111, 112, 113, 114, 115, 22, 116, 117, 118, 20, 21, 23, 24, 119, 26, 27, 28, 29, 30, 120, 121, 122, 105, 123, 124, 125, 126, 127, 128, 129, 92, 130, 101, 96, 95, 131, 132, 133, 40, 134, 135, 136, 137, 138, 139, 140, 141, 142, 143, 94, 144, 145, 146, 147, 148, 149, 150, 6, 7, 8, 9, 10, 11, 12, 13, 14, 15, 16, 17, 18, 19, 25, 31, 32, 33, 34, 35, 36, 37, 38, 39, 41, 42, 43, 44, 45, 46, 47, 48, 49, 50, 51, 52, 53, 54, 55, 56, 57, 58, 59, 60, 61, 62, 63, 64, 65, 66, 67, 68, 69, 70, 71, 72, 73, 74, 75, 76, 77, 78, 79, 80, 81, 82, 83, 84, 85, 86, 87, 88, 151, 152, 153, 154, 155, 156, 157, 158, 159, 160, 161, 162, 163, 164, 165, 166, 167, 168, 169, 170, 182, 183, 184, 185, 186, 187, 188, 189, 171, 172, 173, 174, 175, 176, 177, 178, 179, 180, 181, 190, 191, 192, 193, 194, 195, 196] (by decide +kernel) (by decide +kernel)
set_option maxRecDepth 20000 in
theorem gX5_seek_X5_goThrough : GoodIn wsX5_seek (wsV RX5 48 RX5 yX5_goThrough wsX5_goThrough) := goodIn_app (goodIn_of _ (by decide +kernel)) ggX5_seek_X5_goThrough
theorem dX5_seek_0 : decode cX5_seek 0 = .ok (.aload_n 0, 1) := by decide +kernel
theorem dX5_seek_1 : decode cX5_seek 1 = .ok (.iconst 0, 1) := by decide +kernel
theorem dX5_seek_2 : decode cX5_seek 2 = .ok (.putfield 28, 3) := by decide +kernel
theorem dX5_seek_5 : decode cX5_seek 5 = .ok (.aload_n 0, 1) := by decide +kernel
theorem dX5_seek_6 : decode cX5_seek 6 = .ok (.iconst 0, 1) := by decide +kernel
theorem dX5_seek_7 : decode cX5_seek 7 = .ok (.putfield 32, 3) := by decide +kernel
theorem dX5_seek_10 : decode cX5_seek 10 = .ok (.aload_n 1, 1) := by decide +kernel
theorem dX5_seek_11 : decode cX5_seek 11 = .ok (.aload_n 2, 1) := by decide +kernel
theorem dX5_seek_12 : decode cX5_seek 12 = .ok (.iload_n 3, 1) := by decide +kernel
theorem dX5_seek_13 : decode cX5_seek 13 = .ok (.invokevirtual 35, 3) := by decide +kernel
theorem dX5_seek_16 : decode cX5_seek 16 = .ok (.istore 5, 2) := by decide +kernel
theorem dX5_seek_18 : decode cX5_seek 18 = .ok (.iconst 0, 1) := by decide +kernel
theorem dX5_seek_19 : decode cX5_seek 19 = .ok (.istore 6, 2) := by decide +kernel
theorem dX5_seek_21 : decode cX5_seek 21 = .ok (.iload 6, 2) := by decide +kernel
theorem dX5_seek_23 : decode cX5_seek 23 = .ok (.iload 4, 2) := by decide +kernel
theorem dX5_seek_25 : decode cX5_seek 25 = .ok (.if_icmp .ge 81, 3) := by decide +kernel
theorem dX5_seek_28 : decode cX5_seek 28 = .ok (.aload_n 0, 1) := by decide +kernel
theorem dX5_seek_29 : decode cX5_seek 29 = .ok (.getfield 24, 3) := by decide +kernel
theorem dX5_seek_32 : decode cX5_seek 32 = .ok (.aload_n 2, 1) := by decide +kernel
theorem dX5_seek_33 : decode cX5_seek 33 = .ok (.invokevirtual 41, 3) := by decide +kernel
theorem dX5_seek_36 : decode cX5_seek 36 = .ok (.aload_n 0, 1) := by decide +kernel
theorem dX5_seek_37 : decode cX5_seek 37 = .ok (.iconst 0, 1) := by decide +kernel
theorem dX5_seek_38 : decode cX5_seek 38 = .ok (.putfield 45, 3) := by decide +kernel
theorem dX5_seek_41 : decode cX5_seek 41 = .ok (.aload_n 0, 1) := by decide +kernel
theorem dX5_seek_42 : decode cX5_seek 42 = .ok (.dup, 1) := by decide +kernel
theorem dX5_seek_43 : decode cX5_seek 43 = .ok (.getfield 32, 3) := by decide +kernel
theorem dX5_seek_46 : decode cX5_seek 46 = .ok (.iconst 1, 1) := by decide +kernel
theorem dX5_seek_47 : decode cX5_seek 47 = .ok (.iadd, 1) := by decide +kernel
theorem dX5_seek_48 : decode cX5_seek 48 = .ok (.putfield 32, 3) := by decide +kernel
theorem dX5_seek_51 : decode cX5_seek 51 = .ok (.aload_n 0, 1) := by decide +kernel
theorem dX5_seek_52 : decode cX5_seek 52 = .ok (.aload_n 1, 1) := by decide +kernel
theorem dX5_seek_53 : decode cX5_seek 53 = .ok (.iload_n 3, 1) := by decide +kernel
theorem dX5_seek_54 : decode cX5_seek 54 = .ok (.iload 5, 2) := by decide +kernel
theorem dX5_seek_56 : decode cX5_seek 56 = .ok (.iload 4, 2) := by decide +kernel
theorem dX5_seek_58 : decode cX5_seek 58 = .ok (.invokevirtual 48, 3) := by decide +kernel
theorem dX5_seek_61 : decode cX5_seek 61 = .ok (.istore 7, 2) := by decide +kernel
theorem dX5_seek_63 : decode cX5_seek 63 = .ok (.iload 7, 2) := by decide +kernel
theorem dX5_seek_65 : decode cX5_seek 65 = .ok (.ifCond .ne 13, 3) := by decide +kernel
theorem dX5_seek_68 : decode cX5_seek 68 = .ok (.aload_n 0, 1) := by decide +kernel
theorem dX5_seek_69 : decode cX5_seek 69 = .ok (.getfield 15, 3) := by decide +kernel
theorem dX5_seek_72 : decode cX5_seek 72 = .ok (.aload_n 0, 1) := by decide +kernel
theorem dX5_seek_73 : decode cX5_seek 73 = .ok (.getfield 45, 3) := by decide +kernel
theorem dX5_seek_76 : decode cX5_seek 76 = .ok (.iaload, 1) := by decide +kernel
theorem dX5_seek_77 : decode cX5_seek 77 = .ok (.ireturn, 1) := by decide +kernel
theorem dX5_seek_78 : decode cX5_seek 78 = .ok (.iload 7, 2) := by decide +kernel
theorem dX5_seek_80 : decode cX5_seek 80 = .ok (.iconst (-1), 1) := by decide +kernel
theorem dX5_seek_81 : decode cX5_seek 81 = .ok (.if_icmp .ne 5, 3) := by decide +kernel
theorem dX5_seek_84 : decode cX5_seek 84 = .ok (.iconst (-1), 1) := by decide +kernel
theorem dX5_seek_85 : decode cX5_seek 85 = .ok (.ireturn, 1) := by decide +kernel
theorem dX5_seek_86 : decode cX5_seek 86 = .ok (.iload 7, 2) := by decide +kernel
theorem dX5_seek_88 : decode cX5_seek 88 = .ok (.bipush (-2), 2) := by decide +kernel
theorem dX5_seek_90 : decode cX5_seek 90 = .ok (.if_icmp .ne 6, 3) := by decide +kernel
theorem dX5_seek_93 : decode cX5_seek 93 = .ok (.bipush (-2), 2) := by decide +kernel
theorem dX5_seek_95 : decode cX5_seek 95 = .ok (.ireturn, 1) := by decide +kernel
theorem dX5_seek_96 : decode cX5_seek 96 = .ok (.iload 7, 2) := by decide +kernel
theorem dX5_seek_98 : decode cX5_seek 98 = .ok (.istore 5, 2) := by decide +kernel
theorem dX5_seek_100 : decode cX5_seek 100 = .ok (.iinc 6 1, 3) := by decide +kernel
theorem dX5_seek_103 : decode cX5_seek 103 = .ok (.goto (-82), 3) := by decide +kernel
theorem dX5_seek_106 : decode cX5_seek 106 = .ok (.bipush (-2), 2) := by decide +kernel
theorem dX5_seek_108 : decode cX5_seek 108 = .ok (.ireturn, 1) := by decide +kernel
set_option maxRecDepth 20000 in
theorem ggX5_goThrough_X1_isReachedBy : GoodIn wsX5_goThrough wsX1_isReachedBy := goodIn_r _ [15, 16, 17, 18, 19, 14, 20, 21, 22, 23, 24, 25, 26, 27, 158, 159, 160, 161, 162, 163, 164, 165] (by decide +kernel) (by decide +kernel)
set_option maxRecDepth 20000 in
theorem gX5_goThrough_X1_isReachedBy : GoodIn wsX5_goThrough (wsV RX5 59 RX1 yX1_isReachedBy wsX1_isReachedBy) := goodIn_app (goodIn_of _ (by decide +kernel)) ggX5_goThrough_X1_isReachedBy
set_option maxRecDepth 20000 in
theorem ggX5_goThrough_X5_goBack : GoodIn wsX5_goThrough wsX5_goBack := goodIn_r _ [32, 7, 6, 9, 8, 33, 34, 35, 36, 37, 38, 39, 40, 41, 42, 43, 44, 45, 46, 47, 48, 49, 50, 51, 52, 53, 54, 55, 56, 57, 58, 59, 60, 61, 142, 143, 144, 145, 146, 147, 148, 149, 150, 151, 152, 153, 154, 155, 156, 157, 162, 163, 164, 165, 166, 167, 168, 169, 170, 171, 172, 173, 174, 175, 176] (by decide +kernel) (by decide +kernel)
set_option maxRecDepth 20000 in
theorem gX5_goThrough_X5_goBack : GoodIn wsX5_goThrough (wsV RX5 65 RX5 yX5_goBack wsX5_goBack) := goodIn_app (goodIn_of _ (by decide +kernel)) ggX5_goThrough_X5_goBack
set_option maxRecDepth 20000 in
theorem ggX5_goThrough_X11_opposite : GoodIn wsX5_goThrough wsX11_opposite := goodIn_r _ [35] (by decide +kernel) (by decide +kernel)
set_option maxRecDepth 20000 in
theorem gX5_goThrough_X11_opposite_n69 : GoodIn wsX5_goThrough (wsX11_opposite) := ggX5_goThrough_X11_opposite
set_option maxRecDepth 20000 in
theorem ggX5_goThrough_X7_shift : GoodIn wsX5_goThrough wsX7_shift := goodIn_r _ [40, 41, 42, 43, 44, 45, 46, 47, 48, 49, 50, 51, 52, 39, 53, 54, 55, 56, 57, 58, 59, 60, 61, 162, 163, 164, 165, 166, 167, 168, 169, 170, 171, 172, 173, 174, 175, 176] (by decide +kernel) (by decide +kernel)
set_option maxRecDepth 20000 in
theorem gX5_goThrough_X7_shift : GoodIn wsX5_goThrough (wsV RX5 77 RX7 yX7_shift wsX7_shift) := goodIn_app (goodIn_of _ (by decide +kernel)) ggX5_goThrough_X7_shift
set_option maxRecDepth 20000 in
theorem ggX5_goThrough_X5_goOn : GoodIn wsX5_goThrough wsX5_goOn := goodIn_r _ [65, 8, 7, 3, 4, 142, 143, 144, 145, 146, 147, 148, 149] (by decide +kernel) (by decide +kernel)
set_option maxRecDepth 20000 in
theorem gX5_goThrough_X5_goOn : GoodIn wsX5_goThrough (wsV RX5 84 RX5 yX5_goOn wsX5_goOn) := goodIn_app (goodIn_of _ (by decide +kernel)) ggX5_goThrough_X5_goOn
set_option maxRecDepth 20000 in
theorem ggX5_goThrough_X9_guess : GoodIn wsX5_goThrough wsX9_guess := goodIn_r _ [70, 71, 72, 73, 69, 74, 75, 76, 77, 78, 79, 18, 19, 14, 20, 21, 80, 23, 24, 25, 26, 27, 81, 82, 83, 84, 85, 86, 87, 88, 89, 47, 90, 91, 92, 93, 94, 95, 96, 97, 98, 99, 100, 101, 102, 103, 104, 105, 106, 107, 108, 109, 110, 111, 112, 113, 114, 115, 116, 117, 118, 119, 120, 121, 122, 123, 124, 125, 126, 127, 128, 129, 130, 131, 132, 133, 134, 135, 136, 137, 150, 151, 152, 153, 154, 155, 156, 157, 166, 167, 168, 169, 170, 171, 172, 173, 174, 175, 176, 158, 159, 160, 161, 162, 163, 164, 165, 177, 178, 179, 180, 181, 182, 183] (by decide +kernel) (by decide +kernel)
set_option maxRecDepth 20000 in
theorem gX5_goThrough_X9_guess : GoodIn wsX5_goThrough (wsV RX5 35 RX9 yX9_guess wsX9_guess) := goodIn_app (goodIn_of _ (by decide +kernel)) ggX5_goThrough_X9_guess
set_option maxRecDepth 20000 in
theorem ggX5_goThrough_X5_endsBy : GoodIn wsX5_goThrough wsX5_endsBy := goodIn_r _ [141, 2, 142, 143, 144, 145, 146, 147, 148, 149] (by decide +kernel) (by decide +kernel)
set_option maxRecDepth 20000 in
theorem gX5_goThrough_X5_endsBy : GoodIn wsX5_goThrough (wsV RX5 88 RX5 yX5_endsBy wsX5_endsBy) := goodIn_app (goodIn_of _ (by decide +kernel)) ggX5_goThrough_X5_endsBy
theorem dX5_goThrough_0 : decode cX5_goThrough 0 = .ok (.aload_n 0, 1) := by decide +kernel
theorem dX5_goThrough_1 : decode cX5_goThrough 1 = .ok (.getfield 28, 3) := by decide +kernel
theorem dX5_goThrough_4 : decode cX5_goThrough 4 = .ok (.iload 4, 2) := by decide +kernel
theorem dX5_goThrough_6 : decode cX5_goThrough 6 = .ok (.if_icmp .lt 6, 3) := by decide +kernel
theorem dX5_goThrough_9 : decode cX5_goThrough 9 = .ok (.bipush (-2), 2) := by decide +kernel
theorem dX5_goThrough_11 : decode cX5_goThrough 11 = .ok (.ireturn, 1) := by decide +kernel
theorem dX5_goThrough_12 : decode cX5_goThrough 12 = .ok (.aload_n 0, 1) := by decide +kernel
theorem dX5_goThrough_13 : decode cX5_goThrough 13 = .ok (.dup, 1) := by decide +kernel
theorem dX5_goThrough_14 : decode cX5_goThrough 14 = .ok (.getfield 28, 3) := by decide +kernel
theorem dX5_goThrough_17 : decode cX5_goThrough 17 = .ok (.iconst 1, 1) := by decide +kernel
theorem dX5_goThrough_18 : decode cX5_goThrough 18 = .ok (.iadd, 1) := by decide +kernel
theorem dX5_goThrough_19 : decode cX5_goThrough 19 = .ok (.putfield 28, 3) := by decide +kernel
theorem dX5_goThrough_22 : decode cX5_goThrough 22 = .ok (.aload_n 0, 1) := by decide +kernel
theorem dX5_goThrough_23 : decode cX5_goThrough 23 = .ok (.iconst (-1), 1) := by decide +kernel
theorem dX5_goThrough_24 : decode cX5_goThrough 24 = .ok (.putfield 52, 3) := by decide +kernel
theorem dX5_goThrough_27 : decode cX5_goThrough 27 = .ok (.aload_n 0, 1) := by decide +kernel
theorem dX5_goThrough_28 : decode cX5_goThrough 28 = .ok (.getfield 15, 3) := by decide +kernel
theorem dX5_goThrough_31 : decode cX5_goThrough 31 = .ok (.iconst 0, 1) := by decide +kernel
theorem dX5_goThrough_32 : decode cX5_goThrough 32 = .ok (.iconst 0, 1) := by decide +kernel
theorem dX5_goThrough_33 : decode cX5_goThrough 33 = .ok (.iastore, 1) := by decide +kernel
theorem dX5_goThrough_34 : decode cX5_goThrough 34 = .ok (.aload_n 0, 1) := by decide +kernel
