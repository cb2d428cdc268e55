theorem dX6_gives_0 : decode cX6_gives 0 = .ok (.aload_n 0, 1) := by decide +kernel
theorem dX6_gives_1 : decode cX6_gives 1 = .ok (.iload_n 1, 1) := by decide +kernel
theorem dX6_gives_2 : decode cX6_gives 2 = .ok (.iload_n 3, 1) := by decide +kernel
theorem dX6_gives_3 : decode cX6_gives 3 = .ok (.aload_n 0, 1) := by decide +kernel
theorem dX6_gives_4 : decode cX6_gives 4 = .ok (.getfield 26, 3) := by decide +kernel
theorem dX6_gives_7 : decode cX6_gives 7 = .ok (.iload_n 1, 1) := by decide +kernel
theorem dX6_gives_8 : decode cX6_gives 8 = .ok (.iaload, 1) := by decide +kernel
theorem dX6_gives_9 : decode cX6_gives 9 = .ok (.invokevirtual 76, 3) := by decide +kernel
theorem dX6_gives_12 : decode cX6_gives 12 = .ok (.istore 5, 2) := by decide +kernel
theorem dX6_gives_14 : decode cX6_gives 14 = .ok (.iload 4, 2) := by decide +kernel
theorem dX6_gives_16 : decode cX6_gives 16 = .ok (.ifCond .eq 11, 3) := by decide +kernel
theorem dX6_gives_19 : decode cX6_gives 19 = .ok (.iload 5, 2) := by decide +kernel
theorem dX6_gives_21 : decode cX6_gives 21 = .ok (.ifCond .ge 6, 3) := by decide +kernel
theorem dX6_gives_24 : decode cX6_gives 24 = .ok (.bipush (-99), 2) := by decide +kernel
theorem dX6_gives_26 : decode cX6_gives 26 = .ok (.ireturn, 1) := by decide +kernel
theorem dX6_gives_27 : decode cX6_gives 27 = .ok (.iload_n 3, 1) := by decide +kernel
theorem dX6_gives_28 : decode cX6_gives 28 = .ok (.ifCond .ge 21, 3) := by decide +kernel
theorem dX6_gives_31 : decode cX6_gives 31 = .ok (.iload 5, 2) := by decide +kernel
theorem dX6_gives_33 : decode cX6_gives 33 = .ok (.aload_n 0, 1) := by decide +kernel
theorem dX6_gives_34 : decode cX6_gives 34 = .ok (.getfield 32, 3) := by decide +kernel
theorem dX6_gives_37 : decode cX6_gives 37 = .ok (.sipush 243, 3) := by decide +kernel
theorem dX6_gives_40 : decode cX6_gives 40 = .ok (.iload_n 1, 1) := by decide +kernel
theorem dX6_gives_41 : decode cX6_gives 41 = .ok (.iconst 1, 1) := by decide +kernel
theorem dX6_gives_42 : decode cX6_gives 42 = .ok (.iadd, 1) := by decide +kernel
theorem dX6_gives_43 : decode cX6_gives 43 = .ok (.imul, 1) := by decide +kernel
theorem dX6_gives_44 : decode cX6_gives 44 = .ok (.iload_n 2, 1) := by decide +kernel
theorem dX6_gives_45 : decode cX6_gives 45 = .ok (.iadd, 1) := by decide +kernel
theorem dX6_gives_46 : decode cX6_gives 46 = .ok (.iaload, 1) := by decide +kernel
theorem dX6_gives_47 : decode cX6_gives 47 = .ok (.iadd, 1) := by decide +kernel
theorem dX6_gives_48 : decode cX6_gives 48 = .ok (.ireturn, 1) := by decide +kernel
theorem dX6_gives_49 : decode cX6_gives 49 = .ok (.aload_n 0, 1) := by decide +kernel
theorem dX6_gives_50 : decode cX6_gives 50 = .ok (.iload_n 1, 1) := by decide +kernel
theorem dX6_gives_51 : decode cX6_gives 51 = .ok (.iload_n 3, 1) := by decide +kernel
theorem dX6_gives_52 : decode cX6_gives 52 = .ok (.invokevirtual 59, 3) := by decide +kernel
theorem dX6_gives_55 : decode cX6_gives 55 = .ok (.bipush 9, 2) := by decide +kernel
theorem dX6_gives_57 : decode cX6_gives 57 = .ok (.if_icmp .ge 42, 3) := by decide +kernel
theorem dX6_gives_60 : decode cX6_gives 60 = .ok (.iload_n 2, 1) := by decide +kernel
theorem dX6_gives_61 : decode cX6_gives 61 = .ok (.iload_n 3, 1) := by decide +kernel
theorem dX6_gives_62 : decode cX6_gives 62 = .ok (.invokestatic 80, 3) := by decide +kernel
theorem dX6_gives_65 : decode cX6_gives 65 = .ok (.aload_n 0, 1) := by decide +kernel
theorem dX6_gives_66 : decode cX6_gives 66 = .ok (.getfield 16, 3) := by decide +kernel
theorem dX6_gives_69 : decode cX6_gives 69 = .ok (.iload_n 3, 1) := by decide +kernel
theorem dX6_gives_70 : decode cX6_gives 70 = .ok (.iaload, 1) := by decide +kernel
theorem dX6_gives_71 : decode cX6_gives 71 = .ok (.if_icmp .ge 28, 3) := by decide +kernel
theorem dX6_gives_74 : decode cX6_gives 74 = .ok (.iload 5, 2) := by decide +kernel
theorem dX6_gives_76 : decode cX6_gives 76 = .ok (.aload_n 0, 1) := by decide +kernel
theorem dX6_gives_77 : decode cX6_gives 77 = .ok (.getfield 32, 3) := by decide +kernel
theorem dX6_gives_80 : decode cX6_gives 80 = .ok (.sipush 243, 3) := by decide +kernel
theorem dX6_gives_83 : decode cX6_gives 83 = .ok (.iload_n 1, 1) := by decide +kernel
theorem dX6_gives_84 : decode cX6_gives 84 = .ok (.iconst 1, 1) := by decide +kernel
theorem dX6_gives_85 : decode cX6_gives 85 = .ok (.iadd, 1) := by decide +kernel
theorem dX6_gives_86 : decode cX6_gives 86 = .ok (.imul, 1) := by decide +kernel
theorem dX6_gives_87 : decode cX6_gives 87 = .ok (.iload_n 2, 1) := by decide +kernel
theorem dX6_gives_88 : decode cX6_gives 88 = .ok (.iadd, 1) := by decide +kernel
theorem dX6_gives_89 : decode cX6_gives 89 = .ok (.iload_n 3, 1) := by decide +kernel
theorem dX6_gives_90 : decode cX6_gives 90 = .ok (.invokestatic 83, 3) := by decide +kernel
theorem dX6_gives_93 : decode cX6_gives 93 = .ok (.iadd, 1) := by decide +kernel
theorem dX6_gives_94 : decode cX6_gives 94 = .ok (.iaload, 1) := by decide +kernel
theorem dX6_gives_95 : decode cX6_gives 95 = .ok (.iadd, 1) := by decide +kernel
theorem dX6_gives_96 : decode cX6_gives 96 = .ok (.goto 5, 3) := by decide +kernel
theorem dX6_gives_99 : decode cX6_gives 99 = .ok (.bipush (-99), 2) := by decide +kernel
theorem dX6_gives_101 : decode cX6_gives 101 = .ok (.ireturn, 1) := by decide +kernel
set_option maxRecDepth 20000 in
theorem ggX6_margin_X6_gives : GoodIn wsX6_margin wsX6_gives := goodIn_r _ [8, 9, 1, 10, 11, 12, 13, 7, 14, 15, 16, 17, 18, 19, 20, 21, 22, 23, 24, 25, 26, 27, 28, 29, 30, 31, 32, 33, 34, 35, 36] (by decide +kernel) (by decide +kernel)
set_option maxRecDepth 20000 in
theorem gX6_margin_X6_gives : GoodIn wsX6_margin (wsV RX6 86 RX6 yX6_gives wsX6_gives) := goodIn_app (goodIn_of _ (by decide +kernel)) ggX6_margin_X6_gives
theorem dX6_margin_0 : decode cX6_margin 0 = .ok (.iconst 0, 1) := by decide +kernel
theorem dX6_margin_1 : decode cX6_margin 1 = .ok (.istore_n 2, 1) := by decide +kernel
theorem dX6_margin_2 : decode cX6_margin 2 = .ok (.iload_n 2, 1) := by decide +kernel
theorem dX6_margin_3 : decode cX6_margin 3 = .ok (.sipush 243, 3) := by decide +kernel
theorem dX6_margin_6 : decode cX6_margin 6 = .ok (.if_icmp .ge 25, 3) := by decide +kernel
theorem dX6_margin_9 : decode cX6_margin 9 = .ok (.aload_n 0, 1) := by decide +kernel
theorem dX6_margin_10 : decode cX6_margin 10 = .ok (.getfield 32, 3) := by decide +kernel
theorem dX6_margin_13 : decode cX6_margin 13 = .ok (.sipush 243, 3) := by decide +kernel
theorem dX6_margin_16 : decode cX6_margin 16 = .ok (.aload_n 0, 1) := by decide +kernel
theorem dX6_margin_17 : decode cX6_margin 17 = .ok (.getfield 7, 3) := by decide +kernel
theorem dX6_margin_20 : decode cX6_margin 20 = .ok (.imul, 1) := by decide +kernel
theorem dX6_margin_21 : decode cX6_margin 21 = .ok (.iload_n 2, 1) := by decide +kernel
theorem dX6_margin_22 : decode cX6_margin 22 = .ok (.iadd, 1) := by decide +kernel
theorem dX6_margin_23 : decode cX6_margin 23 = .ok (.iconst 0, 1) := by decide +kernel
theorem dX6_margin_24 : decode cX6_margin 24 = .ok (.iastore, 1) := by decide +kernel
theorem dX6_margin_25 : decode cX6_margin 25 = .ok (.iinc 2 1, 3) := by decide +kernel
theorem dX6_margin_28 : decode cX6_margin 28 = .ok (.goto (-26), 3) := by decide +kernel
theorem dX6_margin_31 : decode cX6_margin 31 = .ok (.aload_n 0, 1) := by decide +kernel
theorem dX6_margin_32 : decode cX6_margin 32 = .ok (.getfield 7, 3) := by decide +kernel
theorem dX6_margin_35 : decode cX6_margin 35 = .ok (.iconst 1, 1) := by decide +kernel
theorem dX6_margin_36 : decode cX6_margin 36 = .ok (.isub, 1) := by decide +kernel
theorem dX6_margin_37 : decode cX6_margin 37 = .ok (.istore_n 2, 1) := by decide +kernel
theorem dX6_margin_38 : decode cX6_margin 38 = .ok (.iload_n 2, 1) := by decide +kernel
theorem dX6_margin_39 : decode cX6_margin 39 = .ok (.ifCond .lt 87, 3) := by decide +kernel
theorem dX6_margin_42 : decode cX6_margin 42 = .ok (.iconst 0, 1) := by decide +kernel
theorem dX6_margin_43 : decode cX6_margin 43 = .ok (.istore_n 3, 1) := by decide +kernel
theorem dX6_margin_44 : decode cX6_margin 44 = .ok (.iload_n 3, 1) := by decide +kernel
theorem dX6_margin_45 : decode cX6_margin 45 = .ok (.sipush 243, 3) := by decide +kernel
theorem dX6_margin_48 : decode cX6_margin 48 = .ok (.if_icmp .ge 72, 3) := by decide +kernel
theorem dX6_margin_51 : decode cX6_margin 51 = .ok (.bipush (-99), 2) := by decide +kernel
theorem dX6_margin_53 : decode cX6_margin 53 = .ok (.istore 4, 2) := by decide +kernel
theorem dX6_margin_55 : decode cX6_margin 55 = .ok (.iconst (-1), 1) := by decide +kernel
theorem dX6_margin_56 : decode cX6_margin 56 = .ok (.istore 5, 2) := by decide +kernel
theorem dX6_margin_58 : decode cX6_margin 58 = .ok (.iload 5, 2) := by decide +kernel
theorem dX6_margin_60 : decode cX6_margin 60 = .ok (.aload_n 0, 1) := by decide +kernel
theorem dX6_margin_61 : decode cX6_margin 61 = .ok (.getfield 13, 3) := by decide +kernel
theorem dX6_margin_64 : decode cX6_margin 64 = .ok (.if_icmp .ge 36, 3) := by decide +kernel
theorem dX6_margin_67 : decode cX6_margin 67 = .ok (.aload_n 0, 1) := by decide +kernel
theorem dX6_margin_68 : decode cX6_margin 68 = .ok (.iload_n 2, 1) := by decide +kernel
theorem dX6_margin_69 : decode cX6_margin 69 = .ok (.iload_n 3, 1) := by decide +kernel
theorem dX6_margin_70 : decode cX6_margin 70 = .ok (.iload 5, 2) := by decide +kernel
theorem dX6_margin_72 : decode cX6_margin 72 = .ok (.iload_n 1, 1) := by decide +kernel
theorem dX6_margin_73 : decode cX6_margin 73 = .ok (.invokevirtual 86, 3) := by decide +kernel
theorem dX6_margin_76 : decode cX6_margin 76 = .ok (.istore 6, 2) := by decide +kernel
theorem dX6_margin_78 : decode cX6_margin 78 = .ok (.iload 6, 2) := by decide +kernel
theorem dX6_margin_80 : decode cX6_margin 80 = .ok (.iload 4, 2) := by decide +kernel
theorem dX6_margin_82 : decode cX6_margin 82 = .ok (.if_icmp .le 8, 3) := by decide +kernel
theorem dX6_margin_85 : decode cX6_margin 85 = .ok (.iload 6, 2) := by decide +kernel
theorem dX6_margin_87 : decode cX6_margin 87 = .ok (.goto 5, 3) := by decide +kernel
theorem dX6_margin_90 : decode cX6_margin 90 = .ok (.iload 4, 2) := by decide +kernel
theorem dX6_margin_92 : decode cX6_margin 92 = .ok (.istore 4, 2) := by decide +kernel
theorem dX6_margin_94 : decode cX6_margin 94 = .ok (.iinc 5 1, 3) := by decide +kernel
theorem dX6_margin_97 : decode cX6_margin 97 = .ok (.goto (-39), 3) := by decide +kernel
theorem dX6_margin_100 : decode cX6_margin 100 = .ok (.aload_n 0, 1) := by decide +kernel
theorem dX6_margin_101 : decode cX6_margin 101 = .ok (.getfield 32, 3) := by decide +kernel
theorem dX6_margin_104 : decode cX6_margin 104 = .ok (.sipush 243, 3) := by decide +kernel
theorem dX6_margin_107 : decode cX6_margin 107 = .ok (.iload_n 2, 1) := by decide +kernel
theorem dX6_margin_108 : decode cX6_margin 108 = .ok (.imul, 1) := by decide +kernel
theorem dX6_margin_109 : decode cX6_margin 109 = .ok (.iload_n 3, 1) := by decide +kernel
theorem dX6_margin_110 : decode cX6_margin 110 = .ok (.iadd, 1) := by decide +kernel
theorem dX6_margin_111 : decode cX6_margin 111 = .ok (.iload 4, 2) := by decide +kernel
theorem dX6_margin_113 : decode cX6_margin 113 = .ok (.iastore, 1) := by decide +kernel
theorem dX6_margin_114 : decode cX6_margin 114 = .ok (.iinc 3 1, 3) := by decide +kernel
theorem dX6_margin_117 : decode cX6_margin 117 = .ok (.goto (-73), 3) := by decide +kernel
theorem dX6_margin_120 : decode cX6_margin 120 = .ok (.iinc 2 (-1), 3) := by decide +kernel
theorem dX6_margin_123 : decode cX6_margin 123 = .ok (.goto (-85), 3) := by decide +kernel
theorem dX6_margin_126 : decode cX6_margin 126 = .ok (.aload_n 0, 1) := by decide +kernel
theorem dX6_margin_127 : decode cX6_margin 127 = .ok (.getfield 32, 3) := by decide +kernel
theorem dX6_margin_130 : decode cX6_margin 130 = .ok (.iconst 0, 1) := by decide +kernel
theorem dX6_margin_131 : decode cX6_margin 131 = .ok (.iaload, 1) := by decide +kernel
theorem dX6_margin_132 : decode cX6_margin 132 = .ok (.ireturn, 1) := by decide +kernel
set_option maxRecDepth 20000 in
theorem ggX6_isParetoOptimal_X6_margin : GoodIn wsX6_isParetoOptimal wsX6_margin := goodIn_r _ [5, 6, 7, 8, 9, 10, 11, 4, 12, 13, 14, 15, 16, 17, 18, 19, 20, 21, 22, 23, 24, 25, 26, 27, 28, 29, 30, 31, 32, 33, 34, 35, 36, 37, 38, 39, 40] (by decide +kernel) (by decide +kernel)
set_option maxRecDepth 20000 in
theorem gX6_isParetoOptimal_X6_margin : GoodIn wsX6_isParetoOptimal (wsV RX6 90 RX6 yX6_margin wsX6_margin) := goodIn_app (goodIn_of _ (by decide +kernel)) ggX6_isParetoOptimal_X6_margin
theorem dX6_isParetoOptimal_0 : decode cX6_isParetoOptimal 0 = .ok (.aload_n 0, 1) := by decide +kernel
theorem dX6_isParetoOptimal_1 : decode cX6_isParetoOptimal 1 = .ok (.iconst 1, 1) := by decide +kernel
theorem dX6_isParetoOptimal_2 : decode cX6_isParetoOptimal 2 = .ok (.invokevirtual 90, 3) := by decide +kernel
theorem dX6_isParetoOptimal_5 : decode cX6_isParetoOptimal 5 = .ok (.ifCond .ne 7, 3) := by decide +kernel
theorem dX6_isParetoOptimal_8 : decode cX6_isParetoOptimal 8 = .ok (.iconst 1, 1) := by decide +kernel
theorem dX6_isParetoOptimal_9 : decode cX6_isParetoOptimal 9 = .ok (.goto 4, 3) := by decide +kernel
theorem dX6_isParetoOptimal_12 : decode cX6_isParetoOptimal 12 = .ok (.iconst 0, 1) := by decide +kernel
theorem dX6_isParetoOptimal_13 : decode cX6_isParetoOptimal 13 = .ok (.ireturn, 1) := by decide +kernel
set_option maxRecDepth 20000 in
theorem ggX6_save_X6_size : GoodIn wsX6_save wsX6_size := goodIn_r _ [6, 7, 1, 8, 9, 10, 11, 12, 13, 14, 15, 16, 17] (by decide +kernel) (by decide +kernel)
set_option maxRecDepth 20000 in
theorem gX6_save_X6_size : GoodIn wsX6_save (wsV RX6 94 RX6 yX6_size wsX6_size) := goodIn_app (goodIn_of _ (by decide +kernel)) ggX6_save_X6_size
theorem dX6_save_0 : decode cX6_save 0 = .ok (.iconst 0, 1) := by decide +kernel
theorem dX6_save_1 : decode cX6_save 1 = .ok (.istore_n 1, 1) := by decide +kernel
theorem dX6_save_2 : decode cX6_save 2 = .ok (.iload_n 1, 1) := by decide +kernel
theorem dX6_save_3 : decode cX6_save 3 = .ok (.bipush 6, 2) := by decide +kernel
theorem dX6_save_5 : decode cX6_save 5 = .ok (.if_icmp .ge 24, 3) := by decide +kernel
theorem dX6_save_8 : decode cX6_save 8 = .ok (.aload_n 0, 1) := by decide +kernel
theorem dX6_save_9 : decode cX6_save 9 = .ok (.getfield 26, 3) := by decide +kernel
theorem dX6_save_12 : decode cX6_save 12 = .ok (.bipush 6, 2) := by decide +kernel
theorem dX6_save_14 : decode cX6_save 14 = .ok (.iload_n 1, 1) := by decide +kernel
theorem dX6_save_15 : decode cX6_save 15 = .ok (.iadd, 1) := by decide +kernel
theorem dX6_save_16 : decode cX6_save 16 = .ok (.aload_n 0, 1) := by decide +kernel
theorem dX6_save_17 : decode cX6_save 17 = .ok (.getfield 26, 3) := by decide +kernel
theorem dX6_save_20 : decode cX6_save 20 = .ok (.iload_n 1, 1) := by decide +kernel
theorem dX6_save_21 : decode cX6_save 21 = .ok (.iaload, 1) := by decide +kernel
theorem dX6_save_22 : decode cX6_save 22 = .ok (.iastore, 1) := by decide +kernel
theorem dX6_save_23 : decode cX6_save 23 = .ok (.iinc 1 1, 3) := by decide +kernel
theorem dX6_save_26 : decode cX6_save 26 = .ok (.goto (-24), 3) := by decide +kernel
theorem dX6_save_29 : decode cX6_save 29 = .ok (.aload_n 0, 1) := by decide +kernel
theorem dX6_save_30 : decode cX6_save 30 = .ok (.invokevirtual 94, 3) := by decide +kernel
theorem dX6_save_33 : decode cX6_save 33 = .ok (.ireturn, 1) := by decide +kernel
set_option maxRecDepth 20000 in
theorem ggX6_swapSaved_X6_edit : GoodIn wsX6_swapSaved wsX6_edit := goodIn_r _ [6, 7, 8, 1, 14, 15, 16, 17, 18, 19, 20, 21, 22, 23] (by decide +kernel) (by decide +kernel)
set_option maxRecDepth 20000 in
theorem gX6_swapSaved_X6_edit : GoodIn wsX6_swapSaved (wsV RX6 73 RX6 yX6_edit wsX6_edit) := goodIn_app (goodIn_of _ (by decide +kernel)) ggX6_swapSaved_X6_edit
set_option maxRecDepth 20000 in
theorem ggX6_swapSaved_X6_size : GoodIn wsX6_swapSaved wsX6_size := goodIn_r _ [12, 13, 1, 14, 15, 16, 17, 18, 19, 20, 21, 22, 23] (by decide +kernel) (by decide +kernel)
set_option maxRecDepth 20000 in
theorem gX6_swapSaved_X6_size : GoodIn wsX6_swapSaved (wsV RX6 94 RX6 yX6_size wsX6_size) := goodIn_app (goodIn_of _ (by decide +kernel)) ggX6_swapSaved_X6_size
theorem dX6_swapSaved_0 : decode cX6_swapSaved 0 = .ok (.aload_n 0, 1) := by decide +kernel
theorem dX6_swapSaved_1 : decode cX6_swapSaved 1 = .ok (.invokevirtual 73, 3) := by decide +kernel
theorem dX6_swapSaved_4 : decode cX6_swapSaved 4 = .ok (.iconst 0, 1) := by decide +kernel
theorem dX6_swapSaved_5 : decode cX6_swapSaved 5 = .ok (.istore_n 1, 1) := by decide +kernel
theorem dX6_swapSaved_6 : decode cX6_swapSaved 6 = .ok (.iload_n 1, 1) := by decide +kernel
theorem dX6_swapSaved_7 : decode cX6_swapSaved 7 = .ok (.bipush 6, 2) := by decide +kernel
theorem dX6_swapSaved_9 : decode cX6_swapSaved 9 = .ok (.if_icmp .ge 41, 3) := by decide +kernel
theorem dX6_swapSaved_12 : decode cX6_swapSaved 12 = .ok (.aload_n 0, 1) := by decide +kernel
theorem dX6_swapSaved_13 : decode cX6_swapSaved 13 = .ok (.getfield 26, 3) := by decide +kernel
theorem dX6_swapSaved_16 : decode cX6_swapSaved 16 = .ok (.iload_n 1, 1) := by decide +kernel
theorem dX6_swapSaved_17 : decode cX6_swapSaved 17 = .ok (.iaload, 1) := by decide +kernel
theorem dX6_swapSaved_18 : decode cX6_swapSaved 18 = .ok (.istore_n 2, 1) := by decide +kernel
theorem dX6_swapSaved_19 : decode cX6_swapSaved 19 = .ok (.aload_n 0, 1) := by decide +kernel
theorem dX6_swapSaved_20 : decode cX6_swapSaved 20 = .ok (.getfield 26, 3) := by decide +kernel
theorem dX6_swapSaved_23 : decode cX6_swapSaved 23 = .ok (.iload_n 1, 1) := by decide +kernel
theorem dX6_swapSaved_24 : decode cX6_swapSaved 24 = .ok (.aload_n 0, 1) := by decide +kernel
theorem dX6_swapSaved_25 : decode cX6_swapSaved 25 = .ok (.getfield 26, 3) := by decide +kernel
theorem dX6_swapSaved_28 : decode cX6_swapSaved 28 = .ok (.bipush 6, 2) := by decide +kernel
theorem dX6_swapSaved_30 : decode cX6_swapSaved 30 = .ok (.iload_n 1, 1) := by decide +kernel
theorem dX6_swapSaved_31 : decode cX6_swapSaved 31 = .ok (.iadd, 1) := by decide +kernel
theorem dX6_swapSaved_32 : decode cX6_swapSaved 32 = .ok (.iaload, 1) := by decide +kernel
theorem dX6_swapSaved_33 : decode cX6_swapSaved 33 = .ok (.iastore, 1) := by decide +kernel
theorem dX6_swapSaved_34 : decode cX6_swapSaved 34 = .ok (.aload_n 0, 1) := by decide +kernel
theorem dX6_swapSaved_35 : decode cX6_swapSaved 35 = .ok (.getfield 26, 3) := by decide +kernel
theorem dX6_swapSaved_38 : decode cX6_swapSaved 38 = .ok (.bipush 6, 2) := by decide +kernel
theorem dX6_swapSaved_40 : decode cX6_swapSaved 40 = .ok (.iload_n 1, 1) := by decide +kernel
theorem dX6_swapSaved_41 : decode cX6_swapSaved 41 = .ok (.iadd, 1) := by decide +kernel
theorem dX6_swapSaved_42 : decode cX6_swapSaved 42 = .ok (.iload_n 2, 1) := by decide +kernel
theorem dX6_swapSaved_43 : decode cX6_swapSaved 43 = .ok (.iastore, 1) := by decide +kernel
theorem dX6_swapSaved_44 : decode cX6_swapSaved 44 = .ok (.iinc 1 1, 3) := by decide +kernel
theorem dX6_swapSaved_47 : decode cX6_swapSaved 47 = .ok (.goto (-41), 3) := by decide +kernel
theorem dX6_swapSaved_50 : decode cX6_swapSaved 50 = .ok (.aload_n 0, 1) := by decide +kernel
theorem dX6_swapSaved_51 : decode cX6_swapSaved 51 = .ok (.invokevirtual 94, 3) := by decide +kernel
theorem dX6_swapSaved_54 : decode cX6_swapSaved 54 = .ok (.ireturn, 1) := by decide +kernel
set_option maxRecDepth 20000 in
theorem ggX6_marginOverSaved_X6_vote : GoodIn wsX6_marginOverSaved wsX6_vote := goodIn_r _ [7, 8, 9, 10, 6, 11, 12, 13, 14, 15, 16, 17, 18, 19, 20, 21, 22, 23] (by decide +kernel) (by decide +kernel)
set_option maxRecDepth 20000 in
theorem gX6_marginOverSaved_X6_vote : GoodIn wsX6_marginOverSaved (wsV RX6 76 RX6 yX6_vote wsX6_vote) := goodIn_app (goodIn_of _ (by decide +kernel)) ggX6_marginOverSaved_X6_vote
theorem dX6_marginOverSaved_0 : decode cX6_marginOverSaved 0 = .ok (.iconst 0, 1) := by decide +kernel
theorem dX6_marginOverSaved_1 : decode cX6_marginOverSaved 1 = .ok (.istore_n 1, 1) := by decide +kernel
theorem dX6_marginOverSaved_2 : decode cX6_marginOverSaved 2 = .ok (.iconst 0, 1) := by decide +kernel
theorem dX6_marginOverSaved_3 : decode cX6_marginOverSaved 3 = .ok (.istore_n 2, 1) := by decide +kernel
theorem dX6_marginOverSaved_4 : decode cX6_marginOverSaved 4 = .ok (.iload_n 2, 1) := by decide +kernel
theorem dX6_marginOverSaved_5 : decode cX6_marginOverSaved 5 = .ok (.aload_n 0, 1) := by decide +kernel
theorem dX6_marginOverSaved_6 : decode cX6_marginOverSaved 6 = .ok (.getfield 7, 3) := by decide +kernel
theorem dX6_marginOverSaved_9 : decode cX6_marginOverSaved 9 = .ok (.if_icmp .ge 32, 3) := by decide +kernel
theorem dX6_marginOverSaved_12 : decode cX6_marginOverSaved 12 = .ok (.iload_n 1, 1) := by decide +kernel
theorem dX6_marginOverSaved_13 : decode cX6_marginOverSaved 13 = .ok (.aload_n 0, 1) := by decide +kernel
theorem dX6_marginOverSaved_14 : decode cX6_marginOverSaved 14 = .ok (.iload_n 2, 1) := by decide +kernel
theorem dX6_marginOverSaved_15 : decode cX6_marginOverSaved 15 = .ok (.aload_n 0, 1) := by decide +kernel
theorem dX6_marginOverSaved_16 : decode cX6_marginOverSaved 16 = .ok (.getfield 26, 3) := by decide +kernel
theorem dX6_marginOverSaved_19 : decode cX6_marginOverSaved 19 = .ok (.iload_n 2, 1) := by decide +kernel
theorem dX6_marginOverSaved_20 : decode cX6_marginOverSaved 20 = .ok (.iaload, 1) := by decide +kernel
theorem dX6_marginOverSaved_21 : decode cX6_marginOverSaved 21 = .ok (.aload_n 0, 1) := by decide +kernel
theorem dX6_marginOverSaved_22 : decode cX6_marginOverSaved 22 = .ok (.getfield 26, 3) := by decide +kernel
theorem dX6_marginOverSaved_25 : decode cX6_marginOverSaved 25 = .ok (.bipush 6, 2) := by decide +kernel
theorem dX6_marginOverSaved_27 : decode cX6_marginOverSaved 27 = .ok (.iload_n 2, 1) := by decide +kernel
theorem dX6_marginOverSaved_28 : decode cX6_marginOverSaved 28 = .ok (.iadd, 1) := by decide +kernel
theorem dX6_marginOverSaved_29 : decode cX6_marginOverSaved 29 = .ok (.iaload, 1) := by decide +kernel
theorem dX6_marginOverSaved_30 : decode cX6_marginOverSaved 30 = .ok (.invokevirtual 76, 3) := by decide +kernel
theorem dX6_marginOverSaved_33 : decode cX6_marginOverSaved 33 = .ok (.iadd, 1) := by decide +kernel
theorem dX6_marginOverSaved_34 : decode cX6_marginOverSaved 34 = .ok (.istore_n 1, 1) := by decide +kernel
theorem dX6_marginOverSaved_35 : decode cX6_marginOverSaved 35 = .ok (.iinc 2 1, 3) := by decide +kernel
theorem dX6_marginOverSaved_38 : decode cX6_marginOverSaved 38 = .ok (.goto (-34), 3) := by decide +kernel
theorem dX6_marginOverSaved_41 : decode cX6_marginOverSaved 41 = .ok (.iload_n 1, 1) := by decide +kernel
theorem dX6_marginOverSaved_42 : decode cX6_marginOverSaved 42 = .ok (.ireturn, 1) := by decide +kernel
set_option maxRecDepth 20000 in
theorem ggX6_unpopularityMargin_X6_margin : GoodIn wsX6_unpopularityMargin wsX6_margin := goodIn_r _ [5, 6, 7, 8, 9, 10, 11, 4, 12, 13, 14, 15, 16, 17, 18, 19, 20, 21, 22, 23, 24, 25, 26, 27, 28, 29, 30, 31, 32, 33, 34, 35, 36, 37, 38, 39, 40] (by decide +kernel) (by decide +kernel)
set_option maxRecDepth 20000 in
theorem gX6_unpopularityMargin_X6_margin : GoodIn wsX6_unpopularityMargin (wsV RX6 90 RX6 yX6_margin wsX6_margin) := goodIn_app (goodIn_of _ (by decide +kernel)) ggX6_unpopularityMargin_X6_margin
theorem dX6_unpopularityMargin_0 : decode cX6_unpopularityMargin 0 = .ok (.aload_n 0, 1) := by decide +kernel
theorem dX6_unpopularityMargin_1 : decode cX6_unpopularityMargin 1 = .ok (.iconst 0, 1) := by decide +kernel
theorem dX6_unpopularityMargin_2 : decode cX6_unpopularityMargin 2 = .ok (.invokevirtual 90, 3) := by decide +kernel
theorem dX6_unpopularityMargin_5 : decode cX6_unpopularityMargin 5 = .ok (.ireturn, 1) := by decide +kernel
set_option maxRecDepth 20000 in
theorem ggX6_challenges_X6_margin : GoodIn wsX6_challenges wsX6_margin := goodIn_r _ [9, 4, 1, 3, 10, 11, 12, 8, 13, 14, 15, 16, 17, 18, 19, 20, 21, 22, 23, 24, 25, 26, 27, 28, 29, 30, 31, 32, 33, 34, 35, 36, 37, 38, 39, 40, 41] (by decide +kernel) (by decide +kernel)
set_option maxRecDepth 20000 in
theorem gX6_challenges_X6_margin : GoodIn wsX6_challenges (wsV RX6 90 RX6 yX6_margin wsX6_margin) := goodIn_app (goodIn_of _ (by decide +kernel)) ggX6_challenges_X6_margin
set_option maxRecDepth 20000 in
theorem ggX6_challenges_X6_gives : GoodIn wsX6_challenges wsX6_gives := goodIn_r _ [13, 14, 4, 15, 16, 17, 18, 8, 19, 20, 21, 22, 23, 24, 25, 26, 27, 28, 29, 30, 31, 32, 33, 34, 35, 36, 37, 38, 39, 40, 41] (by decide +kernel) (by decide +kernel)
set_option maxRecDepth 20000 in
theorem gX6_challenges_X6_gives : GoodIn wsX6_challenges (wsV RX6 86 RX6 yX6_gives wsX6_gives) := goodIn_app (goodIn_of _ (by decide +kernel)) ggX6_challenges_X6_gives
set_option maxRecDepth 20000 in
theorem ggX6_challenges_X6_power : GoodIn wsX6_challenges wsX6_power := goodIn_r _ [31] (by decide +kernel) (by decide +kernel)
set_option maxRecDepth 20000 in
theorem gX6_challenges_X6_power : GoodIn wsX6_challenges (va_wsS RX6 83 yX6_power wsX6_power) := goodIn_app (goodIn_of _ (by decide +kernel)) ggX6_challenges_X6_power
theorem dX6_challenges_0 : decode cX6_challenges 0 = .ok (.aload_n 0, 1) := by decide +kernel
theorem dX6_challenges_1 : decode cX6_challenges 1 = .ok (.iconst 0, 1) := by decide +kernel
theorem dX6_challenges_2 : decode cX6_challenges 2 = .ok (.invokevirtual 90, 3) := by decide +kernel
theorem dX6_challenges_5 : decode cX6_challenges 5 = .ok (.istore_n 1, 1) := by decide +kernel
theorem dX6_challenges_6 : decode cX6_challenges 6 = .ok (.iconst 0, 1) := by decide +kernel
theorem dX6_challenges_7 : decode cX6_challenges 7 = .ok (.istore_n 2, 1) := by decide +kernel
theorem dX6_challenges_8 : decode cX6_challenges 8 = .ok (.iconst 0, 1) := by decide +kernel
theorem dX6_challenges_9 : decode cX6_challenges 9 = .ok (.istore_n 3, 1) := by decide +kernel
theorem dX6_challenges_10 : decode cX6_challenges 10 = .ok (.iload_n 3, 1) := by decide +kernel
theorem dX6_challenges_11 : decode cX6_challenges 11 = .ok (.aload_n 0, 1) := by decide +kernel
theorem dX6_challenges_12 : decode cX6_challenges 12 = .ok (.getfield 7, 3) := by decide +kernel
theorem dX6_challenges_15 : decode cX6_challenges 15 = .ok (.if_icmp .ge 101, 3) := by decide +kernel
theorem dX6_challenges_18 : decode cX6_challenges 18 = .ok (.aload_n 0, 1) := by decide +kernel
theorem dX6_challenges_19 : decode cX6_challenges 19 = .ok (.getfield 35, 3) := by decide +kernel
theorem dX6_challenges_22 : decode cX6_challenges 22 = .ok (.iload_n 3, 1) := by decide +kernel
theorem dX6_challenges_23 : decode cX6_challenges 23 = .ok (.iconst (-1), 1) := by decide +kernel
theorem dX6_challenges_24 : decode cX6_challenges 24 = .ok (.iastore, 1) := by decide +kernel
theorem dX6_challenges_25 : decode cX6_challenges 25 = .ok (.aload_n 0, 1) := by decide +kernel
theorem dX6_challenges_26 : decode cX6_challenges 26 = .ok (.getfield 13, 3) := by decide +kernel
theorem dX6_challenges_29 : decode cX6_challenges 29 = .ok (.iconst 1, 1) := by decide +kernel
theorem dX6_challenges_30 : decode cX6_challenges 30 = .ok (.isub, 1) := by decide +kernel
theorem dX6_challenges_31 : decode cX6_challenges 31 = .ok (.istore 4, 2) := by decide +kernel
theorem dX6_challenges_33 : decode cX6_challenges 33 = .ok (.iload 4, 2) := by decide +kernel
theorem dX6_challenges_35 : decode cX6_challenges 35 = .ok (.ifCond .lt 50, 3) := by decide +kernel
theorem dX6_challenges_38 : decode cX6_challenges 38 = .ok (.aload_n 0, 1) := by decide +kernel
theorem dX6_challenges_39 : decode cX6_challenges 39 = .ok (.getfield 35, 3) := by decide +kernel
theorem dX6_challenges_42 : decode cX6_challenges 42 = .ok (.iload_n 3, 1) := by decide +kernel
theorem dX6_challenges_43 : decode cX6_challenges 43 = .ok (.aload_n 0, 1) := by decide +kernel
theorem dX6_challenges_44 : decode cX6_challenges 44 = .ok (.iload_n 3, 1) := by decide +kernel
theorem dX6_challenges_45 : decode cX6_challenges 45 = .ok (.iload_n 2, 1) := by decide +kernel
theorem dX6_challenges_46 : decode cX6_challenges 46 = .ok (.iload 4, 2) := by decide +kernel
theorem dX6_challenges_48 : decode cX6_challenges 48 = .ok (.iconst 0, 1) := by decide +kernel
theorem dX6_challenges_49 : decode cX6_challenges 49 = .ok (.invokevirtual 86, 3) := by decide +kernel
theorem dX6_challenges_52 : decode cX6_challenges 52 = .ok (.aload_n 0, 1) := by decide +kernel
theorem dX6_challenges_53 : decode cX6_challenges 53 = .ok (.getfield 32, 3) := by decide +kernel
theorem dX6_challenges_56 : decode cX6_challenges 56 = .ok (.sipush 243, 3) := by decide +kernel
theorem dX6_challenges_59 : decode cX6_challenges 59 = .ok (.iload_n 3, 1) := by decide +kernel
theorem dX6_challenges_60 : decode cX6_challenges 60 = .ok (.imul, 1) := by decide +kernel
theorem dX6_challenges_61 : decode cX6_challenges 61 = .ok (.iload_n 2, 1) := by decide +kernel
theorem dX6_challenges_62 : decode cX6_challenges 62 = .ok (.iadd, 1) := by decide +kernel
theorem dX6_challenges_63 : decode cX6_challenges 63 = .ok (.iaload, 1) := by decide +kernel
theorem dX6_challenges_64 : decode cX6_challenges 64 = .ok (.if_icmp .ne 8, 3) := by decide +kernel
theorem dX6_challenges_67 : decode cX6_challenges 67 = .ok (.iload 4, 2) := by decide +kernel
theorem dX6_challenges_69 : decode cX6_challenges 69 = .ok (.goto 9, 3) := by decide +kernel
theorem dX6_challenges_72 : decode cX6_challenges 72 = .ok (.aload_n 0, 1) := by decide +kernel
theorem dX6_challenges_73 : decode cX6_challenges 73 = .ok (.getfield 35, 3) := by decide +kernel
theorem dX6_challenges_76 : decode cX6_challenges 76 = .ok (.iload_n 3, 1) := by decide +kernel
theorem dX6_challenges_77 : decode cX6_challenges 77 = .ok (.iaload, 1) := by decide +kernel
theorem dX6_challenges_78 : decode cX6_challenges 78 = .ok (.iastore, 1) := by decide +kernel
theorem dX6_challenges_79 : decode cX6_challenges 79 = .ok (.iinc 4 (-1), 3) := by decide +kernel
theorem dX6_challenges_82 : decode cX6_challenges 82 = .ok (.goto (-49), 3) := by decide +kernel
theorem dX6_challenges_85 : decode cX6_challenges 85 = .ok (.iload_n 2, 1) := by decide +kernel
theorem dX6_challenges_86 : decode cX6_challenges 86 = .ok (.aload_n 0, 1) := by decide +kernel
theorem dX6_challenges_87 : decode cX6_challenges 87 = .ok (.getfield 35, 3) := by decide +kernel
theorem dX6_challenges_90 : decode cX6_challenges 90 = .ok (.iload_n 3, 1) := by decide +kernel
theorem dX6_challenges_91 : decode cX6_challenges 91 = .ok (.iaload, 1) := by decide +kernel
theorem dX6_challenges_92 : decode cX6_challenges 92 = .ok (.ifCond .ge 7, 3) := by decide +kernel
theorem dX6_challenges_95 : decode cX6_challenges 95 = .ok (.iconst 0, 1) := by decide +kernel
theorem dX6_challenges_96 : decode cX6_challenges 96 = .ok (.goto 12, 3) := by decide +kernel
theorem dX6_challenges_99 : decode cX6_challenges 99 = .ok (.aload_n 0, 1) := by decide +kernel
theorem dX6_challenges_100 : decode cX6_challenges 100 = .ok (.getfield 35, 3) := by decide +kernel
theorem dX6_challenges_103 : decode cX6_challenges 103 = .ok (.iload_n 3, 1) := by decide +kernel
theorem dX6_challenges_104 : decode cX6_challenges 104 = .ok (.iaload, 1) := by decide +kernel
theorem dX6_challenges_105 : decode cX6_challenges 105 = .ok (.invokestatic 83, 3) := by decide +kernel
theorem dX6_challenges_108 : decode cX6_challenges 108 = .ok (.iadd, 1) := by decide +kernel
theorem dX6_challenges_109 : decode cX6_challenges 109 = .ok (.istore_n 2, 1) := by decide +kernel
theorem dX6_challenges_110 : decode cX6_challenges 110 = .ok (.iinc 3 1, 3) := by decide +kernel
theorem dX6_challenges_113 : decode cX6_challenges 113 = .ok (.goto (-103), 3) := by decide +kernel
theorem dX6_challenges_116 : decode cX6_challenges 116 = .ok (.iload_n 1, 1) := by decide +kernel
theorem dX6_challenges_117 : decode cX6_challenges 117 = .ok (.ireturn, 1) := by decide +kernel
set_option maxRecDepth 20000 in
theorem ggX6_challengerPost_X6_isApplicant : GoodIn wsX6_challengerPost wsX6_isApplicant := goodIn_r _ [6, 7, 8, 9, 5, 10, 43, 44, 45, 46, 47, 48, 49, 50, 51, 52] (by decide +kernel) (by decide +kernel)
set_option maxRecDepth 20000 in
theorem gX6_challengerPost_X6_isApplicant : GoodIn wsX6_challengerPost (wsV RX6 56 RX6 yX6_isApplicant wsX6_isApplicant) := goodIn_app (goodIn_of _ (by decide +kernel)) ggX6_challengerPost_X6_isApplicant
set_option maxRecDepth 20000 in
theorem ggX6_challengerPost_X6_challenges : GoodIn wsX6_challengerPost wsX6_challenges := goodIn_r _ [14, 7, 1, 15, 16, 17, 18, 19, 5, 20, 21, 22, 23, 24, 25, 26, 27, 28, 29, 30, 31, 32, 33, 34, 35, 36, 37, 38, 39, 40, 41, 42, 43, 44, 45, 46, 47, 48, 49, 50, 51, 52] (by decide +kernel) (by decide +kernel)
set_option maxRecDepth 20000 in
theorem gX6_challengerPost_X6_challenges : GoodIn wsX6_challengerPost (wsV RX6 98 RX6 yX6_challenges wsX6_challenges) := goodIn_app (goodIn_of _ (by decide +kernel)) ggX6_challengerPost_X6_challenges
theorem dX6_challengerPost_0 : decode cX6_challengerPost 0 = .ok (.aload_n 0, 1) := by decide +kernel
theorem dX6_challengerPost_1 : decode cX6_challengerPost 1 = .ok (.iload_n 1, 1) := by decide +kernel
theorem dX6_challengerPost_2 : decode cX6_challengerPost 2 = .ok (.invokevirtual 56, 3) := by decide +kernel
theorem dX6_challengerPost_5 : decode cX6_challengerPost 5 = .ok (.ifCond .ne 6, 3) := by decide +kernel
theorem dX6_challengerPost_8 : decode cX6_challengerPost 8 = .ok (.bipush (-101), 2) := by decide +kernel
theorem dX6_challengerPost_10 : decode cX6_challengerPost 10 = .ok (.ireturn, 1) := by decide +kernel
theorem dX6_challengerPost_11 : decode cX6_challengerPost 11 = .ok (.aload_n 0, 1) := by decide +kernel
theorem dX6_challengerPost_12 : decode cX6_challengerPost 12 = .ok (.invokevirtual 98, 3) := by decide +kernel
theorem dX6_challengerPost_15 : decode cX6_challengerPost 15 = .ok (.pop, 1) := by decide +kernel
theorem dX6_challengerPost_16 : decode cX6_challengerPost 16 = .ok (.aload_n 0, 1) := by decide +kernel
theorem dX6_challengerPost_17 : decode cX6_challengerPost 17 = .ok (.getfield 35, 3) := by decide +kernel
theorem dX6_challengerPost_20 : decode cX6_challengerPost 20 = .ok (.iload_n 1, 1) := by decide +kernel
theorem dX6_challengerPost_21 : decode cX6_challengerPost 21 = .ok (.iaload, 1) := by decide +kernel
theorem dX6_challengerPost_22 : decode cX6_challengerPost 22 = .ok (.ireturn, 1) := by decide +kernel
set_option maxRecDepth 20000 in
theorem ggX6_takes_X6_edit : GoodIn wsX6_takes wsX6_edit := goodIn_r _ [8, 9, 10, 2, 11, 12, 13, 14, 15, 16, 17, 18, 19, 20] (by decide +kernel) (by decide +kernel)
set_option maxRecDepth 20000 in
theorem gX6_takes_X6_edit : GoodIn wsX6_takes (wsV RX6 73 RX6 yX6_edit wsX6_edit) := goodIn_app (goodIn_of _ (by decide +kernel)) ggX6_takes_X6_edit
theorem dX6_takes_0 : decode cX6_takes 0 = .ok (.aload_n 0, 1) := by decide +kernel
theorem dX6_takes_1 : decode cX6_takes 1 = .ok (.invokevirtual 73, 3) := by decide +kernel
theorem dX6_takes_4 : decode cX6_takes 4 = .ok (.iconst 0, 1) := by decide +kernel
theorem dX6_takes_5 : decode cX6_takes 5 = .ok (.istore_n 1, 1) := by decide +kernel
theorem dX6_takes_6 : decode cX6_takes 6 = .ok (.iload_n 1, 1) := by decide +kernel
theorem dX6_takes_7 : decode cX6_takes 7 = .ok (.aload_n 0, 1) := by decide +kernel
theorem dX6_takes_8 : decode cX6_takes 8 = .ok (.getfield 7, 3) := by decide +kernel
theorem dX6_takes_11 : decode cX6_takes 11 = .ok (.if_icmp .ge 21, 3) := by decide +kernel
theorem dX6_takes_14 : decode cX6_takes 14 = .ok (.aload_n 0, 1) := by decide +kernel
theorem dX6_takes_15 : decode cX6_takes 15 = .ok (.getfield 26, 3) := by decide +kernel
theorem dX6_takes_18 : decode cX6_takes 18 = .ok (.iload_n 1, 1) := by decide +kernel
theorem dX6_takes_19 : decode cX6_takes 19 = .ok (.aload_n 0, 1) := by decide +kernel
theorem dX6_takes_20 : decode cX6_takes 20 = .ok (.getfield 35, 3) := by decide +kernel
theorem dX6_takes_23 : decode cX6_takes 23 = .ok (.iload_n 1, 1) := by decide +kernel
theorem dX6_takes_24 : decode cX6_takes 24 = .ok (.iaload, 1) := by decide +kernel
theorem dX6_takes_25 : decode cX6_takes 25 = .ok (.iastore, 1) := by decide +kernel
theorem dX6_takes_26 : decode cX6_takes 26 = .ok (.iinc 1 1, 3) := by decide +kernel
theorem dX6_takes_29 : decode cX6_takes 29 = .ok (.goto (-23), 3) := by decide +kernel
theorem dX6_takes_32 : decode cX6_takes 32 = .ok (.return_, 1) := by decide +kernel
set_option maxRecDepth 20000 in
theorem ggX6_adoptChallenger_X6_challenges : GoodIn wsX6_adoptChallenger wsX6_challenges := goodIn_r _ [5, 6, 7, 8, 9, 10, 11, 12, 4, 13, 14, 15, 16, 17, 18, 19, 20, 21, 22, 23, 24, 25, 26, 27, 28, 29, 30, 31, 32, 33, 34, 35, 46, 47, 48, 49, 50, 51, 52, 53, 54, 55] (by decide +kernel) (by decide +kernel)
set_option maxRecDepth 20000 in
theorem gX6_adoptChallenger_X6_challenges : GoodIn wsX6_adoptChallenger (wsV RX6 98 RX6 yX6_challenges wsX6_challenges) := goodIn_app (goodIn_of _ (by decide +kernel)) ggX6_adoptChallenger_X6_challenges
set_option maxRecDepth 20000 in
theorem ggX6_adoptChallenger_X6_takes : GoodIn wsX6_adoptChallenger wsX6_takes := goodIn_r _ [39, 6, 18, 7, 40, 41, 42, 4, 43, 44, 45, 46, 47, 48, 49, 50, 51, 52, 53, 54, 55] (by decide +kernel) (by decide +kernel)
set_option maxRecDepth 20000 in
theorem gX6_adoptChallenger_X6_takes : GoodIn wsX6_adoptChallenger (wsV RX6 101 RX6 yX6_takes wsX6_takes) := goodIn_app (goodIn_of _ (by decide +kernel)) ggX6_adoptChallenger_X6_takes
theorem dX6_adoptChallenger_0 : decode cX6_adoptChallenger 0 = .ok (.aload_n 0, 1) := by decide +kernel
theorem dX6_adoptChallenger_1 : decode cX6_adoptChallenger 1 = .ok (.invokevirtual 98, 3) := by decide +kernel
theorem dX6_adoptChallenger_4 : decode cX6_adoptChallenger 4 = .ok (.istore_n 1, 1) := by decide +kernel
theorem dX6_adoptChallenger_5 : decode cX6_adoptChallenger 5 = .ok (.aload_n 0, 1) := by decide +kernel
theorem dX6_adoptChallenger_6 : decode cX6_adoptChallenger 6 = .ok (.invokevirtual 101, 3) := by decide +kernel
theorem dX6_adoptChallenger_9 : decode cX6_adoptChallenger 9 = .ok (.iload_n 1, 1) := by decide +kernel
theorem dX6_adoptChallenger_10 : decode cX6_adoptChallenger 10 = .ok (.ireturn, 1) := by decide +kernel
set_option maxRecDepth 20000 in
theorem ggX6_lays_X6_second : GoodIn wsX6_lays wsX6_second := goodIn_r _ [9, 10, 11, 4, 12, 13, 14, 8, 15, 1, 16, 17, 18, 19, 20, 21, 22, 23, 24, 25, 26, 27, 28, 29] (by decide +kernel) (by decide +kernel)
set_option maxRecDepth 20000 in
theorem gX6_lays_X6_second : GoodIn wsX6_lays (wsV RX6 70 RX6 yX6_second wsX6_second) := goodIn_app (goodIn_of _ (by decide +kernel)) ggX6_lays_X6_second
set_option maxRecDepth 20000 in
theorem ggX6_lays_X6_first : GoodIn wsX6_lays wsX6_first := goodIn_r _ [19, 10, 11, 20, 21, 22, 23, 24, 25, 26, 27, 28, 29] (by decide +kernel) (by decide +kernel)
set_option maxRecDepth 20000 in
theorem gX6_lays_X6_first : GoodIn wsX6_lays (wsV RX6 63 RX6 yX6_first wsX6_first) := goodIn_app (goodIn_of _ (by decide +kernel)) ggX6_lays_X6_first
set_option maxRecDepth 20000 in
theorem ggX6_lays_X6_firsts : GoodIn wsX6_lays wsX6_firsts := goodIn_r _ [15, 1, 16, 17, 18, 8, 19, 10, 11, 20, 21, 22, 23, 24, 25, 26, 27, 28, 29] (by decide +kernel) (by decide +kernel)
set_option maxRecDepth 20000 in
theorem gX6_lays_X6_firsts : GoodIn wsX6_lays (wsV RX6 67 RX6 yX6_firsts wsX6_firsts) := goodIn_app (goodIn_of _ (by decide +kernel)) ggX6_lays_X6_firsts
theorem dX6_lays_0 : decode cX6_lays 0 = .ok (.iconst 1, 1) := by decide +kernel
theorem dX6_lays_1 : decode cX6_lays 1 = .ok (.istore_n 2, 1) := by decide +kernel
theorem dX6_lays_2 : decode cX6_lays 2 = .ok (.iconst 0, 1) := by decide +kernel
theorem dX6_lays_3 : decode cX6_lays 3 = .ok (.istore_n 3, 1) := by decide +kernel
theorem dX6_lays_4 : decode cX6_lays 4 = .ok (.iload_n 3, 1) := by decide +kernel
theorem dX6_lays_5 : decode cX6_lays 5 = .ok (.aload_n 0, 1) := by decide +kernel
theorem dX6_lays_6 : decode cX6_lays 6 = .ok (.getfield 7, 3) := by decide +kernel
theorem dX6_lays_9 : decode cX6_lays 9 = .ok (.if_icmp .ge 72, 3) := by decide +kernel
theorem dX6_lays_12 : decode cX6_lays 12 = .ok (.iload_n 1, 1) := by decide +kernel
theorem dX6_lays_13 : decode cX6_lays 13 = .ok (.iload_n 3, 1) := by decide +kernel
theorem dX6_lays_14 : decode cX6_lays 14 = .ok (.ishr, 1) := by decide +kernel
theorem dX6_lays_15 : decode cX6_lays 15 = .ok (.iconst 1, 1) := by decide +kernel
theorem dX6_lays_16 : decode cX6_lays 16 = .ok (.iand, 1) := by decide +kernel
theorem dX6_lays_17 : decode cX6_lays 17 = .ok (.iconst 1, 1) := by decide +kernel
theorem dX6_lays_18 : decode cX6_lays 18 = .ok (.if_icmp .ne 7, 3) := by decide +kernel
theorem dX6_lays_21 : decode cX6_lays 21 = .ok (.iconst 1, 1) := by decide +kernel
theorem dX6_lays_22 : decode cX6_lays 22 = .ok (.goto 4, 3) := by decide +kernel
theorem dX6_lays_25 : decode cX6_lays 25 = .ok (.iconst 0, 1) := by decide +kernel
theorem dX6_lays_26 : decode cX6_lays 26 = .ok (.istore 4, 2) := by decide +kernel
theorem dX6_lays_28 : decode cX6_lays 28 = .ok (.aload_n 0, 1) := by decide +kernel
theorem dX6_lays_29 : decode cX6_lays 29 = .ok (.getfield 35, 3) := by decide +kernel
theorem dX6_lays_32 : decode cX6_lays 32 = .ok (.iload_n 3, 1) := by decide +kernel
theorem dX6_lays_33 : decode cX6_lays 33 = .ok (.iload 4, 2) := by decide +kernel
theorem dX6_lays_35 : decode cX6_lays 35 = .ok (.ifCond .eq 11, 3) := by decide +kernel
theorem dX6_lays_38 : decode cX6_lays 38 = .ok (.aload_n 0, 1) := by decide +kernel
theorem dX6_lays_39 : decode cX6_lays 39 = .ok (.iload_n 3, 1) := by decide +kernel
theorem dX6_lays_40 : decode cX6_lays 40 = .ok (.invokevirtual 70, 3) := by decide +kernel
theorem dX6_lays_43 : decode cX6_lays 43 = .ok (.goto 8, 3) := by decide +kernel
theorem dX6_lays_46 : decode cX6_lays 46 = .ok (.aload_n 0, 1) := by decide +kernel
theorem dX6_lays_47 : decode cX6_lays 47 = .ok (.iload_n 3, 1) := by decide +kernel
theorem dX6_lays_48 : decode cX6_lays 48 = .ok (.invokevirtual 63, 3) := by decide +kernel
theorem dX6_lays_51 : decode cX6_lays 51 = .ok (.iastore, 1) := by decide +kernel
theorem dX6_lays_52 : decode cX6_lays 52 = .ok (.iload_n 2, 1) := by decide +kernel
theorem dX6_lays_53 : decode cX6_lays 53 = .ok (.ifCond .eq 20, 3) := by decide +kernel
theorem dX6_lays_56 : decode cX6_lays 56 = .ok (.iload 4, 2) := by decide +kernel
theorem dX6_lays_58 : decode cX6_lays 58 = .ok (.ifCond .eq 11, 3) := by decide +kernel
theorem dX6_lays_61 : decode cX6_lays 61 = .ok (.aload_n 0, 1) := by decide +kernel
theorem dX6_lays_62 : decode cX6_lays 62 = .ok (.iload_n 3, 1) := by decide +kernel
theorem dX6_lays_63 : decode cX6_lays 63 = .ok (.invokevirtual 63, 3) := by decide +kernel
theorem dX6_lays_66 : decode cX6_lays 66 = .ok (.ifCond .lt 7, 3) := by decide +kernel
theorem dX6_lays_69 : decode cX6_lays 69 = .ok (.iconst 1, 1) := by decide +kernel
theorem dX6_lays_70 : decode cX6_lays 70 = .ok (.goto 4, 3) := by decide +kernel
theorem dX6_lays_73 : decode cX6_lays 73 = .ok (.iconst 0, 1) := by decide +kernel
theorem dX6_lays_74 : decode cX6_lays 74 = .ok (.istore_n 2, 1) := by decide +kernel
theorem dX6_lays_75 : decode cX6_lays 75 = .ok (.iinc 3 1, 3) := by decide +kernel
theorem dX6_lays_78 : decode cX6_lays 78 = .ok (.goto (-74), 3) := by decide +kernel
theorem dX6_lays_81 : decode cX6_lays 81 = .ok (.iconst 0, 1) := by decide +kernel
theorem dX6_lays_82 : decode cX6_lays 82 = .ok (.istore_n 3, 1) := by decide +kernel
theorem dX6_lays_83 : decode cX6_lays 83 = .ok (.iload_n 3, 1) := by decide +kernel
theorem dX6_lays_84 : decode cX6_lays 84 = .ok (.aload_n 0, 1) := by decide +kernel
theorem dX6_lays_85 : decode cX6_lays 85 = .ok (.getfield 13, 3) := by decide +kernel
theorem dX6_lays_88 : decode cX6_lays 88 = .ok (.if_icmp .ge 167, 3) := by decide +kernel
theorem dX6_lays_91 : decode cX6_lays 91 = .ok (.iconst 0, 1) := by decide +kernel
theorem dX6_lays_92 : decode cX6_lays 92 = .ok (.istore 4, 2) := by decide +kernel
theorem dX6_lays_94 : decode cX6_lays 94 = .ok (.iconst 0, 1) := by decide +kernel
theorem dX6_lays_95 : decode cX6_lays 95 = .ok (.istore 5, 2) := by decide +kernel
theorem dX6_lays_97 : decode cX6_lays 97 = .ok (.iconst 0, 1) := by decide +kernel
theorem dX6_lays_98 : decode cX6_lays 98 = .ok (.istore 6, 2) := by decide +kernel
theorem dX6_lays_100 : decode cX6_lays 100 = .ok (.iload 6, 2) := by decide +kernel
theorem dX6_lays_102 : decode cX6_lays 102 = .ok (.aload_n 0, 1) := by decide +kernel
theorem dX6_lays_103 : decode cX6_lays 103 = .ok (.getfield 7, 3) := by decide +kernel
theorem dX6_lays_106 : decode cX6_lays 106 = .ok (.if_icmp .ge 61, 3) := by decide +kernel
theorem dX6_lays_109 : decode cX6_lays 109 = .ok (.iload 4, 2) := by decide +kernel
theorem dX6_lays_111 : decode cX6_lays 111 = .ok (.aload_n 0, 1) := by decide +kernel
theorem dX6_lays_112 : decode cX6_lays 112 = .ok (.getfield 35, 3) := by decide +kernel
theorem dX6_lays_115 : decode cX6_lays 115 = .ok (.iload 6, 2) := by decide +kernel
theorem dX6_lays_117 : decode cX6_lays 117 = .ok (.iaload, 1) := by decide +kernel
theorem dX6_lays_118 : decode cX6_lays 118 = .ok (.iload_n 3, 1) := by decide +kernel
theorem dX6_lays_119 : decode cX6_lays 119 = .ok (.if_icmp .ne 7, 3) := by decide +kernel
theorem dX6_lays_122 : decode cX6_lays 122 = .ok (.iconst 1, 1) := by decide +kernel
theorem dX6_lays_123 : decode cX6_lays 123 = .ok (.goto 4, 3) := by decide +kernel
theorem dX6_lays_126 : decode cX6_lays 126 = .ok (.iconst 0, 1) := by decide +kernel
theorem dX6_lays_127 : decode cX6_lays 127 = .ok (.iadd, 1) := by decide +kernel
theorem dX6_lays_128 : decode cX6_lays 128 = .ok (.istore 4, 2) := by decide +kernel
theorem dX6_lays_130 : decode cX6_lays 130 = .ok (.iload 5, 2) := by decide +kernel
theorem dX6_lays_132 : decode cX6_lays 132 = .ok (.aload_n 0, 1) := by decide +kernel
theorem dX6_lays_133 : decode cX6_lays 133 = .ok (.getfield 35, 3) := by decide +kernel
theorem dX6_lays_136 : decode cX6_lays 136 = .ok (.iload 6, 2) := by decide +kernel
theorem dX6_lays_138 : decode cX6_lays 138 = .ok (.iaload, 1) := by decide +kernel
theorem dX6_lays_139 : decode cX6_lays 139 = .ok (.iload_n 3, 1) := by decide +kernel
theorem dX6_lays_140 : decode cX6_lays 140 = .ok (.if_icmp .ne 17, 3) := by decide +kernel
theorem dX6_lays_143 : decode cX6_lays 143 = .ok (.aload_n 0, 1) := by decide +kernel
theorem dX6_lays_144 : decode cX6_lays 144 = .ok (.iload 6, 2) := by decide +kernel
theorem dX6_lays_146 : decode cX6_lays 146 = .ok (.invokevirtual 63, 3) := by decide +kernel
theorem dX6_lays_149 : decode cX6_lays 149 = .ok (.iload_n 3, 1) := by decide +kernel
theorem dX6_lays_150 : decode cX6_lays 150 = .ok (.if_icmp .ne 7, 3) := by decide +kernel
theorem dX6_lays_153 : decode cX6_lays 153 = .ok (.iconst 1, 1) := by decide +kernel
theorem dX6_lays_154 : decode cX6_lays 154 = .ok (.goto 4, 3) := by decide +kernel
theorem dX6_lays_157 : decode cX6_lays 157 = .ok (.iconst 0, 1) := by decide +kernel
theorem dX6_lays_158 : decode cX6_lays 158 = .ok (.iadd, 1) := by decide +kernel
theorem dX6_lays_159 : decode cX6_lays 159 = .ok (.istore 5, 2) := by decide +kernel
theorem dX6_lays_161 : decode cX6_lays 161 = .ok (.iinc 6 1, 3) := by decide +kernel
theorem dX6_lays_164 : decode cX6_lays 164 = .ok (.goto (-64), 3) := by decide +kernel
theorem dX6_lays_167 : decode cX6_lays 167 = .ok (.aload_n 0, 1) := by decide +kernel
theorem dX6_lays_168 : decode cX6_lays 168 = .ok (.iload_n 3, 1) := by decide +kernel
theorem dX6_lays_169 : decode cX6_lays 169 = .ok (.invokevirtual 67, 3) := by decide +kernel
theorem dX6_lays_172 : decode cX6_lays 172 = .ok (.istore 6, 2) := by decide +kernel
theorem dX6_lays_174 : decode cX6_lays 174 = .ok (.iload_n 2, 1) := by decide +kernel
theorem dX6_lays_175 : decode cX6_lays 175 = .ok (.ifCond .eq 18, 3) := by decide +kernel
theorem dX6_lays_178 : decode cX6_lays 178 = .ok (.iload 4, 2) := by decide +kernel
theorem dX6_lays_180 : decode cX6_lays 180 = .ok (.aload_n 0, 1) := by decide +kernel
theorem dX6_lays_181 : decode cX6_lays 181 = .ok (.getfield 16, 3) := by decide +kernel
theorem dX6_lays_184 : decode cX6_lays 184 = .ok (.iload_n 3, 1) := by decide +kernel
theorem dX6_lays_185 : decode cX6_lays 185 = .ok (.iaload, 1) := by decide +kernel
theorem dX6_lays_186 : decode cX6_lays 186 = .ok (.if_icmp .gt 7, 3) := by decide +kernel
theorem dX6_lays_189 : decode cX6_lays 189 = .ok (.iconst 1, 1) := by decide +kernel
theorem dX6_lays_190 : decode cX6_lays 190 = .ok (.goto 4, 3) := by decide +kernel
theorem dX6_lays_193 : decode cX6_lays 193 = .ok (.iconst 0, 1) := by decide +kernel
theorem dX6_lays_194 : decode cX6_lays 194 = .ok (.istore_n 2, 1) := by decide +kernel
theorem dX6_lays_195 : decode cX6_lays 195 = .ok (.iload 6, 2) := by decide +kernel
theorem dX6_lays_197 : decode cX6_lays 197 = .ok (.ifCond .le 52, 3) := by decide +kernel
theorem dX6_lays_200 : decode cX6_lays 200 = .ok (.iload_n 2, 1) := by decide +kernel
theorem dX6_lays_201 : decode cX6_lays 201 = .ok (.ifCond .eq 46, 3) := by decide +kernel
theorem dX6_lays_204 : decode cX6_lays 204 = .ok (.iload 6, 2) := by decide +kernel
theorem dX6_lays_206 : decode cX6_lays 206 = .ok (.aload_n 0, 1) := by decide +kernel
theorem dX6_lays_207 : decode cX6_lays 207 = .ok (.getfield 16, 3) := by decide +kernel
theorem dX6_lays_210 : decode cX6_lays 210 = .ok (.iload_n 3, 1) := by decide +kernel
theorem dX6_lays_211 : decode cX6_lays 211 = .ok (.iaload, 1) := by decide +kernel
theorem dX6_lays_212 : decode cX6_lays 212 = .ok (.if_icmp .gt 13, 3) := by decide +kernel
theorem dX6_lays_215 : decode cX6_lays 215 = .ok (.iload 5, 2) := by decide +kernel
theorem dX6_lays_217 : decode cX6_lays 217 = .ok (.iload 6, 2) := by decide +kernel
theorem dX6_lays_219 : decode cX6_lays 219 = .ok (.if_icmp .ne 28, 3) := by decide +kernel
theorem dX6_lays_222 : decode cX6_lays 222 = .ok (.goto 21, 3) := by decide +kernel
theorem dX6_lays_225 : decode cX6_lays 225 = .ok (.iload 4, 2) := by decide +kernel
theorem dX6_lays_227 : decode cX6_lays 227 = .ok (.aload_n 0, 1) := by decide +kernel
theorem dX6_lays_228 : decode cX6_lays 228 = .ok (.getfield 16, 3) := by decide +kernel
theorem dX6_lays_231 : decode cX6_lays 231 = .ok (.iload_n 3, 1) := by decide +kernel
theorem dX6_lays_232 : decode cX6_lays 232 = .ok (.iaload, 1) := by decide +kernel
theorem dX6_lays_233 : decode cX6_lays 233 = .ok (.if_icmp .ne 14, 3) := by decide +kernel
theorem dX6_lays_236 : decode cX6_lays 236 = .ok (.iload 5, 2) := by decide +kernel
theorem dX6_lays_238 : decode cX6_lays 238 = .ok (.iload 4, 2) := by decide +kernel
theorem dX6_lays_240 : decode cX6_lays 240 = .ok (.if_icmp .ne 7, 3) := by decide +kernel
theorem dX6_lays_243 : decode cX6_lays 243 = .ok (.iconst 1, 1) := by decide +kernel
theorem dX6_lays_244 : decode cX6_lays 244 = .ok (.goto 4, 3) := by decide +kernel
theorem dX6_lays_247 : decode cX6_lays 247 = .ok (.iconst 0, 1) := by decide +kernel
theorem dX6_lays_248 : decode cX6_lays 248 = .ok (.istore_n 2, 1) := by decide +kernel
theorem dX6_lays_249 : decode cX6_lays 249 = .ok (.iinc 3 1, 3) := by decide +kernel
theorem dX6_lays_252 : decode cX6_lays 252 = .ok (.goto (-169), 3) := by decide +kernel
theorem dX6_lays_255 : decode cX6_lays 255 = .ok (.iload_n 2, 1) := by decide +kernel
theorem dX6_lays_256 : decode cX6_lays 256 = .ok (.ireturn, 1) := by decide +kernel
theorem dX6_sizeOf_0 : decode cX6_sizeOf 0 = .ok (.iconst 0, 1) := by decide +kernel
theorem dX6_sizeOf_1 : decode cX6_sizeOf 1 = .ok (.istore_n 1, 1) := by decide +kernel
theorem dX6_sizeOf_2 : decode cX6_sizeOf 2 = .ok (.iconst 0, 1) := by decide +kernel
theorem dX6_sizeOf_3 : decode cX6_sizeOf 3 = .ok (.istore_n 2, 1) := by decide +kernel
theorem dX6_sizeOf_4 : decode cX6_sizeOf 4 = .ok (.iload_n 2, 1) := by decide +kernel
theorem dX6_sizeOf_5 : decode cX6_sizeOf 5 = .ok (.aload_n 0, 1) := by decide +kernel
theorem dX6_sizeOf_6 : decode cX6_sizeOf 6 = .ok (.getfield 7, 3) := by decide +kernel
theorem dX6_sizeOf_9 : decode cX6_sizeOf 9 = .ok (.if_icmp .ge 26, 3) := by decide +kernel
theorem dX6_sizeOf_12 : decode cX6_sizeOf 12 = .ok (.iload_n 1, 1) := by decide +kernel
theorem dX6_sizeOf_13 : decode cX6_sizeOf 13 = .ok (.aload_n 0, 1) := by decide +kernel
theorem dX6_sizeOf_14 : decode cX6_sizeOf 14 = .ok (.getfield 35, 3) := by decide +kernel
theorem dX6_sizeOf_17 : decode cX6_sizeOf 17 = .ok (.iload_n 2, 1) := by decide +kernel
theorem dX6_sizeOf_18 : decode cX6_sizeOf 18 = .ok (.iaload, 1) := by decide +kernel
theorem dX6_sizeOf_19 : decode cX6_sizeOf 19 = .ok (.ifCond .lt 7, 3) := by decide +kernel
theorem dX6_sizeOf_22 : decode cX6_sizeOf 22 = .ok (.iconst 1, 1) := by decide +kernel
theorem dX6_sizeOf_23 : decode cX6_sizeOf 23 = .ok (.goto 4, 3) := by decide +kernel
theorem dX6_sizeOf_26 : decode cX6_sizeOf 26 = .ok (.iconst 0, 1) := by decide +kernel
theorem dX6_sizeOf_27 : decode cX6_sizeOf 27 = .ok (.iadd, 1) := by decide +kernel
theorem dX6_sizeOf_28 : decode cX6_sizeOf 28 = .ok (.istore_n 1, 1) := by decide +kernel
theorem dX6_sizeOf_29 : decode cX6_sizeOf 29 = .ok (.iinc 2 1, 3) := by decide +kernel
theorem dX6_sizeOf_32 : decode cX6_sizeOf 32 = .ok (.goto (-28), 3) := by decide +kernel
theorem dX6_sizeOf_35 : decode cX6_sizeOf 35 = .ok (.iload_n 1, 1) := by decide +kernel
theorem dX6_sizeOf_36 : decode cX6_sizeOf 36 = .ok (.ireturn, 1) := by decide +kernel
theorem dX6_code_0 : decode cX6_code 0 = .ok (.iconst 0, 1) := by decide +kernel
theorem dX6_code_1 : decode cX6_code 1 = .ok (.istore_n 1, 1) := by decide +kernel
theorem dX6_code_2 : decode cX6_code 2 = .ok (.iconst 0, 1) := by decide +kernel
theorem dX6_code_3 : decode cX6_code 3 = .ok (.istore_n 2, 1) := by decide +kernel
theorem dX6_code_4 : decode cX6_code 4 = .ok (.iload_n 2, 1) := by decide +kernel
theorem dX6_code_5 : decode cX6_code 5 = .ok (.aload_n 0, 1) := by decide +kernel
theorem dX6_code_6 : decode cX6_code 6 = .ok (.getfield 7, 3) := by decide +kernel
theorem dX6_code_9 : decode cX6_code 9 = .ok (.if_icmp .ge 34, 3) := by decide +kernel
theorem dX6_code_12 : decode cX6_code 12 = .ok (.bipush 6, 2) := by decide +kernel
theorem dX6_code_14 : decode cX6_code 14 = .ok (.iload_n 1, 1) := by decide +kernel
theorem dX6_code_15 : decode cX6_code 15 = .ok (.imul, 1) := by decide +kernel
theorem dX6_code_16 : decode cX6_code 16 = .ok (.aload_n 0, 1) := by decide +kernel
theorem dX6_code_17 : decode cX6_code 17 = .ok (.getfield 35, 3) := by decide +kernel
theorem dX6_code_20 : decode cX6_code 20 = .ok (.iload_n 2, 1) := by decide +kernel
theorem dX6_code_21 : decode cX6_code 21 = .ok (.iaload, 1) := by decide +kernel
theorem dX6_code_22 : decode cX6_code 22 = .ok (.ifCond .ge 7, 3) := by decide +kernel
theorem dX6_code_25 : decode cX6_code 25 = .ok (.iconst 5, 1) := by decide +kernel
theorem dX6_code_26 : decode cX6_code 26 = .ok (.goto 9, 3) := by decide +kernel
theorem dX6_code_29 : decode cX6_code 29 = .ok (.aload_n 0, 1) := by decide +kernel
theorem dX6_code_30 : decode cX6_code 30 = .ok (.getfield 35, 3) := by decide +kernel
theorem dX6_code_33 : decode cX6_code 33 = .ok (.iload_n 2, 1) := by decide +kernel
theorem dX6_code_34 : decode cX6_code 34 = .ok (.iaload, 1) := by decide +kernel
theorem dX6_code_35 : decode cX6_code 35 = .ok (.iadd, 1) := by decide +kernel
theorem dX6_code_36 : decode cX6_code 36 = .ok (.istore_n 1, 1) := by decide +kernel
theorem dX6_code_37 : decode cX6_code 37 = .ok (.iinc 2 1, 3) := by decide +kernel
theorem dX6_code_40 : decode cX6_code 40 = .ok (.goto (-36), 3) := by decide +kernel
theorem dX6_code_43 : decode cX6_code 43 = .ok (.iload_n 1, 1) := by decide +kernel
theorem dX6_code_44 : decode cX6_code 44 = .ok (.ireturn, 1) := by decide +kernel
set_option maxRecDepth 20000 in
theorem ggX6_popularCount_X6_lays : GoodIn wsX6_popularCount wsX6_lays := goodIn_r _ [6, 1, 7, 8, 9, 10, 11, 12, 5, 13, 14, 15, 16, 17, 18, 19, 20, 21, 22, 23, 24, 25, 26, 27, 28, 29, 30, 31, 32, 33] (by decide +kernel) (by decide +kernel)
set_option maxRecDepth 20000 in
theorem gX6_popularCount_X6_lays : GoodIn wsX6_popularCount (wsV RX6 104 RX6 yX6_lays wsX6_lays) := goodIn_app (goodIn_of _ (by decide +kernel)) ggX6_popularCount_X6_lays
theorem dX6_popularCount_0 : decode cX6_popularCount 0 = .ok (.iconst 0, 1) := by decide +kernel
theorem dX6_popularCount_1 : decode cX6_popularCount 1 = .ok (.istore_n 1, 1) := by decide +kernel
theorem dX6_popularCount_2 : decode cX6_popularCount 2 = .ok (.iconst 0, 1) := by decide +kernel
theorem dX6_popularCount_3 : decode cX6_popularCount 3 = .ok (.istore_n 2, 1) := by decide +kernel
theorem dX6_popularCount_4 : decode cX6_popularCount 4 = .ok (.iload_n 2, 1) := by decide +kernel
theorem dX6_popularCount_5 : decode cX6_popularCount 5 = .ok (.iconst 1, 1) := by decide +kernel
theorem dX6_popularCount_6 : decode cX6_popularCount 6 = .ok (.aload_n 0, 1) := by decide +kernel
theorem dX6_popularCount_7 : decode cX6_popularCount 7 = .ok (.getfield 7, 3) := by decide +kernel
theorem dX6_popularCount_10 : decode cX6_popularCount 10 = .ok (.ishl, 1) := by decide +kernel
theorem dX6_popularCount_11 : decode cX6_popularCount 11 = .ok (.if_icmp .ge 25, 3) := by decide +kernel
theorem dX6_popularCount_14 : decode cX6_popularCount 14 = .ok (.iload_n 1, 1) := by decide +kernel
theorem dX6_popularCount_15 : decode cX6_popularCount 15 = .ok (.aload_n 0, 1) := by decide +kernel
theorem dX6_popularCount_16 : decode cX6_popularCount 16 = .ok (.iload_n 2, 1) := by decide +kernel
theorem dX6_popularCount_17 : decode cX6_popularCount 17 = .ok (.invokevirtual 104, 3) := by decide +kernel
theorem dX6_popularCount_20 : decode cX6_popularCount 20 = .ok (.ifCond .eq 7, 3) := by decide +kernel
theorem dX6_popularCount_23 : decode cX6_popularCount 23 = .ok (.iconst 1, 1) := by decide +kernel
theorem dX6_popularCount_24 : decode cX6_popularCount 24 = .ok (.goto 4, 3) := by decide +kernel
theorem dX6_popularCount_27 : decode cX6_popularCount 27 = .ok (.iconst 0, 1) := by decide +kernel
theorem dX6_popularCount_28 : decode cX6_popularCount 28 = .ok (.iadd, 1) := by decide +kernel
theorem dX6_popularCount_29 : decode cX6_popularCount 29 = .ok (.istore_n 1, 1) := by decide +kernel
theorem dX6_popularCount_30 : decode cX6_popularCount 30 = .ok (.iinc 2 1, 3) := by decide +kernel
theorem dX6_popularCount_33 : decode cX6_popularCount 33 = .ok (.goto (-29), 3) := by decide +kernel
theorem dX6_popularCount_36 : decode cX6_popularCount 36 = .ok (.iload_n 1, 1) := by decide +kernel
theorem dX6_popularCount_37 : decode cX6_popularCount 37 = .ok (.ireturn, 1) := by decide +kernel
set_option maxRecDepth 20000 in
theorem ggX6_greatestPopularSize_X6_lays : GoodIn wsX6_greatestPopularSize wsX6_lays := goodIn_r _ [6, 1, 7, 8, 9, 10, 11, 12, 5, 13, 14, 15, 16, 17, 18, 19, 20, 21, 22, 23, 28, 29, 30, 31, 32, 33, 34, 35, 36, 37] (by decide +kernel) (by decide +kernel)
set_option maxRecDepth 20000 in
theorem gX6_greatestPopularSize_X6_lays : GoodIn wsX6_greatestPopularSize (wsV RX6 104 RX6 yX6_lays wsX6_lays) := goodIn_app (goodIn_of _ (by decide +kernel)) ggX6_greatestPopularSize_X6_lays
set_option maxRecDepth 20000 in
theorem ggX6_greatestPopularSize_X6_sizeOf : GoodIn wsX6_greatestPopularSize wsX6_sizeOf := goodIn_r _ [27, 1, 7, 28, 29, 30, 31, 32, 33, 34, 35, 36, 37] (by decide +kernel) (by decide +kernel)
set_option maxRecDepth 20000 in
theorem gX6_greatestPopularSize_X6_sizeOf : GoodIn wsX6_greatestPopularSize (wsV RX6 107 RX6 yX6_sizeOf wsX6_sizeOf) := goodIn_app (goodIn_of _ (by decide +kernel)) ggX6_greatestPopularSize_X6_sizeOf
theorem dX6_greatestPopularSize_0 : decode cX6_greatestPopularSize 0 = .ok (.bipush (-104), 2) := by decide +kernel
theorem dX6_greatestPopularSize_2 : decode cX6_greatestPopularSize 2 = .ok (.istore_n 1, 1) := by decide +kernel
theorem dX6_greatestPopularSize_3 : decode cX6_greatestPopularSize 3 = .ok (.iconst 0, 1) := by decide +kernel
theorem dX6_greatestPopularSize_4 : decode cX6_greatestPopularSize 4 = .ok (.istore_n 2, 1) := by decide +kernel
theorem dX6_greatestPopularSize_5 : decode cX6_greatestPopularSize 5 = .ok (.iload_n 2, 1) := by decide +kernel
theorem dX6_greatestPopularSize_6 : decode cX6_greatestPopularSize 6 = .ok (.iconst 1, 1) := by decide +kernel
theorem dX6_greatestPopularSize_7 : decode cX6_greatestPopularSize 7 = .ok (.aload_n 0, 1) := by decide +kernel
theorem dX6_greatestPopularSize_8 : decode cX6_greatestPopularSize 8 = .ok (.getfield 7, 3) := by decide +kernel
theorem dX6_greatestPopularSize_11 : decode cX6_greatestPopularSize 11 = .ok (.ishl, 1) := by decide +kernel
theorem dX6_greatestPopularSize_12 : decode cX6_greatestPopularSize 12 = .ok (.if_icmp .ge 30, 3) := by decide +kernel
theorem dX6_greatestPopularSize_15 : decode cX6_greatestPopularSize 15 = .ok (.aload_n 0, 1) := by decide +kernel
theorem dX6_greatestPopularSize_16 : decode cX6_greatestPopularSize 16 = .ok (.iload_n 2, 1) := by decide +kernel
theorem dX6_greatestPopularSize_17 : decode cX6_greatestPopularSize 17 = .ok (.invokevirtual 104, 3) := by decide +kernel
theorem dX6_greatestPopularSize_20 : decode cX6_greatestPopularSize 20 = .ok (.ifCond .eq 16, 3) := by decide +kernel
theorem dX6_greatestPopularSize_23 : decode cX6_greatestPopularSize 23 = .ok (.aload_n 0, 1) := by decide +kernel
theorem dX6_greatestPopularSize_24 : decode cX6_greatestPopularSize 24 = .ok (.invokevirtual 107, 3) := by decide +kernel
theorem dX6_greatestPopularSize_27 : decode cX6_greatestPopularSize 27 = .ok (.iload_n 1, 1) := by decide +kernel
theorem dX6_greatestPopularSize_28 : decode cX6_greatestPopularSize 28 = .ok (.if_icmp .le 8, 3) := by decide +kernel
theorem dX6_greatestPopularSize_31 : decode cX6_greatestPopularSize 31 = .ok (.aload_n 0, 1) := by decide +kernel
theorem dX6_greatestPopularSize_32 : decode cX6_greatestPopularSize 32 = .ok (.invokevirtual 107, 3) := by decide +kernel
theorem dX6_greatestPopularSize_35 : decode cX6_greatestPopularSize 35 = .ok (.istore_n 1, 1) := by decide +kernel
theorem dX6_greatestPopularSize_36 : decode cX6_greatestPopularSize 36 = .ok (.iinc 2 1, 3) := by decide +kernel
theorem dX6_greatestPopularSize_39 : decode cX6_greatestPopularSize 39 = .ok (.goto (-34), 3) := by decide +kernel
theorem dX6_greatestPopularSize_42 : decode cX6_greatestPopularSize 42 = .ok (.iload_n 1, 1) := by decide +kernel
theorem dX6_greatestPopularSize_43 : decode cX6_greatestPopularSize 43 = .ok (.ireturn, 1) := by decide +kernel
set_option maxRecDepth 20000 in
theorem ggX6_adoptPopular_X6_popularCount : GoodIn wsX6_adoptPopular wsX6_popularCount := goodIn_r _ [7, 2, 8, 9, 10, 6, 11, 12, 13, 14, 15, 16, 17, 18, 19, 20, 21, 22, 23, 24, 25, 26, 27, 28, 48, 49, 50, 51, 52, 53, 54, 55, 56, 57] (by decide +kernel) (by decide +kernel)
set_option maxRecDepth 20000 in
theorem gX6_adoptPopular_X6_popularCount : GoodIn wsX6_adoptPopular (wsV RX6 110 RX6 yX6_popularCount wsX6_popularCount) := goodIn_app (goodIn_of _ (by decide +kernel)) ggX6_adoptPopular_X6_popularCount
set_option maxRecDepth 20000 in
theorem ggX6_adoptPopular_X6_lays : GoodIn wsX6_adoptPopular wsX6_lays := goodIn_r _ [11, 2, 12, 13, 14, 15, 16, 17, 6, 18, 19, 20, 21, 22, 23, 24, 25, 26, 27, 28, 48, 49, 50, 51, 52, 53, 54, 55, 56, 57] (by decide +kernel) (by decide +kernel)
set_option maxRecDepth 20000 in
theorem gX6_adoptPopular_X6_lays : GoodIn wsX6_adoptPopular (wsV RX6 104 RX6 yX6_lays wsX6_lays) := goodIn_app (goodIn_of _ (by decide +kernel)) ggX6_adoptPopular_X6_lays
set_option maxRecDepth 20000 in
theorem ggX6_adoptPopular_X6_code : GoodIn wsX6_adoptPopular wsX6_code := goodIn_r _ [32, 2, 12, 48, 49, 50, 51, 52, 53, 54, 55, 56, 57] (by decide +kernel) (by decide +kernel)
set_option maxRecDepth 20000 in
theorem gX6_adoptPopular_X6_code : GoodIn wsX6_adoptPopular (wsV RX6 114 RX6 yX6_code wsX6_code) := goodIn_app (goodIn_of _ (by decide +kernel)) ggX6_adoptPopular_X6_code
set_option maxRecDepth 20000 in
theorem ggX6_adoptPopular_X6_takes : GoodIn wsX6_adoptPopular wsX6_takes := goodIn_r _ [36, 2, 37, 12, 38, 39, 40, 6, 41, 42, 43, 48, 49, 50, 51, 52, 53, 54, 55, 56, 57] (by decide +kernel) (by decide +kernel)
set_option maxRecDepth 20000 in
theorem gX6_adoptPopular_X6_takes : GoodIn wsX6_adoptPopular (wsV RX6 101 RX6 yX6_takes wsX6_takes) := goodIn_app (goodIn_of _ (by decide +kernel)) ggX6_adoptPopular_X6_takes
set_option maxRecDepth 20000 in
theorem ggX6_adoptPopular_X6_sizeOf : GoodIn wsX6_adoptPopular wsX6_sizeOf := goodIn_r _ [47, 2, 12, 48, 49, 50, 51, 52, 53, 54, 55, 56, 57] (by decide +kernel) (by decide +kernel)
set_option maxRecDepth 20000 in
theorem gX6_adoptPopular_X6_sizeOf : GoodIn wsX6_adoptPopular (wsV RX6 107 RX6 yX6_sizeOf wsX6_sizeOf) := goodIn_app (goodIn_of _ (by decide +kernel)) ggX6_adoptPopular_X6_sizeOf
theorem dX6_adoptPopular_0 : decode cX6_adoptPopular 0 = .ok (.iload_n 1, 1) := by decide +kernel
theorem dX6_adoptPopular_1 : decode cX6_adoptPopular 1 = .ok (.ifCond .ge 6, 3) := by decide +kernel
theorem dX6_adoptPopular_4 : decode cX6_adoptPopular 4 = .ok (.bipush (-101), 2) := by decide +kernel
theorem dX6_adoptPopular_6 : decode cX6_adoptPopular 6 = .ok (.ireturn, 1) := by decide +kernel
theorem dX6_adoptPopular_7 : decode cX6_adoptPopular 7 = .ok (.iload_n 1, 1) := by decide +kernel
theorem dX6_adoptPopular_8 : decode cX6_adoptPopular 8 = .ok (.aload_n 0, 1) := by decide +kernel
theorem dX6_adoptPopular_9 : decode cX6_adoptPopular 9 = .ok (.invokevirtual 110, 3) := by decide +kernel
theorem dX6_adoptPopular_12 : decode cX6_adoptPopular 12 = .ok (.if_icmp .lt 6, 3) := by decide +kernel
theorem dX6_adoptPopular_15 : decode cX6_adoptPopular 15 = .ok (.bipush (-104), 2) := by decide +kernel
theorem dX6_adoptPopular_17 : decode cX6_adoptPopular 17 = .ok (.ireturn, 1) := by decide +kernel
theorem dX6_adoptPopular_18 : decode cX6_adoptPopular 18 = .ok (.iconst (-1), 1) := by decide +kernel
theorem dX6_adoptPopular_19 : decode cX6_adoptPopular 19 = .ok (.istore_n 2, 1) := by decide +kernel
theorem dX6_adoptPopular_20 : decode cX6_adoptPopular 20 = .ok (.iconst 0, 1) := by decide +kernel
theorem dX6_adoptPopular_21 : decode cX6_adoptPopular 21 = .ok (.istore_n 3, 1) := by decide +kernel
theorem dX6_adoptPopular_22 : decode cX6_adoptPopular 22 = .ok (.iconst 0, 1) := by decide +kernel
theorem dX6_adoptPopular_23 : decode cX6_adoptPopular 23 = .ok (.istore 4, 2) := by decide +kernel
theorem dX6_adoptPopular_25 : decode cX6_adoptPopular 25 = .ok (.iload 4, 2) := by decide +kernel
theorem dX6_adoptPopular_27 : decode cX6_adoptPopular 27 = .ok (.iload_n 1, 1) := by decide +kernel
theorem dX6_adoptPopular_28 : decode cX6_adoptPopular 28 = .ok (.if_icmp .gt 71, 3) := by decide +kernel
theorem dX6_adoptPopular_31 : decode cX6_adoptPopular 31 = .ok (.ldc 113, 2) := by decide +kernel
theorem dX6_adoptPopular_33 : decode cX6_adoptPopular 33 = .ok (.istore 5, 2) := by decide +kernel
theorem dX6_adoptPopular_35 : decode cX6_adoptPopular 35 = .ok (.iconst 0, 1) := by decide +kernel
theorem dX6_adoptPopular_36 : decode cX6_adoptPopular 36 = .ok (.istore 6, 2) := by decide +kernel
theorem dX6_adoptPopular_38 : decode cX6_adoptPopular 38 = .ok (.iload 6, 2) := by decide +kernel
theorem dX6_adoptPopular_40 : decode cX6_adoptPopular 40 = .ok (.iconst 1, 1) := by decide +kernel
theorem dX6_adoptPopular_41 : decode cX6_adoptPopular 41 = .ok (.aload_n 0, 1) := by decide +kernel
theorem dX6_adoptPopular_42 : decode cX6_adoptPopular 42 = .ok (.getfield 7, 3) := by decide +kernel
theorem dX6_adoptPopular_45 : decode cX6_adoptPopular 45 = .ok (.ishl, 1) := by decide +kernel
theorem dX6_adoptPopular_46 : decode cX6_adoptPopular 46 = .ok (.if_icmp .ge 44, 3) := by decide +kernel
theorem dX6_adoptPopular_49 : decode cX6_adoptPopular 49 = .ok (.aload_n 0, 1) := by decide +kernel
theorem dX6_adoptPopular_50 : decode cX6_adoptPopular 50 = .ok (.iload 6, 2) := by decide +kernel
theorem dX6_adoptPopular_52 : decode cX6_adoptPopular 52 = .ok (.invokevirtual 104, 3) := by decide +kernel
theorem dX6_adoptPopular_55 : decode cX6_adoptPopular 55 = .ok (.ifCond .eq 29, 3) := by decide +kernel
theorem dX6_adoptPopular_58 : decode cX6_adoptPopular 58 = .ok (.aload_n 0, 1) := by decide +kernel
theorem dX6_adoptPopular_59 : decode cX6_adoptPopular 59 = .ok (.invokevirtual 114, 3) := by decide +kernel
theorem dX6_adoptPopular_62 : decode cX6_adoptPopular 62 = .ok (.iload_n 2, 1) := by decide +kernel
theorem dX6_adoptPopular_63 : decode cX6_adoptPopular 63 = .ok (.if_icmp .le 21, 3) := by decide +kernel
theorem dX6_adoptPopular_66 : decode cX6_adoptPopular 66 = .ok (.aload_n 0, 1) := by decide +kernel
theorem dX6_adoptPopular_67 : decode cX6_adoptPopular 67 = .ok (.invokevirtual 114, 3) := by decide +kernel
theorem dX6_adoptPopular_70 : decode cX6_adoptPopular 70 = .ok (.iload 5, 2) := by decide +kernel
theorem dX6_adoptPopular_72 : decode cX6_adoptPopular 72 = .ok (.if_icmp .ge 12, 3) := by decide +kernel
theorem dX6_adoptPopular_75 : decode cX6_adoptPopular 75 = .ok (.aload_n 0, 1) := by decide +kernel
theorem dX6_adoptPopular_76 : decode cX6_adoptPopular 76 = .ok (.invokevirtual 114, 3) := by decide +kernel
theorem dX6_adoptPopular_79 : decode cX6_adoptPopular 79 = .ok (.istore 5, 2) := by decide +kernel
theorem dX6_adoptPopular_81 : decode cX6_adoptPopular 81 = .ok (.iload 6, 2) := by decide +kernel
theorem dX6_adoptPopular_83 : decode cX6_adoptPopular 83 = .ok (.istore_n 3, 1) := by decide +kernel
theorem dX6_adoptPopular_84 : decode cX6_adoptPopular 84 = .ok (.iinc 6 1, 3) := by decide +kernel
theorem dX6_adoptPopular_87 : decode cX6_adoptPopular 87 = .ok (.goto (-49), 3) := by decide +kernel
theorem dX6_adoptPopular_90 : decode cX6_adoptPopular 90 = .ok (.iload 5, 2) := by decide +kernel
theorem dX6_adoptPopular_92 : decode cX6_adoptPopular 92 = .ok (.istore_n 2, 1) := by decide +kernel
theorem dX6_adoptPopular_93 : decode cX6_adoptPopular 93 = .ok (.iinc 4 1, 3) := by decide +kernel
theorem dX6_adoptPopular_96 : decode cX6_adoptPopular 96 = .ok (.goto (-71), 3) := by decide +kernel
theorem dX6_adoptPopular_99 : decode cX6_adoptPopular 99 = .ok (.aload_n 0, 1) := by decide +kernel
theorem dX6_adoptPopular_100 : decode cX6_adoptPopular 100 = .ok (.iload_n 3, 1) := by decide +kernel
theorem dX6_adoptPopular_101 : decode cX6_adoptPopular 101 = .ok (.invokevirtual 104, 3) := by decide +kernel
theorem dX6_adoptPopular_104 : decode cX6_adoptPopular 104 = .ok (.ifCond .eq 7, 3) := by decide +kernel
theorem dX6_adoptPopular_107 : decode cX6_adoptPopular 107 = .ok (.aload_n 0, 1) := by decide +kernel
theorem dX6_adoptPopular_108 : decode cX6_adoptPopular 108 = .ok (.invokevirtual 101, 3) := by decide +kernel
theorem dX6_adoptPopular_111 : decode cX6_adoptPopular 111 = .ok (.aload_n 0, 1) := by decide +kernel
theorem dX6_adoptPopular_112 : decode cX6_adoptPopular 112 = .ok (.invokevirtual 107, 3) := by decide +kernel
theorem dX6_adoptPopular_115 : decode cX6_adoptPopular 115 = .ok (.ireturn, 1) := by decide +kernel
set_option maxRecDepth 20000 in
theorem ggX6_adoptSerial_X6_isApplicant : GoodIn wsX6_adoptSerial wsX6_isApplicant := goodIn_r _ [10, 1, 11, 12, 9, 13, 35, 36, 37, 38, 39, 40, 41, 42, 43, 44] (by decide +kernel) (by decide +kernel)
set_option maxRecDepth 20000 in
theorem gX6_adoptSerial_X6_isApplicant : GoodIn wsX6_adoptSerial (wsV RX6 56 RX6 yX6_isApplicant wsX6_isApplicant) := goodIn_app (goodIn_of _ (by decide +kernel)) ggX6_adoptSerial_X6_isApplicant
set_option maxRecDepth 20000 in
theorem ggX6_adoptSerial_X6_digit : GoodIn wsX6_adoptSerial wsX6_digit := goodIn_r _ [16] (by decide +kernel) (by decide +kernel)
set_option maxRecDepth 20000 in
theorem gX6_adoptSerial_X6_digit : GoodIn wsX6_adoptSerial (va_wsS RX6 80 yX6_digit wsX6_digit) := goodIn_app (goodIn_of _ (by decide +kernel)) ggX6_adoptSerial_X6_digit
set_option maxRecDepth 20000 in
theorem ggX6_adoptSerial_X6_power : GoodIn wsX6_adoptSerial wsX6_power := goodIn_r _ [19] (by decide +kernel) (by decide +kernel)
set_option maxRecDepth 20000 in
theorem gX6_adoptSerial_X6_power : GoodIn wsX6_adoptSerial (va_wsS RX6 83 yX6_power wsX6_power) := goodIn_app (goodIn_of _ (by decide +kernel)) ggX6_adoptSerial_X6_power
set_option maxRecDepth 20000 in
theorem ggX6_adoptSerial_X6_takes : GoodIn wsX6_adoptSerial wsX6_takes := goodIn_r _ [23, 1, 24, 2, 25, 26, 27, 9, 28, 29, 30, 35, 36, 37, 38, 39, 40, 41, 42, 43, 44] (by decide +kernel) (by decide +kernel)
set_option maxRecDepth 20000 in
theorem gX6_adoptSerial_X6_takes : GoodIn wsX6_adoptSerial (wsV RX6 101 RX6 yX6_takes wsX6_takes) := goodIn_app (goodIn_of _ (by decide +kernel)) ggX6_adoptSerial_X6_takes
set_option maxRecDepth 20000 in
theorem ggX6_adoptSerial_X6_size : GoodIn wsX6_adoptSerial wsX6_size := goodIn_r _ [34, 1, 24, 35, 36, 37, 38, 39, 40, 41, 42, 43, 44] (by decide +kernel) (by decide +kernel)
set_option maxRecDepth 20000 in
theorem gX6_adoptSerial_X6_size : GoodIn wsX6_adoptSerial (wsV RX6 94 RX6 yX6_size wsX6_size) := goodIn_app (goodIn_of _ (by decide +kernel)) ggX6_adoptSerial_X6_size
theorem dX6_adoptSerial_0 : decode cX6_adoptSerial 0 = .ok (.aload_n 0, 1) := by decide +kernel
theorem dX6_adoptSerial_1 : decode cX6_adoptSerial 1 = .ok (.iload_n 1, 1) := by decide +kernel
theorem dX6_adoptSerial_2 : decode cX6_adoptSerial 2 = .ok (.invokevirtual 56, 3) := by decide +kernel
theorem dX6_adoptSerial_5 : decode cX6_adoptSerial 5 = .ok (.ifCond .ne 6, 3) := by decide +kernel
theorem dX6_adoptSerial_8 : decode cX6_adoptSerial 8 = .ok (.bipush (-101), 2) := by decide +kernel
theorem dX6_adoptSerial_10 : decode cX6_adoptSerial 10 = .ok (.ireturn, 1) := by decide +kernel
theorem dX6_adoptSerial_11 : decode cX6_adoptSerial 11 = .ok (.iconst 0, 1) := by decide +kernel
theorem dX6_adoptSerial_12 : decode cX6_adoptSerial 12 = .ok (.istore_n 2, 1) := by decide +kernel
theorem dX6_adoptSerial_13 : decode cX6_adoptSerial 13 = .ok (.iconst 0, 1) := by decide +kernel
theorem dX6_adoptSerial_14 : decode cX6_adoptSerial 14 = .ok (.istore_n 3, 1) := by decide +kernel
theorem dX6_adoptSerial_15 : decode cX6_adoptSerial 15 = .ok (.iload_n 3, 1) := by decide +kernel
theorem dX6_adoptSerial_16 : decode cX6_adoptSerial 16 = .ok (.aload_n 0, 1) := by decide +kernel
theorem dX6_adoptSerial_17 : decode cX6_adoptSerial 17 = .ok (.getfield 7, 3) := by decide +kernel
theorem dX6_adoptSerial_20 : decode cX6_adoptSerial 20 = .ok (.if_icmp .ge 125, 3) := by decide +kernel
theorem dX6_adoptSerial_23 : decode cX6_adoptSerial 23 = .ok (.iload_n 1, 1) := by decide +kernel
theorem dX6_adoptSerial_24 : decode cX6_adoptSerial 24 = .ok (.iload_n 3, 1) := by decide +kernel
theorem dX6_adoptSerial_25 : decode cX6_adoptSerial 25 = .ok (.iadd, 1) := by decide +kernel
theorem dX6_adoptSerial_26 : decode cX6_adoptSerial 26 = .ok (.aload_n 0, 1) := by decide +kernel
theorem dX6_adoptSerial_27 : decode cX6_adoptSerial 27 = .ok (.getfield 7, 3) := by decide +kernel
theorem dX6_adoptSerial_30 : decode cX6_adoptSerial 30 = .ok (.irem, 1) := by decide +kernel
theorem dX6_adoptSerial_31 : decode cX6_adoptSerial 31 = .ok (.istore 4, 2) := by decide +kernel
theorem dX6_adoptSerial_33 : decode cX6_adoptSerial 33 = .ok (.aload_n 0, 1) := by decide +kernel
theorem dX6_adoptSerial_34 : decode cX6_adoptSerial 34 = .ok (.getfield 35, 3) := by decide +kernel
theorem dX6_adoptSerial_37 : decode cX6_adoptSerial 37 = .ok (.iload 4, 2) := by decide +kernel
theorem dX6_adoptSerial_39 : decode cX6_adoptSerial 39 = .ok (.iconst (-1), 1) := by decide +kernel
theorem dX6_adoptSerial_40 : decode cX6_adoptSerial 40 = .ok (.iastore, 1) := by decide +kernel
theorem dX6_adoptSerial_41 : decode cX6_adoptSerial 41 = .ok (.aload_n 0, 1) := by decide +kernel
theorem dX6_adoptSerial_42 : decode cX6_adoptSerial 42 = .ok (.getfield 20, 3) := by decide +kernel
theorem dX6_adoptSerial_45 : decode cX6_adoptSerial 45 = .ok (.iload 4, 2) := by decide +kernel
theorem dX6_adoptSerial_47 : decode cX6_adoptSerial 47 = .ok (.iaload, 1) := by decide +kernel
theorem dX6_adoptSerial_48 : decode cX6_adoptSerial 48 = .ok (.iconst 1, 1) := by decide +kernel
theorem dX6_adoptSerial_49 : decode cX6_adoptSerial 49 = .ok (.isub, 1) := by decide +kernel
theorem dX6_adoptSerial_50 : decode cX6_adoptSerial 50 = .ok (.istore 5, 2) := by decide +kernel
theorem dX6_adoptSerial_52 : decode cX6_adoptSerial 52 = .ok (.iload 5, 2) := by decide +kernel
theorem dX6_adoptSerial_54 : decode cX6_adoptSerial 54 = .ok (.ifCond .lt 58, 3) := by decide +kernel
theorem dX6_adoptSerial_57 : decode cX6_adoptSerial 57 = .ok (.aload_n 0, 1) := by decide +kernel
theorem dX6_adoptSerial_58 : decode cX6_adoptSerial 58 = .ok (.getfield 23, 3) := by decide +kernel
theorem dX6_adoptSerial_61 : decode cX6_adoptSerial 61 = .ok (.iconst 5, 1) := by decide +kernel
theorem dX6_adoptSerial_62 : decode cX6_adoptSerial 62 = .ok (.iload 4, 2) := by decide +kernel
theorem dX6_adoptSerial_64 : decode cX6_adoptSerial 64 = .ok (.imul, 1) := by decide +kernel
theorem dX6_adoptSerial_65 : decode cX6_adoptSerial 65 = .ok (.iload 5, 2) := by decide +kernel
theorem dX6_adoptSerial_67 : decode cX6_adoptSerial 67 = .ok (.iadd, 1) := by decide +kernel
theorem dX6_adoptSerial_68 : decode cX6_adoptSerial 68 = .ok (.iaload, 1) := by decide +kernel
theorem dX6_adoptSerial_69 : decode cX6_adoptSerial 69 = .ok (.istore 6, 2) := by decide +kernel
theorem dX6_adoptSerial_71 : decode cX6_adoptSerial 71 = .ok (.aload_n 0, 1) := by decide +kernel
theorem dX6_adoptSerial_72 : decode cX6_adoptSerial 72 = .ok (.getfield 35, 3) := by decide +kernel
theorem dX6_adoptSerial_75 : decode cX6_adoptSerial 75 = .ok (.iload 4, 2) := by decide +kernel
theorem dX6_adoptSerial_77 : decode cX6_adoptSerial 77 = .ok (.iload_n 2, 1) := by decide +kernel
theorem dX6_adoptSerial_78 : decode cX6_adoptSerial 78 = .ok (.iload 6, 2) := by decide +kernel
theorem dX6_adoptSerial_80 : decode cX6_adoptSerial 80 = .ok (.invokestatic 80, 3) := by decide +kernel
theorem dX6_adoptSerial_83 : decode cX6_adoptSerial 83 = .ok (.aload_n 0, 1) := by decide +kernel
theorem dX6_adoptSerial_84 : decode cX6_adoptSerial 84 = .ok (.getfield 16, 3) := by decide +kernel
theorem dX6_adoptSerial_87 : decode cX6_adoptSerial 87 = .ok (.iload 6, 2) := by decide +kernel
theorem dX6_adoptSerial_89 : decode cX6_adoptSerial 89 = .ok (.iaload, 1) := by decide +kernel
theorem dX6_adoptSerial_90 : decode cX6_adoptSerial 90 = .ok (.if_icmp .ge 8, 3) := by decide +kernel
theorem dX6_adoptSerial_93 : decode cX6_adoptSerial 93 = .ok (.iload 6, 2) := by decide +kernel
theorem dX6_adoptSerial_95 : decode cX6_adoptSerial 95 = .ok (.goto 10, 3) := by decide +kernel
theorem dX6_adoptSerial_98 : decode cX6_adoptSerial 98 = .ok (.aload_n 0, 1) := by decide +kernel
theorem dX6_adoptSerial_99 : decode cX6_adoptSerial 99 = .ok (.getfield 35, 3) := by decide +kernel
theorem dX6_adoptSerial_102 : decode cX6_adoptSerial 102 = .ok (.iload 4, 2) := by decide +kernel
theorem dX6_adoptSerial_104 : decode cX6_adoptSerial 104 = .ok (.iaload, 1) := by decide +kernel
theorem dX6_adoptSerial_105 : decode cX6_adoptSerial 105 = .ok (.iastore, 1) := by decide +kernel
theorem dX6_adoptSerial_106 : decode cX6_adoptSerial 106 = .ok (.iinc 5 (-1), 3) := by decide +kernel
theorem dX6_adoptSerial_109 : decode cX6_adoptSerial 109 = .ok (.goto (-57), 3) := by decide +kernel
theorem dX6_adoptSerial_112 : decode cX6_adoptSerial 112 = .ok (.iload_n 2, 1) := by decide +kernel
theorem dX6_adoptSerial_113 : decode cX6_adoptSerial 113 = .ok (.aload_n 0, 1) := by decide +kernel
theorem dX6_adoptSerial_114 : decode cX6_adoptSerial 114 = .ok (.getfield 35, 3) := by decide +kernel
theorem dX6_adoptSerial_117 : decode cX6_adoptSerial 117 = .ok (.iload 4, 2) := by decide +kernel
theorem dX6_adoptSerial_119 : decode cX6_adoptSerial 119 = .ok (.iaload, 1) := by decide +kernel
theorem dX6_adoptSerial_120 : decode cX6_adoptSerial 120 = .ok (.ifCond .ge 7, 3) := by decide +kernel
theorem dX6_adoptSerial_123 : decode cX6_adoptSerial 123 = .ok (.iconst 0, 1) := by decide +kernel
theorem dX6_adoptSerial_124 : decode cX6_adoptSerial 124 = .ok (.goto 13, 3) := by decide +kernel
theorem dX6_adoptSerial_127 : decode cX6_adoptSerial 127 = .ok (.aload_n 0, 1) := by decide +kernel
theorem dX6_adoptSerial_128 : decode cX6_adoptSerial 128 = .ok (.getfield 35, 3) := by decide +kernel
theorem dX6_adoptSerial_131 : decode cX6_adoptSerial 131 = .ok (.iload 4, 2) := by decide +kernel
theorem dX6_adoptSerial_133 : decode cX6_adoptSerial 133 = .ok (.iaload, 1) := by decide +kernel
theorem dX6_adoptSerial_134 : decode cX6_adoptSerial 134 = .ok (.invokestatic 83, 3) := by decide +kernel
theorem dX6_adoptSerial_137 : decode cX6_adoptSerial 137 = .ok (.iadd, 1) := by decide +kernel
theorem dX6_adoptSerial_138 : decode cX6_adoptSerial 138 = .ok (.istore_n 2, 1) := by decide +kernel
theorem dX6_adoptSerial_139 : decode cX6_adoptSerial 139 = .ok (.iinc 3 1, 3) := by decide +kernel
theorem dX6_adoptSerial_142 : decode cX6_adoptSerial 142 = .ok (.goto (-127), 3) := by decide +kernel
theorem dX6_adoptSerial_145 : decode cX6_adoptSerial 145 = .ok (.aload_n 0, 1) := by decide +kernel
theorem dX6_adoptSerial_146 : decode cX6_adoptSerial 146 = .ok (.invokevirtual 101, 3) := by decide +kernel
theorem dX6_adoptSerial_149 : decode cX6_adoptSerial 149 = .ok (.aload_n 0, 1) := by decide +kernel
theorem dX6_adoptSerial_150 : decode cX6_adoptSerial 150 = .ok (.invokevirtual 94, 3) := by decide +kernel
theorem dX6_adoptSerial_153 : decode cX6_adoptSerial 153 = .ok (.ireturn, 1) := by decide +kernel
theorem dJ9_max_7cf53_0 : decode cJ9_max_7cf53 0 = .ok (.iload_n 0, 1) := by decide +kernel
theorem dJ9_max_7cf53_1 : decode cJ9_max_7cf53 1 = .ok (.iload_n 1, 1) := by decide +kernel
theorem dJ9_max_7cf53_2 : decode cJ9_max_7cf53 2 = .ok (.if_icmp .lt 7, 3) := by decide +kernel
theorem dJ9_max_7cf53_5 : decode cJ9_max_7cf53 5 = .ok (.iload_n 0, 1) := by decide +kernel
theorem dJ9_max_7cf53_6 : decode cJ9_max_7cf53 6 = .ok (.goto 4, 3) := by decide +kernel
theorem dJ9_max_7cf53_9 : decode cJ9_max_7cf53 9 = .ok (.iload_n 1, 1) := by decide +kernel
theorem dJ9_max_7cf53_10 : decode cJ9_max_7cf53 10 = .ok (.ireturn, 1) := by decide +kernel
theorem dJ9_min_7cf53_0 : decode cJ9_min_7cf53 0 = .ok (.iload_n 0, 1) := by decide +kernel
theorem dJ9_min_7cf53_1 : decode cJ9_min_7cf53 1 = .ok (.iload_n 1, 1) := by decide +kernel
theorem dJ9_min_7cf53_2 : decode cJ9_min_7cf53 2 = .ok (.if_icmp .gt 7, 3) := by decide +kernel
theorem dJ9_min_7cf53_5 : decode cJ9_min_7cf53 5 = .ok (.iload_n 0, 1) := by decide +kernel
theorem dJ9_min_7cf53_6 : decode cJ9_min_7cf53 6 = .ok (.goto 4, 3) := by decide +kernel
theorem dJ9_min_7cf53_9 : decode cJ9_min_7cf53 9 = .ok (.iload_n 1, 1) := by decide +kernel
theorem dJ9_min_7cf53_10 : decode cJ9_min_7cf53 10 = .ok (.ireturn, 1) := by decide +kernel
set_option maxRecDepth 20000 in
theorem ggL_law_X5_init : GoodIn wsL_law wsX5_init := goodIn_r _ [8, 9, 10, 11, 12, 13, 14, 15, 16, 17, 18, 19, 20, 21, 22, 23, 24, 25, 26, 27, 28, 29, 30, 31, 32, 33, 34, 35, 36, 37, 38, 39, 40, 41, 42, 43, 44, 45, 46, 47, 48, 49, 50, 51, 52, 53, 54, 55, 56, 57, 58, 59, 60, 61, 62, 63, 64, 65, 66, 67, 68, 69, 70, 71, 72, 73, 74, 75, 76, 77, 78, 79, 80, 81, 534, 535, 536, 537, 538, 517, 518, 519, 520, 521, 522, 523, 539, 540, 541, 542, 543, 544, 545, 546, 547, 548, 549, 550, 551] (by decide +kernel) (by decide +kernel)
set_option maxRecDepth 20000 in
theorem gL_law_X5_init : GoodIn wsL_law (wsX5_init) := ggL_law_X5_init
set_option maxRecDepth 20000 in
theorem ggL_law_X6_init : GoodIn wsL_law wsX6_init := goodIn_r _ [84, 85, 10, 11, 86, 87, 38, 88, 89, 90, 91, 92, 93, 94, 95, 96, 97, 5, 98, 99, 100, 101, 102, 103, 524, 525, 526, 527, 528, 529, 530, 531, 532, 533] (by decide +kernel) (by decide +kernel)
set_option maxRecDepth 20000 in
theorem gL_law_X6_init : GoodIn wsL_law (wsX6_init) := ggL_law_X6_init
set_option maxRecDepth 20000 in
theorem ggL_law_X5_reset : GoodIn wsL_law wsX5_reset := goodIn_r _ [107, 15, 108, 109, 43, 44, 14, 45, 46, 47, 39, 40, 110, 111, 112, 2, 113, 19, 20, 25, 114, 54, 55, 18, 56, 52, 115, 116, 117, 24, 118, 61, 517, 518, 519, 520, 521, 522, 523, 534, 535, 536, 537, 538, 539, 540, 541, 542] (by decide +kernel) (by decide +kernel)
set_option maxRecDepth 20000 in
theorem gL_law_X5_reset : GoodIn wsL_law (wsV RL 13 RX5 yX5_reset wsX5_reset) := goodIn_app (goodIn_of _ (by decide +kernel)) ggL_law_X5_reset
set_option maxRecDepth 20000 in
theorem ggL_law_X6_reset : GoodIn wsL_law wsX6_reset := goodIn_r _ [122, 86, 123, 124, 5, 125, 95, 96, 97, 98, 87, 88, 89, 99, 100, 101, 102, 91, 103, 524, 525, 526, 527, 528, 529, 530, 531, 532, 533] (by decide +kernel) (by decide +kernel)
set_option maxRecDepth 20000 in
theorem gL_law_X6_reset : GoodIn wsL_law (wsV RL 17 RX6 yX6_reset wsX6_reset) := goodIn_app (goodIn_of _ (by decide +kernel)) ggL_law_X6_reset
set_option maxRecDepth 20000 in
theorem ggL_law_X5_setCapacity : GoodIn wsL_law wsX5_setCapacity := goodIn_r _ [129, 15, 130, 131, 132, 133, 14, 134, 47, 110, 111, 112, 2, 113, 19, 20, 25, 114, 54, 55, 18, 56, 52, 115, 116, 117, 24, 118, 61, 517, 518, 519, 520, 521, 522, 523, 534, 535, 536, 537, 538, 539, 540, 541, 542] (by decide +kernel) (by decide +kernel)
set_option maxRecDepth 20000 in
theorem gL_law_X5_setCapacity : GoodIn wsL_law (wsV RL 18 RX5 yX5_setCapacity wsX5_setCapacity) := goodIn_app (goodIn_of _ (by decide +kernel)) ggL_law_X5_setCapacity
set_option maxRecDepth 20000 in
theorem ggL_law_X6_setCapacity : GoodIn wsL_law wsX6_setCapacity := goodIn_r _ [138, 88, 139, 140, 141, 5, 142, 87, 123, 124, 125, 99, 100, 101, 102, 91, 103, 524, 525, 526, 527, 528, 529, 530, 531, 532, 533] (by decide +kernel) (by decide +kernel)
set_option maxRecDepth 20000 in
theorem gL_law_X6_setCapacity : GoodIn wsL_law (wsV RL 21 RX6 yX6_setCapacity wsX6_setCapacity) := goodIn_app (goodIn_of _ (by decide +kernel)) ggL_law_X6_setCapacity
set_option maxRecDepth 20000 in
theorem ggL_law_X5_appendPreference : GoodIn wsL_law wsX5_appendPreference := goodIn_r _ [146, 15, 147, 148, 149, 14, 150, 46, 131, 132, 133, 134, 47, 151, 152, 153, 154, 40, 155, 156, 157, 158, 159, 160, 161, 162, 41, 163, 164, 165, 166, 110, 111, 112, 2, 113, 19, 20, 25, 114, 54, 55, 18, 56, 52, 115, 116, 117, 24, 118, 61, 517, 518, 519, 520, 521, 522, 523, 534, 535, 536, 537, 538, 539, 540, 541, 542] (by decide +kernel) (by decide +kernel)
set_option maxRecDepth 20000 in
theorem gL_law_X5_appendPreference : GoodIn wsL_law (wsV RL 22 RX5 yX5_appendPreference wsX5_appendPreference) := goodIn_app (goodIn_of _ (by decide +kernel)) ggL_law_X5_appendPreference
set_option maxRecDepth 20000 in
theorem ggL_law_X6_appendPreference : GoodIn wsL_law wsX6_appendPreference := goodIn_r _ [170, 90, 89, 171, 172, 173, 5, 174, 86, 123, 124, 125, 139, 140, 141, 142, 87, 175, 176, 177, 178, 99, 100, 101, 102, 91, 103, 524, 525, 526, 527, 528, 529, 530, 531, 532, 533] (by decide +kernel) (by decide +kernel)
set_option maxRecDepth 20000 in
theorem gL_law_X6_appendPreference : GoodIn wsL_law (wsV RL 25 RX6 yX6_appendPreference wsX6_appendPreference) := goodIn_app (goodIn_of _ (by decide +kernel)) ggL_law_X6_appendPreference
set_option maxRecDepth 20000 in
theorem ggL_law_X5_clearPreferences : GoodIn wsL_law wsX5_clearPreferences := goodIn_r _ [182, 15, 183, 147, 148, 149, 14, 150, 46, 110, 111, 112, 2, 113, 19, 20, 25, 114, 54, 55, 18, 56, 52, 115, 116, 117, 24, 118, 61, 517, 518, 519, 520, 521, 522, 523, 534, 535, 536, 537, 538, 539, 540, 541, 542] (by decide +kernel) (by decide +kernel)
set_option maxRecDepth 20000 in
theorem gL_law_X5_clearPreferences : GoodIn wsL_law (wsV RL 26 RX5 yX5_clearPreferences wsX5_clearPreferences) := goodIn_app (goodIn_of _ (by decide +kernel)) ggL_law_X5_clearPreferences
set_option maxRecDepth 20000 in
theorem ggL_law_X6_clearPreferences : GoodIn wsL_law wsX6_clearPreferences := goodIn_r _ [187, 89, 171, 172, 173, 5, 174, 86, 123, 124, 125, 99, 100, 101, 102, 91, 103, 524, 525, 526, 527, 528, 529, 530, 531, 532, 533] (by decide +kernel) (by decide +kernel)
set_option maxRecDepth 20000 in
theorem gL_law_X6_clearPreferences : GoodIn wsL_law (wsV RL 30 RX6 yX6_clearPreferences wsX6_clearPreferences) := goodIn_app (goodIn_of _ (by decide +kernel)) ggL_law_X6_clearPreferences
set_option maxRecDepth 20000 in
theorem ggL_law_X5_preferenceAt : GoodIn wsL_law wsX5_preferenceAt := goodIn_r _ [191, 15, 183, 147, 148, 149, 14, 150, 46, 192, 160, 161, 162, 41, 517, 518, 519, 520, 521, 522, 523, 534, 535, 536, 537, 538] (by decide +kernel) (by decide +kernel)
set_option maxRecDepth 20000 in
theorem gL_law_X5_preferenceAt : GoodIn wsL_law (wsV RL 31 RX5 yX5_preferenceAt wsX5_preferenceAt) := goodIn_app (goodIn_of _ (by decide +kernel)) ggL_law_X5_preferenceAt
set_option maxRecDepth 20000 in
theorem ggL_law_X6_preferenceAt : GoodIn wsL_law wsX6_preferenceAt := goodIn_r _ [196, 89, 90, 171, 172, 173, 5, 174, 86, 123, 124, 125, 524, 525, 526, 527, 528, 529, 530, 531, 532, 533] (by decide +kernel) (by decide +kernel)
set_option maxRecDepth 20000 in
theorem gL_law_X6_preferenceAt : GoodIn wsL_law (wsV RL 34 RX6 yX6_preferenceAt wsX6_preferenceAt) := goodIn_app (goodIn_of _ (by decide +kernel)) ggL_law_X6_preferenceAt
set_option maxRecDepth 20000 in
theorem ggL_law_X5_firstPost : GoodIn wsL_law wsX5_firstPost := goodIn_r _ [200, 15, 147, 148, 149, 14, 150, 46, 201, 202, 203, 204, 40, 159, 160, 161, 162, 41, 517, 518, 519, 520, 521, 522, 523, 534, 535, 536, 537, 538] (by decide +kernel) (by decide +kernel)
set_option maxRecDepth 20000 in
theorem gL_law_X5_firstPost : GoodIn wsL_law (wsV RL 35 RX5 yX5_firstPost wsX5_firstPost) := goodIn_app (goodIn_of _ (by decide +kernel)) ggL_law_X5_firstPost
set_option maxRecDepth 20000 in
theorem ggL_law_X6_firstPost : GoodIn wsL_law wsX6_firstPost := goodIn_r _ [208, 171, 172, 173, 5, 174, 86, 123, 124, 125, 209, 210, 211, 212, 89, 90, 524, 525, 526, 527, 528, 529, 530, 531, 532, 533] (by decide +kernel) (by decide +kernel)
set_option maxRecDepth 20000 in
theorem gL_law_X6_firstPost : GoodIn wsL_law (wsV RL 38 RX6 yX6_firstPost wsX6_firstPost) := goodIn_app (goodIn_of _ (by decide +kernel)) ggL_law_X6_firstPost
set_option maxRecDepth 20000 in
theorem ggL_law_X5_secondPost : GoodIn wsL_law wsX5_secondPost := goodIn_r _ [216, 15, 147, 148, 149, 14, 150, 46, 217, 218, 219, 220, 40, 39, 159, 160, 161, 162, 41, 221, 222, 223, 224, 225, 202, 203, 204, 517, 518, 519, 520, 521, 522, 523, 534, 535, 536, 537, 538] (by decide +kernel) (by decide +kernel)
set_option maxRecDepth 20000 in
theorem gL_law_X5_secondPost : GoodIn wsL_law (wsV RL 39 RX5 yX5_secondPost wsX5_secondPost) := goodIn_app (goodIn_of _ (by decide +kernel)) ggL_law_X5_secondPost
set_option maxRecDepth 20000 in
theorem ggL_law_X6_secondPost : GoodIn wsL_law wsX6_secondPost := goodIn_r _ [229, 171, 172, 173, 5, 174, 86, 123, 124, 125, 230, 231, 232, 233, 89, 90, 88, 234, 235, 236, 237, 209, 210, 211, 212, 524, 525, 526, 527, 528, 529, 530, 531, 532, 533] (by decide +kernel) (by decide +kernel)
set_option maxRecDepth 20000 in
theorem gL_law_X6_secondPost : GoodIn wsL_law (wsV RL 42 RX6 yX6_secondPost wsX6_secondPost) := goodIn_app (goodIn_of _ (by decide +kernel)) ggL_law_X6_secondPost
set_option maxRecDepth 20000 in
theorem ggL_law_X5_assign : GoodIn wsL_law wsX5_assign := goodIn_r _ [241, 15, 19, 130, 242, 25, 20, 147, 148, 149, 14, 150, 46, 131, 132, 133, 134, 47, 151, 152, 153, 154, 40, 155, 156, 157, 158, 159, 160, 161, 162, 41, 243, 244, 245, 18, 246, 52, 247, 248, 249, 24, 250, 61, 63, 64, 251, 252, 253, 254, 255, 256, 257, 258, 517, 518, 519, 520, 521, 522, 523, 534, 535, 536, 537, 538, 539, 540, 541, 542] (by decide +kernel) (by decide +kernel)
set_option maxRecDepth 20000 in
theorem gL_law_X5_assign : GoodIn wsL_law (wsV RL 43 RX5 yX5_assign wsX5_assign) := goodIn_app (goodIn_of _ (by decide +kernel)) ggL_law_X5_assign
set_option maxRecDepth 20000 in
theorem ggL_law_X6_assign : GoodIn wsL_law wsX6_assign := goodIn_r _ [262, 87, 86, 91, 88, 171, 172, 173, 5, 174, 123, 124, 125, 175, 176, 177, 178, 89, 90, 263, 264, 265, 266, 103, 92, 524, 525, 526, 527, 528, 529, 530, 531, 532, 533] (by decide +kernel) (by decide +kernel)
set_option maxRecDepth 20000 in
theorem gL_law_X6_assign : GoodIn wsL_law (wsV RL 46 RX6 yX6_assign wsX6_assign) := goodIn_app (goodIn_of _ (by decide +kernel)) ggL_law_X6_assign
set_option maxRecDepth 20000 in
theorem ggL_law_X5_postOf : GoodIn wsL_law wsX5_postOf := goodIn_r _ [270, 15, 19, 242, 147, 148, 149, 14, 150, 46, 517, 518, 519, 520, 521, 522, 523, 539, 534, 535, 536, 537, 538] (by decide +kernel) (by decide +kernel)
set_option maxRecDepth 20000 in
theorem gL_law_X5_postOf : GoodIn wsL_law (wsV RL 47 RX5 yX5_postOf wsX5_postOf) := goodIn_app (goodIn_of _ (by decide +kernel)) ggL_law_X5_postOf
set_option maxRecDepth 20000 in
theorem ggL_law_X6_postOf : GoodIn wsL_law wsX6_postOf := goodIn_r _ [274, 91, 171, 172, 173, 5, 174, 86, 123, 124, 125, 524, 525, 526, 527, 528, 529, 530, 531, 532, 533] (by decide +kernel) (by decide +kernel)
set_option maxRecDepth 20000 in
theorem gL_law_X6_postOf : GoodIn wsL_law (wsV RL 50 RX6 yX6_postOf wsX6_postOf) := goodIn_app (goodIn_of _ (by decide +kernel)) ggL_law_X6_postOf
set_option maxRecDepth 20000 in
theorem ggL_law_X5_size : GoodIn wsL_law wsX5_size := goodIn_r _ [278, 19, 279, 280, 281, 18, 282, 52, 517, 518, 519, 520, 521, 522, 523, 539] (by decide +kernel) (by decide +kernel)
set_option maxRecDepth 20000 in
theorem gL_law_X5_size : GoodIn wsL_law (wsV RL 51 RX5 yX5_size wsX5_size) := goodIn_app (goodIn_of _ (by decide +kernel)) ggL_law_X5_size
set_option maxRecDepth 20000 in
theorem ggL_law_X6_size : GoodIn wsL_law wsX6_size := goodIn_r _ [286, 86, 91, 524, 525, 526, 527, 528, 529, 530, 531, 532, 533] (by decide +kernel) (by decide +kernel)
set_option maxRecDepth 20000 in
theorem gL_law_X6_size : GoodIn wsL_law (wsV RL 55 RX6 yX6_size wsX6_size) := goodIn_app (goodIn_of _ (by decide +kernel)) ggL_law_X6_size
set_option maxRecDepth 20000 in
theorem ggL_law_X5_isParetoOptimal : GoodIn wsL_law wsX5_isParetoOptimal := goodIn_r _ [290, 29, 15, 19, 291, 292, 293, 28, 294, 295, 296, 71, 297, 298, 299, 300, 301, 302, 303, 304, 305, 306, 156, 157, 14, 158, 40, 159, 160, 161, 162, 41, 307, 308, 309, 310, 70, 311, 312, 313, 314, 315, 316, 317, 318, 319, 320, 321, 322, 323, 324, 325, 517, 518, 519, 520, 521, 522, 523, 534, 535, 536, 537, 538, 543, 544, 539] (by decide +kernel) (by decide +kernel)
set_option maxRecDepth 20000 in
theorem gL_law_X5_isParetoOptimal : GoodIn wsL_law (wsV RL 56 RX5 yX5_isParetoOptimal wsX5_isParetoOptimal) := goodIn_app (goodIn_of _ (by decide +kernel)) ggL_law_X5_isParetoOptimal
set_option maxRecDepth 20000 in
theorem ggL_law_X6_isParetoOptimal : GoodIn wsL_law wsX6_isParetoOptimal := goodIn_r _ [329, 330, 331, 332, 5, 333, 93, 86, 87, 334, 335, 336, 337, 91, 88, 338, 339, 340, 341, 175, 176, 177, 178, 89, 90, 342, 343, 344, 345, 346, 347, 524, 525, 526, 527, 528, 529, 530, 531, 532, 533] (by decide +kernel) (by decide +kernel)
set_option maxRecDepth 20000 in
theorem gL_law_X6_isParetoOptimal : GoodIn wsL_law (wsV RL 59 RX6 yX6_isParetoOptimal wsX6_isParetoOptimal) := goodIn_app (goodIn_of _ (by decide +kernel)) ggL_law_X6_isParetoOptimal
set_option maxRecDepth 20000 in
theorem ggL_law_X5_save : GoodIn wsL_law wsX5_save := goodIn_r _ [351, 20, 19, 352, 256, 257, 18, 258, 52, 279, 280, 281, 282, 517, 518, 519, 520, 521, 522, 523, 539] (by decide +kernel) (by decide +kernel)
set_option maxRecDepth 20000 in
theorem gL_law_X5_save : GoodIn wsL_law (wsV RL 60 RX5 yX5_save wsX5_save) := goodIn_app (goodIn_of _ (by decide +kernel)) ggL_law_X5_save
set_option maxRecDepth 20000 in
theorem ggL_law_X6_save : GoodIn wsL_law wsX6_save := goodIn_r _ [356, 91, 357, 284, 285, 5, 286, 86, 524, 525, 526, 527, 528, 529, 530, 531, 532, 533] (by decide +kernel) (by decide +kernel)
set_option maxRecDepth 20000 in
theorem gL_law_X6_save : GoodIn wsL_law (wsV RL 63 RX6 yX6_save wsX6_save) := goodIn_app (goodIn_of _ (by decide +kernel)) ggL_law_X6_save
set_option maxRecDepth 20000 in
theorem ggL_law_X5_swapSaved : GoodIn wsL_law wsX5_swapSaved := goodIn_r _ [361, 21, 20, 25, 19, 352, 256, 257, 18, 258, 52, 247, 248, 249, 24, 250, 61, 63, 64, 251, 252, 253, 254, 255, 279, 280, 281, 282, 517, 518, 519, 520, 521, 522, 523, 539, 540, 541, 542] (by decide +kernel) (by decide +kernel)
set_option maxRecDepth 20000 in
theorem gL_law_X5_swapSaved : GoodIn wsL_law (wsV RL 64 RX5 yX5_swapSaved wsX5_swapSaved) := goodIn_app (goodIn_of _ (by decide +kernel)) ggL_law_X5_swapSaved
set_option maxRecDepth 20000 in
theorem ggL_law_X6_swapSaved : GoodIn wsL_law wsX6_swapSaved := goodIn_r _ [365, 91, 263, 264, 265, 5, 266, 103, 92, 357, 284, 285, 286, 86, 524, 525, 526, 527, 528, 529, 530, 531, 532, 533] (by decide +kernel) (by decide +kernel)
set_option maxRecDepth 20000 in
theorem gL_law_X6_swapSaved : GoodIn wsL_law (wsV RL 67 RX6 yX6_swapSaved wsX6_swapSaved) := goodIn_app (goodIn_of _ (by decide +kernel)) ggL_law_X6_swapSaved
set_option maxRecDepth 20000 in
theorem ggL_law_X5_marginOverSaved : GoodIn wsL_law wsX5_marginOverSaved := goodIn_r _ [369, 15, 108, 19, 242, 20, 370, 156, 157, 14, 158, 40, 159, 160, 161, 162, 41, 371, 313, 314, 517, 518, 519, 520, 521, 522, 523, 534, 535, 536, 537, 538, 539] (by decide +kernel) (by decide +kernel)
set_option maxRecDepth 20000 in
theorem gL_law_X5_marginOverSaved : GoodIn wsL_law (wsV RL 68 RX5 yX5_marginOverSaved wsX5_marginOverSaved) := goodIn_app (goodIn_of _ (by decide +kernel)) ggL_law_X5_marginOverSaved
set_option maxRecDepth 20000 in
theorem ggL_law_X6_marginOverSaved : GoodIn wsL_law wsX6_marginOverSaved := goodIn_r _ [375, 86, 91, 338, 339, 340, 5, 341, 175, 176, 177, 178, 89, 90, 524, 525, 526, 527, 528, 529, 530, 531, 532, 533] (by decide +kernel) (by decide +kernel)
set_option maxRecDepth 20000 in
theorem gL_law_X6_marginOverSaved : GoodIn wsL_law (wsV RL 71 RX6 yX6_marginOverSaved wsX6_marginOverSaved) := goodIn_app (goodIn_of _ (by decide +kernel)) ggL_law_X6_marginOverSaved
set_option maxRecDepth 20000 in
theorem ggL_law_X5_unpopularityMargin : GoodIn wsL_law wsX5_unpopularityMargin := goodIn_r _ [379, 29, 15, 19, 291, 292, 293, 28, 294, 295, 296, 71, 297, 298, 299, 300, 301, 302, 303, 304, 305, 306, 156, 157, 14, 158, 40, 159, 160, 161, 162, 41, 307, 308, 309, 310, 70, 311, 312, 313, 314, 315, 316, 317, 318, 319, 320, 321, 322, 323, 324, 325, 517, 518, 519, 520, 521, 522, 523, 534, 535, 536, 537, 538, 543, 544, 539] (by decide +kernel) (by decide +kernel)
set_option maxRecDepth 20000 in
theorem gL_law_X5_unpopularityMargin : GoodIn wsL_law (wsV RL 72 RX5 yX5_unpopularityMargin wsX5_unpopularityMargin) := goodIn_app (goodIn_of _ (by decide +kernel)) ggL_law_X5_unpopularityMargin
set_option maxRecDepth 20000 in
theorem ggL_law_X6_unpopularityMargin : GoodIn wsL_law wsX6_unpopularityMargin := goodIn_r _ [383, 330, 331, 332, 5, 333, 93, 86, 87, 334, 335, 336, 337, 91, 88, 338, 339, 340, 341, 175, 176, 177, 178, 89, 90, 342, 343, 344, 345, 346, 347, 524, 525, 526, 527, 528, 529, 530, 531, 532, 533] (by decide +kernel) (by decide +kernel)
set_option maxRecDepth 20000 in
theorem gL_law_X6_unpopularityMargin : GoodIn wsL_law (wsV RL 75 RX6 yX6_unpopularityMargin wsX6_unpopularityMargin) := goodIn_app (goodIn_of _ (by decide +kernel)) ggL_law_X6_unpopularityMargin
set_option maxRecDepth 20000 in
theorem ggL_law_X5_challengerPost : GoodIn wsL_law wsX5_challengerPost := goodIn_r _ [387, 15, 29, 19, 147, 148, 149, 14, 150, 46, 291, 292, 293, 28, 294, 295, 296, 71, 297, 298, 299, 300, 301, 302, 303, 304, 305, 306, 156, 157, 158, 40, 159, 160, 161, 162, 41, 307, 308, 309, 310, 70, 311, 312, 313, 314, 315, 316, 317, 318, 319, 320, 321, 322, 388, 389, 390, 517, 518, 519, 520, 521, 522, 523, 534, 535, 536, 537, 538, 543, 544, 539] (by decide +kernel) (by decide +kernel)
set_option maxRecDepth 20000 in
theorem gL_law_X5_challengerPost : GoodIn wsL_law (wsV RL 76 RX5 yX5_challengerPost wsX5_challengerPost) := goodIn_app (goodIn_of _ (by decide +kernel)) ggL_law_X5_challengerPost
set_option maxRecDepth 20000 in
theorem ggL_law_X6_challengerPost : GoodIn wsL_law wsX6_challengerPost := goodIn_r _ [394, 94, 171, 172, 173, 5, 174, 86, 123, 124, 125, 395, 396, 397, 398, 87, 93, 330, 331, 332, 333, 334, 335, 336, 337, 91, 88, 338, 339, 340, 341, 175, 176, 177, 178, 89, 90, 342, 343, 344, 345, 346, 347, 524, 525, 526, 527, 528, 529, 530, 531, 532, 533] (by decide +kernel) (by decide +kernel)
set_option maxRecDepth 20000 in
theorem gL_law_X6_challengerPost : GoodIn wsL_law (wsV RL 79 RX6 yX6_challengerPost wsX6_challengerPost) := goodIn_app (goodIn_of _ (by decide +kernel)) ggL_law_X6_challengerPost
set_option maxRecDepth 20000 in
theorem ggL_law_X5_adoptChallenger : GoodIn wsL_law wsX5_adoptChallenger := goodIn_r _ [402, 29, 15, 19, 21, 108, 242, 291, 292, 293, 28, 294, 295, 296, 71, 297, 298, 299, 300, 301, 302, 303, 304, 305, 306, 156, 157, 14, 158, 40, 159, 160, 161, 162, 41, 307, 308, 309, 310, 70, 311, 312, 313, 314, 315, 316, 317, 318, 319, 320, 321, 322, 114, 54, 55, 18, 56, 52, 388, 389, 390, 403, 404, 405, 2, 406, 25, 20, 247, 248, 249, 24, 250, 61, 63, 64, 251, 252, 253, 254, 255, 256, 257, 258, 352, 279, 280, 281, 282, 323, 324, 325, 517, 518, 519, 520, 521, 522, 523, 534, 535, 536, 537, 538, 539, 543, 544, 540, 541, 542] (by decide +kernel) (by decide +kernel)
set_option maxRecDepth 20000 in
theorem gL_law_X5_adoptChallenger : GoodIn wsL_law (wsV RL 80 RX5 yX5_adoptChallenger wsX5_adoptChallenger) := goodIn_app (goodIn_of _ (by decide +kernel)) ggL_law_X5_adoptChallenger
set_option maxRecDepth 20000 in
theorem ggL_law_X6_adoptChallenger : GoodIn wsL_law wsX6_adoptChallenger := goodIn_r _ [410, 395, 396, 397, 5, 398, 86, 94, 87, 93, 330, 331, 332, 333, 334, 335, 336, 337, 91, 88, 338, 339, 340, 341, 175, 176, 177, 178, 89, 90, 342, 343, 344, 345, 346, 347, 411, 412, 413, 414, 263, 264, 265, 266, 103, 92, 524, 525, 526, 527, 528, 529, 530, 531, 532, 533] (by decide +kernel) (by decide +kernel)
set_option maxRecDepth 20000 in
theorem gL_law_X6_adoptChallenger : GoodIn wsL_law (wsV RL 83 RX6 yX6_adoptChallenger wsX6_adoptChallenger) := goodIn_app (goodIn_of _ (by decide +kernel)) ggL_law_X6_adoptChallenger
set_option maxRecDepth 20000 in
theorem ggL_law_X5_popularCount : GoodIn wsL_law wsX5_popularCount := goodIn_r _ [418, 33, 15, 419, 420, 421, 32, 422, 423, 81, 424, 425, 426, 427, 75, 76, 77, 428, 78, 429, 430, 431, 304, 432, 433, 202, 203, 14, 204, 40, 159, 160, 161, 162, 41, 434, 218, 219, 220, 39, 221, 222, 223, 224, 46, 225, 435, 436, 437, 438, 439, 79, 80, 440, 441, 442, 443, 444, 445, 446, 447, 448, 449, 450, 517, 518, 519, 520, 521, 522, 523, 534, 535, 536, 537, 538, 545, 546, 547, 548, 549, 550, 551] (by decide +kernel) (by decide +kernel)
set_option maxRecDepth 20000 in
theorem gL_law_X5_popularCount : GoodIn wsL_law (wsV RL 84 RX5 yX5_popularCount wsX5_popularCount) := goodIn_app (goodIn_of _ (by decide +kernel)) ggL_law_X5_popularCount
set_option maxRecDepth 20000 in
theorem ggL_law_X6_popularCount : GoodIn wsL_law wsX6_popularCount := goodIn_r _ [454, 86, 455, 456, 457, 5, 458, 94, 87, 88, 230, 231, 232, 233, 89, 90, 234, 235, 236, 237, 209, 210, 211, 212, 524, 525, 526, 527, 528, 529, 530, 531, 532, 533] (by decide +kernel) (by decide +kernel)
set_option maxRecDepth 20000 in
theorem gL_law_X6_popularCount : GoodIn wsL_law (wsV RL 87 RX6 yX6_popularCount wsX6_popularCount) := goodIn_app (goodIn_of _ (by decide +kernel)) ggL_law_X6_popularCount
set_option maxRecDepth 20000 in
theorem ggL_law_X5_greatestPopularSize : GoodIn wsL_law wsX5_greatestPopularSize := goodIn_r _ [462, 33, 15, 21, 463, 303, 304, 305, 419, 420, 421, 32, 422, 423, 81, 424, 425, 426, 427, 75, 76, 77, 428, 78, 429, 430, 431, 432, 433, 202, 203, 14, 204, 40, 159, 160, 161, 162, 41, 434, 218, 219, 220, 39, 221, 222, 223, 224, 46, 225, 435, 436, 437, 438, 439, 79, 80, 440, 441, 442, 443, 444, 445, 446, 447, 448, 449, 450, 464, 465, 466, 467, 468, 469, 54, 55, 18, 56, 52, 279, 280, 281, 282, 517, 518, 519, 520, 521, 522, 523, 534, 535, 536, 537, 538, 545, 546, 547, 548, 549, 550, 551, 539] (by decide +kernel) (by decide +kernel)
set_option maxRecDepth 20000 in
theorem gL_law_X5_greatestPopularSize : GoodIn wsL_law (wsV RL 88 RX5 yX5_greatestPopularSize wsX5_greatestPopularSize) := goodIn_app (goodIn_of _ (by decide +kernel)) ggL_law_X5_greatestPopularSize
set_option maxRecDepth 20000 in
theorem ggL_law_X6_greatestPopularSize : GoodIn wsL_law wsX6_greatestPopularSize := goodIn_r _ [473, 86, 455, 456, 457, 5, 458, 94, 87, 88, 230, 231, 232, 233, 89, 90, 234, 235, 236, 237, 209, 210, 211, 212, 474, 475, 476, 477, 524, 525, 526, 527, 528, 529, 530, 531, 532, 533] (by decide +kernel) (by decide +kernel)
set_option maxRecDepth 20000 in
theorem gL_law_X6_greatestPopularSize : GoodIn wsL_law (wsV RL 91 RX6 yX6_greatestPopularSize wsX6_greatestPopularSize) := goodIn_app (goodIn_of _ (by decide +kernel)) ggL_law_X6_greatestPopularSize
set_option maxRecDepth 20000 in
theorem ggL_law_X5_adoptPopular : GoodIn wsL_law wsX5_adoptPopular := goodIn_r _ [481, 33, 15, 21, 419, 420, 421, 32, 422, 423, 81, 424, 425, 426, 427, 75, 76, 77, 428, 78, 429, 430, 431, 304, 432, 433, 202, 203, 14, 204, 40, 159, 160, 161, 162, 41, 434, 218, 219, 220, 39, 221, 222, 223, 224, 46, 225, 435, 436, 437, 438, 439, 79, 80, 440, 441, 442, 443, 444, 445, 446, 447, 448, 449, 450, 464, 465, 466, 467, 468, 469, 54, 55, 18, 56, 52, 403, 404, 405, 2, 406, 25, 19, 20, 247, 248, 249, 24, 250, 61, 63, 64, 251, 252, 253, 254, 255, 256, 257, 258, 352, 279, 280, 281, 282, 517, 518, 519, 520, 521, 522, 523, 534, 535, 536, 537, 538, 545, 546, 547, 548, 549, 550, 551, 539, 540, 541, 542] (by decide +kernel) (by decide +kernel)
set_option maxRecDepth 20000 in
theorem gL_law_X5_adoptPopular : GoodIn wsL_law (wsV RL 92 RX5 yX5_adoptPopular wsX5_adoptPopular) := goodIn_app (goodIn_of _ (by decide +kernel)) ggL_law_X5_adoptPopular
set_option maxRecDepth 20000 in
theorem ggL_law_X6_adoptPopular : GoodIn wsL_law wsX6_adoptPopular := goodIn_r _ [485, 486, 86, 487, 452, 453, 5, 454, 455, 456, 457, 458, 94, 87, 88, 230, 231, 232, 233, 89, 90, 234, 235, 236, 237, 209, 210, 211, 212, 488, 489, 490, 491, 411, 412, 413, 414, 91, 263, 264, 265, 266, 103, 92, 474, 475, 476, 477, 524, 525, 526, 527, 528, 529, 530, 531, 532, 533] (by decide +kernel) (by decide +kernel)
set_option maxRecDepth 20000 in
theorem gL_law_X6_adoptPopular : GoodIn wsL_law (wsV RL 95 RX6 yX6_adoptPopular wsX6_adoptPopular) := goodIn_app (goodIn_of _ (by decide +kernel)) ggL_law_X6_adoptPopular
set_option maxRecDepth 20000 in
theorem ggL_law_X5_adoptSerial : GoodIn wsL_law wsX5_adoptSerial := goodIn_r _ [495, 15, 21, 108, 242, 147, 148, 149, 14, 150, 46, 114, 54, 55, 18, 56, 52, 496, 497, 498, 2, 499, 183, 130, 192, 160, 161, 162, 41, 243, 244, 245, 246, 403, 404, 405, 406, 25, 19, 20, 247, 248, 249, 24, 250, 61, 63, 64, 251, 252, 253, 254, 255, 256, 257, 258, 352, 279, 280, 281, 282, 517, 518, 519, 520, 521, 522, 523, 534, 535, 536, 537, 538, 539, 540, 541, 542] (by decide +kernel) (by decide +kernel)
set_option maxRecDepth 20000 in
theorem gL_law_X5_adoptSerial : GoodIn wsL_law (wsV RL 96 RX5 yX5_adoptSerial wsX5_adoptSerial) := goodIn_app (goodIn_of _ (by decide +kernel)) ggL_law_X5_adoptSerial
set_option maxRecDepth 20000 in
theorem ggL_law_X6_adoptSerial : GoodIn wsL_law wsX6_adoptSerial := goodIn_r _ [503, 86, 94, 89, 90, 88, 171, 172, 173, 5, 174, 123, 124, 125, 342, 343, 344, 345, 346, 347, 411, 412, 413, 414, 91, 263, 264, 265, 266, 103, 92, 357, 284, 285, 286, 524, 525, 526, 527, 528, 529, 530, 531, 532, 533] (by decide +kernel) (by decide +kernel)
set_option maxRecDepth 20000 in
theorem gL_law_X6_adoptSerial : GoodIn wsL_law (wsV RL 99 RX6 yX6_adoptSerial wsX6_adoptSerial) := goodIn_app (goodIn_of _ (by decide +kernel)) ggL_law_X6_adoptSerial
set_option maxRecDepth 20000 in
theorem ggL_law_X5_undo : GoodIn wsL_law wsX5_undo := goodIn_r _ [507, 25, 508, 19, 20, 509, 510, 511, 24, 512, 61, 63, 64, 255, 256, 257, 18, 258, 52, 517, 518, 519, 520, 521, 522, 523, 540, 541, 542, 539] (by decide +kernel) (by decide +kernel)
set_option maxRecDepth 20000 in
theorem gL_law_X5_undo : GoodIn wsL_law (wsV RL 100 RX5 yX5_undo wsX5_undo) := goodIn_app (goodIn_of _ (by decide +kernel)) ggL_law_X5_undo
set_option maxRecDepth 20000 in
theorem ggL_law_X6_undo : GoodIn wsL_law wsX6_undo := goodIn_r _ [516, 103, 91, 92, 524, 525, 526, 527, 528, 529, 530, 531, 532, 533] (by decide +kernel) (by decide +kernel)
set_option maxRecDepth 20000 in
theorem gL_law_X6_undo : GoodIn wsL_law (wsV RL 103 RX6 yX6_undo wsX6_undo) := goodIn_app (goodIn_of _ (by decide +kernel)) ggL_law_X6_undo
