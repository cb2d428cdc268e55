theorem dX4_init_0 : decode cX4_init 0 = .ok (.aload_n 0, 1) := by decide +kernel
theorem dX4_init_1 : decode cX4_init 1 = .ok (.invokespecial 3, 3) := by decide +kernel
theorem dX4_init_4 : decode cX4_init 4 = .ok (.aload_n 0, 1) := by decide +kernel
theorem dX4_init_5 : decode cX4_init 5 = .ok (.bipush 6, 2) := by decide +kernel
theorem dX4_init_7 : decode cX4_init 7 = .ok (.newarray .int, 2) := by decide +kernel
theorem dX4_init_9 : decode cX4_init 9 = .ok (.putfield 9, 3) := by decide +kernel
theorem dX4_init_12 : decode cX4_init 12 = .ok (.aload_n 0, 1) := by decide +kernel
theorem dX4_init_13 : decode cX4_init 13 = .ok (.bipush 6, 2) := by decide +kernel
theorem dX4_init_15 : decode cX4_init 15 = .ok (.newarray .int, 2) := by decide +kernel
theorem dX4_init_17 : decode cX4_init 17 = .ok (.putfield 15, 3) := by decide +kernel
theorem dX4_init_20 : decode cX4_init 20 = .ok (.aload_n 0, 1) := by decide +kernel
theorem dX4_init_21 : decode cX4_init 21 = .ok (.bipush 6, 2) := by decide +kernel
theorem dX4_init_23 : decode cX4_init 23 = .ok (.newarray .int, 2) := by decide +kernel
theorem dX4_init_25 : decode cX4_init 25 = .ok (.putfield 18, 3) := by decide +kernel
theorem dX4_init_28 : decode cX4_init 28 = .ok (.aload_n 0, 1) := by decide +kernel
theorem dX4_init_29 : decode cX4_init 29 = .ok (.iconst 5, 1) := by decide +kernel
theorem dX4_init_30 : decode cX4_init 30 = .ok (.newarray .int, 2) := by decide +kernel
theorem dX4_init_32 : decode cX4_init 32 = .ok (.putfield 21, 3) := by decide +kernel
theorem dX4_init_35 : decode cX4_init 35 = .ok (.aload_n 0, 1) := by decide +kernel
theorem dX4_init_36 : decode cX4_init 36 = .ok (.iconst 5, 1) := by decide +kernel
theorem dX4_init_37 : decode cX4_init 37 = .ok (.newarray .int, 2) := by decide +kernel
theorem dX4_init_39 : decode cX4_init 39 = .ok (.putfield 24, 3) := by decide +kernel
theorem dX4_init_42 : decode cX4_init 42 = .ok (.aload_n 0, 1) := by decide +kernel
theorem dX4_init_43 : decode cX4_init 43 = .ok (.iconst 5, 1) := by decide +kernel
theorem dX4_init_44 : decode cX4_init 44 = .ok (.newarray .int, 2) := by decide +kernel
theorem dX4_init_46 : decode cX4_init 46 = .ok (.putfield 27, 3) := by decide +kernel
theorem dX4_init_49 : decode cX4_init 49 = .ok (.aload_n 0, 1) := by decide +kernel
theorem dX4_init_50 : decode cX4_init 50 = .ok (.bipush 64, 2) := by decide +kernel
theorem dX4_init_52 : decode cX4_init 52 = .ok (.newarray .int, 2) := by decide +kernel
theorem dX4_init_54 : decode cX4_init 54 = .ok (.putfield 30, 3) := by decide +kernel
theorem dX4_init_57 : decode cX4_init 57 = .ok (.return_, 1) := by decide +kernel
set_option maxRecDepth 20000 in
theorem ggX4_collect_X4_prepare : GoodIn wsX4_collect wsX4_prepare := goodIn_r _ [7, 1, 8, 9, 10, 11, 12, 13, 14, 15, 16, 17, 18, 19, 20, 21, 22, 23, 24, 25, 26, 27, 28, 29, 30, 31, 32, 33, 34, 35, 36, 37, 38, 39, 40, 58, 59, 60, 61, 62, 63, 64, 65, 66, 67, 68, 69] (by decide +kernel) (by decide +kernel)
set_option maxRecDepth 20000 in
theorem gX4_collect_X4_prepare : GoodIn wsX4_collect (wsV RX4 33 RX4 yX4_prepare wsX4_prepare) := goodIn_app (goodIn_of _ (by decide +kernel)) ggX4_collect_X4_prepare
set_option maxRecDepth 20000 in
theorem ggX4_collect_X4_isPopular : GoodIn wsX4_collect wsX4_isPopular := goodIn_r _ [44, 11, 45, 46, 1, 9, 10, 13, 12, 47, 48, 6, 49, 50, 51, 52, 53, 54, 55, 56, 57, 8, 58, 59, 60, 61, 62, 63, 64, 65, 66, 67, 68, 69] (by decide +kernel) (by decide +kernel)
set_option maxRecDepth 20000 in
theorem gX4_collect_X4_isPopular : GoodIn wsX4_collect (wsV RX4 43 RX4 yX4_isPopular wsX4_isPopular) := goodIn_app (goodIn_of _ (by decide +kernel)) ggX4_collect_X4_isPopular
theorem dX4_collect_0 : decode cX4_collect 0 = .ok (.aload_n 0, 1) := by decide +kernel
theorem dX4_collect_1 : decode cX4_collect 1 = .ok (.aload_n 1, 1) := by decide +kernel
theorem dX4_collect_2 : decode cX4_collect 2 = .ok (.invokevirtual 33, 3) := by decide +kernel
theorem dX4_collect_5 : decode cX4_collect 5 = .ok (.iconst 0, 1) := by decide +kernel
theorem dX4_collect_6 : decode cX4_collect 6 = .ok (.istore_n 2, 1) := by decide +kernel
theorem dX4_collect_7 : decode cX4_collect 7 = .ok (.iconst 0, 1) := by decide +kernel
theorem dX4_collect_8 : decode cX4_collect 8 = .ok (.istore_n 3, 1) := by decide +kernel
theorem dX4_collect_9 : decode cX4_collect 9 = .ok (.iload_n 3, 1) := by decide +kernel
theorem dX4_collect_10 : decode cX4_collect 10 = .ok (.iconst 1, 1) := by decide +kernel
theorem dX4_collect_11 : decode cX4_collect 11 = .ok (.aload_n 1, 1) := by decide +kernel
theorem dX4_collect_12 : decode cX4_collect 12 = .ok (.getfield 37, 3) := by decide +kernel
theorem dX4_collect_15 : decode cX4_collect 15 = .ok (.ishl, 1) := by decide +kernel
theorem dX4_collect_16 : decode cX4_collect 16 = .ok (.if_icmp .ge 28, 3) := by decide +kernel
theorem dX4_collect_19 : decode cX4_collect 19 = .ok (.aload_n 0, 1) := by decide +kernel
theorem dX4_collect_20 : decode cX4_collect 20 = .ok (.aload_n 1, 1) := by decide +kernel
theorem dX4_collect_21 : decode cX4_collect 21 = .ok (.iload_n 3, 1) := by decide +kernel
theorem dX4_collect_22 : decode cX4_collect 22 = .ok (.invokevirtual 43, 3) := by decide +kernel
theorem dX4_collect_25 : decode cX4_collect 25 = .ok (.ifCond .eq 13, 3) := by decide +kernel
theorem dX4_collect_28 : decode cX4_collect 28 = .ok (.aload_n 0, 1) := by decide +kernel
theorem dX4_collect_29 : decode cX4_collect 29 = .ok (.getfield 30, 3) := by decide +kernel
theorem dX4_collect_32 : decode cX4_collect 32 = .ok (.iload_n 2, 1) := by decide +kernel
theorem dX4_collect_33 : decode cX4_collect 33 = .ok (.iload_n 3, 1) := by decide +kernel
theorem dX4_collect_34 : decode cX4_collect 34 = .ok (.iastore, 1) := by decide +kernel
theorem dX4_collect_35 : decode cX4_collect 35 = .ok (.iinc 2 1, 3) := by decide +kernel
theorem dX4_collect_38 : decode cX4_collect 38 = .ok (.iinc 3 1, 3) := by decide +kernel
theorem dX4_collect_41 : decode cX4_collect 41 = .ok (.goto (-32), 3) := by decide +kernel
theorem dX4_collect_44 : decode cX4_collect 44 = .ok (.iload_n 2, 1) := by decide +kernel
theorem dX4_collect_45 : decode cX4_collect 45 = .ok (.ireturn, 1) := by decide +kernel
set_option maxRecDepth 20000 in
theorem ggX4_write_X3_clear : GoodIn wsX4_write wsX3_clear := goodIn_r _ [8, 9, 25] (by decide +kernel) (by decide +kernel)
set_option maxRecDepth 20000 in
theorem gX4_write_X3_clear : GoodIn wsX4_write (wsV RX4 47 RX3 yX3_clear wsX3_clear) := goodIn_app (goodIn_of _ (by decide +kernel)) ggX4_write_X3_clear
set_option maxRecDepth 20000 in
theorem ggX4_write_X4_postIn : GoodIn wsX4_write wsX4_postIn := goodIn_r _ [14, 15, 16, 17, 18, 13, 19, 1, 26, 27, 28, 29, 30, 31, 32, 20, 21, 22, 23, 24] (by decide +kernel) (by decide +kernel)
set_option maxRecDepth 20000 in
theorem gX4_write_X4_postIn : GoodIn wsX4_write (wsV RX4 55 RX4 yX4_postIn wsX4_postIn) := goodIn_app (goodIn_of _ (by decide +kernel)) ggX4_write_X4_postIn
theorem dX4_write_0 : decode cX4_write 0 = .ok (.aload_n 3, 1) := by decide +kernel
theorem dX4_write_1 : decode cX4_write 1 = .ok (.invokevirtual 47, 3) := by decide +kernel
theorem dX4_write_4 : decode cX4_write 4 = .ok (.iconst 0, 1) := by decide +kernel
theorem dX4_write_5 : decode cX4_write 5 = .ok (.istore 4, 2) := by decide +kernel
theorem dX4_write_7 : decode cX4_write 7 = .ok (.iload 4, 2) := by decide +kernel
theorem dX4_write_9 : decode cX4_write 9 = .ok (.aload_n 1, 1) := by decide +kernel
theorem dX4_write_10 : decode cX4_write 10 = .ok (.getfield 37, 3) := by decide +kernel
theorem dX4_write_13 : decode cX4_write 13 = .ok (.if_icmp .ge 29, 3) := by decide +kernel
theorem dX4_write_16 : decode cX4_write 16 = .ok (.aload_n 3, 1) := by decide +kernel
theorem dX4_write_17 : decode cX4_write 17 = .ok (.getfield 52, 3) := by decide +kernel
theorem dX4_write_20 : decode cX4_write 20 = .ok (.iload 4, 2) := by decide +kernel
theorem dX4_write_22 : decode cX4_write 22 = .ok (.aload_n 0, 1) := by decide +kernel
theorem dX4_write_23 : decode cX4_write 23 = .ok (.aload_n 1, 1) := by decide +kernel
theorem dX4_write_24 : decode cX4_write 24 = .ok (.aload_n 0, 1) := by decide +kernel
theorem dX4_write_25 : decode cX4_write 25 = .ok (.getfield 30, 3) := by decide +kernel
theorem dX4_write_28 : decode cX4_write 28 = .ok (.iload_n 2, 1) := by decide +kernel
theorem dX4_write_29 : decode cX4_write 29 = .ok (.iaload, 1) := by decide +kernel
theorem dX4_write_30 : decode cX4_write 30 = .ok (.iload 4, 2) := by decide +kernel
theorem dX4_write_32 : decode cX4_write 32 = .ok (.invokevirtual 55, 3) := by decide +kernel
theorem dX4_write_35 : decode cX4_write 35 = .ok (.iastore, 1) := by decide +kernel
theorem dX4_write_36 : decode cX4_write 36 = .ok (.iinc 4 1, 3) := by decide +kernel
theorem dX4_write_39 : decode cX4_write 39 = .ok (.goto (-32), 3) := by decide +kernel
theorem dX4_write_42 : decode cX4_write 42 = .ok (.return_, 1) := by decide +kernel
set_option maxRecDepth 20000 in
theorem ggX4_prepare_X2_firstOf : GoodIn wsX4_prepare wsX2_firstOf := goodIn_r _ [16, 17, 18, 19, 20, 15, 21, 22, 35, 36, 37, 38, 39] (by decide +kernel) (by decide +kernel)
set_option maxRecDepth 20000 in
theorem gX4_prepare_X2_firstOf : GoodIn wsX4_prepare (wsV RX4 59 RX2 yX2_firstOf wsX2_firstOf) := goodIn_app (goodIn_of _ (by decide +kernel)) ggX4_prepare_X2_firstOf
set_option maxRecDepth 20000 in
theorem ggX4_prepare_X2_secondOf : GoodIn wsX4_prepare wsX2_secondOf := goodIn_r _ [26, 17, 27, 18, 19, 20, 15, 21, 22, 28, 29, 30, 31, 32, 33, 13, 14, 16, 35, 36, 37, 38, 39] (by decide +kernel) (by decide +kernel)
set_option maxRecDepth 20000 in
theorem gX4_prepare_X2_secondOf : GoodIn wsX4_prepare (wsV RX4 63 RX2 yX2_secondOf wsX2_secondOf) := goodIn_app (goodIn_of _ (by decide +kernel)) ggX4_prepare_X2_secondOf
set_option maxRecDepth 20000 in
theorem ggX4_prepare_X2_countFirst : GoodIn wsX4_prepare wsX2_countFirst := goodIn_r _ [31, 32, 33, 13, 14, 15, 16, 17, 18, 19, 20, 21, 22, 35, 36, 37, 38, 39] (by decide +kernel) (by decide +kernel)
set_option maxRecDepth 20000 in
theorem gX4_prepare_X2_countFirst : GoodIn wsX4_prepare (wsV RX4 68 RX2 yX2_countFirst wsX2_countFirst) := goodIn_app (goodIn_of _ (by decide +kernel)) ggX4_prepare_X2_countFirst
theorem dX4_prepare_0 : decode cX4_prepare 0 = .ok (.iconst 0, 1) := by decide +kernel
theorem dX4_prepare_1 : decode cX4_prepare 1 = .ok (.istore_n 2, 1) := by decide +kernel
theorem dX4_prepare_2 : decode cX4_prepare 2 = .ok (.iload_n 2, 1) := by decide +kernel
theorem dX4_prepare_3 : decode cX4_prepare 3 = .ok (.aload_n 1, 1) := by decide +kernel
theorem dX4_prepare_4 : decode cX4_prepare 4 = .ok (.getfield 37, 3) := by decide +kernel
theorem dX4_prepare_7 : decode cX4_prepare 7 = .ok (.if_icmp .ge 87, 3) := by decide +kernel
theorem dX4_prepare_10 : decode cX4_prepare 10 = .ok (.aload_n 1, 1) := by decide +kernel
theorem dX4_prepare_11 : decode cX4_prepare 11 = .ok (.iload_n 2, 1) := by decide +kernel
theorem dX4_prepare_12 : decode cX4_prepare 12 = .ok (.invokevirtual 59, 3) := by decide +kernel
theorem dX4_prepare_15 : decode cX4_prepare 15 = .ok (.istore_n 3, 1) := by decide +kernel
theorem dX4_prepare_16 : decode cX4_prepare 16 = .ok (.aload_n 1, 1) := by decide +kernel
theorem dX4_prepare_17 : decode cX4_prepare 17 = .ok (.iload_n 2, 1) := by decide +kernel
theorem dX4_prepare_18 : decode cX4_prepare 18 = .ok (.invokevirtual 63, 3) := by decide +kernel
theorem dX4_prepare_21 : decode cX4_prepare 21 = .ok (.istore 4, 2) := by decide +kernel
theorem dX4_prepare_23 : decode cX4_prepare 23 = .ok (.iload 4, 2) := by decide +kernel
theorem dX4_prepare_25 : decode cX4_prepare 25 = .ok (.iconst (-1), 1) := by decide +kernel
theorem dX4_prepare_26 : decode cX4_prepare 26 = .ok (.if_icmp .eq 14, 3) := by decide +kernel
theorem dX4_prepare_29 : decode cX4_prepare 29 = .ok (.iload_n 3, 1) := by decide +kernel
theorem dX4_prepare_30 : decode cX4_prepare 30 = .ok (.iconst (-1), 1) := by decide +kernel
theorem dX4_prepare_31 : decode cX4_prepare 31 = .ok (.if_icmp .eq 13, 3) := by decide +kernel
theorem dX4_prepare_34 : decode cX4_prepare 34 = .ok (.iload_n 3, 1) := by decide +kernel
theorem dX4_prepare_35 : decode cX4_prepare 35 = .ok (.iload 4, 2) := by decide +kernel
theorem dX4_prepare_37 : decode cX4_prepare 37 = .ok (.if_icmp .ge 7, 3) := by decide +kernel
theorem dX4_prepare_40 : decode cX4_prepare 40 = .ok (.iconst 1, 1) := by decide +kernel
theorem dX4_prepare_41 : decode cX4_prepare 41 = .ok (.goto 4, 3) := by decide +kernel
theorem dX4_prepare_44 : decode cX4_prepare 44 = .ok (.iconst 0, 1) := by decide +kernel
theorem dX4_prepare_45 : decode cX4_prepare 45 = .ok (.istore 5, 2) := by decide +kernel
theorem dX4_prepare_47 : decode cX4_prepare 47 = .ok (.aload_n 0, 1) := by decide +kernel
theorem dX4_prepare_48 : decode cX4_prepare 48 = .ok (.getfield 9, 3) := by decide +kernel
theorem dX4_prepare_51 : decode cX4_prepare 51 = .ok (.iload_n 2, 1) := by decide +kernel
theorem dX4_prepare_52 : decode cX4_prepare 52 = .ok (.iload_n 3, 1) := by decide +kernel
theorem dX4_prepare_53 : decode cX4_prepare 53 = .ok (.iastore, 1) := by decide +kernel
theorem dX4_prepare_54 : decode cX4_prepare 54 = .ok (.aload_n 0, 1) := by decide +kernel
theorem dX4_prepare_55 : decode cX4_prepare 55 = .ok (.getfield 15, 3) := by decide +kernel
theorem dX4_prepare_58 : decode cX4_prepare 58 = .ok (.iload_n 2, 1) := by decide +kernel
theorem dX4_prepare_59 : decode cX4_prepare 59 = .ok (.iload 5, 2) := by decide +kernel
theorem dX4_prepare_61 : decode cX4_prepare 61 = .ok (.ifCond .eq 7, 3) := by decide +kernel
theorem dX4_prepare_64 : decode cX4_prepare 64 = .ok (.iload_n 3, 1) := by decide +kernel
theorem dX4_prepare_65 : decode cX4_prepare 65 = .ok (.goto 5, 3) := by decide +kernel
theorem dX4_prepare_68 : decode cX4_prepare 68 = .ok (.iload 4, 2) := by decide +kernel
theorem dX4_prepare_70 : decode cX4_prepare 70 = .ok (.iastore, 1) := by decide +kernel
theorem dX4_prepare_71 : decode cX4_prepare 71 = .ok (.aload_n 0, 1) := by decide +kernel
theorem dX4_prepare_72 : decode cX4_prepare 72 = .ok (.getfield 18, 3) := by decide +kernel
theorem dX4_prepare_75 : decode cX4_prepare 75 = .ok (.iload_n 2, 1) := by decide +kernel
theorem dX4_prepare_76 : decode cX4_prepare 76 = .ok (.iload 5, 2) := by decide +kernel
theorem dX4_prepare_78 : decode cX4_prepare 78 = .ok (.ifCond .eq 8, 3) := by decide +kernel
theorem dX4_prepare_81 : decode cX4_prepare 81 = .ok (.iload 4, 2) := by decide +kernel
theorem dX4_prepare_83 : decode cX4_prepare 83 = .ok (.goto 4, 3) := by decide +kernel
theorem dX4_prepare_86 : decode cX4_prepare 86 = .ok (.iload_n 3, 1) := by decide +kernel
theorem dX4_prepare_87 : decode cX4_prepare 87 = .ok (.iastore, 1) := by decide +kernel
theorem dX4_prepare_88 : decode cX4_prepare 88 = .ok (.iinc 2 1, 3) := by decide +kernel
theorem dX4_prepare_91 : decode cX4_prepare 91 = .ok (.goto (-89), 3) := by decide +kernel
theorem dX4_prepare_94 : decode cX4_prepare 94 = .ok (.iconst 0, 1) := by decide +kernel
theorem dX4_prepare_95 : decode cX4_prepare 95 = .ok (.istore_n 2, 1) := by decide +kernel
theorem dX4_prepare_96 : decode cX4_prepare 96 = .ok (.iload_n 2, 1) := by decide +kernel
theorem dX4_prepare_97 : decode cX4_prepare 97 = .ok (.aload_n 1, 1) := by decide +kernel
theorem dX4_prepare_98 : decode cX4_prepare 98 = .ok (.getfield 66, 3) := by decide +kernel
theorem dX4_prepare_101 : decode cX4_prepare 101 = .ok (.if_icmp .ge 29, 3) := by decide +kernel
theorem dX4_prepare_104 : decode cX4_prepare 104 = .ok (.aload_n 0, 1) := by decide +kernel
theorem dX4_prepare_105 : decode cX4_prepare 105 = .ok (.getfield 21, 3) := by decide +kernel
theorem dX4_prepare_108 : decode cX4_prepare 108 = .ok (.iload_n 2, 1) := by decide +kernel
theorem dX4_prepare_109 : decode cX4_prepare 109 = .ok (.aload_n 1, 1) := by decide +kernel
theorem dX4_prepare_110 : decode cX4_prepare 110 = .ok (.iload_n 2, 1) := by decide +kernel
theorem dX4_prepare_111 : decode cX4_prepare 111 = .ok (.invokevirtual 68, 3) := by decide +kernel
theorem dX4_prepare_114 : decode cX4_prepare 114 = .ok (.aload_n 1, 1) := by decide +kernel
theorem dX4_prepare_115 : decode cX4_prepare 115 = .ok (.getfield 71, 3) := by decide +kernel
theorem dX4_prepare_118 : decode cX4_prepare 118 = .ok (.iload_n 2, 1) := by decide +kernel
theorem dX4_prepare_119 : decode cX4_prepare 119 = .ok (.iaload, 1) := by decide +kernel
theorem dX4_prepare_120 : decode cX4_prepare 120 = .ok (.invokestatic 74, 3) := by decide +kernel
theorem dX4_prepare_123 : decode cX4_prepare 123 = .ok (.iastore, 1) := by decide +kernel
theorem dX4_prepare_124 : decode cX4_prepare 124 = .ok (.iinc 2 1, 3) := by decide +kernel
theorem dX4_prepare_127 : decode cX4_prepare 127 = .ok (.goto (-31), 3) := by decide +kernel
theorem dX4_prepare_130 : decode cX4_prepare 130 = .ok (.return_, 1) := by decide +kernel
set_option maxRecDepth 20000 in
theorem ggX4_postIn_X4_takesHigher : GoodIn wsX4_postIn wsX4_takesHigher := goodIn_r _ [6, 7, 15, 16, 17, 18, 19] (by decide +kernel) (by decide +kernel)
set_option maxRecDepth 20000 in
theorem gX4_postIn_X4_takesHigher : GoodIn wsX4_postIn (va_wsS RX4 80 yX4_takesHigher wsX4_takesHigher) := goodIn_app (goodIn_of _ (by decide +kernel)) ggX4_postIn_X4_takesHigher
theorem dX4_postIn_0 : decode cX4_postIn 0 = .ok (.aload_n 1, 1) := by decide +kernel
theorem dX4_postIn_1 : decode cX4_postIn 1 = .ok (.iload_n 2, 1) := by decide +kernel
theorem dX4_postIn_2 : decode cX4_postIn 2 = .ok (.iload_n 3, 1) := by decide +kernel
theorem dX4_postIn_3 : decode cX4_postIn 3 = .ok (.invokestatic 80, 3) := by decide +kernel
theorem dX4_postIn_6 : decode cX4_postIn 6 = .ok (.ifCond .eq 12, 3) := by decide +kernel
theorem dX4_postIn_9 : decode cX4_postIn 9 = .ok (.aload_n 0, 1) := by decide +kernel
theorem dX4_postIn_10 : decode cX4_postIn 10 = .ok (.getfield 18, 3) := by decide +kernel
theorem dX4_postIn_13 : decode cX4_postIn 13 = .ok (.iload_n 3, 1) := by decide +kernel
theorem dX4_postIn_14 : decode cX4_postIn 14 = .ok (.iaload, 1) := by decide +kernel
theorem dX4_postIn_15 : decode cX4_postIn 15 = .ok (.goto 9, 3) := by decide +kernel
theorem dX4_postIn_18 : decode cX4_postIn 18 = .ok (.aload_n 0, 1) := by decide +kernel
theorem dX4_postIn_19 : decode cX4_postIn 19 = .ok (.getfield 15, 3) := by decide +kernel
theorem dX4_postIn_22 : decode cX4_postIn 22 = .ok (.iload_n 3, 1) := by decide +kernel
theorem dX4_postIn_23 : decode cX4_postIn 23 = .ok (.iaload, 1) := by decide +kernel
theorem dX4_postIn_24 : decode cX4_postIn 24 = .ok (.ireturn, 1) := by decide +kernel
theorem dX4_takesHigher_0 : decode cX4_takesHigher 0 = .ok (.iload_n 1, 1) := by decide +kernel
theorem dX4_takesHigher_1 : decode cX4_takesHigher 1 = .ok (.aload_n 0, 1) := by decide +kernel
theorem dX4_takesHigher_2 : decode cX4_takesHigher 2 = .ok (.getfield 37, 3) := by decide +kernel
theorem dX4_takesHigher_5 : decode cX4_takesHigher 5 = .ok (.iconst 1, 1) := by decide +kernel
theorem dX4_takesHigher_6 : decode cX4_takesHigher 6 = .ok (.isub, 1) := by decide +kernel
theorem dX4_takesHigher_7 : decode cX4_takesHigher 7 = .ok (.iload_n 2, 1) := by decide +kernel
theorem dX4_takesHigher_8 : decode cX4_takesHigher 8 = .ok (.isub, 1) := by decide +kernel
theorem dX4_takesHigher_9 : decode cX4_takesHigher 9 = .ok (.ishr, 1) := by decide +kernel
theorem dX4_takesHigher_10 : decode cX4_takesHigher 10 = .ok (.iconst 1, 1) := by decide +kernel
theorem dX4_takesHigher_11 : decode cX4_takesHigher 11 = .ok (.iand, 1) := by decide +kernel
theorem dX4_takesHigher_12 : decode cX4_takesHigher 12 = .ok (.iconst 1, 1) := by decide +kernel
theorem dX4_takesHigher_13 : decode cX4_takesHigher 13 = .ok (.if_icmp .ne 7, 3) := by decide +kernel
theorem dX4_takesHigher_16 : decode cX4_takesHigher 16 = .ok (.iconst 1, 1) := by decide +kernel
theorem dX4_takesHigher_17 : decode cX4_takesHigher 17 = .ok (.goto 4, 3) := by decide +kernel
theorem dX4_takesHigher_20 : decode cX4_takesHigher 20 = .ok (.iconst 0, 1) := by decide +kernel
theorem dX4_takesHigher_21 : decode cX4_takesHigher 21 = .ok (.ireturn, 1) := by decide +kernel
set_option maxRecDepth 20000 in
theorem ggX4_isPopular_X4_takesHigher : GoodIn wsX4_isPopular wsX4_takesHigher := goodIn_r _ [12, 4, 22, 23, 24, 25, 26] (by decide +kernel) (by decide +kernel)
set_option maxRecDepth 20000 in
theorem gX4_isPopular_X4_takesHigher : GoodIn wsX4_isPopular (va_wsS RX4 80 yX4_takesHigher wsX4_takesHigher) := goodIn_app (goodIn_of _ (by decide +kernel)) ggX4_isPopular_X4_takesHigher
set_option maxRecDepth 20000 in
theorem ggX4_isPopular_X4_postIn : GoodIn wsX4_isPopular wsX4_postIn := goodIn_r _ [16, 6, 5, 9, 10, 11, 12, 4, 27, 28, 29, 30, 31, 32, 33, 22, 23, 24, 25, 26] (by decide +kernel) (by decide +kernel)
set_option maxRecDepth 20000 in
theorem gX4_isPopular_X4_postIn : GoodIn wsX4_isPopular (wsV RX4 55 RX4 yX4_postIn wsX4_postIn) := goodIn_app (goodIn_of _ (by decide +kernel)) ggX4_isPopular_X4_postIn
set_option maxRecDepth 20000 in
theorem ggX4_isPopular_X4_count : GoodIn wsX4_isPopular wsX4_count := goodIn_r _ [20, 2, 21, 3, 27, 28, 29, 30, 31, 32, 33] (by decide +kernel) (by decide +kernel)
set_option maxRecDepth 20000 in
theorem gX4_isPopular_X4_count : GoodIn wsX4_isPopular (wsV RX4 84 RX4 yX4_count wsX4_count) := goodIn_app (goodIn_of _ (by decide +kernel)) ggX4_isPopular_X4_count
theorem dX4_isPopular_0 : decode cX4_isPopular 0 = .ok (.iconst 0, 1) := by decide +kernel
theorem dX4_isPopular_1 : decode cX4_isPopular 1 = .ok (.istore_n 3, 1) := by decide +kernel
theorem dX4_isPopular_2 : decode cX4_isPopular 2 = .ok (.iload_n 3, 1) := by decide +kernel
theorem dX4_isPopular_3 : decode cX4_isPopular 3 = .ok (.aload_n 1, 1) := by decide +kernel
theorem dX4_isPopular_4 : decode cX4_isPopular 4 = .ok (.getfield 66, 3) := by decide +kernel
theorem dX4_isPopular_7 : decode cX4_isPopular 7 = .ok (.if_icmp .ge 23, 3) := by decide +kernel
theorem dX4_isPopular_10 : decode cX4_isPopular 10 = .ok (.aload_n 0, 1) := by decide +kernel
theorem dX4_isPopular_11 : decode cX4_isPopular 11 = .ok (.getfield 24, 3) := by decide +kernel
theorem dX4_isPopular_14 : decode cX4_isPopular 14 = .ok (.iload_n 3, 1) := by decide +kernel
theorem dX4_isPopular_15 : decode cX4_isPopular 15 = .ok (.iconst 0, 1) := by decide +kernel
theorem dX4_isPopular_16 : decode cX4_isPopular 16 = .ok (.iastore, 1) := by decide +kernel
theorem dX4_isPopular_17 : decode cX4_isPopular 17 = .ok (.aload_n 0, 1) := by decide +kernel
theorem dX4_isPopular_18 : decode cX4_isPopular 18 = .ok (.getfield 27, 3) := by decide +kernel
theorem dX4_isPopular_21 : decode cX4_isPopular 21 = .ok (.iload_n 3, 1) := by decide +kernel
theorem dX4_isPopular_22 : decode cX4_isPopular 22 = .ok (.iconst 0, 1) := by decide +kernel
theorem dX4_isPopular_23 : decode cX4_isPopular 23 = .ok (.iastore, 1) := by decide +kernel
theorem dX4_isPopular_24 : decode cX4_isPopular 24 = .ok (.iinc 3 1, 3) := by decide +kernel
theorem dX4_isPopular_27 : decode cX4_isPopular 27 = .ok (.goto (-25), 3) := by decide +kernel
theorem dX4_isPopular_30 : decode cX4_isPopular 30 = .ok (.iconst 0, 1) := by decide +kernel
theorem dX4_isPopular_31 : decode cX4_isPopular 31 = .ok (.istore_n 3, 1) := by decide +kernel
theorem dX4_isPopular_32 : decode cX4_isPopular 32 = .ok (.iload_n 3, 1) := by decide +kernel
theorem dX4_isPopular_33 : decode cX4_isPopular 33 = .ok (.aload_n 1, 1) := by decide +kernel
theorem dX4_isPopular_34 : decode cX4_isPopular 34 = .ok (.getfield 37, 3) := by decide +kernel
theorem dX4_isPopular_37 : decode cX4_isPopular 37 = .ok (.if_icmp .ge 59, 3) := by decide +kernel
theorem dX4_isPopular_40 : decode cX4_isPopular 40 = .ok (.aload_n 0, 1) := by decide +kernel
theorem dX4_isPopular_41 : decode cX4_isPopular 41 = .ok (.getfield 15, 3) := by decide +kernel
theorem dX4_isPopular_44 : decode cX4_isPopular 44 = .ok (.iload_n 3, 1) := by decide +kernel
theorem dX4_isPopular_45 : decode cX4_isPopular 45 = .ok (.iaload, 1) := by decide +kernel
theorem dX4_isPopular_46 : decode cX4_isPopular 46 = .ok (.aload_n 0, 1) := by decide +kernel
theorem dX4_isPopular_47 : decode cX4_isPopular 47 = .ok (.getfield 18, 3) := by decide +kernel
theorem dX4_isPopular_50 : decode cX4_isPopular 50 = .ok (.iload_n 3, 1) := by decide +kernel
theorem dX4_isPopular_51 : decode cX4_isPopular 51 = .ok (.iaload, 1) := by decide +kernel
theorem dX4_isPopular_52 : decode cX4_isPopular 52 = .ok (.if_icmp .ne 7, 3) := by decide +kernel
theorem dX4_isPopular_55 : decode cX4_isPopular 55 = .ok (.iconst 1, 1) := by decide +kernel
theorem dX4_isPopular_56 : decode cX4_isPopular 56 = .ok (.goto 4, 3) := by decide +kernel
theorem dX4_isPopular_59 : decode cX4_isPopular 59 = .ok (.iconst 0, 1) := by decide +kernel
theorem dX4_isPopular_60 : decode cX4_isPopular 60 = .ok (.istore 4, 2) := by decide +kernel
theorem dX4_isPopular_62 : decode cX4_isPopular 62 = .ok (.iload 4, 2) := by decide +kernel
theorem dX4_isPopular_64 : decode cX4_isPopular 64 = .ok (.ifCond .eq 14, 3) := by decide +kernel
theorem dX4_isPopular_67 : decode cX4_isPopular 67 = .ok (.aload_n 1, 1) := by decide +kernel
theorem dX4_isPopular_68 : decode cX4_isPopular 68 = .ok (.iload_n 2, 1) := by decide +kernel
theorem dX4_isPopular_69 : decode cX4_isPopular 69 = .ok (.iload_n 3, 1) := by decide +kernel
theorem dX4_isPopular_70 : decode cX4_isPopular 70 = .ok (.invokestatic 80, 3) := by decide +kernel
theorem dX4_isPopular_73 : decode cX4_isPopular 73 = .ok (.ifCond .eq 5, 3) := by decide +kernel
theorem dX4_isPopular_76 : decode cX4_isPopular 76 = .ok (.iconst 0, 1) := by decide +kernel
theorem dX4_isPopular_77 : decode cX4_isPopular 77 = .ok (.ireturn, 1) := by decide +kernel
theorem dX4_isPopular_78 : decode cX4_isPopular 78 = .ok (.aload_n 0, 1) := by decide +kernel
theorem dX4_isPopular_79 : decode cX4_isPopular 79 = .ok (.aload_n 0, 1) := by decide +kernel
theorem dX4_isPopular_80 : decode cX4_isPopular 80 = .ok (.aload_n 1, 1) := by decide +kernel
theorem dX4_isPopular_81 : decode cX4_isPopular 81 = .ok (.iload_n 2, 1) := by decide +kernel
theorem dX4_isPopular_82 : decode cX4_isPopular 82 = .ok (.iload_n 3, 1) := by decide +kernel
theorem dX4_isPopular_83 : decode cX4_isPopular 83 = .ok (.invokevirtual 55, 3) := by decide +kernel
theorem dX4_isPopular_86 : decode cX4_isPopular 86 = .ok (.iload_n 3, 1) := by decide +kernel
theorem dX4_isPopular_87 : decode cX4_isPopular 87 = .ok (.invokevirtual 84, 3) := by decide +kernel
theorem dX4_isPopular_90 : decode cX4_isPopular 90 = .ok (.iinc 3 1, 3) := by decide +kernel
theorem dX4_isPopular_93 : decode cX4_isPopular 93 = .ok (.goto (-61), 3) := by decide +kernel
theorem dX4_isPopular_96 : decode cX4_isPopular 96 = .ok (.iconst 0, 1) := by decide +kernel
theorem dX4_isPopular_97 : decode cX4_isPopular 97 = .ok (.istore_n 3, 1) := by decide +kernel
theorem dX4_isPopular_98 : decode cX4_isPopular 98 = .ok (.iload_n 3, 1) := by decide +kernel
theorem dX4_isPopular_99 : decode cX4_isPopular 99 = .ok (.aload_n 1, 1) := by decide +kernel
theorem dX4_isPopular_100 : decode cX4_isPopular 100 = .ok (.getfield 66, 3) := by decide +kernel
theorem dX4_isPopular_103 : decode cX4_isPopular 103 = .ok (.if_icmp .ge 41, 3) := by decide +kernel
theorem dX4_isPopular_106 : decode cX4_isPopular 106 = .ok (.aload_n 0, 1) := by decide +kernel
theorem dX4_isPopular_107 : decode cX4_isPopular 107 = .ok (.getfield 24, 3) := by decide +kernel
theorem dX4_isPopular_110 : decode cX4_isPopular 110 = .ok (.iload_n 3, 1) := by decide +kernel
theorem dX4_isPopular_111 : decode cX4_isPopular 111 = .ok (.iaload, 1) := by decide +kernel
theorem dX4_isPopular_112 : decode cX4_isPopular 112 = .ok (.aload_n 1, 1) := by decide +kernel
theorem dX4_isPopular_113 : decode cX4_isPopular 113 = .ok (.getfield 71, 3) := by decide +kernel
theorem dX4_isPopular_116 : decode cX4_isPopular 116 = .ok (.iload_n 3, 1) := by decide +kernel
theorem dX4_isPopular_117 : decode cX4_isPopular 117 = .ok (.iaload, 1) := by decide +kernel
theorem dX4_isPopular_118 : decode cX4_isPopular 118 = .ok (.if_icmp .gt 18, 3) := by decide +kernel
theorem dX4_isPopular_121 : decode cX4_isPopular 121 = .ok (.aload_n 0, 1) := by decide +kernel
theorem dX4_isPopular_122 : decode cX4_isPopular 122 = .ok (.getfield 27, 3) := by decide +kernel
theorem dX4_isPopular_125 : decode cX4_isPopular 125 = .ok (.iload_n 3, 1) := by decide +kernel
theorem dX4_isPopular_126 : decode cX4_isPopular 126 = .ok (.iaload, 1) := by decide +kernel
theorem dX4_isPopular_127 : decode cX4_isPopular 127 = .ok (.aload_n 0, 1) := by decide +kernel
theorem dX4_isPopular_128 : decode cX4_isPopular 128 = .ok (.getfield 21, 3) := by decide +kernel
theorem dX4_isPopular_131 : decode cX4_isPopular 131 = .ok (.iload_n 3, 1) := by decide +kernel
theorem dX4_isPopular_132 : decode cX4_isPopular 132 = .ok (.iaload, 1) := by decide +kernel
theorem dX4_isPopular_133 : decode cX4_isPopular 133 = .ok (.if_icmp .eq 5, 3) := by decide +kernel
theorem dX4_isPopular_136 : decode cX4_isPopular 136 = .ok (.iconst 0, 1) := by decide +kernel
theorem dX4_isPopular_137 : decode cX4_isPopular 137 = .ok (.ireturn, 1) := by decide +kernel
theorem dX4_isPopular_138 : decode cX4_isPopular 138 = .ok (.iinc 3 1, 3) := by decide +kernel
theorem dX4_isPopular_141 : decode cX4_isPopular 141 = .ok (.goto (-43), 3) := by decide +kernel
theorem dX4_isPopular_144 : decode cX4_isPopular 144 = .ok (.iconst 1, 1) := by decide +kernel
theorem dX4_isPopular_145 : decode cX4_isPopular 145 = .ok (.ireturn, 1) := by decide +kernel
theorem dX4_count_0 : decode cX4_count 0 = .ok (.iload_n 1, 1) := by decide +kernel
theorem dX4_count_1 : decode cX4_count 1 = .ok (.iconst (-1), 1) := by decide +kernel
theorem dX4_count_2 : decode cX4_count 2 = .ok (.if_icmp .eq 33, 3) := by decide +kernel
theorem dX4_count_5 : decode cX4_count 5 = .ok (.aload_n 0, 1) := by decide +kernel
theorem dX4_count_6 : decode cX4_count 6 = .ok (.getfield 24, 3) := by decide +kernel
theorem dX4_count_9 : decode cX4_count 9 = .ok (.iload_n 1, 1) := by decide +kernel
theorem dX4_count_10 : decode cX4_count 10 = .ok (.dup2, 1) := by decide +kernel
theorem dX4_count_11 : decode cX4_count 11 = .ok (.iaload, 1) := by decide +kernel
theorem dX4_count_12 : decode cX4_count 12 = .ok (.iconst 1, 1) := by decide +kernel
theorem dX4_count_13 : decode cX4_count 13 = .ok (.iadd, 1) := by decide +kernel
theorem dX4_count_14 : decode cX4_count 14 = .ok (.iastore, 1) := by decide +kernel
theorem dX4_count_15 : decode cX4_count 15 = .ok (.iload_n 1, 1) := by decide +kernel
theorem dX4_count_16 : decode cX4_count 16 = .ok (.aload_n 0, 1) := by decide +kernel
theorem dX4_count_17 : decode cX4_count 17 = .ok (.getfield 9, 3) := by decide +kernel
theorem dX4_count_20 : decode cX4_count 20 = .ok (.iload_n 2, 1) := by decide +kernel
theorem dX4_count_21 : decode cX4_count 21 = .ok (.iaload, 1) := by decide +kernel
theorem dX4_count_22 : decode cX4_count 22 = .ok (.if_icmp .ne 13, 3) := by decide +kernel
theorem dX4_count_25 : decode cX4_count 25 = .ok (.aload_n 0, 1) := by decide +kernel
theorem dX4_count_26 : decode cX4_count 26 = .ok (.getfield 27, 3) := by decide +kernel
theorem dX4_count_29 : decode cX4_count 29 = .ok (.iload_n 1, 1) := by decide +kernel
theorem dX4_count_30 : decode cX4_count 30 = .ok (.dup2, 1) := by decide +kernel
theorem dX4_count_31 : decode cX4_count 31 = .ok (.iaload, 1) := by decide +kernel
theorem dX4_count_32 : decode cX4_count 32 = .ok (.iconst 1, 1) := by decide +kernel
theorem dX4_count_33 : decode cX4_count 33 = .ok (.iadd, 1) := by decide +kernel
theorem dX4_count_34 : decode cX4_count 34 = .ok (.iastore, 1) := by decide +kernel
theorem dX4_count_35 : decode cX4_count 35 = .ok (.return_, 1) := by decide +kernel
set_option maxRecDepth 20000 in
theorem ggX5_init_X2_init : GoodIn wsX5_init wsX2_init := goodIn_r _ [28, 29, 2, 3, 30, 31, 32, 33, 34, 35, 36, 6, 37, 38, 39, 74, 75, 76, 77, 78] (by decide +kernel) (by decide +kernel)
set_option maxRecDepth 20000 in
theorem gX5_init_X2_init : GoodIn wsX5_init (wsX2_init) := ggX5_init_X2_init
set_option maxRecDepth 20000 in
theorem ggX5_init_X3_init : GoodIn wsX5_init wsX3_init := goodIn_r _ [42, 43, 2, 3, 30, 44, 45, 46, 47, 10, 48, 86] (by decide +kernel) (by decide +kernel)
set_option maxRecDepth 20000 in
theorem gX5_init_X3_init : GoodIn wsX5_init (wsX3_init) := ggX5_init_X3_init
set_option maxRecDepth 20000 in
theorem ggX5_init_X1_init : GoodIn wsX5_init wsX1_init := goodIn_r _ [51, 52, 2, 3, 53, 54, 55, 56, 9, 10, 57, 41, 42, 43, 30, 44, 45, 46, 47, 48, 87, 88, 89, 86] (by decide +kernel) (by decide +kernel)
set_option maxRecDepth 20000 in
theorem gX5_init_X1_init : GoodIn wsX5_init (wsX1_init) := ggX5_init_X1_init
set_option maxRecDepth 20000 in
theorem ggX5_init_X0_init : GoodIn wsX5_init wsX0_init := goodIn_r _ [60, 61, 2, 3, 30, 62, 63, 90, 91] (by decide +kernel) (by decide +kernel)
set_option maxRecDepth 20000 in
theorem gX5_init_X0_init : GoodIn wsX5_init (wsX0_init) := ggX5_init_X0_init
set_option maxRecDepth 20000 in
theorem ggX5_init_X4_init : GoodIn wsX5_init wsX4_init := goodIn_r _ [65, 66, 2, 3, 30, 67, 68, 69, 70, 71, 72, 73, 92, 93, 94, 95, 96, 97, 98] (by decide +kernel) (by decide +kernel)
set_option maxRecDepth 20000 in
theorem gX5_init_X4_init_n45 : GoodIn wsX5_init (wsX4_init) := ggX5_init_X4_init
