theorem dX0_init_0 : decode cX0_init 0 = .ok (.aload_n 0, 1) := by decide +kernel
theorem dX0_init_1 : decode cX0_init 1 = .ok (.invokespecial 5, 3) := by decide +kernel
theorem dX0_init_4 : decode cX0_init 4 = .ok (.aload_n 0, 1) := by decide +kernel
theorem dX0_init_5 : decode cX0_init 5 = .ok (.sipush 1215, 3) := by decide +kernel
theorem dX0_init_8 : decode cX0_init 8 = .ok (.newarray .int, 2) := by decide +kernel
theorem dX0_init_10 : decode cX0_init 10 = .ok (.putfield 11, 3) := by decide +kernel
theorem dX0_init_13 : decode cX0_init 13 = .ok (.aload_n 0, 1) := by decide +kernel
theorem dX0_init_14 : decode cX0_init 14 = .ok (.sipush 243, 3) := by decide +kernel
theorem dX0_init_17 : decode cX0_init 17 = .ok (.newarray .int, 2) := by decide +kernel
theorem dX0_init_19 : decode cX0_init 19 = .ok (.putfield 15, 3) := by decide +kernel
theorem dX0_init_22 : decode cX0_init 22 = .ok (.iconst 0, 1) := by decide +kernel
theorem dX0_init_23 : decode cX0_init 23 = .ok (.istore_n 1, 1) := by decide +kernel
theorem dX0_init_24 : decode cX0_init 24 = .ok (.iload_n 1, 1) := by decide +kernel
theorem dX0_init_25 : decode cX0_init 25 = .ok (.sipush 243, 3) := by decide +kernel
theorem dX0_init_28 : decode cX0_init 28 = .ok (.if_icmp .ge 41, 3) := by decide +kernel
theorem dX0_init_31 : decode cX0_init 31 = .ok (.iload_n 1, 1) := by decide +kernel
theorem dX0_init_32 : decode cX0_init 32 = .ok (.istore_n 2, 1) := by decide +kernel
theorem dX0_init_33 : decode cX0_init 33 = .ok (.iconst 0, 1) := by decide +kernel
theorem dX0_init_34 : decode cX0_init 34 = .ok (.istore_n 3, 1) := by decide +kernel
theorem dX0_init_35 : decode cX0_init 35 = .ok (.iload_n 3, 1) := by decide +kernel
theorem dX0_init_36 : decode cX0_init 36 = .ok (.iconst 5, 1) := by decide +kernel
theorem dX0_init_37 : decode cX0_init 37 = .ok (.if_icmp .ge 26, 3) := by decide +kernel
theorem dX0_init_40 : decode cX0_init 40 = .ok (.aload_n 0, 1) := by decide +kernel
theorem dX0_init_41 : decode cX0_init 41 = .ok (.getfield 11, 3) := by decide +kernel
theorem dX0_init_44 : decode cX0_init 44 = .ok (.iload_n 1, 1) := by decide +kernel
theorem dX0_init_45 : decode cX0_init 45 = .ok (.iconst 5, 1) := by decide +kernel
theorem dX0_init_46 : decode cX0_init 46 = .ok (.imul, 1) := by decide +kernel
theorem dX0_init_47 : decode cX0_init 47 = .ok (.iload_n 3, 1) := by decide +kernel
theorem dX0_init_48 : decode cX0_init 48 = .ok (.iadd, 1) := by decide +kernel
theorem dX0_init_49 : decode cX0_init 49 = .ok (.iload_n 2, 1) := by decide +kernel
theorem dX0_init_50 : decode cX0_init 50 = .ok (.iconst 3, 1) := by decide +kernel
theorem dX0_init_51 : decode cX0_init 51 = .ok (.irem, 1) := by decide +kernel
theorem dX0_init_52 : decode cX0_init 52 = .ok (.iastore, 1) := by decide +kernel
theorem dX0_init_53 : decode cX0_init 53 = .ok (.iload_n 2, 1) := by decide +kernel
theorem dX0_init_54 : decode cX0_init 54 = .ok (.iconst 3, 1) := by decide +kernel
theorem dX0_init_55 : decode cX0_init 55 = .ok (.idiv, 1) := by decide +kernel
theorem dX0_init_56 : decode cX0_init 56 = .ok (.istore_n 2, 1) := by decide +kernel
theorem dX0_init_57 : decode cX0_init 57 = .ok (.iinc 3 1, 3) := by decide +kernel
theorem dX0_init_60 : decode cX0_init 60 = .ok (.goto (-25), 3) := by decide +kernel
theorem dX0_init_63 : decode cX0_init 63 = .ok (.iinc 1 1, 3) := by decide +kernel
theorem dX0_init_66 : decode cX0_init 66 = .ok (.goto (-42), 3) := by decide +kernel
theorem dX0_init_69 : decode cX0_init 69 = .ok (.return_, 1) := by decide +kernel
theorem dX0_marginIn_0 : decode cX0_marginIn 0 = .ok (.iload_n 0, 1) := by decide +kernel
theorem dX0_marginIn_1 : decode cX0_marginIn 1 = .ok (.bipush 18, 2) := by decide +kernel
theorem dX0_marginIn_3 : decode cX0_marginIn 3 = .ok (.ishr, 1) := by decide +kernel
theorem dX0_marginIn_4 : decode cX0_marginIn 4 = .ok (.ireturn, 1) := by decide +kernel
set_option maxRecDepth 20000 in
theorem ggX0_postIn_X0_placeShift : GoodIn wsX0_postIn wsX0_placeShift := goodIn_r _ [5] (by decide +kernel) (by decide +kernel)
set_option maxRecDepth 20000 in
theorem gX0_postIn_X0_placeShift : GoodIn wsX0_postIn (va_wsS RX0 19 yX0_placeShift wsX0_placeShift) := goodIn_app (goodIn_of _ (by decide +kernel)) ggX0_postIn_X0_placeShift
theorem dX0_postIn_0 : decode cX0_postIn 0 = .ok (.ldc 18, 2) := by decide +kernel
theorem dX0_postIn_2 : decode cX0_postIn 2 = .ok (.iload_n 0, 1) := by decide +kernel
theorem dX0_postIn_3 : decode cX0_postIn 3 = .ok (.ldc 18, 2) := by decide +kernel
theorem dX0_postIn_5 : decode cX0_postIn 5 = .ok (.iand, 1) := by decide +kernel
theorem dX0_postIn_6 : decode cX0_postIn 6 = .ok (.isub, 1) := by decide +kernel
theorem dX0_postIn_7 : decode cX0_postIn 7 = .ok (.istore_n 2, 1) := by decide +kernel
theorem dX0_postIn_8 : decode cX0_postIn 8 = .ok (.iload_n 2, 1) := by decide +kernel
theorem dX0_postIn_9 : decode cX0_postIn 9 = .ok (.iload_n 1, 1) := by decide +kernel
theorem dX0_postIn_10 : decode cX0_postIn 10 = .ok (.invokestatic 19, 3) := by decide +kernel
theorem dX0_postIn_13 : decode cX0_postIn 13 = .ok (.ishr, 1) := by decide +kernel
theorem dX0_postIn_14 : decode cX0_postIn 14 = .ok (.bipush 7, 2) := by decide +kernel
theorem dX0_postIn_16 : decode cX0_postIn 16 = .ok (.iand, 1) := by decide +kernel
theorem dX0_postIn_17 : decode cX0_postIn 17 = .ok (.istore_n 3, 1) := by decide +kernel
theorem dX0_postIn_18 : decode cX0_postIn 18 = .ok (.iload_n 3, 1) := by decide +kernel
theorem dX0_postIn_19 : decode cX0_postIn 19 = .ok (.iconst 5, 1) := by decide +kernel
theorem dX0_postIn_20 : decode cX0_postIn 20 = .ok (.if_icmp .ne 7, 3) := by decide +kernel
theorem dX0_postIn_23 : decode cX0_postIn 23 = .ok (.iconst (-1), 1) := by decide +kernel
theorem dX0_postIn_24 : decode cX0_postIn 24 = .ok (.goto 4, 3) := by decide +kernel
theorem dX0_postIn_27 : decode cX0_postIn 27 = .ok (.iload_n 3, 1) := by decide +kernel
theorem dX0_postIn_28 : decode cX0_postIn 28 = .ok (.ireturn, 1) := by decide +kernel
theorem dX0_placeShift_0 : decode cX0_placeShift 0 = .ok (.iconst 3, 1) := by decide +kernel
theorem dX0_placeShift_1 : decode cX0_placeShift 1 = .ok (.iconst 5, 1) := by decide +kernel
theorem dX0_placeShift_2 : decode cX0_placeShift 2 = .ok (.iload_n 0, 1) := by decide +kernel
theorem dX0_placeShift_3 : decode cX0_placeShift 3 = .ok (.isub, 1) := by decide +kernel
theorem dX0_placeShift_4 : decode cX0_placeShift 4 = .ok (.imul, 1) := by decide +kernel
theorem dX0_placeShift_5 : decode cX0_placeShift 5 = .ok (.ireturn, 1) := by decide +kernel
set_option maxRecDepth 20000 in
theorem ggX0_bestKey_X2_rankOf : GoodIn wsX0_bestKey wsX2_rankOf := goodIn_r _ [17, 18, 19, 20, 21, 16, 22, 23, 42, 43, 44, 45, 46] (by decide +kernel) (by decide +kernel)
set_option maxRecDepth 20000 in
theorem gX0_bestKey_X2_rankOf : GoodIn wsX0_bestKey (wsV RX0 40 RX2 yX2_rankOf wsX2_rankOf) := goodIn_app (goodIn_of _ (by decide +kernel)) ggX0_bestKey_X2_rankOf
set_option maxRecDepth 20000 in
theorem ggX0_bestKey_X0_letChoose : GoodIn wsX0_bestKey wsX0_letChoose := goodIn_r _ [28, 1, 2, 3, 4, 8, 29, 30, 31, 32, 16, 33, 34, 35, 27, 36, 37, 38, 39, 40, 41, 20, 21, 22, 23, 42, 43, 44, 45, 46, 47, 48] (by decide +kernel) (by decide +kernel)
set_option maxRecDepth 20000 in
theorem gX0_bestKey_X0_letChoose : GoodIn wsX0_bestKey (wsV RX0 47 RX0 yX0_letChoose wsX0_letChoose) := goodIn_app (goodIn_of _ (by decide +kernel)) ggX0_bestKey_X0_letChoose
theorem dX0_bestKey_0 : decode cX0_bestKey 0 = .ok (.getstatic 23, 3) := by decide +kernel
theorem dX0_bestKey_3 : decode cX0_bestKey 3 = .ok (.aload_n 1, 1) := by decide +kernel
theorem dX0_bestKey_4 : decode cX0_bestKey 4 = .ok (.getfield 26, 3) := by decide +kernel
theorem dX0_bestKey_7 : decode cX0_bestKey 7 = .ok (.iaload, 1) := by decide +kernel
theorem dX0_bestKey_8 : decode cX0_bestKey 8 = .ok (.istore 4, 2) := by decide +kernel
theorem dX0_bestKey_10 : decode cX0_bestKey 10 = .ok (.iconst 0, 1) := by decide +kernel
theorem dX0_bestKey_11 : decode cX0_bestKey 11 = .ok (.istore 5, 2) := by decide +kernel
theorem dX0_bestKey_13 : decode cX0_bestKey 13 = .ok (.iload 5, 2) := by decide +kernel
theorem dX0_bestKey_15 : decode cX0_bestKey 15 = .ok (.iload 4, 2) := by decide +kernel
theorem dX0_bestKey_17 : decode cX0_bestKey 17 = .ok (.if_icmp .ge 18, 3) := by decide +kernel
theorem dX0_bestKey_20 : decode cX0_bestKey 20 = .ok (.aload_n 0, 1) := by decide +kernel
theorem dX0_bestKey_21 : decode cX0_bestKey 21 = .ok (.getfield 15, 3) := by decide +kernel
theorem dX0_bestKey_24 : decode cX0_bestKey 24 = .ok (.iload 5, 2) := by decide +kernel
theorem dX0_bestKey_26 : decode cX0_bestKey 26 = .ok (.ldc 32, 2) := by decide +kernel
theorem dX0_bestKey_28 : decode cX0_bestKey 28 = .ok (.iastore, 1) := by decide +kernel
theorem dX0_bestKey_29 : decode cX0_bestKey 29 = .ok (.iinc 5 1, 3) := by decide +kernel
theorem dX0_bestKey_32 : decode cX0_bestKey 32 = .ok (.goto (-19), 3) := by decide +kernel
theorem dX0_bestKey_35 : decode cX0_bestKey 35 = .ok (.aload_n 0, 1) := by decide +kernel
theorem dX0_bestKey_36 : decode cX0_bestKey 36 = .ok (.getfield 15, 3) := by decide +kernel
theorem dX0_bestKey_39 : decode cX0_bestKey 39 = .ok (.iconst 0, 1) := by decide +kernel
theorem dX0_bestKey_40 : decode cX0_bestKey 40 = .ok (.ldc 18, 2) := by decide +kernel
theorem dX0_bestKey_42 : decode cX0_bestKey 42 = .ok (.iastore, 1) := by decide +kernel
theorem dX0_bestKey_43 : decode cX0_bestKey 43 = .ok (.iconst 0, 1) := by decide +kernel
theorem dX0_bestKey_44 : decode cX0_bestKey 44 = .ok (.istore 5, 2) := by decide +kernel
theorem dX0_bestKey_46 : decode cX0_bestKey 46 = .ok (.iload 5, 2) := by decide +kernel
theorem dX0_bestKey_48 : decode cX0_bestKey 48 = .ok (.aload_n 1, 1) := by decide +kernel
theorem dX0_bestKey_49 : decode cX0_bestKey 49 = .ok (.getfield 33, 3) := by decide +kernel
theorem dX0_bestKey_52 : decode cX0_bestKey 52 = .ok (.if_icmp .ge 53, 3) := by decide +kernel
theorem dX0_bestKey_55 : decode cX0_bestKey 55 = .ok (.aload_n 1, 1) := by decide +kernel
theorem dX0_bestKey_56 : decode cX0_bestKey 56 = .ok (.iload 5, 2) := by decide +kernel
theorem dX0_bestKey_58 : decode cX0_bestKey 58 = .ok (.aload_n 2, 1) := by decide +kernel
theorem dX0_bestKey_59 : decode cX0_bestKey 59 = .ok (.getfield 36, 3) := by decide +kernel
theorem dX0_bestKey_62 : decode cX0_bestKey 62 = .ok (.iload 5, 2) := by decide +kernel
theorem dX0_bestKey_64 : decode cX0_bestKey 64 = .ok (.iaload, 1) := by decide +kernel
theorem dX0_bestKey_65 : decode cX0_bestKey 65 = .ok (.invokevirtual 40, 3) := by decide +kernel
theorem dX0_bestKey_68 : decode cX0_bestKey 68 = .ok (.istore 6, 2) := by decide +kernel
theorem dX0_bestKey_70 : decode cX0_bestKey 70 = .ok (.iload_n 3, 1) := by decide +kernel
theorem dX0_bestKey_71 : decode cX0_bestKey 71 = .ok (.ifCond .eq 13, 3) := by decide +kernel
theorem dX0_bestKey_74 : decode cX0_bestKey 74 = .ok (.aload_n 1, 1) := by decide +kernel
theorem dX0_bestKey_75 : decode cX0_bestKey 75 = .ok (.getfield 44, 3) := by decide +kernel
theorem dX0_bestKey_78 : decode cX0_bestKey 78 = .ok (.iload 5, 2) := by decide +kernel
theorem dX0_bestKey_80 : decode cX0_bestKey 80 = .ok (.iaload, 1) := by decide +kernel
theorem dX0_bestKey_81 : decode cX0_bestKey 81 = .ok (.goto 5, 3) := by decide +kernel
theorem dX0_bestKey_84 : decode cX0_bestKey 84 = .ok (.iload 6, 2) := by decide +kernel
theorem dX0_bestKey_86 : decode cX0_bestKey 86 = .ok (.istore 7, 2) := by decide +kernel
theorem dX0_bestKey_88 : decode cX0_bestKey 88 = .ok (.aload_n 0, 1) := by decide +kernel
theorem dX0_bestKey_89 : decode cX0_bestKey 89 = .ok (.aload_n 1, 1) := by decide +kernel
theorem dX0_bestKey_90 : decode cX0_bestKey 90 = .ok (.iload 5, 2) := by decide +kernel
theorem dX0_bestKey_92 : decode cX0_bestKey 92 = .ok (.iload 6, 2) := by decide +kernel
theorem dX0_bestKey_94 : decode cX0_bestKey 94 = .ok (.iload 7, 2) := by decide +kernel
theorem dX0_bestKey_96 : decode cX0_bestKey 96 = .ok (.invokevirtual 47, 3) := by decide +kernel
theorem dX0_bestKey_99 : decode cX0_bestKey 99 = .ok (.iinc 5 1, 3) := by decide +kernel
theorem dX0_bestKey_102 : decode cX0_bestKey 102 = .ok (.goto (-56), 3) := by decide +kernel
theorem dX0_bestKey_105 : decode cX0_bestKey 105 = .ok (.ldc 32, 2) := by decide +kernel
theorem dX0_bestKey_107 : decode cX0_bestKey 107 = .ok (.istore 5, 2) := by decide +kernel
theorem dX0_bestKey_109 : decode cX0_bestKey 109 = .ok (.iconst 0, 1) := by decide +kernel
theorem dX0_bestKey_110 : decode cX0_bestKey 110 = .ok (.istore 6, 2) := by decide +kernel
theorem dX0_bestKey_112 : decode cX0_bestKey 112 = .ok (.iload 6, 2) := by decide +kernel
theorem dX0_bestKey_114 : decode cX0_bestKey 114 = .ok (.iload 4, 2) := by decide +kernel
theorem dX0_bestKey_116 : decode cX0_bestKey 116 = .ok (.if_icmp .ge 23, 3) := by decide +kernel
theorem dX0_bestKey_119 : decode cX0_bestKey 119 = .ok (.iload 5, 2) := by decide +kernel
theorem dX0_bestKey_121 : decode cX0_bestKey 121 = .ok (.aload_n 0, 1) := by decide +kernel
theorem dX0_bestKey_122 : decode cX0_bestKey 122 = .ok (.getfield 15, 3) := by decide +kernel
theorem dX0_bestKey_125 : decode cX0_bestKey 125 = .ok (.iload 6, 2) := by decide +kernel
theorem dX0_bestKey_127 : decode cX0_bestKey 127 = .ok (.iaload, 1) := by decide +kernel
theorem dX0_bestKey_128 : decode cX0_bestKey 128 = .ok (.invokestatic 51, 3) := by decide +kernel
theorem dX0_bestKey_131 : decode cX0_bestKey 131 = .ok (.istore 5, 2) := by decide +kernel
theorem dX0_bestKey_133 : decode cX0_bestKey 133 = .ok (.iinc 6 1, 3) := by decide +kernel
theorem dX0_bestKey_136 : decode cX0_bestKey 136 = .ok (.goto (-24), 3) := by decide +kernel
theorem dX0_bestKey_139 : decode cX0_bestKey 139 = .ok (.iload 5, 2) := by decide +kernel
theorem dX0_bestKey_141 : decode cX0_bestKey 141 = .ok (.ireturn, 1) := by decide +kernel
set_option maxRecDepth 20000 in
theorem ggX0_letChoose_X2_vote : GoodIn wsX0_letChoose wsX2_vote := goodIn_r _ [11] (by decide +kernel) (by decide +kernel)
set_option maxRecDepth 20000 in
theorem gX0_letChoose_X2_vote : GoodIn wsX0_letChoose (va_wsS RX0 56 yX2_vote wsX2_vote) := goodIn_app (goodIn_of _ (by decide +kernel)) ggX0_letChoose_X2_vote
set_option maxRecDepth 20000 in
theorem ggX0_letChoose_X0_placeShift : GoodIn wsX0_letChoose wsX0_placeShift := goodIn_r _ [15] (by decide +kernel) (by decide +kernel)
set_option maxRecDepth 20000 in
theorem gX0_letChoose_X0_placeShift : GoodIn wsX0_letChoose (va_wsS RX0 19 yX0_placeShift wsX0_placeShift) := goodIn_app (goodIn_of _ (by decide +kernel)) ggX0_letChoose_X0_placeShift
set_option maxRecDepth 20000 in
theorem ggX0_letChoose_X0_raise : GoodIn wsX0_letChoose wsX0_raise := goodIn_r _ [19, 3, 30, 31] (by decide +kernel) (by decide +kernel)
set_option maxRecDepth 20000 in
theorem gX0_letChoose_X0_raise : GoodIn wsX0_letChoose (wsV RX0 59 RX0 yX0_raise wsX0_raise) := goodIn_app (goodIn_of _ (by decide +kernel)) ggX0_letChoose_X0_raise
set_option maxRecDepth 20000 in
theorem ggX0_letChoose_X2_listed : GoodIn wsX0_letChoose wsX2_listed := goodIn_r _ [23, 24, 25, 26, 27, 28, 29] (by decide +kernel) (by decide +kernel)
set_option maxRecDepth 20000 in
theorem gX0_letChoose_X2_listed : GoodIn wsX0_letChoose (wsV RX0 63 RX2 yX2_listed wsX2_listed) := goodIn_app (goodIn_of _ (by decide +kernel)) ggX0_letChoose_X2_listed
theorem dX0_letChoose_0 : decode cX0_letChoose 0 = .ok (.getstatic 23, 3) := by decide +kernel
theorem dX0_letChoose_3 : decode cX0_letChoose 3 = .ok (.aload_n 1, 1) := by decide +kernel
theorem dX0_letChoose_4 : decode cX0_letChoose 4 = .ok (.getfield 26, 3) := by decide +kernel
theorem dX0_letChoose_7 : decode cX0_letChoose 7 = .ok (.iaload, 1) := by decide +kernel
theorem dX0_letChoose_8 : decode cX0_letChoose 8 = .ok (.iconst 1, 1) := by decide +kernel
theorem dX0_letChoose_9 : decode cX0_letChoose 9 = .ok (.isub, 1) := by decide +kernel
theorem dX0_letChoose_10 : decode cX0_letChoose 10 = .ok (.istore 5, 2) := by decide +kernel
theorem dX0_letChoose_12 : decode cX0_letChoose 12 = .ok (.iload 5, 2) := by decide +kernel
theorem dX0_letChoose_14 : decode cX0_letChoose 14 = .ok (.ifCond .lt 151, 3) := by decide +kernel
theorem dX0_letChoose_17 : decode cX0_letChoose 17 = .ok (.aload_n 0, 1) := by decide +kernel
theorem dX0_letChoose_18 : decode cX0_letChoose 18 = .ok (.getfield 15, 3) := by decide +kernel
theorem dX0_letChoose_21 : decode cX0_letChoose 21 = .ok (.iload 5, 2) := by decide +kernel
theorem dX0_letChoose_23 : decode cX0_letChoose 23 = .ok (.iaload, 1) := by decide +kernel
theorem dX0_letChoose_24 : decode cX0_letChoose 24 = .ok (.istore 6, 2) := by decide +kernel
theorem dX0_letChoose_26 : decode cX0_letChoose 26 = .ok (.aload_n 0, 1) := by decide +kernel
theorem dX0_letChoose_27 : decode cX0_letChoose 27 = .ok (.getfield 15, 3) := by decide +kernel
theorem dX0_letChoose_30 : decode cX0_letChoose 30 = .ok (.iload 5, 2) := by decide +kernel
theorem dX0_letChoose_32 : decode cX0_letChoose 32 = .ok (.ldc 32, 2) := by decide +kernel
theorem dX0_letChoose_34 : decode cX0_letChoose 34 = .ok (.iastore, 1) := by decide +kernel
theorem dX0_letChoose_35 : decode cX0_letChoose 35 = .ok (.iconst 0, 1) := by decide +kernel
theorem dX0_letChoose_36 : decode cX0_letChoose 36 = .ok (.istore 7, 2) := by decide +kernel
theorem dX0_letChoose_38 : decode cX0_letChoose 38 = .ok (.iload 7, 2) := by decide +kernel
theorem dX0_letChoose_40 : decode cX0_letChoose 40 = .ok (.iload 4, 2) := by decide +kernel
theorem dX0_letChoose_42 : decode cX0_letChoose 42 = .ok (.if_icmp .gt 117, 3) := by decide +kernel
theorem dX0_letChoose_45 : decode cX0_letChoose 45 = .ok (.iload 6, 2) := by decide +kernel
theorem dX0_letChoose_47 : decode cX0_letChoose 47 = .ok (.ldc 32, 2) := by decide +kernel
theorem dX0_letChoose_49 : decode cX0_letChoose 49 = .ok (.if_icmp .eq 110, 3) := by decide +kernel
theorem dX0_letChoose_52 : decode cX0_letChoose 52 = .ok (.iload 7, 2) := by decide +kernel
theorem dX0_letChoose_54 : decode cX0_letChoose 54 = .ok (.iload_n 3, 1) := by decide +kernel
theorem dX0_letChoose_55 : decode cX0_letChoose 55 = .ok (.invokestatic 56, 3) := by decide +kernel
theorem dX0_letChoose_58 : decode cX0_letChoose 58 = .ok (.istore 8, 2) := by decide +kernel
theorem dX0_letChoose_60 : decode cX0_letChoose 60 = .ok (.iload 6, 2) := by decide +kernel
theorem dX0_letChoose_62 : decode cX0_letChoose 62 = .ok (.iload 8, 2) := by decide +kernel
theorem dX0_letChoose_64 : decode cX0_letChoose 64 = .ok (.bipush 18, 2) := by decide +kernel
theorem dX0_letChoose_66 : decode cX0_letChoose 66 = .ok (.ishl, 1) := by decide +kernel
theorem dX0_letChoose_67 : decode cX0_letChoose 67 = .ok (.iadd, 1) := by decide +kernel
theorem dX0_letChoose_68 : decode cX0_letChoose 68 = .ok (.istore 9, 2) := by decide +kernel
theorem dX0_letChoose_70 : decode cX0_letChoose 70 = .ok (.iload 7, 2) := by decide +kernel
theorem dX0_letChoose_72 : decode cX0_letChoose 72 = .ok (.aload_n 1, 1) := by decide +kernel
theorem dX0_letChoose_73 : decode cX0_letChoose 73 = .ok (.getfield 44, 3) := by decide +kernel
theorem dX0_letChoose_76 : decode cX0_letChoose 76 = .ok (.iload_n 2, 1) := by decide +kernel
theorem dX0_letChoose_77 : decode cX0_letChoose 77 = .ok (.iaload, 1) := by decide +kernel
theorem dX0_letChoose_78 : decode cX0_letChoose 78 = .ok (.if_icmp .ne 21, 3) := by decide +kernel
theorem dX0_letChoose_81 : decode cX0_letChoose 81 = .ok (.aload_n 0, 1) := by decide +kernel
theorem dX0_letChoose_82 : decode cX0_letChoose 82 = .ok (.iload 5, 2) := by decide +kernel
theorem dX0_letChoose_84 : decode cX0_letChoose 84 = .ok (.iload 9, 2) := by decide +kernel
theorem dX0_letChoose_86 : decode cX0_letChoose 86 = .ok (.iconst 5, 1) := by decide +kernel
theorem dX0_letChoose_87 : decode cX0_letChoose 87 = .ok (.iload_n 2, 1) := by decide +kernel
theorem dX0_letChoose_88 : decode cX0_letChoose 88 = .ok (.invokestatic 19, 3) := by decide +kernel
theorem dX0_letChoose_91 : decode cX0_letChoose 91 = .ok (.ishl, 1) := by decide +kernel
theorem dX0_letChoose_92 : decode cX0_letChoose 92 = .ok (.isub, 1) := by decide +kernel
theorem dX0_letChoose_93 : decode cX0_letChoose 93 = .ok (.invokevirtual 59, 3) := by decide +kernel
theorem dX0_letChoose_96 : decode cX0_letChoose 96 = .ok (.goto 57, 3) := by decide +kernel
theorem dX0_letChoose_99 : decode cX0_letChoose 99 = .ok (.aload_n 1, 1) := by decide +kernel
theorem dX0_letChoose_100 : decode cX0_letChoose 100 = .ok (.iload_n 2, 1) := by decide +kernel
theorem dX0_letChoose_101 : decode cX0_letChoose 101 = .ok (.iload 7, 2) := by decide +kernel
theorem dX0_letChoose_103 : decode cX0_letChoose 103 = .ok (.invokevirtual 63, 3) := by decide +kernel
theorem dX0_letChoose_106 : decode cX0_letChoose 106 = .ok (.istore 10, 2) := by decide +kernel
theorem dX0_letChoose_108 : decode cX0_letChoose 108 = .ok (.aload_n 0, 1) := by decide +kernel
theorem dX0_letChoose_109 : decode cX0_letChoose 109 = .ok (.getfield 11, 3) := by decide +kernel
theorem dX0_letChoose_112 : decode cX0_letChoose 112 = .ok (.iload 5, 2) := by decide +kernel
theorem dX0_letChoose_114 : decode cX0_letChoose 114 = .ok (.iconst 5, 1) := by decide +kernel
theorem dX0_letChoose_115 : decode cX0_letChoose 115 = .ok (.imul, 1) := by decide +kernel
theorem dX0_letChoose_116 : decode cX0_letChoose 116 = .ok (.iload 10, 2) := by decide +kernel
theorem dX0_letChoose_118 : decode cX0_letChoose 118 = .ok (.iadd, 1) := by decide +kernel
theorem dX0_letChoose_119 : decode cX0_letChoose 119 = .ok (.iaload, 1) := by decide +kernel
theorem dX0_letChoose_120 : decode cX0_letChoose 120 = .ok (.aload_n 1, 1) := by decide +kernel
theorem dX0_letChoose_121 : decode cX0_letChoose 121 = .ok (.getfield 66, 3) := by decide +kernel
theorem dX0_letChoose_124 : decode cX0_letChoose 124 = .ok (.iload 10, 2) := by decide +kernel
theorem dX0_letChoose_126 : decode cX0_letChoose 126 = .ok (.iaload, 1) := by decide +kernel
theorem dX0_letChoose_127 : decode cX0_letChoose 127 = .ok (.if_icmp .ge 26, 3) := by decide +kernel
theorem dX0_letChoose_130 : decode cX0_letChoose 130 = .ok (.aload_n 0, 1) := by decide +kernel
theorem dX0_letChoose_131 : decode cX0_letChoose 131 = .ok (.iload 5, 2) := by decide +kernel
theorem dX0_letChoose_133 : decode cX0_letChoose 133 = .ok (.getstatic 23, 3) := by decide +kernel
theorem dX0_letChoose_136 : decode cX0_letChoose 136 = .ok (.iload 10, 2) := by decide +kernel
theorem dX0_letChoose_138 : decode cX0_letChoose 138 = .ok (.iaload, 1) := by decide +kernel
theorem dX0_letChoose_139 : decode cX0_letChoose 139 = .ok (.iadd, 1) := by decide +kernel
theorem dX0_letChoose_140 : decode cX0_letChoose 140 = .ok (.iload 9, 2) := by decide +kernel
theorem dX0_letChoose_142 : decode cX0_letChoose 142 = .ok (.iload 10, 2) := by decide +kernel
theorem dX0_letChoose_144 : decode cX0_letChoose 144 = .ok (.iload_n 2, 1) := by decide +kernel
theorem dX0_letChoose_145 : decode cX0_letChoose 145 = .ok (.invokestatic 19, 3) := by decide +kernel
theorem dX0_letChoose_148 : decode cX0_letChoose 148 = .ok (.ishl, 1) := by decide +kernel
theorem dX0_letChoose_149 : decode cX0_letChoose 149 = .ok (.isub, 1) := by decide +kernel
theorem dX0_letChoose_150 : decode cX0_letChoose 150 = .ok (.invokevirtual 59, 3) := by decide +kernel
theorem dX0_letChoose_153 : decode cX0_letChoose 153 = .ok (.iinc 7 1, 3) := by decide +kernel
theorem dX0_letChoose_156 : decode cX0_letChoose 156 = .ok (.goto (-118), 3) := by decide +kernel
theorem dX0_letChoose_159 : decode cX0_letChoose 159 = .ok (.iinc 5 (-1), 3) := by decide +kernel
theorem dX0_letChoose_162 : decode cX0_letChoose 162 = .ok (.goto (-150), 3) := by decide +kernel
theorem dX0_letChoose_165 : decode cX0_letChoose 165 = .ok (.return_, 1) := by decide +kernel
theorem dX0_raise_0 : decode cX0_raise 0 = .ok (.iload_n 2, 1) := by decide +kernel
theorem dX0_raise_1 : decode cX0_raise 1 = .ok (.aload_n 0, 1) := by decide +kernel
theorem dX0_raise_2 : decode cX0_raise 2 = .ok (.getfield 15, 3) := by decide +kernel
theorem dX0_raise_5 : decode cX0_raise 5 = .ok (.iload_n 1, 1) := by decide +kernel
theorem dX0_raise_6 : decode cX0_raise 6 = .ok (.iaload, 1) := by decide +kernel
theorem dX0_raise_7 : decode cX0_raise 7 = .ok (.if_icmp .le 10, 3) := by decide +kernel
theorem dX0_raise_10 : decode cX0_raise 10 = .ok (.aload_n 0, 1) := by decide +kernel
theorem dX0_raise_11 : decode cX0_raise 11 = .ok (.getfield 15, 3) := by decide +kernel
theorem dX0_raise_14 : decode cX0_raise 14 = .ok (.iload_n 1, 1) := by decide +kernel
theorem dX0_raise_15 : decode cX0_raise 15 = .ok (.iload_n 2, 1) := by decide +kernel
theorem dX0_raise_16 : decode cX0_raise 16 = .ok (.iastore, 1) := by decide +kernel
theorem dX0_raise_17 : decode cX0_raise 17 = .ok (.return_, 1) := by decide +kernel
set_option maxRecDepth 20000 in
theorem ggX1_init_X3_init : GoodIn wsX1_init wsX3_init := goodIn_r _ [12, 13, 2, 3, 14, 15, 16, 17, 18, 9, 19, 23] (by decide +kernel) (by decide +kernel)
set_option maxRecDepth 20000 in
theorem gX1_init_X3_init : GoodIn wsX1_init (wsX3_init) := ggX1_init_X3_init
theorem dX1_init_0 : decode cX1_init 0 = .ok (.aload_n 0, 1) := by decide +kernel
theorem dX1_init_1 : decode cX1_init 1 = .ok (.invokespecial 3, 3) := by decide +kernel
theorem dX1_init_4 : decode cX1_init 4 = .ok (.aload_n 0, 1) := by decide +kernel
theorem dX1_init_5 : decode cX1_init 5 = .ok (.iconst 0, 1) := by decide +kernel
theorem dX1_init_6 : decode cX1_init 6 = .ok (.putfield 9, 3) := by decide +kernel
theorem dX1_init_9 : decode cX1_init 9 = .ok (.aload_n 0, 1) := by decide +kernel
theorem dX1_init_10 : decode cX1_init 10 = .ok (.iconst 5, 1) := by decide +kernel
theorem dX1_init_11 : decode cX1_init 11 = .ok (.anewarray 15, 3) := by decide +kernel
theorem dX1_init_14 : decode cX1_init 14 = .ok (.putfield 17, 3) := by decide +kernel
theorem dX1_init_17 : decode cX1_init 17 = .ok (.aload_n 0, 1) := by decide +kernel
theorem dX1_init_18 : decode cX1_init 18 = .ok (.iconst 5, 1) := by decide +kernel
theorem dX1_init_19 : decode cX1_init 19 = .ok (.anewarray 15, 3) := by decide +kernel
theorem dX1_init_22 : decode cX1_init 22 = .ok (.putfield 21, 3) := by decide +kernel
theorem dX1_init_25 : decode cX1_init 25 = .ok (.iconst 0, 1) := by decide +kernel
theorem dX1_init_26 : decode cX1_init 26 = .ok (.istore_n 1, 1) := by decide +kernel
theorem dX1_init_27 : decode cX1_init 27 = .ok (.iload_n 1, 1) := by decide +kernel
theorem dX1_init_28 : decode cX1_init 28 = .ok (.iconst 5, 1) := by decide +kernel
theorem dX1_init_29 : decode cX1_init 29 = .ok (.if_icmp .ge 35, 3) := by decide +kernel
theorem dX1_init_32 : decode cX1_init 32 = .ok (.aload_n 0, 1) := by decide +kernel
theorem dX1_init_33 : decode cX1_init 33 = .ok (.getfield 17, 3) := by decide +kernel
theorem dX1_init_36 : decode cX1_init 36 = .ok (.iload_n 1, 1) := by decide +kernel
theorem dX1_init_37 : decode cX1_init 37 = .ok (.new 15, 3) := by decide +kernel
theorem dX1_init_40 : decode cX1_init 40 = .ok (.dup, 1) := by decide +kernel
theorem dX1_init_41 : decode cX1_init 41 = .ok (.invokespecial 24, 3) := by decide +kernel
theorem dX1_init_44 : decode cX1_init 44 = .ok (.aastore, 1) := by decide +kernel
theorem dX1_init_45 : decode cX1_init 45 = .ok (.aload_n 0, 1) := by decide +kernel
theorem dX1_init_46 : decode cX1_init 46 = .ok (.getfield 21, 3) := by decide +kernel
theorem dX1_init_49 : decode cX1_init 49 = .ok (.iload_n 1, 1) := by decide +kernel
theorem dX1_init_50 : decode cX1_init 50 = .ok (.new 15, 3) := by decide +kernel
theorem dX1_init_53 : decode cX1_init 53 = .ok (.dup, 1) := by decide +kernel
theorem dX1_init_54 : decode cX1_init 54 = .ok (.invokespecial 24, 3) := by decide +kernel
theorem dX1_init_57 : decode cX1_init 57 = .ok (.aastore, 1) := by decide +kernel
theorem dX1_init_58 : decode cX1_init 58 = .ok (.iinc 1 1, 3) := by decide +kernel
theorem dX1_init_61 : decode cX1_init 61 = .ok (.goto (-34), 3) := by decide +kernel
theorem dX1_init_64 : decode cX1_init 64 = .ok (.return_, 1) := by decide +kernel
theorem dX1_forget_0 : decode cX1_forget 0 = .ok (.aload_n 0, 1) := by decide +kernel
theorem dX1_forget_1 : decode cX1_forget 1 = .ok (.iconst 0, 1) := by decide +kernel
theorem dX1_forget_2 : decode cX1_forget 2 = .ok (.putfield 9, 3) := by decide +kernel
theorem dX1_forget_5 : decode cX1_forget 5 = .ok (.return_, 1) := by decide +kernel
set_option maxRecDepth 20000 in
theorem ggX1_remember_X1_dropOldest : GoodIn wsX1_remember wsX1_dropOldest := goodIn_r _ [8, 2, 3, 1, 9, 10, 11, 12, 13, 14, 15, 16, 17, 18] (by decide +kernel) (by decide +kernel)
set_option maxRecDepth 20000 in
theorem gX1_remember_X1_dropOldest : GoodIn wsX1_remember (wsV RX1 25 RX1 yX1_dropOldest wsX1_dropOldest) := goodIn_app (goodIn_of _ (by decide +kernel)) ggX1_remember_X1_dropOldest
set_option maxRecDepth 20000 in
theorem ggX1_remember_X3_copyFrom : GoodIn wsX1_remember wsX3_copyFrom := goodIn_r _ [13, 14, 18] (by decide +kernel) (by decide +kernel)
set_option maxRecDepth 20000 in
theorem gX1_remember_X3_copyFrom : GoodIn wsX1_remember (wsV RX1 28 RX3 yX3_copyFrom wsX3_copyFrom) := goodIn_app (goodIn_of _ (by decide +kernel)) ggX1_remember_X3_copyFrom
theorem dX1_remember_0 : decode cX1_remember 0 = .ok (.aload_n 0, 1) := by decide +kernel
theorem dX1_remember_1 : decode cX1_remember 1 = .ok (.getfield 9, 3) := by decide +kernel
theorem dX1_remember_4 : decode cX1_remember 4 = .ok (.iconst 5, 1) := by decide +kernel
theorem dX1_remember_5 : decode cX1_remember 5 = .ok (.if_icmp .ne 7, 3) := by decide +kernel
theorem dX1_remember_8 : decode cX1_remember 8 = .ok (.aload_n 0, 1) := by decide +kernel
theorem dX1_remember_9 : decode cX1_remember 9 = .ok (.invokevirtual 25, 3) := by decide +kernel
theorem dX1_remember_12 : decode cX1_remember 12 = .ok (.aload_n 0, 1) := by decide +kernel
theorem dX1_remember_13 : decode cX1_remember 13 = .ok (.getfield 17, 3) := by decide +kernel
theorem dX1_remember_16 : decode cX1_remember 16 = .ok (.aload_n 0, 1) := by decide +kernel
theorem dX1_remember_17 : decode cX1_remember 17 = .ok (.getfield 9, 3) := by decide +kernel
theorem dX1_remember_20 : decode cX1_remember 20 = .ok (.aaload, 1) := by decide +kernel
theorem dX1_remember_21 : decode cX1_remember 21 = .ok (.aload_n 1, 1) := by decide +kernel
theorem dX1_remember_22 : decode cX1_remember 22 = .ok (.invokevirtual 28, 3) := by decide +kernel
theorem dX1_remember_25 : decode cX1_remember 25 = .ok (.aload_n 0, 1) := by decide +kernel
theorem dX1_remember_26 : decode cX1_remember 26 = .ok (.getfield 21, 3) := by decide +kernel
theorem dX1_remember_29 : decode cX1_remember 29 = .ok (.aload_n 0, 1) := by decide +kernel
theorem dX1_remember_30 : decode cX1_remember 30 = .ok (.getfield 9, 3) := by decide +kernel
theorem dX1_remember_33 : decode cX1_remember 33 = .ok (.aaload, 1) := by decide +kernel
theorem dX1_remember_34 : decode cX1_remember 34 = .ok (.aload_n 2, 1) := by decide +kernel
theorem dX1_remember_35 : decode cX1_remember 35 = .ok (.invokevirtual 28, 3) := by decide +kernel
theorem dX1_remember_38 : decode cX1_remember 38 = .ok (.aload_n 0, 1) := by decide +kernel
theorem dX1_remember_39 : decode cX1_remember 39 = .ok (.dup, 1) := by decide +kernel
theorem dX1_remember_40 : decode cX1_remember 40 = .ok (.getfield 9, 3) := by decide +kernel
theorem dX1_remember_43 : decode cX1_remember 43 = .ok (.iconst 1, 1) := by decide +kernel
theorem dX1_remember_44 : decode cX1_remember 44 = .ok (.iadd, 1) := by decide +kernel
theorem dX1_remember_45 : decode cX1_remember 45 = .ok (.putfield 9, 3) := by decide +kernel
theorem dX1_remember_48 : decode cX1_remember 48 = .ok (.return_, 1) := by decide +kernel
set_option maxRecDepth 20000 in
theorem ggX1_restore_X3_copyFrom : GoodIn wsX1_restore wsX3_copyFrom := goodIn_r _ [8, 9, 13] (by decide +kernel) (by decide +kernel)
set_option maxRecDepth 20000 in
theorem gX1_restore_X3_copyFrom : GoodIn wsX1_restore (wsV RX1 28 RX3 yX3_copyFrom wsX3_copyFrom) := goodIn_app (goodIn_of _ (by decide +kernel)) ggX1_restore_X3_copyFrom
theorem dX1_restore_0 : decode cX1_restore 0 = .ok (.aload_n 0, 1) := by decide +kernel
theorem dX1_restore_1 : decode cX1_restore 1 = .ok (.getfield 9, 3) := by decide +kernel
theorem dX1_restore_4 : decode cX1_restore 4 = .ok (.ifCond .le 39, 3) := by decide +kernel
theorem dX1_restore_7 : decode cX1_restore 7 = .ok (.aload_n 0, 1) := by decide +kernel
theorem dX1_restore_8 : decode cX1_restore 8 = .ok (.dup, 1) := by decide +kernel
theorem dX1_restore_9 : decode cX1_restore 9 = .ok (.getfield 9, 3) := by decide +kernel
theorem dX1_restore_12 : decode cX1_restore 12 = .ok (.iconst 1, 1) := by decide +kernel
theorem dX1_restore_13 : decode cX1_restore 13 = .ok (.isub, 1) := by decide +kernel
theorem dX1_restore_14 : decode cX1_restore 14 = .ok (.putfield 9, 3) := by decide +kernel
theorem dX1_restore_17 : decode cX1_restore 17 = .ok (.aload_n 1, 1) := by decide +kernel
theorem dX1_restore_18 : decode cX1_restore 18 = .ok (.aload_n 0, 1) := by decide +kernel
theorem dX1_restore_19 : decode cX1_restore 19 = .ok (.getfield 17, 3) := by decide +kernel
theorem dX1_restore_22 : decode cX1_restore 22 = .ok (.aload_n 0, 1) := by decide +kernel
theorem dX1_restore_23 : decode cX1_restore 23 = .ok (.getfield 9, 3) := by decide +kernel
theorem dX1_restore_26 : decode cX1_restore 26 = .ok (.aaload, 1) := by decide +kernel
theorem dX1_restore_27 : decode cX1_restore 27 = .ok (.invokevirtual 28, 3) := by decide +kernel
theorem dX1_restore_30 : decode cX1_restore 30 = .ok (.aload_n 2, 1) := by decide +kernel
theorem dX1_restore_31 : decode cX1_restore 31 = .ok (.aload_n 0, 1) := by decide +kernel
theorem dX1_restore_32 : decode cX1_restore 32 = .ok (.getfield 21, 3) := by decide +kernel
theorem dX1_restore_35 : decode cX1_restore 35 = .ok (.aload_n 0, 1) := by decide +kernel
theorem dX1_restore_36 : decode cX1_restore 36 = .ok (.getfield 9, 3) := by decide +kernel
theorem dX1_restore_39 : decode cX1_restore 39 = .ok (.aaload, 1) := by decide +kernel
theorem dX1_restore_40 : decode cX1_restore 40 = .ok (.invokevirtual 28, 3) := by decide +kernel
theorem dX1_restore_43 : decode cX1_restore 43 = .ok (.return_, 1) := by decide +kernel
set_option maxRecDepth 20000 in
theorem ggX1_dropOldest_X3_copyFrom : GoodIn wsX1_dropOldest wsX3_copyFrom := goodIn_r _ [8, 9, 13] (by decide +kernel) (by decide +kernel)
set_option maxRecDepth 20000 in
theorem gX1_dropOldest_X3_copyFrom : GoodIn wsX1_dropOldest (wsV RX1 28 RX3 yX3_copyFrom wsX3_copyFrom) := goodIn_app (goodIn_of _ (by decide +kernel)) ggX1_dropOldest_X3_copyFrom
theorem dX1_dropOldest_0 : decode cX1_dropOldest 0 = .ok (.iconst 1, 1) := by decide +kernel
theorem dX1_dropOldest_1 : decode cX1_dropOldest 1 = .ok (.istore_n 1, 1) := by decide +kernel
theorem dX1_dropOldest_2 : decode cX1_dropOldest 2 = .ok (.iload_n 1, 1) := by decide +kernel
theorem dX1_dropOldest_3 : decode cX1_dropOldest 3 = .ok (.iconst 5, 1) := by decide +kernel
theorem dX1_dropOldest_4 : decode cX1_dropOldest 4 = .ok (.if_icmp .ge 43, 3) := by decide +kernel
theorem dX1_dropOldest_7 : decode cX1_dropOldest 7 = .ok (.aload_n 0, 1) := by decide +kernel
theorem dX1_dropOldest_8 : decode cX1_dropOldest 8 = .ok (.getfield 17, 3) := by decide +kernel
theorem dX1_dropOldest_11 : decode cX1_dropOldest 11 = .ok (.iload_n 1, 1) := by decide +kernel
theorem dX1_dropOldest_12 : decode cX1_dropOldest 12 = .ok (.iconst 1, 1) := by decide +kernel
theorem dX1_dropOldest_13 : decode cX1_dropOldest 13 = .ok (.isub, 1) := by decide +kernel
theorem dX1_dropOldest_14 : decode cX1_dropOldest 14 = .ok (.aaload, 1) := by decide +kernel
theorem dX1_dropOldest_15 : decode cX1_dropOldest 15 = .ok (.aload_n 0, 1) := by decide +kernel
theorem dX1_dropOldest_16 : decode cX1_dropOldest 16 = .ok (.getfield 17, 3) := by decide +kernel
theorem dX1_dropOldest_19 : decode cX1_dropOldest 19 = .ok (.iload_n 1, 1) := by decide +kernel
theorem dX1_dropOldest_20 : decode cX1_dropOldest 20 = .ok (.aaload, 1) := by decide +kernel
theorem dX1_dropOldest_21 : decode cX1_dropOldest 21 = .ok (.invokevirtual 28, 3) := by decide +kernel
theorem dX1_dropOldest_24 : decode cX1_dropOldest 24 = .ok (.aload_n 0, 1) := by decide +kernel
theorem dX1_dropOldest_25 : decode cX1_dropOldest 25 = .ok (.getfield 21, 3) := by decide +kernel
theorem dX1_dropOldest_28 : decode cX1_dropOldest 28 = .ok (.iload_n 1, 1) := by decide +kernel
theorem dX1_dropOldest_29 : decode cX1_dropOldest 29 = .ok (.iconst 1, 1) := by decide +kernel
theorem dX1_dropOldest_30 : decode cX1_dropOldest 30 = .ok (.isub, 1) := by decide +kernel
theorem dX1_dropOldest_31 : decode cX1_dropOldest 31 = .ok (.aaload, 1) := by decide +kernel
theorem dX1_dropOldest_32 : decode cX1_dropOldest 32 = .ok (.aload_n 0, 1) := by decide +kernel
theorem dX1_dropOldest_33 : decode cX1_dropOldest 33 = .ok (.getfield 21, 3) := by decide +kernel
theorem dX1_dropOldest_36 : decode cX1_dropOldest 36 = .ok (.iload_n 1, 1) := by decide +kernel
theorem dX1_dropOldest_37 : decode cX1_dropOldest 37 = .ok (.aaload, 1) := by decide +kernel
theorem dX1_dropOldest_38 : decode cX1_dropOldest 38 = .ok (.invokevirtual 28, 3) := by decide +kernel
theorem dX1_dropOldest_41 : decode cX1_dropOldest 41 = .ok (.iinc 1 1, 3) := by decide +kernel
theorem dX1_dropOldest_44 : decode cX1_dropOldest 44 = .ok (.goto (-42), 3) := by decide +kernel
theorem dX1_dropOldest_47 : decode cX1_dropOldest 47 = .ok (.aload_n 0, 1) := by decide +kernel
theorem dX1_dropOldest_48 : decode cX1_dropOldest 48 = .ok (.iconst 4, 1) := by decide +kernel
theorem dX1_dropOldest_49 : decode cX1_dropOldest 49 = .ok (.putfield 9, 3) := by decide +kernel
theorem dX1_dropOldest_52 : decode cX1_dropOldest 52 = .ok (.return_, 1) := by decide +kernel
set_option maxRecDepth 20000 in
theorem ggX2_init_X2_startAnew : GoodIn wsX2_init wsX2_startAnew := goodIn_r _ [12, 13, 14, 5, 6, 15, 16, 17, 18, 19] (by decide +kernel) (by decide +kernel)
set_option maxRecDepth 20000 in
theorem gX2_init_X2_startAnew : GoodIn wsX2_init (wsV RX2 21 RX2 yX2_startAnew wsX2_startAnew) := goodIn_app (goodIn_of _ (by decide +kernel)) ggX2_init_X2_startAnew
theorem dX2_init_0 : decode cX2_init 0 = .ok (.aload_n 0, 1) := by decide +kernel
theorem dX2_init_1 : decode cX2_init 1 = .ok (.invokespecial 3, 3) := by decide +kernel
theorem dX2_init_4 : decode cX2_init 4 = .ok (.aload_n 0, 1) := by decide +kernel
theorem dX2_init_5 : decode cX2_init 5 = .ok (.iconst 5, 1) := by decide +kernel
theorem dX2_init_6 : decode cX2_init 6 = .ok (.newarray .int, 2) := by decide +kernel
theorem dX2_init_8 : decode cX2_init 8 = .ok (.putfield 9, 3) := by decide +kernel
theorem dX2_init_11 : decode cX2_init 11 = .ok (.aload_n 0, 1) := by decide +kernel
theorem dX2_init_12 : decode cX2_init 12 = .ok (.bipush 6, 2) := by decide +kernel
theorem dX2_init_14 : decode cX2_init 14 = .ok (.newarray .int, 2) := by decide +kernel
theorem dX2_init_16 : decode cX2_init 16 = .ok (.putfield 15, 3) := by decide +kernel
theorem dX2_init_19 : decode cX2_init 19 = .ok (.aload_n 0, 1) := by decide +kernel
theorem dX2_init_20 : decode cX2_init 20 = .ok (.bipush 30, 2) := by decide +kernel
theorem dX2_init_22 : decode cX2_init 22 = .ok (.newarray .int, 2) := by decide +kernel
theorem dX2_init_24 : decode cX2_init 24 = .ok (.putfield 18, 3) := by decide +kernel
theorem dX2_init_27 : decode cX2_init 27 = .ok (.aload_n 0, 1) := by decide +kernel
theorem dX2_init_28 : decode cX2_init 28 = .ok (.iconst 4, 1) := by decide +kernel
theorem dX2_init_29 : decode cX2_init 29 = .ok (.iconst 3, 1) := by decide +kernel
theorem dX2_init_30 : decode cX2_init 30 = .ok (.invokevirtual 21, 3) := by decide +kernel
theorem dX2_init_33 : decode cX2_init 33 = .ok (.return_, 1) := by decide +kernel
theorem dX2_startAnew_0 : decode cX2_startAnew 0 = .ok (.aload_n 0, 1) := by decide +kernel
theorem dX2_startAnew_1 : decode cX2_startAnew 1 = .ok (.iload_n 1, 1) := by decide +kernel
theorem dX2_startAnew_2 : decode cX2_startAnew 2 = .ok (.putfield 25, 3) := by decide +kernel
theorem dX2_startAnew_5 : decode cX2_startAnew 5 = .ok (.aload_n 0, 1) := by decide +kernel
theorem dX2_startAnew_6 : decode cX2_startAnew 6 = .ok (.iload_n 2, 1) := by decide +kernel
theorem dX2_startAnew_7 : decode cX2_startAnew 7 = .ok (.putfield 29, 3) := by decide +kernel
theorem dX2_startAnew_10 : decode cX2_startAnew 10 = .ok (.iconst 0, 1) := by decide +kernel
theorem dX2_startAnew_11 : decode cX2_startAnew 11 = .ok (.istore_n 3, 1) := by decide +kernel
theorem dX2_startAnew_12 : decode cX2_startAnew 12 = .ok (.iload_n 3, 1) := by decide +kernel
theorem dX2_startAnew_13 : decode cX2_startAnew 13 = .ok (.iconst 5, 1) := by decide +kernel
theorem dX2_startAnew_14 : decode cX2_startAnew 14 = .ok (.if_icmp .ge 16, 3) := by decide +kernel
theorem dX2_startAnew_17 : decode cX2_startAnew 17 = .ok (.aload_n 0, 1) := by decide +kernel
theorem dX2_startAnew_18 : decode cX2_startAnew 18 = .ok (.getfield 9, 3) := by decide +kernel
theorem dX2_startAnew_21 : decode cX2_startAnew 21 = .ok (.iload_n 3, 1) := by decide +kernel
theorem dX2_startAnew_22 : decode cX2_startAnew 22 = .ok (.iconst 1, 1) := by decide +kernel
theorem dX2_startAnew_23 : decode cX2_startAnew 23 = .ok (.iastore, 1) := by decide +kernel
theorem dX2_startAnew_24 : decode cX2_startAnew 24 = .ok (.iinc 3 1, 3) := by decide +kernel
theorem dX2_startAnew_27 : decode cX2_startAnew 27 = .ok (.goto (-15), 3) := by decide +kernel
theorem dX2_startAnew_30 : decode cX2_startAnew 30 = .ok (.iconst 0, 1) := by decide +kernel
theorem dX2_startAnew_31 : decode cX2_startAnew 31 = .ok (.istore_n 3, 1) := by decide +kernel
theorem dX2_startAnew_32 : decode cX2_startAnew 32 = .ok (.iload_n 3, 1) := by decide +kernel
theorem dX2_startAnew_33 : decode cX2_startAnew 33 = .ok (.bipush 6, 2) := by decide +kernel
theorem dX2_startAnew_35 : decode cX2_startAnew 35 = .ok (.if_icmp .ge 16, 3) := by decide +kernel
theorem dX2_startAnew_38 : decode cX2_startAnew 38 = .ok (.aload_n 0, 1) := by decide +kernel
theorem dX2_startAnew_39 : decode cX2_startAnew 39 = .ok (.getfield 15, 3) := by decide +kernel
theorem dX2_startAnew_42 : decode cX2_startAnew 42 = .ok (.iload_n 3, 1) := by decide +kernel
theorem dX2_startAnew_43 : decode cX2_startAnew 43 = .ok (.iconst 0, 1) := by decide +kernel
theorem dX2_startAnew_44 : decode cX2_startAnew 44 = .ok (.iastore, 1) := by decide +kernel
theorem dX2_startAnew_45 : decode cX2_startAnew 45 = .ok (.iinc 3 1, 3) := by decide +kernel
theorem dX2_startAnew_48 : decode cX2_startAnew 48 = .ok (.goto (-16), 3) := by decide +kernel
theorem dX2_startAnew_51 : decode cX2_startAnew 51 = .ok (.return_, 1) := by decide +kernel
theorem dX2_isApplicant_0 : decode cX2_isApplicant 0 = .ok (.iload_n 1, 1) := by decide +kernel
theorem dX2_isApplicant_1 : decode cX2_isApplicant 1 = .ok (.ifCond .lt 15, 3) := by decide +kernel
theorem dX2_isApplicant_4 : decode cX2_isApplicant 4 = .ok (.iload_n 1, 1) := by decide +kernel
theorem dX2_isApplicant_5 : decode cX2_isApplicant 5 = .ok (.aload_n 0, 1) := by decide +kernel
theorem dX2_isApplicant_6 : decode cX2_isApplicant 6 = .ok (.getfield 25, 3) := by decide +kernel
theorem dX2_isApplicant_9 : decode cX2_isApplicant 9 = .ok (.if_icmp .ge 7, 3) := by decide +kernel
theorem dX2_isApplicant_12 : decode cX2_isApplicant 12 = .ok (.iconst 1, 1) := by decide +kernel
theorem dX2_isApplicant_13 : decode cX2_isApplicant 13 = .ok (.goto 4, 3) := by decide +kernel
theorem dX2_isApplicant_16 : decode cX2_isApplicant 16 = .ok (.iconst 0, 1) := by decide +kernel
theorem dX2_isApplicant_17 : decode cX2_isApplicant 17 = .ok (.ireturn, 1) := by decide +kernel
theorem dX2_isPost_0 : decode cX2_isPost 0 = .ok (.iload_n 1, 1) := by decide +kernel
theorem dX2_isPost_1 : decode cX2_isPost 1 = .ok (.ifCond .lt 15, 3) := by decide +kernel
theorem dX2_isPost_4 : decode cX2_isPost 4 = .ok (.iload_n 1, 1) := by decide +kernel
theorem dX2_isPost_5 : decode cX2_isPost 5 = .ok (.aload_n 0, 1) := by decide +kernel
theorem dX2_isPost_6 : decode cX2_isPost 6 = .ok (.getfield 29, 3) := by decide +kernel
theorem dX2_isPost_9 : decode cX2_isPost 9 = .ok (.if_icmp .ge 7, 3) := by decide +kernel
theorem dX2_isPost_12 : decode cX2_isPost 12 = .ok (.iconst 1, 1) := by decide +kernel
theorem dX2_isPost_13 : decode cX2_isPost 13 = .ok (.goto 4, 3) := by decide +kernel
theorem dX2_isPost_16 : decode cX2_isPost 16 = .ok (.iconst 0, 1) := by decide +kernel
theorem dX2_isPost_17 : decode cX2_isPost 17 = .ok (.ireturn, 1) := by decide +kernel
theorem dX2_listed_0 : decode cX2_listed 0 = .ok (.aload_n 0, 1) := by decide +kernel
theorem dX2_listed_1 : decode cX2_listed 1 = .ok (.getfield 18, 3) := by decide +kernel
theorem dX2_listed_4 : decode cX2_listed 4 = .ok (.iload_n 1, 1) := by decide +kernel
theorem dX2_listed_5 : decode cX2_listed 5 = .ok (.iconst 5, 1) := by decide +kernel
theorem dX2_listed_6 : decode cX2_listed 6 = .ok (.imul, 1) := by decide +kernel
theorem dX2_listed_7 : decode cX2_listed 7 = .ok (.iload_n 2, 1) := by decide +kernel
theorem dX2_listed_8 : decode cX2_listed 8 = .ok (.iadd, 1) := by decide +kernel
theorem dX2_listed_9 : decode cX2_listed 9 = .ok (.iaload, 1) := by decide +kernel
theorem dX2_listed_10 : decode cX2_listed 10 = .ok (.ireturn, 1) := by decide +kernel
set_option maxRecDepth 20000 in
theorem ggX2_isListed_X2_rankOf : GoodIn wsX2_isListed wsX2_rankOf := goodIn_r _ [6, 1, 7, 8, 9, 5, 10, 11, 12, 13, 14, 15, 16] (by decide +kernel) (by decide +kernel)
set_option maxRecDepth 20000 in
theorem gX2_isListed_X2_rankOf : GoodIn wsX2_isListed (wsV RX2 32 RX2 yX2_rankOf wsX2_rankOf) := goodIn_app (goodIn_of _ (by decide +kernel)) ggX2_isListed_X2_rankOf
theorem dX2_isListed_0 : decode cX2_isListed 0 = .ok (.aload_n 0, 1) := by decide +kernel
theorem dX2_isListed_1 : decode cX2_isListed 1 = .ok (.iload_n 1, 1) := by decide +kernel
theorem dX2_isListed_2 : decode cX2_isListed 2 = .ok (.iload_n 2, 1) := by decide +kernel
theorem dX2_isListed_3 : decode cX2_isListed 3 = .ok (.invokevirtual 32, 3) := by decide +kernel
theorem dX2_isListed_6 : decode cX2_isListed 6 = .ok (.aload_n 0, 1) := by decide +kernel
theorem dX2_isListed_7 : decode cX2_isListed 7 = .ok (.getfield 15, 3) := by decide +kernel
theorem dX2_isListed_10 : decode cX2_isListed 10 = .ok (.iload_n 1, 1) := by decide +kernel
theorem dX2_isListed_11 : decode cX2_isListed 11 = .ok (.iaload, 1) := by decide +kernel
theorem dX2_isListed_12 : decode cX2_isListed 12 = .ok (.if_icmp .ge 7, 3) := by decide +kernel
theorem dX2_isListed_15 : decode cX2_isListed 15 = .ok (.iconst 1, 1) := by decide +kernel
theorem dX2_isListed_16 : decode cX2_isListed 16 = .ok (.goto 4, 3) := by decide +kernel
theorem dX2_isListed_19 : decode cX2_isListed 19 = .ok (.iconst 0, 1) := by decide +kernel
theorem dX2_isListed_20 : decode cX2_isListed 20 = .ok (.ireturn, 1) := by decide +kernel
theorem dX2_append_0 : decode cX2_append 0 = .ok (.aload_n 0, 1) := by decide +kernel
theorem dX2_append_1 : decode cX2_append 1 = .ok (.getfield 18, 3) := by decide +kernel
theorem dX2_append_4 : decode cX2_append 4 = .ok (.iload_n 1, 1) := by decide +kernel
theorem dX2_append_5 : decode cX2_append 5 = .ok (.iconst 5, 1) := by decide +kernel
theorem dX2_append_6 : decode cX2_append 6 = .ok (.imul, 1) := by decide +kernel
theorem dX2_append_7 : decode cX2_append 7 = .ok (.aload_n 0, 1) := by decide +kernel
theorem dX2_append_8 : decode cX2_append 8 = .ok (.getfield 15, 3) := by decide +kernel
theorem dX2_append_11 : decode cX2_append 11 = .ok (.iload_n 1, 1) := by decide +kernel
theorem dX2_append_12 : decode cX2_append 12 = .ok (.iaload, 1) := by decide +kernel
theorem dX2_append_13 : decode cX2_append 13 = .ok (.iadd, 1) := by decide +kernel
theorem dX2_append_14 : decode cX2_append 14 = .ok (.iload_n 2, 1) := by decide +kernel
theorem dX2_append_15 : decode cX2_append 15 = .ok (.iastore, 1) := by decide +kernel
theorem dX2_append_16 : decode cX2_append 16 = .ok (.aload_n 0, 1) := by decide +kernel
theorem dX2_append_17 : decode cX2_append 17 = .ok (.getfield 15, 3) := by decide +kernel
theorem dX2_append_20 : decode cX2_append 20 = .ok (.iload_n 1, 1) := by decide +kernel
theorem dX2_append_21 : decode cX2_append 21 = .ok (.dup2, 1) := by decide +kernel
theorem dX2_append_22 : decode cX2_append 22 = .ok (.iaload, 1) := by decide +kernel
theorem dX2_append_23 : decode cX2_append 23 = .ok (.iconst 1, 1) := by decide +kernel
theorem dX2_append_24 : decode cX2_append 24 = .ok (.iadd, 1) := by decide +kernel
theorem dX2_append_25 : decode cX2_append 25 = .ok (.iastore, 1) := by decide +kernel
theorem dX2_append_26 : decode cX2_append 26 = .ok (.aload_n 0, 1) := by decide +kernel
theorem dX2_append_27 : decode cX2_append 27 = .ok (.getfield 15, 3) := by decide +kernel
theorem dX2_append_30 : decode cX2_append 30 = .ok (.iload_n 1, 1) := by decide +kernel
theorem dX2_append_31 : decode cX2_append 31 = .ok (.iaload, 1) := by decide +kernel
theorem dX2_append_32 : decode cX2_append 32 = .ok (.ireturn, 1) := by decide +kernel
set_option maxRecDepth 20000 in
theorem ggX2_rankOf_X2_listed : GoodIn wsX2_rankOf wsX2_listed := goodIn_r _ [6, 7, 8, 9, 10, 11, 12] (by decide +kernel) (by decide +kernel)
set_option maxRecDepth 20000 in
theorem gX2_rankOf_X2_listed : GoodIn wsX2_rankOf (wsV RX2 36 RX2 yX2_listed wsX2_listed) := goodIn_app (goodIn_of _ (by decide +kernel)) ggX2_rankOf_X2_listed
theorem dX2_rankOf_0 : decode cX2_rankOf 0 = .ok (.iconst 0, 1) := by decide +kernel
theorem dX2_rankOf_1 : decode cX2_rankOf 1 = .ok (.istore_n 3, 1) := by decide +kernel
theorem dX2_rankOf_2 : decode cX2_rankOf 2 = .ok (.iload_n 3, 1) := by decide +kernel
theorem dX2_rankOf_3 : decode cX2_rankOf 3 = .ok (.aload_n 0, 1) := by decide +kernel
theorem dX2_rankOf_4 : decode cX2_rankOf 4 = .ok (.getfield 15, 3) := by decide +kernel
theorem dX2_rankOf_7 : decode cX2_rankOf 7 = .ok (.iload_n 1, 1) := by decide +kernel
theorem dX2_rankOf_8 : decode cX2_rankOf 8 = .ok (.iaload, 1) := by decide +kernel
theorem dX2_rankOf_9 : decode cX2_rankOf 9 = .ok (.if_icmp .ge 21, 3) := by decide +kernel
theorem dX2_rankOf_12 : decode cX2_rankOf 12 = .ok (.aload_n 0, 1) := by decide +kernel
theorem dX2_rankOf_13 : decode cX2_rankOf 13 = .ok (.iload_n 1, 1) := by decide +kernel
theorem dX2_rankOf_14 : decode cX2_rankOf 14 = .ok (.iload_n 3, 1) := by decide +kernel
theorem dX2_rankOf_15 : decode cX2_rankOf 15 = .ok (.invokevirtual 36, 3) := by decide +kernel
theorem dX2_rankOf_18 : decode cX2_rankOf 18 = .ok (.iload_n 2, 1) := by decide +kernel
theorem dX2_rankOf_19 : decode cX2_rankOf 19 = .ok (.if_icmp .ne 5, 3) := by decide +kernel
theorem dX2_rankOf_22 : decode cX2_rankOf 22 = .ok (.iload_n 3, 1) := by decide +kernel
theorem dX2_rankOf_23 : decode cX2_rankOf 23 = .ok (.ireturn, 1) := by decide +kernel
theorem dX2_rankOf_24 : decode cX2_rankOf 24 = .ok (.iinc 3 1, 3) := by decide +kernel
theorem dX2_rankOf_27 : decode cX2_rankOf 27 = .ok (.goto (-25), 3) := by decide +kernel
theorem dX2_rankOf_30 : decode cX2_rankOf 30 = .ok (.aload_n 0, 1) := by decide +kernel
theorem dX2_rankOf_31 : decode cX2_rankOf 31 = .ok (.getfield 15, 3) := by decide +kernel
theorem dX2_rankOf_34 : decode cX2_rankOf 34 = .ok (.iload_n 1, 1) := by decide +kernel
theorem dX2_rankOf_35 : decode cX2_rankOf 35 = .ok (.iaload, 1) := by decide +kernel
theorem dX2_rankOf_36 : decode cX2_rankOf 36 = .ok (.ireturn, 1) := by decide +kernel
theorem dX2_vote_0 : decode cX2_vote 0 = .ok (.iload_n 0, 1) := by decide +kernel
theorem dX2_vote_1 : decode cX2_vote 1 = .ok (.iload_n 1, 1) := by decide +kernel
theorem dX2_vote_2 : decode cX2_vote 2 = .ok (.if_icmp .ne 5, 3) := by decide +kernel
theorem dX2_vote_5 : decode cX2_vote 5 = .ok (.iconst 0, 1) := by decide +kernel
theorem dX2_vote_6 : decode cX2_vote 6 = .ok (.ireturn, 1) := by decide +kernel
theorem dX2_vote_7 : decode cX2_vote 7 = .ok (.iload_n 0, 1) := by decide +kernel
theorem dX2_vote_8 : decode cX2_vote 8 = .ok (.iload_n 1, 1) := by decide +kernel
theorem dX2_vote_9 : decode cX2_vote 9 = .ok (.if_icmp .ge 7, 3) := by decide +kernel
theorem dX2_vote_12 : decode cX2_vote 12 = .ok (.iconst 1, 1) := by decide +kernel
theorem dX2_vote_13 : decode cX2_vote 13 = .ok (.goto 4, 3) := by decide +kernel
theorem dX2_vote_16 : decode cX2_vote 16 = .ok (.iconst (-1), 1) := by decide +kernel
theorem dX2_vote_17 : decode cX2_vote 17 = .ok (.ireturn, 1) := by decide +kernel
set_option maxRecDepth 20000 in
theorem ggX2_firstOf_X2_listed : GoodIn wsX2_firstOf wsX2_listed := goodIn_r _ [6, 7, 8, 9, 10, 11, 12] (by decide +kernel) (by decide +kernel)
set_option maxRecDepth 20000 in
theorem gX2_firstOf_X2_listed : GoodIn wsX2_firstOf (wsV RX2 36 RX2 yX2_listed wsX2_listed) := goodIn_app (goodIn_of _ (by decide +kernel)) ggX2_firstOf_X2_listed
theorem dX2_firstOf_0 : decode cX2_firstOf 0 = .ok (.aload_n 0, 1) := by decide +kernel
theorem dX2_firstOf_1 : decode cX2_firstOf 1 = .ok (.getfield 15, 3) := by decide +kernel
theorem dX2_firstOf_4 : decode cX2_firstOf 4 = .ok (.iload_n 1, 1) := by decide +kernel
theorem dX2_firstOf_5 : decode cX2_firstOf 5 = .ok (.iaload, 1) := by decide +kernel
theorem dX2_firstOf_6 : decode cX2_firstOf 6 = .ok (.ifCond .ne 7, 3) := by decide +kernel
theorem dX2_firstOf_9 : decode cX2_firstOf 9 = .ok (.iconst (-1), 1) := by decide +kernel
theorem dX2_firstOf_10 : decode cX2_firstOf 10 = .ok (.goto 9, 3) := by decide +kernel
theorem dX2_firstOf_13 : decode cX2_firstOf 13 = .ok (.aload_n 0, 1) := by decide +kernel
theorem dX2_firstOf_14 : decode cX2_firstOf 14 = .ok (.iload_n 1, 1) := by decide +kernel
theorem dX2_firstOf_15 : decode cX2_firstOf 15 = .ok (.iconst 0, 1) := by decide +kernel
theorem dX2_firstOf_16 : decode cX2_firstOf 16 = .ok (.invokevirtual 36, 3) := by decide +kernel
theorem dX2_firstOf_19 : decode cX2_firstOf 19 = .ok (.ireturn, 1) := by decide +kernel
set_option maxRecDepth 20000 in
theorem ggX2_secondOf_X2_listed : GoodIn wsX2_secondOf wsX2_listed := goodIn_r _ [7, 8, 18, 19, 20, 21, 22] (by decide +kernel) (by decide +kernel)
set_option maxRecDepth 20000 in
theorem gX2_secondOf_X2_listed : GoodIn wsX2_secondOf (wsV RX2 36 RX2 yX2_listed wsX2_listed) := goodIn_app (goodIn_of _ (by decide +kernel)) ggX2_secondOf_X2_listed
set_option maxRecDepth 20000 in
theorem ggX2_secondOf_X2_countFirst : GoodIn wsX2_secondOf wsX2_countFirst := goodIn_r _ [12, 13, 14, 15, 16, 6, 17, 1, 3, 4, 5, 7, 8, 18, 19, 20, 21, 22] (by decide +kernel) (by decide +kernel)
set_option maxRecDepth 20000 in
theorem gX2_secondOf_X2_countFirst : GoodIn wsX2_secondOf (wsV RX2 39 RX2 yX2_countFirst wsX2_countFirst) := goodIn_app (goodIn_of _ (by decide +kernel)) ggX2_secondOf_X2_countFirst
theorem dX2_secondOf_0 : decode cX2_secondOf 0 = .ok (.iconst 1, 1) := by decide +kernel
theorem dX2_secondOf_1 : decode cX2_secondOf 1 = .ok (.istore_n 2, 1) := by decide +kernel
theorem dX2_secondOf_2 : decode cX2_secondOf 2 = .ok (.iload_n 2, 1) := by decide +kernel
theorem dX2_secondOf_3 : decode cX2_secondOf 3 = .ok (.aload_n 0, 1) := by decide +kernel
theorem dX2_secondOf_4 : decode cX2_secondOf 4 = .ok (.getfield 15, 3) := by decide +kernel
theorem dX2_secondOf_7 : decode cX2_secondOf 7 = .ok (.iload_n 1, 1) := by decide +kernel
theorem dX2_secondOf_8 : decode cX2_secondOf 8 = .ok (.iaload, 1) := by decide +kernel
theorem dX2_secondOf_9 : decode cX2_secondOf 9 = .ok (.if_icmp .ge 32, 3) := by decide +kernel
theorem dX2_secondOf_12 : decode cX2_secondOf 12 = .ok (.aload_n 0, 1) := by decide +kernel
theorem dX2_secondOf_13 : decode cX2_secondOf 13 = .ok (.iload_n 1, 1) := by decide +kernel
theorem dX2_secondOf_14 : decode cX2_secondOf 14 = .ok (.iload_n 2, 1) := by decide +kernel
theorem dX2_secondOf_15 : decode cX2_secondOf 15 = .ok (.invokevirtual 36, 3) := by decide +kernel
theorem dX2_secondOf_18 : decode cX2_secondOf 18 = .ok (.istore_n 3, 1) := by decide +kernel
theorem dX2_secondOf_19 : decode cX2_secondOf 19 = .ok (.aload_n 0, 1) := by decide +kernel
theorem dX2_secondOf_20 : decode cX2_secondOf 20 = .ok (.iload_n 3, 1) := by decide +kernel
theorem dX2_secondOf_21 : decode cX2_secondOf 21 = .ok (.invokevirtual 39, 3) := by decide +kernel
theorem dX2_secondOf_24 : decode cX2_secondOf 24 = .ok (.aload_n 0, 1) := by decide +kernel
theorem dX2_secondOf_25 : decode cX2_secondOf 25 = .ok (.getfield 9, 3) := by decide +kernel
theorem dX2_secondOf_28 : decode cX2_secondOf 28 = .ok (.iload_n 3, 1) := by decide +kernel
theorem dX2_secondOf_29 : decode cX2_secondOf 29 = .ok (.iaload, 1) := by decide +kernel
theorem dX2_secondOf_30 : decode cX2_secondOf 30 = .ok (.if_icmp .ge 5, 3) := by decide +kernel
theorem dX2_secondOf_33 : decode cX2_secondOf 33 = .ok (.iload_n 3, 1) := by decide +kernel
theorem dX2_secondOf_34 : decode cX2_secondOf 34 = .ok (.ireturn, 1) := by decide +kernel
theorem dX2_secondOf_35 : decode cX2_secondOf 35 = .ok (.iinc 2 1, 3) := by decide +kernel
theorem dX2_secondOf_38 : decode cX2_secondOf 38 = .ok (.goto (-36), 3) := by decide +kernel
theorem dX2_secondOf_41 : decode cX2_secondOf 41 = .ok (.iconst (-1), 1) := by decide +kernel
theorem dX2_secondOf_42 : decode cX2_secondOf 42 = .ok (.ireturn, 1) := by decide +kernel
set_option maxRecDepth 20000 in
theorem ggX2_countFirst_X2_firstOf : GoodIn wsX2_countFirst wsX2_firstOf := goodIn_r _ [6, 7, 8, 9, 10, 5, 11, 12, 13, 14, 15, 16, 17] (by decide +kernel) (by decide +kernel)
set_option maxRecDepth 20000 in
theorem gX2_countFirst_X2_firstOf : GoodIn wsX2_countFirst (wsV RX2 43 RX2 yX2_firstOf wsX2_firstOf) := goodIn_app (goodIn_of _ (by decide +kernel)) ggX2_countFirst_X2_firstOf
theorem dX2_countFirst_0 : decode cX2_countFirst 0 = .ok (.iconst 0, 1) := by decide +kernel
theorem dX2_countFirst_1 : decode cX2_countFirst 1 = .ok (.istore_n 2, 1) := by decide +kernel
theorem dX2_countFirst_2 : decode cX2_countFirst 2 = .ok (.iconst 0, 1) := by decide +kernel
theorem dX2_countFirst_3 : decode cX2_countFirst 3 = .ok (.istore_n 3, 1) := by decide +kernel
theorem dX2_countFirst_4 : decode cX2_countFirst 4 = .ok (.iload_n 3, 1) := by decide +kernel
theorem dX2_countFirst_5 : decode cX2_countFirst 5 = .ok (.aload_n 0, 1) := by decide +kernel
theorem dX2_countFirst_6 : decode cX2_countFirst 6 = .ok (.getfield 25, 3) := by decide +kernel
theorem dX2_countFirst_9 : decode cX2_countFirst 9 = .ok (.if_icmp .ge 21, 3) := by decide +kernel
theorem dX2_countFirst_12 : decode cX2_countFirst 12 = .ok (.aload_n 0, 1) := by decide +kernel
theorem dX2_countFirst_13 : decode cX2_countFirst 13 = .ok (.iload_n 3, 1) := by decide +kernel
theorem dX2_countFirst_14 : decode cX2_countFirst 14 = .ok (.invokevirtual 43, 3) := by decide +kernel
theorem dX2_countFirst_17 : decode cX2_countFirst 17 = .ok (.iload_n 1, 1) := by decide +kernel
theorem dX2_countFirst_18 : decode cX2_countFirst 18 = .ok (.if_icmp .ne 6, 3) := by decide +kernel
theorem dX2_countFirst_21 : decode cX2_countFirst 21 = .ok (.iinc 2 1, 3) := by decide +kernel
theorem dX2_countFirst_24 : decode cX2_countFirst 24 = .ok (.iinc 3 1, 3) := by decide +kernel
theorem dX2_countFirst_27 : decode cX2_countFirst 27 = .ok (.goto (-23), 3) := by decide +kernel
theorem dX2_countFirst_30 : decode cX2_countFirst 30 = .ok (.iload_n 2, 1) := by decide +kernel
theorem dX2_countFirst_31 : decode cX2_countFirst 31 = .ok (.ireturn, 1) := by decide +kernel
set_option maxRecDepth 20000 in
theorem ggX3_init_X3_clear : GoodIn wsX3_init wsX3_clear := goodIn_r _ [10, 5, 11] (by decide +kernel) (by decide +kernel)
set_option maxRecDepth 20000 in
theorem gX3_init_X3_clear : GoodIn wsX3_init (wsV RX3 15 RX3 yX3_clear wsX3_clear) := goodIn_app (goodIn_of _ (by decide +kernel)) ggX3_init_X3_clear
theorem dX3_init_0 : decode cX3_init 0 = .ok (.aload_n 0, 1) := by decide +kernel
theorem dX3_init_1 : decode cX3_init 1 = .ok (.invokespecial 3, 3) := by decide +kernel
theorem dX3_init_4 : decode cX3_init 4 = .ok (.aload_n 0, 1) := by decide +kernel
theorem dX3_init_5 : decode cX3_init 5 = .ok (.bipush 6, 2) := by decide +kernel
theorem dX3_init_7 : decode cX3_init 7 = .ok (.newarray .int, 2) := by decide +kernel
theorem dX3_init_9 : decode cX3_init 9 = .ok (.putfield 9, 3) := by decide +kernel
theorem dX3_init_12 : decode cX3_init 12 = .ok (.aload_n 0, 1) := by decide +kernel
theorem dX3_init_13 : decode cX3_init 13 = .ok (.invokevirtual 15, 3) := by decide +kernel
theorem dX3_init_16 : decode cX3_init 16 = .ok (.return_, 1) := by decide +kernel
theorem dX3_clear_0 : decode cX3_clear 0 = .ok (.iconst 0, 1) := by decide +kernel
theorem dX3_clear_1 : decode cX3_clear 1 = .ok (.istore_n 1, 1) := by decide +kernel
theorem dX3_clear_2 : decode cX3_clear 2 = .ok (.iload_n 1, 1) := by decide +kernel
theorem dX3_clear_3 : decode cX3_clear 3 = .ok (.bipush 6, 2) := by decide +kernel
theorem dX3_clear_5 : decode cX3_clear 5 = .ok (.if_icmp .ge 16, 3) := by decide +kernel
theorem dX3_clear_8 : decode cX3_clear 8 = .ok (.aload_n 0, 1) := by decide +kernel
theorem dX3_clear_9 : decode cX3_clear 9 = .ok (.getfield 9, 3) := by decide +kernel
theorem dX3_clear_12 : decode cX3_clear 12 = .ok (.iload_n 1, 1) := by decide +kernel
theorem dX3_clear_13 : decode cX3_clear 13 = .ok (.iconst (-1), 1) := by decide +kernel
theorem dX3_clear_14 : decode cX3_clear 14 = .ok (.iastore, 1) := by decide +kernel
theorem dX3_clear_15 : decode cX3_clear 15 = .ok (.iinc 1 1, 3) := by decide +kernel
theorem dX3_clear_18 : decode cX3_clear 18 = .ok (.goto (-16), 3) := by decide +kernel
theorem dX3_clear_21 : decode cX3_clear 21 = .ok (.return_, 1) := by decide +kernel
theorem dX3_copyFrom_0 : decode cX3_copyFrom 0 = .ok (.iconst 0, 1) := by decide +kernel
theorem dX3_copyFrom_1 : decode cX3_copyFrom 1 = .ok (.istore_n 2, 1) := by decide +kernel
theorem dX3_copyFrom_2 : decode cX3_copyFrom 2 = .ok (.iload_n 2, 1) := by decide +kernel
theorem dX3_copyFrom_3 : decode cX3_copyFrom 3 = .ok (.bipush 6, 2) := by decide +kernel
theorem dX3_copyFrom_5 : decode cX3_copyFrom 5 = .ok (.if_icmp .ge 21, 3) := by decide +kernel
theorem dX3_copyFrom_8 : decode cX3_copyFrom 8 = .ok (.aload_n 0, 1) := by decide +kernel
theorem dX3_copyFrom_9 : decode cX3_copyFrom 9 = .ok (.getfield 9, 3) := by decide +kernel
theorem dX3_copyFrom_12 : decode cX3_copyFrom 12 = .ok (.iload_n 2, 1) := by decide +kernel
theorem dX3_copyFrom_13 : decode cX3_copyFrom 13 = .ok (.aload_n 1, 1) := by decide +kernel
theorem dX3_copyFrom_14 : decode cX3_copyFrom 14 = .ok (.getfield 9, 3) := by decide +kernel
theorem dX3_copyFrom_17 : decode cX3_copyFrom 17 = .ok (.iload_n 2, 1) := by decide +kernel
theorem dX3_copyFrom_18 : decode cX3_copyFrom 18 = .ok (.iaload, 1) := by decide +kernel
theorem dX3_copyFrom_19 : decode cX3_copyFrom 19 = .ok (.iastore, 1) := by decide +kernel
theorem dX3_copyFrom_20 : decode cX3_copyFrom 20 = .ok (.iinc 2 1, 3) := by decide +kernel
theorem dX3_copyFrom_23 : decode cX3_copyFrom 23 = .ok (.goto (-21), 3) := by decide +kernel
theorem dX3_copyFrom_26 : decode cX3_copyFrom 26 = .ok (.return_, 1) := by decide +kernel
theorem dX3_countPlaced_0 : decode cX3_countPlaced 0 = .ok (.iconst 0, 1) := by decide +kernel
theorem dX3_countPlaced_1 : decode cX3_countPlaced 1 = .ok (.istore_n 1, 1) := by decide +kernel
theorem dX3_countPlaced_2 : decode cX3_countPlaced 2 = .ok (.iconst 0, 1) := by decide +kernel
theorem dX3_countPlaced_3 : decode cX3_countPlaced 3 = .ok (.istore_n 2, 1) := by decide +kernel
theorem dX3_countPlaced_4 : decode cX3_countPlaced 4 = .ok (.iload_n 2, 1) := by decide +kernel
theorem dX3_countPlaced_5 : decode cX3_countPlaced 5 = .ok (.bipush 6, 2) := by decide +kernel
theorem dX3_countPlaced_7 : decode cX3_countPlaced 7 = .ok (.if_icmp .ge 22, 3) := by decide +kernel
theorem dX3_countPlaced_10 : decode cX3_countPlaced 10 = .ok (.aload_n 0, 1) := by decide +kernel
theorem dX3_countPlaced_11 : decode cX3_countPlaced 11 = .ok (.getfield 9, 3) := by decide +kernel
theorem dX3_countPlaced_14 : decode cX3_countPlaced 14 = .ok (.iload_n 2, 1) := by decide +kernel
theorem dX3_countPlaced_15 : decode cX3_countPlaced 15 = .ok (.iaload, 1) := by decide +kernel
theorem dX3_countPlaced_16 : decode cX3_countPlaced 16 = .ok (.iconst (-1), 1) := by decide +kernel
theorem dX3_countPlaced_17 : decode cX3_countPlaced 17 = .ok (.if_icmp .eq 6, 3) := by decide +kernel
theorem dX3_countPlaced_20 : decode cX3_countPlaced 20 = .ok (.iinc 1 1, 3) := by decide +kernel
theorem dX3_countPlaced_23 : decode cX3_countPlaced 23 = .ok (.iinc 2 1, 3) := by decide +kernel
theorem dX3_countPlaced_26 : decode cX3_countPlaced 26 = .ok (.goto (-22), 3) := by decide +kernel
theorem dX3_countPlaced_29 : decode cX3_countPlaced 29 = .ok (.iload_n 1, 1) := by decide +kernel
theorem dX3_countPlaced_30 : decode cX3_countPlaced 30 = .ok (.ireturn, 1) := by decide +kernel
theorem dX3_othersAt_0 : decode cX3_othersAt 0 = .ok (.iconst 0, 1) := by decide +kernel
theorem dX3_othersAt_1 : decode cX3_othersAt 1 = .ok (.istore_n 3, 1) := by decide +kernel
theorem dX3_othersAt_2 : decode cX3_othersAt 2 = .ok (.iconst 0, 1) := by decide +kernel
theorem dX3_othersAt_3 : decode cX3_othersAt 3 = .ok (.istore 4, 2) := by decide +kernel
theorem dX3_othersAt_5 : decode cX3_othersAt 5 = .ok (.iload 4, 2) := by decide +kernel
theorem dX3_othersAt_7 : decode cX3_othersAt 7 = .ok (.bipush 6, 2) := by decide +kernel
theorem dX3_othersAt_9 : decode cX3_othersAt 9 = .ok (.if_icmp .ge 29, 3) := by decide +kernel
theorem dX3_othersAt_12 : decode cX3_othersAt 12 = .ok (.iload 4, 2) := by decide +kernel
theorem dX3_othersAt_14 : decode cX3_othersAt 14 = .ok (.iload_n 2, 1) := by decide +kernel
theorem dX3_othersAt_15 : decode cX3_othersAt 15 = .ok (.if_icmp .eq 17, 3) := by decide +kernel
theorem dX3_othersAt_18 : decode cX3_othersAt 18 = .ok (.aload_n 0, 1) := by decide +kernel
theorem dX3_othersAt_19 : decode cX3_othersAt 19 = .ok (.getfield 9, 3) := by decide +kernel
theorem dX3_othersAt_22 : decode cX3_othersAt 22 = .ok (.iload 4, 2) := by decide +kernel
theorem dX3_othersAt_24 : decode cX3_othersAt 24 = .ok (.iaload, 1) := by decide +kernel
theorem dX3_othersAt_25 : decode cX3_othersAt 25 = .ok (.iload_n 1, 1) := by decide +kernel
theorem dX3_othersAt_26 : decode cX3_othersAt 26 = .ok (.if_icmp .ne 6, 3) := by decide +kernel
theorem dX3_othersAt_29 : decode cX3_othersAt 29 = .ok (.iinc 3 1, 3) := by decide +kernel
theorem dX3_othersAt_32 : decode cX3_othersAt 32 = .ok (.iinc 4 1, 3) := by decide +kernel
theorem dX3_othersAt_35 : decode cX3_othersAt 35 = .ok (.goto (-30), 3) := by decide +kernel
theorem dX3_othersAt_38 : decode cX3_othersAt 38 = .ok (.iload_n 3, 1) := by decide +kernel
theorem dX3_othersAt_39 : decode cX3_othersAt 39 = .ok (.ireturn, 1) := by decide +kernel
