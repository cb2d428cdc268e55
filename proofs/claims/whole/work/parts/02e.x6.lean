theorem dX6_init_0 : decode cX6_init 0 = .ok (.aload_n 0, 1) := by decide +kernel
theorem dX6_init_1 : decode cX6_init 1 = .ok (.invokespecial 1, 3) := by decide +kernel
theorem dX6_init_4 : decode cX6_init 4 = .ok (.aload_n 0, 1) := by decide +kernel
theorem dX6_init_5 : decode cX6_init 5 = .ok (.iconst 4, 1) := by decide +kernel
theorem dX6_init_6 : decode cX6_init 6 = .ok (.putfield 7, 3) := by decide +kernel
theorem dX6_init_9 : decode cX6_init 9 = .ok (.aload_n 0, 1) := by decide +kernel
theorem dX6_init_10 : decode cX6_init 10 = .ok (.iconst 3, 1) := by decide +kernel
theorem dX6_init_11 : decode cX6_init 11 = .ok (.putfield 13, 3) := by decide +kernel
theorem dX6_init_14 : decode cX6_init 14 = .ok (.aload_n 0, 1) := by decide +kernel
theorem dX6_init_15 : decode cX6_init 15 = .ok (.iconst 5, 1) := by decide +kernel
theorem dX6_init_16 : decode cX6_init 16 = .ok (.newarray .int, 2) := by decide +kernel
theorem dX6_init_18 : decode cX6_init 18 = .ok (.putfield 16, 3) := by decide +kernel
theorem dX6_init_21 : decode cX6_init 21 = .ok (.aload_n 0, 1) := by decide +kernel
theorem dX6_init_22 : decode cX6_init 22 = .ok (.bipush 6, 2) := by decide +kernel
theorem dX6_init_24 : decode cX6_init 24 = .ok (.newarray .int, 2) := by decide +kernel
theorem dX6_init_26 : decode cX6_init 26 = .ok (.putfield 20, 3) := by decide +kernel
theorem dX6_init_29 : decode cX6_init 29 = .ok (.aload_n 0, 1) := by decide +kernel
theorem dX6_init_30 : decode cX6_init 30 = .ok (.bipush 30, 2) := by decide +kernel
theorem dX6_init_32 : decode cX6_init 32 = .ok (.newarray .int, 2) := by decide +kernel
theorem dX6_init_34 : decode cX6_init 34 = .ok (.putfield 23, 3) := by decide +kernel
theorem dX6_init_37 : decode cX6_init 37 = .ok (.aload_n 0, 1) := by decide +kernel
theorem dX6_init_38 : decode cX6_init 38 = .ok (.bipush 12, 2) := by decide +kernel
theorem dX6_init_40 : decode cX6_init 40 = .ok (.newarray .int, 2) := by decide +kernel
theorem dX6_init_42 : decode cX6_init 42 = .ok (.putfield 26, 3) := by decide +kernel
theorem dX6_init_45 : decode cX6_init 45 = .ok (.aload_n 0, 1) := by decide +kernel
theorem dX6_init_46 : decode cX6_init 46 = .ok (.bipush 60, 2) := by decide +kernel
theorem dX6_init_48 : decode cX6_init 48 = .ok (.newarray .int, 2) := by decide +kernel
theorem dX6_init_50 : decode cX6_init 50 = .ok (.putfield 29, 3) := by decide +kernel
theorem dX6_init_53 : decode cX6_init 53 = .ok (.aload_n 0, 1) := by decide +kernel
theorem dX6_init_54 : decode cX6_init 54 = .ok (.sipush 1701, 3) := by decide +kernel
theorem dX6_init_57 : decode cX6_init 57 = .ok (.newarray .int, 2) := by decide +kernel
theorem dX6_init_59 : decode cX6_init 59 = .ok (.putfield 32, 3) := by decide +kernel
theorem dX6_init_62 : decode cX6_init 62 = .ok (.aload_n 0, 1) := by decide +kernel
theorem dX6_init_63 : decode cX6_init 63 = .ok (.bipush 6, 2) := by decide +kernel
theorem dX6_init_65 : decode cX6_init 65 = .ok (.newarray .int, 2) := by decide +kernel
theorem dX6_init_67 : decode cX6_init 67 = .ok (.putfield 35, 3) := by decide +kernel
theorem dX6_init_70 : decode cX6_init 70 = .ok (.aload_n 0, 1) := by decide +kernel
theorem dX6_init_71 : decode cX6_init 71 = .ok (.iconst 4, 1) := by decide +kernel
theorem dX6_init_72 : decode cX6_init 72 = .ok (.iconst 3, 1) := by decide +kernel
theorem dX6_init_73 : decode cX6_init 73 = .ok (.invokevirtual 38, 3) := by decide +kernel
theorem dX6_init_76 : decode cX6_init 76 = .ok (.return_, 1) := by decide +kernel
set_option maxRecDepth 20000 in
theorem ggX6_builds_X6_clears : GoodIn wsX6_builds wsX6_clears := goodIn_r _ [9, 10, 11, 12, 13, 14, 15, 16, 17, 18, 19, 20, 21] (by decide +kernel) (by decide +kernel)
set_option maxRecDepth 20000 in
theorem gX6_builds_X6_clears : GoodIn wsX6_builds (wsV RX6 42 RX6 yX6_clears wsX6_clears) := goodIn_app (goodIn_of _ (by decide +kernel)) ggX6_builds_X6_clears
theorem dX6_builds_0 : decode cX6_builds 0 = .ok (.aload_n 0, 1) := by decide +kernel
theorem dX6_builds_1 : decode cX6_builds 1 = .ok (.iload_n 1, 1) := by decide +kernel
theorem dX6_builds_2 : decode cX6_builds 2 = .ok (.putfield 7, 3) := by decide +kernel
theorem dX6_builds_5 : decode cX6_builds 5 = .ok (.aload_n 0, 1) := by decide +kernel
theorem dX6_builds_6 : decode cX6_builds 6 = .ok (.iload_n 2, 1) := by decide +kernel
theorem dX6_builds_7 : decode cX6_builds 7 = .ok (.putfield 13, 3) := by decide +kernel
theorem dX6_builds_10 : decode cX6_builds 10 = .ok (.iconst 0, 1) := by decide +kernel
theorem dX6_builds_11 : decode cX6_builds 11 = .ok (.istore_n 3, 1) := by decide +kernel
theorem dX6_builds_12 : decode cX6_builds 12 = .ok (.iload_n 3, 1) := by decide +kernel
theorem dX6_builds_13 : decode cX6_builds 13 = .ok (.iconst 5, 1) := by decide +kernel
theorem dX6_builds_14 : decode cX6_builds 14 = .ok (.if_icmp .ge 16, 3) := by decide +kernel
theorem dX6_builds_17 : decode cX6_builds 17 = .ok (.aload_n 0, 1) := by decide +kernel
theorem dX6_builds_18 : decode cX6_builds 18 = .ok (.getfield 16, 3) := by decide +kernel
theorem dX6_builds_21 : decode cX6_builds 21 = .ok (.iload_n 3, 1) := by decide +kernel
theorem dX6_builds_22 : decode cX6_builds 22 = .ok (.iconst 1, 1) := by decide +kernel
theorem dX6_builds_23 : decode cX6_builds 23 = .ok (.iastore, 1) := by decide +kernel
theorem dX6_builds_24 : decode cX6_builds 24 = .ok (.iinc 3 1, 3) := by decide +kernel
theorem dX6_builds_27 : decode cX6_builds 27 = .ok (.goto (-15), 3) := by decide +kernel
theorem dX6_builds_30 : decode cX6_builds 30 = .ok (.iconst 0, 1) := by decide +kernel
theorem dX6_builds_31 : decode cX6_builds 31 = .ok (.istore_n 3, 1) := by decide +kernel
theorem dX6_builds_32 : decode cX6_builds 32 = .ok (.iload_n 3, 1) := by decide +kernel
theorem dX6_builds_33 : decode cX6_builds 33 = .ok (.bipush 6, 2) := by decide +kernel
theorem dX6_builds_35 : decode cX6_builds 35 = .ok (.if_icmp .ge 16, 3) := by decide +kernel
theorem dX6_builds_38 : decode cX6_builds 38 = .ok (.aload_n 0, 1) := by decide +kernel
theorem dX6_builds_39 : decode cX6_builds 39 = .ok (.getfield 20, 3) := by decide +kernel
theorem dX6_builds_42 : decode cX6_builds 42 = .ok (.iload_n 3, 1) := by decide +kernel
theorem dX6_builds_43 : decode cX6_builds 43 = .ok (.iconst 0, 1) := by decide +kernel
theorem dX6_builds_44 : decode cX6_builds 44 = .ok (.iastore, 1) := by decide +kernel
theorem dX6_builds_45 : decode cX6_builds 45 = .ok (.iinc 3 1, 3) := by decide +kernel
theorem dX6_builds_48 : decode cX6_builds 48 = .ok (.goto (-16), 3) := by decide +kernel
theorem dX6_builds_51 : decode cX6_builds 51 = .ok (.aload_n 0, 1) := by decide +kernel
theorem dX6_builds_52 : decode cX6_builds 52 = .ok (.invokevirtual 42, 3) := by decide +kernel
theorem dX6_builds_55 : decode cX6_builds 55 = .ok (.return_, 1) := by decide +kernel
theorem dX6_clears_0 : decode cX6_clears 0 = .ok (.iconst 0, 1) := by decide +kernel
theorem dX6_clears_1 : decode cX6_clears 1 = .ok (.istore_n 1, 1) := by decide +kernel
theorem dX6_clears_2 : decode cX6_clears 2 = .ok (.iload_n 1, 1) := by decide +kernel
theorem dX6_clears_3 : decode cX6_clears 3 = .ok (.bipush 12, 2) := by decide +kernel
theorem dX6_clears_5 : decode cX6_clears 5 = .ok (.if_icmp .ge 16, 3) := by decide +kernel
theorem dX6_clears_8 : decode cX6_clears 8 = .ok (.aload_n 0, 1) := by decide +kernel
theorem dX6_clears_9 : decode cX6_clears 9 = .ok (.getfield 26, 3) := by decide +kernel
theorem dX6_clears_12 : decode cX6_clears 12 = .ok (.iload_n 1, 1) := by decide +kernel
theorem dX6_clears_13 : decode cX6_clears 13 = .ok (.iconst (-1), 1) := by decide +kernel
theorem dX6_clears_14 : decode cX6_clears 14 = .ok (.iastore, 1) := by decide +kernel
theorem dX6_clears_15 : decode cX6_clears 15 = .ok (.iinc 1 1, 3) := by decide +kernel
theorem dX6_clears_18 : decode cX6_clears 18 = .ok (.goto (-16), 3) := by decide +kernel
theorem dX6_clears_21 : decode cX6_clears 21 = .ok (.aload_n 0, 1) := by decide +kernel
theorem dX6_clears_22 : decode cX6_clears 22 = .ok (.iconst 0, 1) := by decide +kernel
theorem dX6_clears_23 : decode cX6_clears 23 = .ok (.putfield 45, 3) := by decide +kernel
theorem dX6_clears_26 : decode cX6_clears 26 = .ok (.return_, 1) := by decide +kernel
theorem dX6_in_0 : decode cX6_in 0 = .ok (.iload_n 0, 1) := by decide +kernel
theorem dX6_in_1 : decode cX6_in 1 = .ok (.iload_n 1, 1) := by decide +kernel
theorem dX6_in_2 : decode cX6_in 2 = .ok (.if_icmp .lt 12, 3) := by decide +kernel
theorem dX6_in_5 : decode cX6_in 5 = .ok (.iload_n 0, 1) := by decide +kernel
theorem dX6_in_6 : decode cX6_in 6 = .ok (.iload_n 2, 1) := by decide +kernel
theorem dX6_in_7 : decode cX6_in 7 = .ok (.if_icmp .gt 7, 3) := by decide +kernel
theorem dX6_in_10 : decode cX6_in 10 = .ok (.iconst 1, 1) := by decide +kernel
theorem dX6_in_11 : decode cX6_in 11 = .ok (.goto 4, 3) := by decide +kernel
theorem dX6_in_14 : decode cX6_in 14 = .ok (.iconst 0, 1) := by decide +kernel
theorem dX6_in_15 : decode cX6_in 15 = .ok (.ireturn, 1) := by decide +kernel
set_option maxRecDepth 20000 in
theorem ggX6_isApplicant_X6_in : GoodIn wsX6_isApplicant wsX6_in := goodIn_r _ [5] (by decide +kernel) (by decide +kernel)
set_option maxRecDepth 20000 in
theorem gX6_isApplicant_X6_in : GoodIn wsX6_isApplicant (va_wsS RX6 48 yX6_in wsX6_in) := goodIn_app (goodIn_of _ (by decide +kernel)) ggX6_isApplicant_X6_in
theorem dX6_isApplicant_0 : decode cX6_isApplicant 0 = .ok (.iload_n 1, 1) := by decide +kernel
theorem dX6_isApplicant_1 : decode cX6_isApplicant 1 = .ok (.iconst 0, 1) := by decide +kernel
theorem dX6_isApplicant_2 : decode cX6_isApplicant 2 = .ok (.aload_n 0, 1) := by decide +kernel
theorem dX6_isApplicant_3 : decode cX6_isApplicant 3 = .ok (.getfield 7, 3) := by decide +kernel
theorem dX6_isApplicant_6 : decode cX6_isApplicant 6 = .ok (.iconst 1, 1) := by decide +kernel
theorem dX6_isApplicant_7 : decode cX6_isApplicant 7 = .ok (.isub, 1) := by decide +kernel
theorem dX6_isApplicant_8 : decode cX6_isApplicant 8 = .ok (.invokestatic 48, 3) := by decide +kernel
theorem dX6_isApplicant_11 : decode cX6_isApplicant 11 = .ok (.ireturn, 1) := by decide +kernel
set_option maxRecDepth 20000 in
theorem ggX6_isPost_X6_in : GoodIn wsX6_isPost wsX6_in := goodIn_r _ [5] (by decide +kernel) (by decide +kernel)
set_option maxRecDepth 20000 in
theorem gX6_isPost_X6_in : GoodIn wsX6_isPost (va_wsS RX6 48 yX6_in wsX6_in) := goodIn_app (goodIn_of _ (by decide +kernel)) ggX6_isPost_X6_in
theorem dX6_isPost_0 : decode cX6_isPost 0 = .ok (.iload_n 1, 1) := by decide +kernel
theorem dX6_isPost_1 : decode cX6_isPost 1 = .ok (.iconst 0, 1) := by decide +kernel
theorem dX6_isPost_2 : decode cX6_isPost 2 = .ok (.aload_n 0, 1) := by decide +kernel
theorem dX6_isPost_3 : decode cX6_isPost 3 = .ok (.getfield 13, 3) := by decide +kernel
theorem dX6_isPost_6 : decode cX6_isPost 6 = .ok (.iconst 1, 1) := by decide +kernel
theorem dX6_isPost_7 : decode cX6_isPost 7 = .ok (.isub, 1) := by decide +kernel
theorem dX6_isPost_8 : decode cX6_isPost 8 = .ok (.invokestatic 48, 3) := by decide +kernel
theorem dX6_isPost_11 : decode cX6_isPost 11 = .ok (.ireturn, 1) := by decide +kernel
set_option maxRecDepth 20000 in
theorem ggX6_reset_X6_in : GoodIn wsX6_reset wsX6_in := goodIn_r _ [5] (by decide +kernel) (by decide +kernel)
set_option maxRecDepth 20000 in
theorem gX6_reset_X6_in : GoodIn wsX6_reset (va_wsS RX6 48 yX6_in wsX6_in) := goodIn_app (goodIn_of _ (by decide +kernel)) ggX6_reset_X6_in
set_option maxRecDepth 20000 in
theorem ggX6_reset_X6_builds : GoodIn wsX6_reset wsX6_builds := goodIn_r _ [9, 1, 10, 11, 12, 13, 14, 15, 4, 16, 17, 18, 19, 20, 21, 22, 23, 24, 25, 26, 27, 28] (by decide +kernel) (by decide +kernel)
set_option maxRecDepth 20000 in
theorem gX6_reset_X6_builds : GoodIn wsX6_reset (wsV RX6 38 RX6 yX6_builds wsX6_builds) := goodIn_app (goodIn_of _ (by decide +kernel)) ggX6_reset_X6_builds
theorem dX6_reset_0 : decode cX6_reset 0 = .ok (.iload_n 1, 1) := by decide +kernel
theorem dX6_reset_1 : decode cX6_reset 1 = .ok (.iconst 1, 1) := by decide +kernel
theorem dX6_reset_2 : decode cX6_reset 2 = .ok (.bipush 6, 2) := by decide +kernel
theorem dX6_reset_4 : decode cX6_reset 4 = .ok (.invokestatic 48, 3) := by decide +kernel
theorem dX6_reset_7 : decode cX6_reset 7 = .ok (.ifCond .eq 12, 3) := by decide +kernel
theorem dX6_reset_10 : decode cX6_reset 10 = .ok (.iload_n 2, 1) := by decide +kernel
theorem dX6_reset_11 : decode cX6_reset 11 = .ok (.iconst 1, 1) := by decide +kernel
theorem dX6_reset_12 : decode cX6_reset 12 = .ok (.iconst 5, 1) := by decide +kernel
theorem dX6_reset_13 : decode cX6_reset 13 = .ok (.invokestatic 48, 3) := by decide +kernel
theorem dX6_reset_16 : decode cX6_reset 16 = .ok (.ifCond .ne 6, 3) := by decide +kernel
theorem dX6_reset_19 : decode cX6_reset 19 = .ok (.bipush (-101), 2) := by decide +kernel
theorem dX6_reset_21 : decode cX6_reset 21 = .ok (.ireturn, 1) := by decide +kernel
theorem dX6_reset_22 : decode cX6_reset 22 = .ok (.aload_n 0, 1) := by decide +kernel
theorem dX6_reset_23 : decode cX6_reset 23 = .ok (.getfield 7, 3) := by decide +kernel
theorem dX6_reset_26 : decode cX6_reset 26 = .ok (.istore_n 3, 1) := by decide +kernel
theorem dX6_reset_27 : decode cX6_reset 27 = .ok (.aload_n 0, 1) := by decide +kernel
theorem dX6_reset_28 : decode cX6_reset 28 = .ok (.iload_n 1, 1) := by decide +kernel
theorem dX6_reset_29 : decode cX6_reset 29 = .ok (.iload_n 2, 1) := by decide +kernel
theorem dX6_reset_30 : decode cX6_reset 30 = .ok (.invokevirtual 38, 3) := by decide +kernel
theorem dX6_reset_33 : decode cX6_reset 33 = .ok (.iload_n 3, 1) := by decide +kernel
theorem dX6_reset_34 : decode cX6_reset 34 = .ok (.ireturn, 1) := by decide +kernel
set_option maxRecDepth 20000 in
theorem ggX6_setCapacity_X6_isPost : GoodIn wsX6_setCapacity wsX6_isPost := goodIn_r _ [6, 7, 8, 9, 5, 10, 17, 18, 19, 20, 21, 22, 23, 24, 25, 26] (by decide +kernel) (by decide +kernel)
set_option maxRecDepth 20000 in
theorem gX6_setCapacity_X6_isPost : GoodIn wsX6_setCapacity (wsV RX6 52 RX6 yX6_isPost wsX6_isPost) := goodIn_app (goodIn_of _ (by decide +kernel)) ggX6_setCapacity_X6_isPost
set_option maxRecDepth 20000 in
theorem ggX6_setCapacity_X6_in : GoodIn wsX6_setCapacity wsX6_in := goodIn_r _ [10] (by decide +kernel) (by decide +kernel)
set_option maxRecDepth 20000 in
theorem gX6_setCapacity_X6_in : GoodIn wsX6_setCapacity (va_wsS RX6 48 yX6_in wsX6_in) := goodIn_app (goodIn_of _ (by decide +kernel)) ggX6_setCapacity_X6_in
set_option maxRecDepth 20000 in
theorem ggX6_setCapacity_X6_clears : GoodIn wsX6_setCapacity wsX6_clears := goodIn_r _ [14, 15, 16, 17, 18, 19, 20, 21, 22, 23, 24, 25, 26] (by decide +kernel) (by decide +kernel)
set_option maxRecDepth 20000 in
theorem gX6_setCapacity_X6_clears : GoodIn wsX6_setCapacity (wsV RX6 42 RX6 yX6_clears wsX6_clears) := goodIn_app (goodIn_of _ (by decide +kernel)) ggX6_setCapacity_X6_clears
theorem dX6_setCapacity_0 : decode cX6_setCapacity 0 = .ok (.aload_n 0, 1) := by decide +kernel
theorem dX6_setCapacity_1 : decode cX6_setCapacity 1 = .ok (.iload_n 1, 1) := by decide +kernel
theorem dX6_setCapacity_2 : decode cX6_setCapacity 2 = .ok (.invokevirtual 52, 3) := by decide +kernel
theorem dX6_setCapacity_5 : decode cX6_setCapacity 5 = .ok (.ifCond .eq 12, 3) := by decide +kernel
theorem dX6_setCapacity_8 : decode cX6_setCapacity 8 = .ok (.iload_n 2, 1) := by decide +kernel
theorem dX6_setCapacity_9 : decode cX6_setCapacity 9 = .ok (.iconst 1, 1) := by decide +kernel
theorem dX6_setCapacity_10 : decode cX6_setCapacity 10 = .ok (.iconst 2, 1) := by decide +kernel
theorem dX6_setCapacity_11 : decode cX6_setCapacity 11 = .ok (.invokestatic 48, 3) := by decide +kernel
theorem dX6_setCapacity_14 : decode cX6_setCapacity 14 = .ok (.ifCond .ne 6, 3) := by decide +kernel
theorem dX6_setCapacity_17 : decode cX6_setCapacity 17 = .ok (.bipush (-101), 2) := by decide +kernel
theorem dX6_setCapacity_19 : decode cX6_setCapacity 19 = .ok (.ireturn, 1) := by decide +kernel
theorem dX6_setCapacity_20 : decode cX6_setCapacity 20 = .ok (.aload_n 0, 1) := by decide +kernel
theorem dX6_setCapacity_21 : decode cX6_setCapacity 21 = .ok (.getfield 16, 3) := by decide +kernel
theorem dX6_setCapacity_24 : decode cX6_setCapacity 24 = .ok (.iload_n 1, 1) := by decide +kernel
theorem dX6_setCapacity_25 : decode cX6_setCapacity 25 = .ok (.iaload, 1) := by decide +kernel
theorem dX6_setCapacity_26 : decode cX6_setCapacity 26 = .ok (.istore_n 3, 1) := by decide +kernel
theorem dX6_setCapacity_27 : decode cX6_setCapacity 27 = .ok (.aload_n 0, 1) := by decide +kernel
theorem dX6_setCapacity_28 : decode cX6_setCapacity 28 = .ok (.getfield 16, 3) := by decide +kernel
theorem dX6_setCapacity_31 : decode cX6_setCapacity 31 = .ok (.iload_n 1, 1) := by decide +kernel
theorem dX6_setCapacity_32 : decode cX6_setCapacity 32 = .ok (.iload_n 2, 1) := by decide +kernel
theorem dX6_setCapacity_33 : decode cX6_setCapacity 33 = .ok (.iastore, 1) := by decide +kernel
theorem dX6_setCapacity_34 : decode cX6_setCapacity 34 = .ok (.aload_n 0, 1) := by decide +kernel
theorem dX6_setCapacity_35 : decode cX6_setCapacity 35 = .ok (.invokevirtual 42, 3) := by decide +kernel
theorem dX6_setCapacity_38 : decode cX6_setCapacity 38 = .ok (.iload_n 3, 1) := by decide +kernel
theorem dX6_setCapacity_39 : decode cX6_setCapacity 39 = .ok (.ireturn, 1) := by decide +kernel
theorem dX6_rank_0 : decode cX6_rank 0 = .ok (.iconst 0, 1) := by decide +kernel
theorem dX6_rank_1 : decode cX6_rank 1 = .ok (.istore_n 3, 1) := by decide +kernel
theorem dX6_rank_2 : decode cX6_rank 2 = .ok (.iload_n 3, 1) := by decide +kernel
theorem dX6_rank_3 : decode cX6_rank 3 = .ok (.aload_n 0, 1) := by decide +kernel
theorem dX6_rank_4 : decode cX6_rank 4 = .ok (.getfield 20, 3) := by decide +kernel
theorem dX6_rank_7 : decode cX6_rank 7 = .ok (.iload_n 1, 1) := by decide +kernel
theorem dX6_rank_8 : decode cX6_rank 8 = .ok (.iaload, 1) := by decide +kernel
theorem dX6_rank_9 : decode cX6_rank 9 = .ok (.if_icmp .ge 25, 3) := by decide +kernel
theorem dX6_rank_12 : decode cX6_rank 12 = .ok (.aload_n 0, 1) := by decide +kernel
theorem dX6_rank_13 : decode cX6_rank 13 = .ok (.getfield 23, 3) := by decide +kernel
theorem dX6_rank_16 : decode cX6_rank 16 = .ok (.iconst 5, 1) := by decide +kernel
theorem dX6_rank_17 : decode cX6_rank 17 = .ok (.iload_n 1, 1) := by decide +kernel
theorem dX6_rank_18 : decode cX6_rank 18 = .ok (.imul, 1) := by decide +kernel
theorem dX6_rank_19 : decode cX6_rank 19 = .ok (.iload_n 3, 1) := by decide +kernel
theorem dX6_rank_20 : decode cX6_rank 20 = .ok (.iadd, 1) := by decide +kernel
theorem dX6_rank_21 : decode cX6_rank 21 = .ok (.iaload, 1) := by decide +kernel
theorem dX6_rank_22 : decode cX6_rank 22 = .ok (.iload_n 2, 1) := by decide +kernel
theorem dX6_rank_23 : decode cX6_rank 23 = .ok (.if_icmp .ne 5, 3) := by decide +kernel
theorem dX6_rank_26 : decode cX6_rank 26 = .ok (.iload_n 3, 1) := by decide +kernel
theorem dX6_rank_27 : decode cX6_rank 27 = .ok (.ireturn, 1) := by decide +kernel
theorem dX6_rank_28 : decode cX6_rank 28 = .ok (.iinc 3 1, 3) := by decide +kernel
theorem dX6_rank_31 : decode cX6_rank 31 = .ok (.goto (-29), 3) := by decide +kernel
theorem dX6_rank_34 : decode cX6_rank 34 = .ok (.bipush 9, 2) := by decide +kernel
theorem dX6_rank_36 : decode cX6_rank 36 = .ok (.ireturn, 1) := by decide +kernel
set_option maxRecDepth 20000 in
theorem ggX6_appendPreference_X6_isApplicant : GoodIn wsX6_appendPreference wsX6_isApplicant := goodIn_r _ [7, 8, 9, 10, 6, 11, 27, 28, 29, 30, 31, 32, 33, 34, 35, 36] (by decide +kernel) (by decide +kernel)
set_option maxRecDepth 20000 in
theorem gX6_appendPreference_X6_isApplicant : GoodIn wsX6_appendPreference (wsV RX6 56 RX6 yX6_isApplicant wsX6_isApplicant) := goodIn_app (goodIn_of _ (by decide +kernel)) ggX6_appendPreference_X6_isApplicant
set_option maxRecDepth 20000 in
theorem ggX6_appendPreference_X6_isPost : GoodIn wsX6_appendPreference wsX6_isPost := goodIn_r _ [15, 16, 9, 10, 6, 11, 27, 28, 29, 30, 31, 32, 33, 34, 35, 36] (by decide +kernel) (by decide +kernel)
set_option maxRecDepth 20000 in
theorem gX6_appendPreference_X6_isPost : GoodIn wsX6_appendPreference (wsV RX6 52 RX6 yX6_isPost wsX6_isPost) := goodIn_app (goodIn_of _ (by decide +kernel)) ggX6_appendPreference_X6_isPost
set_option maxRecDepth 20000 in
theorem ggX6_appendPreference_X6_rank : GoodIn wsX6_appendPreference wsX6_rank := goodIn_r _ [20, 2, 1, 27, 28, 29, 30, 31, 32, 33, 34, 35, 36] (by decide +kernel) (by decide +kernel)
set_option maxRecDepth 20000 in
theorem gX6_appendPreference_X6_rank : GoodIn wsX6_appendPreference (wsV RX6 59 RX6 yX6_rank wsX6_rank) := goodIn_app (goodIn_of _ (by decide +kernel)) ggX6_appendPreference_X6_rank
set_option maxRecDepth 20000 in
theorem ggX6_appendPreference_X6_clears : GoodIn wsX6_appendPreference wsX6_clears := goodIn_r _ [24, 25, 26, 27, 28, 29, 30, 31, 32, 33, 34, 35, 36] (by decide +kernel) (by decide +kernel)
set_option maxRecDepth 20000 in
theorem gX6_appendPreference_X6_clears : GoodIn wsX6_appendPreference (wsV RX6 42 RX6 yX6_clears wsX6_clears) := goodIn_app (goodIn_of _ (by decide +kernel)) ggX6_appendPreference_X6_clears
theorem dX6_appendPreference_0 : decode cX6_appendPreference 0 = .ok (.aload_n 0, 1) := by decide +kernel
theorem dX6_appendPreference_1 : decode cX6_appendPreference 1 = .ok (.iload_n 1, 1) := by decide +kernel
theorem dX6_appendPreference_2 : decode cX6_appendPreference 2 = .ok (.invokevirtual 56, 3) := by decide +kernel
theorem dX6_appendPreference_5 : decode cX6_appendPreference 5 = .ok (.ifCond .eq 11, 3) := by decide +kernel
theorem dX6_appendPreference_8 : decode cX6_appendPreference 8 = .ok (.aload_n 0, 1) := by decide +kernel
theorem dX6_appendPreference_9 : decode cX6_appendPreference 9 = .ok (.iload_n 2, 1) := by decide +kernel
theorem dX6_appendPreference_10 : decode cX6_appendPreference 10 = .ok (.invokevirtual 52, 3) := by decide +kernel
theorem dX6_appendPreference_13 : decode cX6_appendPreference 13 = .ok (.ifCond .ne 6, 3) := by decide +kernel
theorem dX6_appendPreference_16 : decode cX6_appendPreference 16 = .ok (.bipush (-101), 2) := by decide +kernel
theorem dX6_appendPreference_18 : decode cX6_appendPreference 18 = .ok (.ireturn, 1) := by decide +kernel
theorem dX6_appendPreference_19 : decode cX6_appendPreference 19 = .ok (.aload_n 0, 1) := by decide +kernel
theorem dX6_appendPreference_20 : decode cX6_appendPreference 20 = .ok (.iload_n 1, 1) := by decide +kernel
theorem dX6_appendPreference_21 : decode cX6_appendPreference 21 = .ok (.iload_n 2, 1) := by decide +kernel
theorem dX6_appendPreference_22 : decode cX6_appendPreference 22 = .ok (.invokevirtual 59, 3) := by decide +kernel
theorem dX6_appendPreference_25 : decode cX6_appendPreference 25 = .ok (.bipush 9, 2) := by decide +kernel
theorem dX6_appendPreference_27 : decode cX6_appendPreference 27 = .ok (.if_icmp .ge 6, 3) := by decide +kernel
theorem dX6_appendPreference_30 : decode cX6_appendPreference 30 = .ok (.bipush (-102), 2) := by decide +kernel
theorem dX6_appendPreference_32 : decode cX6_appendPreference 32 = .ok (.ireturn, 1) := by decide +kernel
theorem dX6_appendPreference_33 : decode cX6_appendPreference 33 = .ok (.aload_n 0, 1) := by decide +kernel
theorem dX6_appendPreference_34 : decode cX6_appendPreference 34 = .ok (.getfield 23, 3) := by decide +kernel
theorem dX6_appendPreference_37 : decode cX6_appendPreference 37 = .ok (.iconst 5, 1) := by decide +kernel
theorem dX6_appendPreference_38 : decode cX6_appendPreference 38 = .ok (.iload_n 1, 1) := by decide +kernel
theorem dX6_appendPreference_39 : decode cX6_appendPreference 39 = .ok (.imul, 1) := by decide +kernel
theorem dX6_appendPreference_40 : decode cX6_appendPreference 40 = .ok (.aload_n 0, 1) := by decide +kernel
theorem dX6_appendPreference_41 : decode cX6_appendPreference 41 = .ok (.getfield 20, 3) := by decide +kernel
theorem dX6_appendPreference_44 : decode cX6_appendPreference 44 = .ok (.iload_n 1, 1) := by decide +kernel
theorem dX6_appendPreference_45 : decode cX6_appendPreference 45 = .ok (.iaload, 1) := by decide +kernel
theorem dX6_appendPreference_46 : decode cX6_appendPreference 46 = .ok (.iadd, 1) := by decide +kernel
theorem dX6_appendPreference_47 : decode cX6_appendPreference 47 = .ok (.iload_n 2, 1) := by decide +kernel
theorem dX6_appendPreference_48 : decode cX6_appendPreference 48 = .ok (.iastore, 1) := by decide +kernel
theorem dX6_appendPreference_49 : decode cX6_appendPreference 49 = .ok (.aload_n 0, 1) := by decide +kernel
theorem dX6_appendPreference_50 : decode cX6_appendPreference 50 = .ok (.getfield 20, 3) := by decide +kernel
theorem dX6_appendPreference_53 : decode cX6_appendPreference 53 = .ok (.iload_n 1, 1) := by decide +kernel
theorem dX6_appendPreference_54 : decode cX6_appendPreference 54 = .ok (.dup2, 1) := by decide +kernel
theorem dX6_appendPreference_55 : decode cX6_appendPreference 55 = .ok (.iaload, 1) := by decide +kernel
theorem dX6_appendPreference_56 : decode cX6_appendPreference 56 = .ok (.iconst 1, 1) := by decide +kernel
theorem dX6_appendPreference_57 : decode cX6_appendPreference 57 = .ok (.iadd, 1) := by decide +kernel
theorem dX6_appendPreference_58 : decode cX6_appendPreference 58 = .ok (.iastore, 1) := by decide +kernel
theorem dX6_appendPreference_59 : decode cX6_appendPreference 59 = .ok (.aload_n 0, 1) := by decide +kernel
theorem dX6_appendPreference_60 : decode cX6_appendPreference 60 = .ok (.invokevirtual 42, 3) := by decide +kernel
theorem dX6_appendPreference_63 : decode cX6_appendPreference 63 = .ok (.aload_n 0, 1) := by decide +kernel
theorem dX6_appendPreference_64 : decode cX6_appendPreference 64 = .ok (.getfield 20, 3) := by decide +kernel
theorem dX6_appendPreference_67 : decode cX6_appendPreference 67 = .ok (.iload_n 1, 1) := by decide +kernel
theorem dX6_appendPreference_68 : decode cX6_appendPreference 68 = .ok (.iaload, 1) := by decide +kernel
theorem dX6_appendPreference_69 : decode cX6_appendPreference 69 = .ok (.ireturn, 1) := by decide +kernel
set_option maxRecDepth 20000 in
theorem ggX6_clearPreferences_X6_isApplicant : GoodIn wsX6_clearPreferences wsX6_isApplicant := goodIn_r _ [6, 7, 8, 9, 5, 10, 17, 18, 19, 20, 21, 22, 23, 24, 25, 26] (by decide +kernel) (by decide +kernel)
set_option maxRecDepth 20000 in
theorem gX6_clearPreferences_X6_isApplicant : GoodIn wsX6_clearPreferences (wsV RX6 56 RX6 yX6_isApplicant wsX6_isApplicant) := goodIn_app (goodIn_of _ (by decide +kernel)) ggX6_clearPreferences_X6_isApplicant
set_option maxRecDepth 20000 in
theorem ggX6_clearPreferences_X6_clears : GoodIn wsX6_clearPreferences wsX6_clears := goodIn_r _ [14, 15, 16, 17, 18, 19, 20, 21, 22, 23, 24, 25, 26] (by decide +kernel) (by decide +kernel)
set_option maxRecDepth 20000 in
theorem gX6_clearPreferences_X6_clears : GoodIn wsX6_clearPreferences (wsV RX6 42 RX6 yX6_clears wsX6_clears) := goodIn_app (goodIn_of _ (by decide +kernel)) ggX6_clearPreferences_X6_clears
theorem dX6_clearPreferences_0 : decode cX6_clearPreferences 0 = .ok (.aload_n 0, 1) := by decide +kernel
theorem dX6_clearPreferences_1 : decode cX6_clearPreferences 1 = .ok (.iload_n 1, 1) := by decide +kernel
theorem dX6_clearPreferences_2 : decode cX6_clearPreferences 2 = .ok (.invokevirtual 56, 3) := by decide +kernel
theorem dX6_clearPreferences_5 : decode cX6_clearPreferences 5 = .ok (.ifCond .ne 6, 3) := by decide +kernel
theorem dX6_clearPreferences_8 : decode cX6_clearPreferences 8 = .ok (.bipush (-101), 2) := by decide +kernel
theorem dX6_clearPreferences_10 : decode cX6_clearPreferences 10 = .ok (.ireturn, 1) := by decide +kernel
theorem dX6_clearPreferences_11 : decode cX6_clearPreferences 11 = .ok (.aload_n 0, 1) := by decide +kernel
theorem dX6_clearPreferences_12 : decode cX6_clearPreferences 12 = .ok (.getfield 20, 3) := by decide +kernel
theorem dX6_clearPreferences_15 : decode cX6_clearPreferences 15 = .ok (.iload_n 1, 1) := by decide +kernel
theorem dX6_clearPreferences_16 : decode cX6_clearPreferences 16 = .ok (.iaload, 1) := by decide +kernel
theorem dX6_clearPreferences_17 : decode cX6_clearPreferences 17 = .ok (.istore_n 2, 1) := by decide +kernel
theorem dX6_clearPreferences_18 : decode cX6_clearPreferences 18 = .ok (.aload_n 0, 1) := by decide +kernel
theorem dX6_clearPreferences_19 : decode cX6_clearPreferences 19 = .ok (.getfield 20, 3) := by decide +kernel
theorem dX6_clearPreferences_22 : decode cX6_clearPreferences 22 = .ok (.iload_n 1, 1) := by decide +kernel
theorem dX6_clearPreferences_23 : decode cX6_clearPreferences 23 = .ok (.iconst 0, 1) := by decide +kernel
theorem dX6_clearPreferences_24 : decode cX6_clearPreferences 24 = .ok (.iastore, 1) := by decide +kernel
theorem dX6_clearPreferences_25 : decode cX6_clearPreferences 25 = .ok (.aload_n 0, 1) := by decide +kernel
theorem dX6_clearPreferences_26 : decode cX6_clearPreferences 26 = .ok (.invokevirtual 42, 3) := by decide +kernel
theorem dX6_clearPreferences_29 : decode cX6_clearPreferences 29 = .ok (.iload_n 2, 1) := by decide +kernel
theorem dX6_clearPreferences_30 : decode cX6_clearPreferences 30 = .ok (.ireturn, 1) := by decide +kernel
set_option maxRecDepth 20000 in
theorem ggX6_preferenceAt_X6_isApplicant : GoodIn wsX6_preferenceAt wsX6_isApplicant := goodIn_r _ [7, 8, 9, 10, 6, 11, 12, 13, 14, 15, 16, 17, 18, 19, 20, 21] (by decide +kernel) (by decide +kernel)
set_option maxRecDepth 20000 in
theorem gX6_preferenceAt_X6_isApplicant : GoodIn wsX6_preferenceAt (wsV RX6 56 RX6 yX6_isApplicant wsX6_isApplicant) := goodIn_app (goodIn_of _ (by decide +kernel)) ggX6_preferenceAt_X6_isApplicant
theorem dX6_preferenceAt_0 : decode cX6_preferenceAt 0 = .ok (.aload_n 0, 1) := by decide +kernel
theorem dX6_preferenceAt_1 : decode cX6_preferenceAt 1 = .ok (.iload_n 1, 1) := by decide +kernel
theorem dX6_preferenceAt_2 : decode cX6_preferenceAt 2 = .ok (.invokevirtual 56, 3) := by decide +kernel
theorem dX6_preferenceAt_5 : decode cX6_preferenceAt 5 = .ok (.ifCond .eq 7, 3) := by decide +kernel
theorem dX6_preferenceAt_8 : decode cX6_preferenceAt 8 = .ok (.iload_n 2, 1) := by decide +kernel
theorem dX6_preferenceAt_9 : decode cX6_preferenceAt 9 = .ok (.ifCond .ge 6, 3) := by decide +kernel
theorem dX6_preferenceAt_12 : decode cX6_preferenceAt 12 = .ok (.bipush (-101), 2) := by decide +kernel
theorem dX6_preferenceAt_14 : decode cX6_preferenceAt 14 = .ok (.ireturn, 1) := by decide +kernel
theorem dX6_preferenceAt_15 : decode cX6_preferenceAt 15 = .ok (.iload_n 2, 1) := by decide +kernel
theorem dX6_preferenceAt_16 : decode cX6_preferenceAt 16 = .ok (.aload_n 0, 1) := by decide +kernel
theorem dX6_preferenceAt_17 : decode cX6_preferenceAt 17 = .ok (.getfield 20, 3) := by decide +kernel
theorem dX6_preferenceAt_20 : decode cX6_preferenceAt 20 = .ok (.iload_n 1, 1) := by decide +kernel
theorem dX6_preferenceAt_21 : decode cX6_preferenceAt 21 = .ok (.iaload, 1) := by decide +kernel
theorem dX6_preferenceAt_22 : decode cX6_preferenceAt 22 = .ok (.if_icmp .ge 16, 3) := by decide +kernel
theorem dX6_preferenceAt_25 : decode cX6_preferenceAt 25 = .ok (.aload_n 0, 1) := by decide +kernel
theorem dX6_preferenceAt_26 : decode cX6_preferenceAt 26 = .ok (.getfield 23, 3) := by decide +kernel
theorem dX6_preferenceAt_29 : decode cX6_preferenceAt 29 = .ok (.iconst 5, 1) := by decide +kernel
theorem dX6_preferenceAt_30 : decode cX6_preferenceAt 30 = .ok (.iload_n 1, 1) := by decide +kernel
theorem dX6_preferenceAt_31 : decode cX6_preferenceAt 31 = .ok (.imul, 1) := by decide +kernel
theorem dX6_preferenceAt_32 : decode cX6_preferenceAt 32 = .ok (.iload_n 2, 1) := by decide +kernel
theorem dX6_preferenceAt_33 : decode cX6_preferenceAt 33 = .ok (.iadd, 1) := by decide +kernel
theorem dX6_preferenceAt_34 : decode cX6_preferenceAt 34 = .ok (.iaload, 1) := by decide +kernel
theorem dX6_preferenceAt_35 : decode cX6_preferenceAt 35 = .ok (.goto 5, 3) := by decide +kernel
theorem dX6_preferenceAt_38 : decode cX6_preferenceAt 38 = .ok (.bipush (-104), 2) := by decide +kernel
theorem dX6_preferenceAt_40 : decode cX6_preferenceAt 40 = .ok (.ireturn, 1) := by decide +kernel
theorem dX6_first_0 : decode cX6_first 0 = .ok (.aload_n 0, 1) := by decide +kernel
theorem dX6_first_1 : decode cX6_first 1 = .ok (.getfield 20, 3) := by decide +kernel
theorem dX6_first_4 : decode cX6_first 4 = .ok (.iload_n 1, 1) := by decide +kernel
theorem dX6_first_5 : decode cX6_first 5 = .ok (.iaload, 1) := by decide +kernel
theorem dX6_first_6 : decode cX6_first 6 = .ok (.ifCond .le 14, 3) := by decide +kernel
theorem dX6_first_9 : decode cX6_first 9 = .ok (.aload_n 0, 1) := by decide +kernel
theorem dX6_first_10 : decode cX6_first 10 = .ok (.getfield 23, 3) := by decide +kernel
theorem dX6_first_13 : decode cX6_first 13 = .ok (.iconst 5, 1) := by decide +kernel
theorem dX6_first_14 : decode cX6_first 14 = .ok (.iload_n 1, 1) := by decide +kernel
theorem dX6_first_15 : decode cX6_first 15 = .ok (.imul, 1) := by decide +kernel
theorem dX6_first_16 : decode cX6_first 16 = .ok (.iaload, 1) := by decide +kernel
theorem dX6_first_17 : decode cX6_first 17 = .ok (.goto 4, 3) := by decide +kernel
theorem dX6_first_20 : decode cX6_first 20 = .ok (.iconst (-1), 1) := by decide +kernel
theorem dX6_first_21 : decode cX6_first 21 = .ok (.ireturn, 1) := by decide +kernel
set_option maxRecDepth 20000 in
theorem ggX6_firsts_X6_first : GoodIn wsX6_firsts wsX6_first := goodIn_r _ [6, 7, 8, 9, 10, 11, 12, 13, 14, 15, 16, 17, 18] (by decide +kernel) (by decide +kernel)
set_option maxRecDepth 20000 in
theorem gX6_firsts_X6_first : GoodIn wsX6_firsts (wsV RX6 63 RX6 yX6_first wsX6_first) := goodIn_app (goodIn_of _ (by decide +kernel)) ggX6_firsts_X6_first
theorem dX6_firsts_0 : decode cX6_firsts 0 = .ok (.iconst 0, 1) := by decide +kernel
theorem dX6_firsts_1 : decode cX6_firsts 1 = .ok (.istore_n 2, 1) := by decide +kernel
theorem dX6_firsts_2 : decode cX6_firsts 2 = .ok (.iconst 0, 1) := by decide +kernel
theorem dX6_firsts_3 : decode cX6_firsts 3 = .ok (.istore_n 3, 1) := by decide +kernel
theorem dX6_firsts_4 : decode cX6_firsts 4 = .ok (.iload_n 3, 1) := by decide +kernel
theorem dX6_firsts_5 : decode cX6_firsts 5 = .ok (.aload_n 0, 1) := by decide +kernel
theorem dX6_firsts_6 : decode cX6_firsts 6 = .ok (.getfield 7, 3) := by decide +kernel
theorem dX6_firsts_9 : decode cX6_firsts 9 = .ok (.if_icmp .ge 26, 3) := by decide +kernel
theorem dX6_firsts_12 : decode cX6_firsts 12 = .ok (.iload_n 2, 1) := by decide +kernel
theorem dX6_firsts_13 : decode cX6_firsts 13 = .ok (.aload_n 0, 1) := by decide +kernel
theorem dX6_firsts_14 : decode cX6_firsts 14 = .ok (.iload_n 3, 1) := by decide +kernel
theorem dX6_firsts_15 : decode cX6_firsts 15 = .ok (.invokevirtual 63, 3) := by decide +kernel
theorem dX6_firsts_18 : decode cX6_firsts 18 = .ok (.iload_n 1, 1) := by decide +kernel
theorem dX6_firsts_19 : decode cX6_firsts 19 = .ok (.if_icmp .ne 7, 3) := by decide +kernel
theorem dX6_firsts_22 : decode cX6_firsts 22 = .ok (.iconst 1, 1) := by decide +kernel
theorem dX6_firsts_23 : decode cX6_firsts 23 = .ok (.goto 4, 3) := by decide +kernel
theorem dX6_firsts_26 : decode cX6_firsts 26 = .ok (.iconst 0, 1) := by decide +kernel
theorem dX6_firsts_27 : decode cX6_firsts 27 = .ok (.iadd, 1) := by decide +kernel
theorem dX6_firsts_28 : decode cX6_firsts 28 = .ok (.istore_n 2, 1) := by decide +kernel
theorem dX6_firsts_29 : decode cX6_firsts 29 = .ok (.iinc 3 1, 3) := by decide +kernel
theorem dX6_firsts_32 : decode cX6_firsts 32 = .ok (.goto (-28), 3) := by decide +kernel
theorem dX6_firsts_35 : decode cX6_firsts 35 = .ok (.iload_n 2, 1) := by decide +kernel
theorem dX6_firsts_36 : decode cX6_firsts 36 = .ok (.ireturn, 1) := by decide +kernel
set_option maxRecDepth 20000 in
theorem ggX6_second_X6_firsts : GoodIn wsX6_second wsX6_firsts := goodIn_r _ [8, 9, 10, 11, 12, 7, 13, 1, 2, 14, 15, 16, 17, 18, 19, 20, 21, 22, 23] (by decide +kernel) (by decide +kernel)
set_option maxRecDepth 20000 in
theorem gX6_second_X6_firsts : GoodIn wsX6_second (wsV RX6 67 RX6 yX6_firsts wsX6_firsts) := goodIn_app (goodIn_of _ (by decide +kernel)) ggX6_second_X6_firsts
theorem dX6_second_0 : decode cX6_second 0 = .ok (.iconst 1, 1) := by decide +kernel
theorem dX6_second_1 : decode cX6_second 1 = .ok (.istore_n 2, 1) := by decide +kernel
theorem dX6_second_2 : decode cX6_second 2 = .ok (.iload_n 2, 1) := by decide +kernel
theorem dX6_second_3 : decode cX6_second 3 = .ok (.aload_n 0, 1) := by decide +kernel
theorem dX6_second_4 : decode cX6_second 4 = .ok (.getfield 20, 3) := by decide +kernel
theorem dX6_second_7 : decode cX6_second 7 = .ok (.iload_n 1, 1) := by decide +kernel
theorem dX6_second_8 : decode cX6_second 8 = .ok (.iaload, 1) := by decide +kernel
theorem dX6_second_9 : decode cX6_second 9 = .ok (.if_icmp .ge 36, 3) := by decide +kernel
theorem dX6_second_12 : decode cX6_second 12 = .ok (.aload_n 0, 1) := by decide +kernel
theorem dX6_second_13 : decode cX6_second 13 = .ok (.getfield 23, 3) := by decide +kernel
theorem dX6_second_16 : decode cX6_second 16 = .ok (.iconst 5, 1) := by decide +kernel
theorem dX6_second_17 : decode cX6_second 17 = .ok (.iload_n 1, 1) := by decide +kernel
theorem dX6_second_18 : decode cX6_second 18 = .ok (.imul, 1) := by decide +kernel
theorem dX6_second_19 : decode cX6_second 19 = .ok (.iload_n 2, 1) := by decide +kernel
theorem dX6_second_20 : decode cX6_second 20 = .ok (.iadd, 1) := by decide +kernel
theorem dX6_second_21 : decode cX6_second 21 = .ok (.iaload, 1) := by decide +kernel
theorem dX6_second_22 : decode cX6_second 22 = .ok (.istore_n 3, 1) := by decide +kernel
theorem dX6_second_23 : decode cX6_second 23 = .ok (.aload_n 0, 1) := by decide +kernel
theorem dX6_second_24 : decode cX6_second 24 = .ok (.iload_n 3, 1) := by decide +kernel
theorem dX6_second_25 : decode cX6_second 25 = .ok (.invokevirtual 67, 3) := by decide +kernel
theorem dX6_second_28 : decode cX6_second 28 = .ok (.aload_n 0, 1) := by decide +kernel
theorem dX6_second_29 : decode cX6_second 29 = .ok (.getfield 16, 3) := by decide +kernel
theorem dX6_second_32 : decode cX6_second 32 = .ok (.iload_n 3, 1) := by decide +kernel
theorem dX6_second_33 : decode cX6_second 33 = .ok (.iaload, 1) := by decide +kernel
theorem dX6_second_34 : decode cX6_second 34 = .ok (.if_icmp .ge 5, 3) := by decide +kernel
theorem dX6_second_37 : decode cX6_second 37 = .ok (.iload_n 3, 1) := by decide +kernel
theorem dX6_second_38 : decode cX6_second 38 = .ok (.ireturn, 1) := by decide +kernel
theorem dX6_second_39 : decode cX6_second 39 = .ok (.iinc 2 1, 3) := by decide +kernel
theorem dX6_second_42 : decode cX6_second 42 = .ok (.goto (-40), 3) := by decide +kernel
theorem dX6_second_45 : decode cX6_second 45 = .ok (.iconst (-1), 1) := by decide +kernel
theorem dX6_second_46 : decode cX6_second 46 = .ok (.ireturn, 1) := by decide +kernel
set_option maxRecDepth 20000 in
theorem ggX6_firstPost_X6_isApplicant : GoodIn wsX6_firstPost wsX6_isApplicant := goodIn_r _ [5, 6, 7, 8, 4, 9, 16, 17, 18, 19, 20, 21, 22, 23, 24, 25] (by decide +kernel) (by decide +kernel)
set_option maxRecDepth 20000 in
theorem gX6_firstPost_X6_isApplicant : GoodIn wsX6_firstPost (wsV RX6 56 RX6 yX6_isApplicant wsX6_isApplicant) := goodIn_app (goodIn_of _ (by decide +kernel)) ggX6_firstPost_X6_isApplicant
set_option maxRecDepth 20000 in
theorem ggX6_firstPost_X6_first : GoodIn wsX6_firstPost wsX6_first := goodIn_r _ [13, 14, 15, 16, 17, 18, 19, 20, 21, 22, 23, 24, 25] (by decide +kernel) (by decide +kernel)
set_option maxRecDepth 20000 in
theorem gX6_firstPost_X6_first : GoodIn wsX6_firstPost (wsV RX6 63 RX6 yX6_first wsX6_first) := goodIn_app (goodIn_of _ (by decide +kernel)) ggX6_firstPost_X6_first
theorem dX6_firstPost_0 : decode cX6_firstPost 0 = .ok (.aload_n 0, 1) := by decide +kernel
theorem dX6_firstPost_1 : decode cX6_firstPost 1 = .ok (.iload_n 1, 1) := by decide +kernel
theorem dX6_firstPost_2 : decode cX6_firstPost 2 = .ok (.invokevirtual 56, 3) := by decide +kernel
theorem dX6_firstPost_5 : decode cX6_firstPost 5 = .ok (.ifCond .eq 11, 3) := by decide +kernel
theorem dX6_firstPost_8 : decode cX6_firstPost 8 = .ok (.aload_n 0, 1) := by decide +kernel
theorem dX6_firstPost_9 : decode cX6_firstPost 9 = .ok (.iload_n 1, 1) := by decide +kernel
theorem dX6_firstPost_10 : decode cX6_firstPost 10 = .ok (.invokevirtual 63, 3) := by decide +kernel
theorem dX6_firstPost_13 : decode cX6_firstPost 13 = .ok (.goto 5, 3) := by decide +kernel
theorem dX6_firstPost_16 : decode cX6_firstPost 16 = .ok (.bipush (-101), 2) := by decide +kernel
theorem dX6_firstPost_18 : decode cX6_firstPost 18 = .ok (.ireturn, 1) := by decide +kernel
set_option maxRecDepth 20000 in
theorem ggX6_secondPost_X6_isApplicant : GoodIn wsX6_secondPost wsX6_isApplicant := goodIn_r _ [5, 6, 7, 8, 4, 9, 25, 26, 27, 28, 29, 30, 31, 32, 33, 34] (by decide +kernel) (by decide +kernel)
set_option maxRecDepth 20000 in
theorem gX6_secondPost_X6_isApplicant : GoodIn wsX6_secondPost (wsV RX6 56 RX6 yX6_isApplicant wsX6_isApplicant) := goodIn_app (goodIn_of _ (by decide +kernel)) ggX6_secondPost_X6_isApplicant
set_option maxRecDepth 20000 in
theorem ggX6_secondPost_X6_second : GoodIn wsX6_secondPost wsX6_second := goodIn_r _ [13, 14, 15, 16, 17, 18, 19, 4, 20, 6, 21, 22, 23, 24, 25, 26, 27, 28, 29, 30, 31, 32, 33, 34] (by decide +kernel) (by decide +kernel)
set_option maxRecDepth 20000 in
theorem gX6_secondPost_X6_second : GoodIn wsX6_secondPost (wsV RX6 70 RX6 yX6_second wsX6_second) := goodIn_app (goodIn_of _ (by decide +kernel)) ggX6_secondPost_X6_second
theorem dX6_secondPost_0 : decode cX6_secondPost 0 = .ok (.aload_n 0, 1) := by decide +kernel
theorem dX6_secondPost_1 : decode cX6_secondPost 1 = .ok (.iload_n 1, 1) := by decide +kernel
theorem dX6_secondPost_2 : decode cX6_secondPost 2 = .ok (.invokevirtual 56, 3) := by decide +kernel
theorem dX6_secondPost_5 : decode cX6_secondPost 5 = .ok (.ifCond .eq 11, 3) := by decide +kernel
theorem dX6_secondPost_8 : decode cX6_secondPost 8 = .ok (.aload_n 0, 1) := by decide +kernel
theorem dX6_secondPost_9 : decode cX6_secondPost 9 = .ok (.iload_n 1, 1) := by decide +kernel
theorem dX6_secondPost_10 : decode cX6_secondPost 10 = .ok (.invokevirtual 70, 3) := by decide +kernel
theorem dX6_secondPost_13 : decode cX6_secondPost 13 = .ok (.goto 5, 3) := by decide +kernel
theorem dX6_secondPost_16 : decode cX6_secondPost 16 = .ok (.bipush (-101), 2) := by decide +kernel
theorem dX6_secondPost_18 : decode cX6_secondPost 18 = .ok (.ireturn, 1) := by decide +kernel
theorem dX6_edit_0 : decode cX6_edit 0 = .ok (.aload_n 0, 1) := by decide +kernel
theorem dX6_edit_1 : decode cX6_edit 1 = .ok (.getfield 45, 3) := by decide +kernel
theorem dX6_edit_4 : decode cX6_edit 4 = .ok (.iconst 5, 1) := by decide +kernel
theorem dX6_edit_5 : decode cX6_edit 5 = .ok (.if_icmp .ne 42, 3) := by decide +kernel
theorem dX6_edit_8 : decode cX6_edit 8 = .ok (.iconst 0, 1) := by decide +kernel
theorem dX6_edit_9 : decode cX6_edit 9 = .ok (.istore_n 1, 1) := by decide +kernel
theorem dX6_edit_10 : decode cX6_edit 10 = .ok (.iload_n 1, 1) := by decide +kernel
theorem dX6_edit_11 : decode cX6_edit 11 = .ok (.bipush 48, 2) := by decide +kernel
theorem dX6_edit_13 : decode cX6_edit 13 = .ok (.if_icmp .ge 24, 3) := by decide +kernel
theorem dX6_edit_16 : decode cX6_edit 16 = .ok (.aload_n 0, 1) := by decide +kernel
theorem dX6_edit_17 : decode cX6_edit 17 = .ok (.getfield 29, 3) := by decide +kernel
theorem dX6_edit_20 : decode cX6_edit 20 = .ok (.iload_n 1, 1) := by decide +kernel
theorem dX6_edit_21 : decode cX6_edit 21 = .ok (.aload_n 0, 1) := by decide +kernel
theorem dX6_edit_22 : decode cX6_edit 22 = .ok (.getfield 29, 3) := by decide +kernel
theorem dX6_edit_25 : decode cX6_edit 25 = .ok (.iload_n 1, 1) := by decide +kernel
theorem dX6_edit_26 : decode cX6_edit 26 = .ok (.bipush 12, 2) := by decide +kernel
theorem dX6_edit_28 : decode cX6_edit 28 = .ok (.iadd, 1) := by decide +kernel
theorem dX6_edit_29 : decode cX6_edit 29 = .ok (.iaload, 1) := by decide +kernel
theorem dX6_edit_30 : decode cX6_edit 30 = .ok (.iastore, 1) := by decide +kernel
theorem dX6_edit_31 : decode cX6_edit 31 = .ok (.iinc 1 1, 3) := by decide +kernel
theorem dX6_edit_34 : decode cX6_edit 34 = .ok (.goto (-24), 3) := by decide +kernel
theorem dX6_edit_37 : decode cX6_edit 37 = .ok (.aload_n 0, 1) := by decide +kernel
theorem dX6_edit_38 : decode cX6_edit 38 = .ok (.dup, 1) := by decide +kernel
theorem dX6_edit_39 : decode cX6_edit 39 = .ok (.getfield 45, 3) := by decide +kernel
theorem dX6_edit_42 : decode cX6_edit 42 = .ok (.iconst 1, 1) := by decide +kernel
theorem dX6_edit_43 : decode cX6_edit 43 = .ok (.isub, 1) := by decide +kernel
theorem dX6_edit_44 : decode cX6_edit 44 = .ok (.putfield 45, 3) := by decide +kernel
theorem dX6_edit_47 : decode cX6_edit 47 = .ok (.iconst 0, 1) := by decide +kernel
theorem dX6_edit_48 : decode cX6_edit 48 = .ok (.istore_n 1, 1) := by decide +kernel
theorem dX6_edit_49 : decode cX6_edit 49 = .ok (.iload_n 1, 1) := by decide +kernel
theorem dX6_edit_50 : decode cX6_edit 50 = .ok (.bipush 12, 2) := by decide +kernel
theorem dX6_edit_52 : decode cX6_edit 52 = .ok (.if_icmp .ge 29, 3) := by decide +kernel
theorem dX6_edit_55 : decode cX6_edit 55 = .ok (.aload_n 0, 1) := by decide +kernel
theorem dX6_edit_56 : decode cX6_edit 56 = .ok (.getfield 29, 3) := by decide +kernel
theorem dX6_edit_59 : decode cX6_edit 59 = .ok (.bipush 12, 2) := by decide +kernel
theorem dX6_edit_61 : decode cX6_edit 61 = .ok (.aload_n 0, 1) := by decide +kernel
theorem dX6_edit_62 : decode cX6_edit 62 = .ok (.getfield 45, 3) := by decide +kernel
theorem dX6_edit_65 : decode cX6_edit 65 = .ok (.imul, 1) := by decide +kernel
theorem dX6_edit_66 : decode cX6_edit 66 = .ok (.iload_n 1, 1) := by decide +kernel
theorem dX6_edit_67 : decode cX6_edit 67 = .ok (.iadd, 1) := by decide +kernel
theorem dX6_edit_68 : decode cX6_edit 68 = .ok (.aload_n 0, 1) := by decide +kernel
theorem dX6_edit_69 : decode cX6_edit 69 = .ok (.getfield 26, 3) := by decide +kernel
theorem dX6_edit_72 : decode cX6_edit 72 = .ok (.iload_n 1, 1) := by decide +kernel
theorem dX6_edit_73 : decode cX6_edit 73 = .ok (.iaload, 1) := by decide +kernel
theorem dX6_edit_74 : decode cX6_edit 74 = .ok (.iastore, 1) := by decide +kernel
theorem dX6_edit_75 : decode cX6_edit 75 = .ok (.iinc 1 1, 3) := by decide +kernel
theorem dX6_edit_78 : decode cX6_edit 78 = .ok (.goto (-29), 3) := by decide +kernel
theorem dX6_edit_81 : decode cX6_edit 81 = .ok (.aload_n 0, 1) := by decide +kernel
theorem dX6_edit_82 : decode cX6_edit 82 = .ok (.dup, 1) := by decide +kernel
theorem dX6_edit_83 : decode cX6_edit 83 = .ok (.getfield 45, 3) := by decide +kernel
theorem dX6_edit_86 : decode cX6_edit 86 = .ok (.iconst 1, 1) := by decide +kernel
theorem dX6_edit_87 : decode cX6_edit 87 = .ok (.iadd, 1) := by decide +kernel
theorem dX6_edit_88 : decode cX6_edit 88 = .ok (.putfield 45, 3) := by decide +kernel
theorem dX6_edit_91 : decode cX6_edit 91 = .ok (.return_, 1) := by decide +kernel
theorem dX6_undo_0 : decode cX6_undo 0 = .ok (.aload_n 0, 1) := by decide +kernel
theorem dX6_undo_1 : decode cX6_undo 1 = .ok (.getfield 45, 3) := by decide +kernel
theorem dX6_undo_4 : decode cX6_undo 4 = .ok (.ifCond .ne 6, 3) := by decide +kernel
theorem dX6_undo_7 : decode cX6_undo 7 = .ok (.bipush (-104), 2) := by decide +kernel
theorem dX6_undo_9 : decode cX6_undo 9 = .ok (.ireturn, 1) := by decide +kernel
theorem dX6_undo_10 : decode cX6_undo 10 = .ok (.aload_n 0, 1) := by decide +kernel
theorem dX6_undo_11 : decode cX6_undo 11 = .ok (.dup, 1) := by decide +kernel
theorem dX6_undo_12 : decode cX6_undo 12 = .ok (.getfield 45, 3) := by decide +kernel
theorem dX6_undo_15 : decode cX6_undo 15 = .ok (.iconst 1, 1) := by decide +kernel
theorem dX6_undo_16 : decode cX6_undo 16 = .ok (.isub, 1) := by decide +kernel
theorem dX6_undo_17 : decode cX6_undo 17 = .ok (.putfield 45, 3) := by decide +kernel
theorem dX6_undo_20 : decode cX6_undo 20 = .ok (.iconst 0, 1) := by decide +kernel
theorem dX6_undo_21 : decode cX6_undo 21 = .ok (.istore_n 1, 1) := by decide +kernel
theorem dX6_undo_22 : decode cX6_undo 22 = .ok (.iload_n 1, 1) := by decide +kernel
theorem dX6_undo_23 : decode cX6_undo 23 = .ok (.bipush 12, 2) := by decide +kernel
theorem dX6_undo_25 : decode cX6_undo 25 = .ok (.if_icmp .ge 29, 3) := by decide +kernel
theorem dX6_undo_28 : decode cX6_undo 28 = .ok (.aload_n 0, 1) := by decide +kernel
theorem dX6_undo_29 : decode cX6_undo 29 = .ok (.getfield 26, 3) := by decide +kernel
theorem dX6_undo_32 : decode cX6_undo 32 = .ok (.iload_n 1, 1) := by decide +kernel
theorem dX6_undo_33 : decode cX6_undo 33 = .ok (.aload_n 0, 1) := by decide +kernel
theorem dX6_undo_34 : decode cX6_undo 34 = .ok (.getfield 29, 3) := by decide +kernel
theorem dX6_undo_37 : decode cX6_undo 37 = .ok (.bipush 12, 2) := by decide +kernel
theorem dX6_undo_39 : decode cX6_undo 39 = .ok (.aload_n 0, 1) := by decide +kernel
theorem dX6_undo_40 : decode cX6_undo 40 = .ok (.getfield 45, 3) := by decide +kernel
theorem dX6_undo_43 : decode cX6_undo 43 = .ok (.imul, 1) := by decide +kernel
theorem dX6_undo_44 : decode cX6_undo 44 = .ok (.iload_n 1, 1) := by decide +kernel
theorem dX6_undo_45 : decode cX6_undo 45 = .ok (.iadd, 1) := by decide +kernel
theorem dX6_undo_46 : decode cX6_undo 46 = .ok (.iaload, 1) := by decide +kernel
theorem dX6_undo_47 : decode cX6_undo 47 = .ok (.iastore, 1) := by decide +kernel
theorem dX6_undo_48 : decode cX6_undo 48 = .ok (.iinc 1 1, 3) := by decide +kernel
theorem dX6_undo_51 : decode cX6_undo 51 = .ok (.goto (-29), 3) := by decide +kernel
theorem dX6_undo_54 : decode cX6_undo 54 = .ok (.aload_n 0, 1) := by decide +kernel
theorem dX6_undo_55 : decode cX6_undo 55 = .ok (.getfield 45, 3) := by decide +kernel
theorem dX6_undo_58 : decode cX6_undo 58 = .ok (.ireturn, 1) := by decide +kernel
set_option maxRecDepth 20000 in
theorem ggX6_assign_X6_isApplicant : GoodIn wsX6_assign wsX6_isApplicant := goodIn_r _ [9, 2, 10, 11, 8, 12, 25, 26, 27, 28, 29, 30, 31, 32, 33, 34] (by decide +kernel) (by decide +kernel)
set_option maxRecDepth 20000 in
theorem gX6_assign_X6_isApplicant : GoodIn wsX6_assign (wsV RX6 56 RX6 yX6_isApplicant wsX6_isApplicant) := goodIn_app (goodIn_of _ (by decide +kernel)) ggX6_assign_X6_isApplicant
set_option maxRecDepth 20000 in
theorem ggX6_assign_X6_in : GoodIn wsX6_assign wsX6_in := goodIn_r _ [12] (by decide +kernel) (by decide +kernel)
set_option maxRecDepth 20000 in
theorem gX6_assign_X6_in : GoodIn wsX6_assign (va_wsS RX6 48 yX6_in wsX6_in) := goodIn_app (goodIn_of _ (by decide +kernel)) ggX6_assign_X6_in
set_option maxRecDepth 20000 in
theorem ggX6_assign_X6_rank : GoodIn wsX6_assign wsX6_rank := goodIn_r _ [16, 17, 18, 25, 26, 27, 28, 29, 30, 31, 32, 33, 34] (by decide +kernel) (by decide +kernel)
set_option maxRecDepth 20000 in
theorem gX6_assign_X6_rank : GoodIn wsX6_assign (wsV RX6 59 RX6 yX6_rank wsX6_rank) := goodIn_app (goodIn_of _ (by decide +kernel)) ggX6_assign_X6_rank
set_option maxRecDepth 20000 in
theorem ggX6_assign_X6_edit : GoodIn wsX6_assign wsX6_edit := goodIn_r _ [22, 23, 24, 3, 25, 26, 27, 28, 29, 30, 31, 32, 33, 34] (by decide +kernel) (by decide +kernel)
set_option maxRecDepth 20000 in
theorem gX6_assign_X6_edit : GoodIn wsX6_assign (wsV RX6 73 RX6 yX6_edit wsX6_edit) := goodIn_app (goodIn_of _ (by decide +kernel)) ggX6_assign_X6_edit
theorem dX6_assign_0 : decode cX6_assign 0 = .ok (.aload_n 0, 1) := by decide +kernel
theorem dX6_assign_1 : decode cX6_assign 1 = .ok (.iload_n 1, 1) := by decide +kernel
theorem dX6_assign_2 : decode cX6_assign 2 = .ok (.invokevirtual 56, 3) := by decide +kernel
theorem dX6_assign_5 : decode cX6_assign 5 = .ok (.ifCond .eq 17, 3) := by decide +kernel
theorem dX6_assign_8 : decode cX6_assign 8 = .ok (.iload_n 2, 1) := by decide +kernel
theorem dX6_assign_9 : decode cX6_assign 9 = .ok (.iconst (-1), 1) := by decide +kernel
theorem dX6_assign_10 : decode cX6_assign 10 = .ok (.aload_n 0, 1) := by decide +kernel
theorem dX6_assign_11 : decode cX6_assign 11 = .ok (.getfield 13, 3) := by decide +kernel
theorem dX6_assign_14 : decode cX6_assign 14 = .ok (.iconst 1, 1) := by decide +kernel
theorem dX6_assign_15 : decode cX6_assign 15 = .ok (.isub, 1) := by decide +kernel
theorem dX6_assign_16 : decode cX6_assign 16 = .ok (.invokestatic 48, 3) := by decide +kernel
theorem dX6_assign_19 : decode cX6_assign 19 = .ok (.ifCond .ne 6, 3) := by decide +kernel
theorem dX6_assign_22 : decode cX6_assign 22 = .ok (.bipush (-101), 2) := by decide +kernel
theorem dX6_assign_24 : decode cX6_assign 24 = .ok (.ireturn, 1) := by decide +kernel
theorem dX6_assign_25 : decode cX6_assign 25 = .ok (.iload_n 2, 1) := by decide +kernel
theorem dX6_assign_26 : decode cX6_assign 26 = .ok (.ifCond .lt 17, 3) := by decide +kernel
theorem dX6_assign_29 : decode cX6_assign 29 = .ok (.aload_n 0, 1) := by decide +kernel
theorem dX6_assign_30 : decode cX6_assign 30 = .ok (.iload_n 1, 1) := by decide +kernel
theorem dX6_assign_31 : decode cX6_assign 31 = .ok (.iload_n 2, 1) := by decide +kernel
theorem dX6_assign_32 : decode cX6_assign 32 = .ok (.invokevirtual 59, 3) := by decide +kernel
theorem dX6_assign_35 : decode cX6_assign 35 = .ok (.bipush 9, 2) := by decide +kernel
theorem dX6_assign_37 : decode cX6_assign 37 = .ok (.if_icmp .ne 6, 3) := by decide +kernel
theorem dX6_assign_40 : decode cX6_assign 40 = .ok (.bipush (-102), 2) := by decide +kernel
theorem dX6_assign_42 : decode cX6_assign 42 = .ok (.ireturn, 1) := by decide +kernel
theorem dX6_assign_43 : decode cX6_assign 43 = .ok (.iconst 0, 1) := by decide +kernel
theorem dX6_assign_44 : decode cX6_assign 44 = .ok (.istore_n 3, 1) := by decide +kernel
theorem dX6_assign_45 : decode cX6_assign 45 = .ok (.iconst 0, 1) := by decide +kernel
theorem dX6_assign_46 : decode cX6_assign 46 = .ok (.istore 4, 2) := by decide +kernel
theorem dX6_assign_48 : decode cX6_assign 48 = .ok (.iload 4, 2) := by decide +kernel
theorem dX6_assign_50 : decode cX6_assign 50 = .ok (.aload_n 0, 1) := by decide +kernel
theorem dX6_assign_51 : decode cX6_assign 51 = .ok (.getfield 7, 3) := by decide +kernel
theorem dX6_assign_54 : decode cX6_assign 54 = .ok (.if_icmp .ge 34, 3) := by decide +kernel
theorem dX6_assign_57 : decode cX6_assign 57 = .ok (.iload_n 3, 1) := by decide +kernel
theorem dX6_assign_58 : decode cX6_assign 58 = .ok (.iload 4, 2) := by decide +kernel
theorem dX6_assign_60 : decode cX6_assign 60 = .ok (.iload_n 1, 1) := by decide +kernel
theorem dX6_assign_61 : decode cX6_assign 61 = .ok (.if_icmp .eq 18, 3) := by decide +kernel
theorem dX6_assign_64 : decode cX6_assign 64 = .ok (.aload_n 0, 1) := by decide +kernel
theorem dX6_assign_65 : decode cX6_assign 65 = .ok (.getfield 26, 3) := by decide +kernel
theorem dX6_assign_68 : decode cX6_assign 68 = .ok (.iload 4, 2) := by decide +kernel
theorem dX6_assign_70 : decode cX6_assign 70 = .ok (.iaload, 1) := by decide +kernel
theorem dX6_assign_71 : decode cX6_assign 71 = .ok (.iload_n 2, 1) := by decide +kernel
theorem dX6_assign_72 : decode cX6_assign 72 = .ok (.if_icmp .ne 7, 3) := by decide +kernel
theorem dX6_assign_75 : decode cX6_assign 75 = .ok (.iconst 1, 1) := by decide +kernel
theorem dX6_assign_76 : decode cX6_assign 76 = .ok (.goto 4, 3) := by decide +kernel
theorem dX6_assign_79 : decode cX6_assign 79 = .ok (.iconst 0, 1) := by decide +kernel
theorem dX6_assign_80 : decode cX6_assign 80 = .ok (.iadd, 1) := by decide +kernel
theorem dX6_assign_81 : decode cX6_assign 81 = .ok (.istore_n 3, 1) := by decide +kernel
theorem dX6_assign_82 : decode cX6_assign 82 = .ok (.iinc 4 1, 3) := by decide +kernel
theorem dX6_assign_85 : decode cX6_assign 85 = .ok (.goto (-37), 3) := by decide +kernel
theorem dX6_assign_88 : decode cX6_assign 88 = .ok (.iload_n 2, 1) := by decide +kernel
theorem dX6_assign_89 : decode cX6_assign 89 = .ok (.ifCond .lt 16, 3) := by decide +kernel
theorem dX6_assign_92 : decode cX6_assign 92 = .ok (.iload_n 3, 1) := by decide +kernel
theorem dX6_assign_93 : decode cX6_assign 93 = .ok (.aload_n 0, 1) := by decide +kernel
theorem dX6_assign_94 : decode cX6_assign 94 = .ok (.getfield 16, 3) := by decide +kernel
theorem dX6_assign_97 : decode cX6_assign 97 = .ok (.iload_n 2, 1) := by decide +kernel
theorem dX6_assign_98 : decode cX6_assign 98 = .ok (.iaload, 1) := by decide +kernel
theorem dX6_assign_99 : decode cX6_assign 99 = .ok (.if_icmp .lt 6, 3) := by decide +kernel
theorem dX6_assign_102 : decode cX6_assign 102 = .ok (.bipush (-103), 2) := by decide +kernel
theorem dX6_assign_104 : decode cX6_assign 104 = .ok (.ireturn, 1) := by decide +kernel
theorem dX6_assign_105 : decode cX6_assign 105 = .ok (.aload_n 0, 1) := by decide +kernel
theorem dX6_assign_106 : decode cX6_assign 106 = .ok (.invokevirtual 73, 3) := by decide +kernel
theorem dX6_assign_109 : decode cX6_assign 109 = .ok (.aload_n 0, 1) := by decide +kernel
theorem dX6_assign_110 : decode cX6_assign 110 = .ok (.getfield 26, 3) := by decide +kernel
theorem dX6_assign_113 : decode cX6_assign 113 = .ok (.iload_n 1, 1) := by decide +kernel
theorem dX6_assign_114 : decode cX6_assign 114 = .ok (.iaload, 1) := by decide +kernel
theorem dX6_assign_115 : decode cX6_assign 115 = .ok (.istore 4, 2) := by decide +kernel
theorem dX6_assign_117 : decode cX6_assign 117 = .ok (.aload_n 0, 1) := by decide +kernel
theorem dX6_assign_118 : decode cX6_assign 118 = .ok (.getfield 26, 3) := by decide +kernel
theorem dX6_assign_121 : decode cX6_assign 121 = .ok (.iload_n 1, 1) := by decide +kernel
theorem dX6_assign_122 : decode cX6_assign 122 = .ok (.iload_n 2, 1) := by decide +kernel
theorem dX6_assign_123 : decode cX6_assign 123 = .ok (.iastore, 1) := by decide +kernel
theorem dX6_assign_124 : decode cX6_assign 124 = .ok (.iload 4, 2) := by decide +kernel
theorem dX6_assign_126 : decode cX6_assign 126 = .ok (.ireturn, 1) := by decide +kernel
set_option maxRecDepth 20000 in
theorem ggX6_postOf_X6_isApplicant : GoodIn wsX6_postOf wsX6_isApplicant := goodIn_r _ [6, 7, 8, 9, 5, 10, 11, 12, 13, 14, 15, 16, 17, 18, 19, 20] (by decide +kernel) (by decide +kernel)
set_option maxRecDepth 20000 in
theorem gX6_postOf_X6_isApplicant : GoodIn wsX6_postOf (wsV RX6 56 RX6 yX6_isApplicant wsX6_isApplicant) := goodIn_app (goodIn_of _ (by decide +kernel)) ggX6_postOf_X6_isApplicant
theorem dX6_postOf_0 : decode cX6_postOf 0 = .ok (.aload_n 0, 1) := by decide +kernel
theorem dX6_postOf_1 : decode cX6_postOf 1 = .ok (.iload_n 1, 1) := by decide +kernel
theorem dX6_postOf_2 : decode cX6_postOf 2 = .ok (.invokevirtual 56, 3) := by decide +kernel
theorem dX6_postOf_5 : decode cX6_postOf 5 = .ok (.ifCond .eq 12, 3) := by decide +kernel
theorem dX6_postOf_8 : decode cX6_postOf 8 = .ok (.aload_n 0, 1) := by decide +kernel
theorem dX6_postOf_9 : decode cX6_postOf 9 = .ok (.getfield 26, 3) := by decide +kernel
theorem dX6_postOf_12 : decode cX6_postOf 12 = .ok (.iload_n 1, 1) := by decide +kernel
theorem dX6_postOf_13 : decode cX6_postOf 13 = .ok (.iaload, 1) := by decide +kernel
theorem dX6_postOf_14 : decode cX6_postOf 14 = .ok (.goto 5, 3) := by decide +kernel
theorem dX6_postOf_17 : decode cX6_postOf 17 = .ok (.bipush (-101), 2) := by decide +kernel
theorem dX6_postOf_19 : decode cX6_postOf 19 = .ok (.ireturn, 1) := by decide +kernel
theorem dX6_size_0 : decode cX6_size 0 = .ok (.iconst 0, 1) := by decide +kernel
theorem dX6_size_1 : decode cX6_size 1 = .ok (.istore_n 1, 1) := by decide +kernel
theorem dX6_size_2 : decode cX6_size 2 = .ok (.iconst 0, 1) := by decide +kernel
theorem dX6_size_3 : decode cX6_size 3 = .ok (.istore_n 2, 1) := by decide +kernel
theorem dX6_size_4 : decode cX6_size 4 = .ok (.iload_n 2, 1) := by decide +kernel
theorem dX6_size_5 : decode cX6_size 5 = .ok (.aload_n 0, 1) := by decide +kernel
theorem dX6_size_6 : decode cX6_size 6 = .ok (.getfield 7, 3) := by decide +kernel
theorem dX6_size_9 : decode cX6_size 9 = .ok (.if_icmp .ge 26, 3) := by decide +kernel
theorem dX6_size_12 : decode cX6_size 12 = .ok (.iload_n 1, 1) := by decide +kernel
theorem dX6_size_13 : decode cX6_size 13 = .ok (.aload_n 0, 1) := by decide +kernel
theorem dX6_size_14 : decode cX6_size 14 = .ok (.getfield 26, 3) := by decide +kernel
theorem dX6_size_17 : decode cX6_size 17 = .ok (.iload_n 2, 1) := by decide +kernel
theorem dX6_size_18 : decode cX6_size 18 = .ok (.iaload, 1) := by decide +kernel
theorem dX6_size_19 : decode cX6_size 19 = .ok (.ifCond .lt 7, 3) := by decide +kernel
theorem dX6_size_22 : decode cX6_size 22 = .ok (.iconst 1, 1) := by decide +kernel
theorem dX6_size_23 : decode cX6_size 23 = .ok (.goto 4, 3) := by decide +kernel
theorem dX6_size_26 : decode cX6_size 26 = .ok (.iconst 0, 1) := by decide +kernel
theorem dX6_size_27 : decode cX6_size 27 = .ok (.iadd, 1) := by decide +kernel
theorem dX6_size_28 : decode cX6_size 28 = .ok (.istore_n 1, 1) := by decide +kernel
theorem dX6_size_29 : decode cX6_size 29 = .ok (.iinc 2 1, 3) := by decide +kernel
theorem dX6_size_32 : decode cX6_size 32 = .ok (.goto (-28), 3) := by decide +kernel
theorem dX6_size_35 : decode cX6_size 35 = .ok (.iload_n 1, 1) := by decide +kernel
theorem dX6_size_36 : decode cX6_size 36 = .ok (.ireturn, 1) := by decide +kernel
set_option maxRecDepth 20000 in
theorem ggX6_vote_X6_rank : GoodIn wsX6_vote wsX6_rank := goodIn_r _ [5, 6, 7, 8, 9, 10, 11, 12, 13, 14, 15, 16, 17] (by decide +kernel) (by decide +kernel)
set_option maxRecDepth 20000 in
theorem gX6_vote_X6_rank : GoodIn wsX6_vote (wsV RX6 59 RX6 yX6_rank wsX6_rank) := goodIn_app (goodIn_of _ (by decide +kernel)) ggX6_vote_X6_rank
theorem dX6_vote_0 : decode cX6_vote 0 = .ok (.aload_n 0, 1) := by decide +kernel
theorem dX6_vote_1 : decode cX6_vote 1 = .ok (.iload_n 1, 1) := by decide +kernel
theorem dX6_vote_2 : decode cX6_vote 2 = .ok (.iload_n 2, 1) := by decide +kernel
theorem dX6_vote_3 : decode cX6_vote 3 = .ok (.invokevirtual 59, 3) := by decide +kernel
theorem dX6_vote_6 : decode cX6_vote 6 = .ok (.istore 4, 2) := by decide +kernel
theorem dX6_vote_8 : decode cX6_vote 8 = .ok (.aload_n 0, 1) := by decide +kernel
theorem dX6_vote_9 : decode cX6_vote 9 = .ok (.iload_n 1, 1) := by decide +kernel
theorem dX6_vote_10 : decode cX6_vote 10 = .ok (.iload_n 3, 1) := by decide +kernel
theorem dX6_vote_11 : decode cX6_vote 11 = .ok (.invokevirtual 59, 3) := by decide +kernel
theorem dX6_vote_14 : decode cX6_vote 14 = .ok (.istore 5, 2) := by decide +kernel
theorem dX6_vote_16 : decode cX6_vote 16 = .ok (.iload 4, 2) := by decide +kernel
theorem dX6_vote_18 : decode cX6_vote 18 = .ok (.iload 5, 2) := by decide +kernel
theorem dX6_vote_20 : decode cX6_vote 20 = .ok (.if_icmp .ge 7, 3) := by decide +kernel
theorem dX6_vote_23 : decode cX6_vote 23 = .ok (.iconst 1, 1) := by decide +kernel
theorem dX6_vote_24 : decode cX6_vote 24 = .ok (.goto 15, 3) := by decide +kernel
theorem dX6_vote_27 : decode cX6_vote 27 = .ok (.iload 4, 2) := by decide +kernel
theorem dX6_vote_29 : decode cX6_vote 29 = .ok (.iload 5, 2) := by decide +kernel
theorem dX6_vote_31 : decode cX6_vote 31 = .ok (.if_icmp .le 7, 3) := by decide +kernel
theorem dX6_vote_34 : decode cX6_vote 34 = .ok (.iconst (-1), 1) := by decide +kernel
theorem dX6_vote_35 : decode cX6_vote 35 = .ok (.goto 4, 3) := by decide +kernel
theorem dX6_vote_38 : decode cX6_vote 38 = .ok (.iconst 0, 1) := by decide +kernel
theorem dX6_vote_39 : decode cX6_vote 39 = .ok (.ireturn, 1) := by decide +kernel
theorem dX6_digit_0 : decode cX6_digit 0 = .ok (.iload_n 0, 1) := by decide +kernel
theorem dX6_digit_1 : decode cX6_digit 1 = .ok (.istore_n 2, 1) := by decide +kernel
theorem dX6_digit_2 : decode cX6_digit 2 = .ok (.iconst 0, 1) := by decide +kernel
theorem dX6_digit_3 : decode cX6_digit 3 = .ok (.istore_n 3, 1) := by decide +kernel
theorem dX6_digit_4 : decode cX6_digit 4 = .ok (.iload_n 3, 1) := by decide +kernel
theorem dX6_digit_5 : decode cX6_digit 5 = .ok (.iload_n 1, 1) := by decide +kernel
theorem dX6_digit_6 : decode cX6_digit 6 = .ok (.if_icmp .ge 13, 3) := by decide +kernel
theorem dX6_digit_9 : decode cX6_digit 9 = .ok (.iload_n 2, 1) := by decide +kernel
theorem dX6_digit_10 : decode cX6_digit 10 = .ok (.iconst 3, 1) := by decide +kernel
theorem dX6_digit_11 : decode cX6_digit 11 = .ok (.idiv, 1) := by decide +kernel
theorem dX6_digit_12 : decode cX6_digit 12 = .ok (.istore_n 2, 1) := by decide +kernel
theorem dX6_digit_13 : decode cX6_digit 13 = .ok (.iinc 3 1, 3) := by decide +kernel
theorem dX6_digit_16 : decode cX6_digit 16 = .ok (.goto (-12), 3) := by decide +kernel
theorem dX6_digit_19 : decode cX6_digit 19 = .ok (.iload_n 2, 1) := by decide +kernel
theorem dX6_digit_20 : decode cX6_digit 20 = .ok (.iconst 3, 1) := by decide +kernel
theorem dX6_digit_21 : decode cX6_digit 21 = .ok (.irem, 1) := by decide +kernel
theorem dX6_digit_22 : decode cX6_digit 22 = .ok (.ireturn, 1) := by decide +kernel
theorem dX6_power_0 : decode cX6_power 0 = .ok (.iconst 1, 1) := by decide +kernel
theorem dX6_power_1 : decode cX6_power 1 = .ok (.istore_n 1, 1) := by decide +kernel
theorem dX6_power_2 : decode cX6_power 2 = .ok (.iconst 0, 1) := by decide +kernel
theorem dX6_power_3 : decode cX6_power 3 = .ok (.istore_n 2, 1) := by decide +kernel
theorem dX6_power_4 : decode cX6_power 4 = .ok (.iload_n 2, 1) := by decide +kernel
theorem dX6_power_5 : decode cX6_power 5 = .ok (.iload_n 0, 1) := by decide +kernel
theorem dX6_power_6 : decode cX6_power 6 = .ok (.if_icmp .ge 13, 3) := by decide +kernel
theorem dX6_power_9 : decode cX6_power 9 = .ok (.iload_n 1, 1) := by decide +kernel
theorem dX6_power_10 : decode cX6_power 10 = .ok (.iconst 3, 1) := by decide +kernel
theorem dX6_power_11 : decode cX6_power 11 = .ok (.imul, 1) := by decide +kernel
theorem dX6_power_12 : decode cX6_power 12 = .ok (.istore_n 1, 1) := by decide +kernel
theorem dX6_power_13 : decode cX6_power 13 = .ok (.iinc 2 1, 3) := by decide +kernel
theorem dX6_power_16 : decode cX6_power 16 = .ok (.goto (-12), 3) := by decide +kernel
theorem dX6_power_19 : decode cX6_power 19 = .ok (.iload_n 1, 1) := by decide +kernel
theorem dX6_power_20 : decode cX6_power 20 = .ok (.ireturn, 1) := by decide +kernel
set_option maxRecDepth 20000 in
theorem ggX6_gives_X6_vote : GoodIn wsX6_gives wsX6_vote := goodIn_r _ [8, 9, 10, 11, 7, 12, 13, 14, 21, 22, 23, 24, 25, 26, 27, 28, 29, 30] (by decide +kernel) (by decide +kernel)
set_option maxRecDepth 20000 in
theorem gX6_gives_X6_vote : GoodIn wsX6_gives (wsV RX6 76 RX6 yX6_vote wsX6_vote) := goodIn_app (goodIn_of _ (by decide +kernel)) ggX6_gives_X6_vote
set_option maxRecDepth 20000 in
theorem ggX6_gives_X6_rank : GoodIn wsX6_gives wsX6_rank := goodIn_r _ [12, 13, 14, 21, 22, 23, 24, 25, 26, 27, 28, 29, 30] (by decide +kernel) (by decide +kernel)
set_option maxRecDepth 20000 in
theorem gX6_gives_X6_rank : GoodIn wsX6_gives (wsV RX6 59 RX6 yX6_rank wsX6_rank) := goodIn_app (goodIn_of _ (by decide +kernel)) ggX6_gives_X6_rank
set_option maxRecDepth 20000 in
theorem ggX6_gives_X6_digit : GoodIn wsX6_gives wsX6_digit := goodIn_r _ [17] (by decide +kernel) (by decide +kernel)
set_option maxRecDepth 20000 in
theorem gX6_gives_X6_digit : GoodIn wsX6_gives (va_wsS RX6 80 yX6_digit wsX6_digit) := goodIn_app (goodIn_of _ (by decide +kernel)) ggX6_gives_X6_digit
set_option maxRecDepth 20000 in
theorem ggX6_gives_X6_power : GoodIn wsX6_gives wsX6_power := goodIn_r _ [20] (by decide +kernel) (by decide +kernel)
set_option maxRecDepth 20000 in
theorem gX6_gives_X6_power : GoodIn wsX6_gives (va_wsS RX6 83 yX6_power wsX6_power) := goodIn_app (goodIn_of _ (by decide +kernel)) ggX6_gives_X6_power
