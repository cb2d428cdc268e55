theorem dX5_init_0 : decode cX5_init 0 = .ok (.aload_n 0, 1) := by decide +kernel
theorem dX5_init_1 : decode cX5_init 1 = .ok (.invokespecial 1, 3) := by decide +kernel
theorem dX5_init_4 : decode cX5_init 4 = .ok (.aload_n 0, 1) := by decide +kernel
theorem dX5_init_5 : decode cX5_init 5 = .ok (.new 7, 3) := by decide +kernel
theorem dX5_init_8 : decode cX5_init 8 = .ok (.dup, 1) := by decide +kernel
theorem dX5_init_9 : decode cX5_init 9 = .ok (.invokespecial 9, 3) := by decide +kernel
theorem dX5_init_12 : decode cX5_init 12 = .ok (.putfield 10, 3) := by decide +kernel
theorem dX5_init_15 : decode cX5_init 15 = .ok (.aload_n 0, 1) := by decide +kernel
theorem dX5_init_16 : decode cX5_init 16 = .ok (.new 16, 3) := by decide +kernel
theorem dX5_init_19 : decode cX5_init 19 = .ok (.dup, 1) := by decide +kernel
theorem dX5_init_20 : decode cX5_init 20 = .ok (.invokespecial 18, 3) := by decide +kernel
theorem dX5_init_23 : decode cX5_init 23 = .ok (.putfield 19, 3) := by decide +kernel
theorem dX5_init_26 : decode cX5_init 26 = .ok (.aload_n 0, 1) := by decide +kernel
theorem dX5_init_27 : decode cX5_init 27 = .ok (.new 16, 3) := by decide +kernel
theorem dX5_init_30 : decode cX5_init 30 = .ok (.dup, 1) := by decide +kernel
theorem dX5_init_31 : decode cX5_init 31 = .ok (.invokespecial 18, 3) := by decide +kernel
theorem dX5_init_34 : decode cX5_init 34 = .ok (.putfield 23, 3) := by decide +kernel
theorem dX5_init_37 : decode cX5_init 37 = .ok (.aload_n 0, 1) := by decide +kernel
theorem dX5_init_38 : decode cX5_init 38 = .ok (.new 16, 3) := by decide +kernel
theorem dX5_init_41 : decode cX5_init 41 = .ok (.dup, 1) := by decide +kernel
theorem dX5_init_42 : decode cX5_init 42 = .ok (.invokespecial 18, 3) := by decide +kernel
theorem dX5_init_45 : decode cX5_init 45 = .ok (.putfield 26, 3) := by decide +kernel
theorem dX5_init_48 : decode cX5_init 48 = .ok (.aload_n 0, 1) := by decide +kernel
theorem dX5_init_49 : decode cX5_init 49 = .ok (.new 29, 3) := by decide +kernel
theorem dX5_init_52 : decode cX5_init 52 = .ok (.dup, 1) := by decide +kernel
theorem dX5_init_53 : decode cX5_init 53 = .ok (.invokespecial 31, 3) := by decide +kernel
theorem dX5_init_56 : decode cX5_init 56 = .ok (.putfield 32, 3) := by decide +kernel
theorem dX5_init_59 : decode cX5_init 59 = .ok (.aload_n 0, 1) := by decide +kernel
theorem dX5_init_60 : decode cX5_init 60 = .ok (.new 36, 3) := by decide +kernel
theorem dX5_init_63 : decode cX5_init 63 = .ok (.dup, 1) := by decide +kernel
theorem dX5_init_64 : decode cX5_init 64 = .ok (.invokespecial 38, 3) := by decide +kernel
theorem dX5_init_67 : decode cX5_init 67 = .ok (.putfield 39, 3) := by decide +kernel
theorem dX5_init_70 : decode cX5_init 70 = .ok (.aload_n 0, 1) := by decide +kernel
theorem dX5_init_71 : decode cX5_init 71 = .ok (.new 43, 3) := by decide +kernel
theorem dX5_init_74 : decode cX5_init 74 = .ok (.dup, 1) := by decide +kernel
theorem dX5_init_75 : decode cX5_init 75 = .ok (.invokespecial 45, 3) := by decide +kernel
theorem dX5_init_78 : decode cX5_init 78 = .ok (.putfield 46, 3) := by decide +kernel
theorem dX5_init_81 : decode cX5_init 81 = .ok (.return_, 1) := by decide +kernel
set_option maxRecDepth 20000 in
theorem ggX5_reset_X2_startAnew : GoodIn wsX5_reset wsX2_startAnew := goodIn_r _ [7, 8, 9, 10, 11, 39, 40, 41, 42, 43] (by decide +kernel) (by decide +kernel)
set_option maxRecDepth 20000 in
theorem gX5_reset_X2_startAnew : GoodIn wsX5_reset (wsV RX5 54 RX2 yX2_startAnew wsX2_startAnew) := goodIn_app (goodIn_of _ (by decide +kernel)) ggX5_reset_X2_startAnew
set_option maxRecDepth 20000 in
theorem ggX5_reset_X5_forgetMatchings : GoodIn wsX5_reset wsX5_forgetMatchings := goodIn_r _ [16, 17, 18, 19, 20, 21, 22, 23, 24, 25, 26, 27, 28, 29, 30, 31, 32, 33, 34, 35, 36, 37, 38, 44, 45, 46, 47] (by decide +kernel) (by decide +kernel)
set_option maxRecDepth 20000 in
theorem gX5_reset_X5_forgetMatchings : GoodIn wsX5_reset (wsV RX5 58 RX5 yX5_forgetMatchings wsX5_forgetMatchings) := goodIn_app (goodIn_of _ (by decide +kernel)) ggX5_reset_X5_forgetMatchings
theorem dX5_reset_0 : decode cX5_reset 0 = .ok (.iload_n 1, 1) := by decide +kernel
theorem dX5_reset_1 : decode cX5_reset 1 = .ok (.iconst 1, 1) := by decide +kernel
theorem dX5_reset_2 : decode cX5_reset 2 = .ok (.if_icmp .lt 23, 3) := by decide +kernel
theorem dX5_reset_5 : decode cX5_reset 5 = .ok (.iload_n 1, 1) := by decide +kernel
theorem dX5_reset_6 : decode cX5_reset 6 = .ok (.bipush 6, 2) := by decide +kernel
theorem dX5_reset_8 : decode cX5_reset 8 = .ok (.if_icmp .gt 17, 3) := by decide +kernel
theorem dX5_reset_11 : decode cX5_reset 11 = .ok (.iload_n 2, 1) := by decide +kernel
theorem dX5_reset_12 : decode cX5_reset 12 = .ok (.iconst 1, 1) := by decide +kernel
theorem dX5_reset_13 : decode cX5_reset 13 = .ok (.if_icmp .lt 12, 3) := by decide +kernel
theorem dX5_reset_16 : decode cX5_reset 16 = .ok (.iload_n 2, 1) := by decide +kernel
theorem dX5_reset_17 : decode cX5_reset 17 = .ok (.iconst 5, 1) := by decide +kernel
theorem dX5_reset_18 : decode cX5_reset 18 = .ok (.if_icmp .gt 7, 3) := by decide +kernel
theorem dX5_reset_21 : decode cX5_reset 21 = .ok (.iconst 1, 1) := by decide +kernel
theorem dX5_reset_22 : decode cX5_reset 22 = .ok (.goto 4, 3) := by decide +kernel
theorem dX5_reset_25 : decode cX5_reset 25 = .ok (.iconst 0, 1) := by decide +kernel
theorem dX5_reset_26 : decode cX5_reset 26 = .ok (.istore_n 3, 1) := by decide +kernel
theorem dX5_reset_27 : decode cX5_reset 27 = .ok (.iload_n 3, 1) := by decide +kernel
theorem dX5_reset_28 : decode cX5_reset 28 = .ok (.ifCond .ne 6, 3) := by decide +kernel
theorem dX5_reset_31 : decode cX5_reset 31 = .ok (.bipush (-101), 2) := by decide +kernel
theorem dX5_reset_33 : decode cX5_reset 33 = .ok (.ireturn, 1) := by decide +kernel
theorem dX5_reset_34 : decode cX5_reset 34 = .ok (.aload_n 0, 1) := by decide +kernel
theorem dX5_reset_35 : decode cX5_reset 35 = .ok (.getfield 10, 3) := by decide +kernel
theorem dX5_reset_38 : decode cX5_reset 38 = .ok (.getfield 50, 3) := by decide +kernel
theorem dX5_reset_41 : decode cX5_reset 41 = .ok (.istore 4, 2) := by decide +kernel
theorem dX5_reset_43 : decode cX5_reset 43 = .ok (.aload_n 0, 1) := by decide +kernel
theorem dX5_reset_44 : decode cX5_reset 44 = .ok (.getfield 10, 3) := by decide +kernel
theorem dX5_reset_47 : decode cX5_reset 47 = .ok (.iload_n 1, 1) := by decide +kernel
theorem dX5_reset_48 : decode cX5_reset 48 = .ok (.iload_n 2, 1) := by decide +kernel
theorem dX5_reset_49 : decode cX5_reset 49 = .ok (.invokevirtual 54, 3) := by decide +kernel
theorem dX5_reset_52 : decode cX5_reset 52 = .ok (.aload_n 0, 1) := by decide +kernel
theorem dX5_reset_53 : decode cX5_reset 53 = .ok (.invokevirtual 58, 3) := by decide +kernel
theorem dX5_reset_56 : decode cX5_reset 56 = .ok (.iload 4, 2) := by decide +kernel
theorem dX5_reset_58 : decode cX5_reset 58 = .ok (.ireturn, 1) := by decide +kernel
set_option maxRecDepth 20000 in
theorem ggX5_setCapacity_X2_isPost : GoodIn wsX5_setCapacity wsX2_isPost := goodIn_r _ [7, 8, 36, 37, 38, 39, 40] (by decide +kernel) (by decide +kernel)
set_option maxRecDepth 20000 in
theorem gX5_setCapacity_X2_isPost : GoodIn wsX5_setCapacity (wsV RX5 61 RX2 yX2_isPost wsX2_isPost) := goodIn_app (goodIn_of _ (by decide +kernel)) ggX5_setCapacity_X2_isPost
set_option maxRecDepth 20000 in
theorem ggX5_setCapacity_X5_forgetMatchings : GoodIn wsX5_setCapacity wsX5_forgetMatchings := goodIn_r _ [13, 14, 15, 16, 17, 18, 19, 20, 21, 22, 23, 24, 25, 26, 27, 28, 29, 30, 31, 32, 33, 34, 35, 41, 42, 43, 44] (by decide +kernel) (by decide +kernel)
set_option maxRecDepth 20000 in
theorem gX5_setCapacity_X5_forgetMatchings : GoodIn wsX5_setCapacity (wsV RX5 58 RX5 yX5_forgetMatchings wsX5_forgetMatchings) := goodIn_app (goodIn_of _ (by decide +kernel)) ggX5_setCapacity_X5_forgetMatchings
theorem dX5_setCapacity_0 : decode cX5_setCapacity 0 = .ok (.aload_n 0, 1) := by decide +kernel
theorem dX5_setCapacity_1 : decode cX5_setCapacity 1 = .ok (.getfield 10, 3) := by decide +kernel
theorem dX5_setCapacity_4 : decode cX5_setCapacity 4 = .ok (.iload_n 1, 1) := by decide +kernel
theorem dX5_setCapacity_5 : decode cX5_setCapacity 5 = .ok (.invokevirtual 61, 3) := by decide +kernel
theorem dX5_setCapacity_8 : decode cX5_setCapacity 8 = .ok (.ifCond .eq 13, 3) := by decide +kernel
theorem dX5_setCapacity_11 : decode cX5_setCapacity 11 = .ok (.iload_n 2, 1) := by decide +kernel
theorem dX5_setCapacity_12 : decode cX5_setCapacity 12 = .ok (.iconst 1, 1) := by decide +kernel
theorem dX5_setCapacity_13 : decode cX5_setCapacity 13 = .ok (.if_icmp .lt 8, 3) := by decide +kernel
theorem dX5_setCapacity_16 : decode cX5_setCapacity 16 = .ok (.iload_n 2, 1) := by decide +kernel
theorem dX5_setCapacity_17 : decode cX5_setCapacity 17 = .ok (.iconst 2, 1) := by decide +kernel
theorem dX5_setCapacity_18 : decode cX5_setCapacity 18 = .ok (.if_icmp .le 6, 3) := by decide +kernel
theorem dX5_setCapacity_21 : decode cX5_setCapacity 21 = .ok (.bipush (-101), 2) := by decide +kernel
theorem dX5_setCapacity_23 : decode cX5_setCapacity 23 = .ok (.ireturn, 1) := by decide +kernel
theorem dX5_setCapacity_24 : decode cX5_setCapacity 24 = .ok (.aload_n 0, 1) := by decide +kernel
theorem dX5_setCapacity_25 : decode cX5_setCapacity 25 = .ok (.getfield 10, 3) := by decide +kernel
theorem dX5_setCapacity_28 : decode cX5_setCapacity 28 = .ok (.getfield 65, 3) := by decide +kernel
theorem dX5_setCapacity_31 : decode cX5_setCapacity 31 = .ok (.iload_n 1, 1) := by decide +kernel
theorem dX5_setCapacity_32 : decode cX5_setCapacity 32 = .ok (.iaload, 1) := by decide +kernel
theorem dX5_setCapacity_33 : decode cX5_setCapacity 33 = .ok (.istore_n 3, 1) := by decide +kernel
theorem dX5_setCapacity_34 : decode cX5_setCapacity 34 = .ok (.aload_n 0, 1) := by decide +kernel
theorem dX5_setCapacity_35 : decode cX5_setCapacity 35 = .ok (.getfield 10, 3) := by decide +kernel
theorem dX5_setCapacity_38 : decode cX5_setCapacity 38 = .ok (.getfield 65, 3) := by decide +kernel
theorem dX5_setCapacity_41 : decode cX5_setCapacity 41 = .ok (.iload_n 1, 1) := by decide +kernel
theorem dX5_setCapacity_42 : decode cX5_setCapacity 42 = .ok (.iload_n 2, 1) := by decide +kernel
theorem dX5_setCapacity_43 : decode cX5_setCapacity 43 = .ok (.iastore, 1) := by decide +kernel
theorem dX5_setCapacity_44 : decode cX5_setCapacity 44 = .ok (.aload_n 0, 1) := by decide +kernel
theorem dX5_setCapacity_45 : decode cX5_setCapacity 45 = .ok (.invokevirtual 58, 3) := by decide +kernel
theorem dX5_setCapacity_48 : decode cX5_setCapacity 48 = .ok (.iload_n 3, 1) := by decide +kernel
theorem dX5_setCapacity_49 : decode cX5_setCapacity 49 = .ok (.ireturn, 1) := by decide +kernel
set_option maxRecDepth 20000 in
theorem ggX5_appendPreference_X2_isApplicant : GoodIn wsX5_appendPreference wsX2_isApplicant := goodIn_r _ [6, 7, 58, 59, 60, 61, 62] (by decide +kernel) (by decide +kernel)
set_option maxRecDepth 20000 in
theorem gX5_appendPreference_X2_isApplicant : GoodIn wsX5_appendPreference (wsV RX5 69 RX2 yX2_isApplicant wsX2_isApplicant) := goodIn_app (goodIn_of _ (by decide +kernel)) ggX5_appendPreference_X2_isApplicant
set_option maxRecDepth 20000 in
theorem ggX5_appendPreference_X2_isPost : GoodIn wsX5_appendPreference wsX2_isPost := goodIn_r _ [11, 12, 58, 59, 60, 61, 62] (by decide +kernel) (by decide +kernel)
set_option maxRecDepth 20000 in
theorem gX5_appendPreference_X2_isPost : GoodIn wsX5_appendPreference (wsV RX5 61 RX2 yX2_isPost wsX2_isPost) := goodIn_app (goodIn_of _ (by decide +kernel)) ggX5_appendPreference_X2_isPost
set_option maxRecDepth 20000 in
theorem ggX5_appendPreference_X2_isListed : GoodIn wsX5_appendPreference wsX2_isListed := goodIn_r _ [16, 17, 18, 19, 20, 5, 21, 22, 23, 24, 25, 26, 58, 59, 60, 61, 62] (by decide +kernel) (by decide +kernel)
set_option maxRecDepth 20000 in
theorem gX5_appendPreference_X2_isListed : GoodIn wsX5_appendPreference (wsV RX5 72 RX2 yX2_isListed wsX2_isListed) := goodIn_app (goodIn_of _ (by decide +kernel)) ggX5_appendPreference_X2_isListed
set_option maxRecDepth 20000 in
theorem ggX5_appendPreference_X2_append : GoodIn wsX5_appendPreference wsX2_append := goodIn_r _ [30, 26, 17, 58, 59, 60, 61, 62] (by decide +kernel) (by decide +kernel)
set_option maxRecDepth 20000 in
theorem gX5_appendPreference_X2_append : GoodIn wsX5_appendPreference (wsV RX5 76 RX2 yX2_append wsX2_append) := goodIn_app (goodIn_of _ (by decide +kernel)) ggX5_appendPreference_X2_append
set_option maxRecDepth 20000 in
theorem ggX5_appendPreference_X5_forgetMatchings : GoodIn wsX5_appendPreference wsX5_forgetMatchings := goodIn_r _ [35, 36, 37, 38, 39, 40, 41, 42, 43, 44, 45, 46, 47, 48, 49, 50, 51, 52, 53, 54, 55, 56, 57, 63, 64, 65, 66] (by decide +kernel) (by decide +kernel)
set_option maxRecDepth 20000 in
theorem gX5_appendPreference_X5_forgetMatchings : GoodIn wsX5_appendPreference (wsV RX5 58 RX5 yX5_forgetMatchings wsX5_forgetMatchings) := goodIn_app (goodIn_of _ (by decide +kernel)) ggX5_appendPreference_X5_forgetMatchings
theorem dX5_appendPreference_0 : decode cX5_appendPreference 0 = .ok (.aload_n 0, 1) := by decide +kernel
theorem dX5_appendPreference_1 : decode cX5_appendPreference 1 = .ok (.getfield 10, 3) := by decide +kernel
theorem dX5_appendPreference_4 : decode cX5_appendPreference 4 = .ok (.iload_n 1, 1) := by decide +kernel
theorem dX5_appendPreference_5 : decode cX5_appendPreference 5 = .ok (.invokevirtual 69, 3) := by decide +kernel
theorem dX5_appendPreference_8 : decode cX5_appendPreference 8 = .ok (.ifCond .eq 14, 3) := by decide +kernel
theorem dX5_appendPreference_11 : decode cX5_appendPreference 11 = .ok (.aload_n 0, 1) := by decide +kernel
theorem dX5_appendPreference_12 : decode cX5_appendPreference 12 = .ok (.getfield 10, 3) := by decide +kernel
theorem dX5_appendPreference_15 : decode cX5_appendPreference 15 = .ok (.iload_n 2, 1) := by decide +kernel
theorem dX5_appendPreference_16 : decode cX5_appendPreference 16 = .ok (.invokevirtual 61, 3) := by decide +kernel
theorem dX5_appendPreference_19 : decode cX5_appendPreference 19 = .ok (.ifCond .ne 6, 3) := by decide +kernel
theorem dX5_appendPreference_22 : decode cX5_appendPreference 22 = .ok (.bipush (-101), 2) := by decide +kernel
theorem dX5_appendPreference_24 : decode cX5_appendPreference 24 = .ok (.ireturn, 1) := by decide +kernel
theorem dX5_appendPreference_25 : decode cX5_appendPreference 25 = .ok (.aload_n 0, 1) := by decide +kernel
theorem dX5_appendPreference_26 : decode cX5_appendPreference 26 = .ok (.getfield 10, 3) := by decide +kernel
theorem dX5_appendPreference_29 : decode cX5_appendPreference 29 = .ok (.iload_n 1, 1) := by decide +kernel
theorem dX5_appendPreference_30 : decode cX5_appendPreference 30 = .ok (.iload_n 2, 1) := by decide +kernel
theorem dX5_appendPreference_31 : decode cX5_appendPreference 31 = .ok (.invokevirtual 72, 3) := by decide +kernel
theorem dX5_appendPreference_34 : decode cX5_appendPreference 34 = .ok (.ifCond .eq 6, 3) := by decide +kernel
theorem dX5_appendPreference_37 : decode cX5_appendPreference 37 = .ok (.bipush (-102), 2) := by decide +kernel
theorem dX5_appendPreference_39 : decode cX5_appendPreference 39 = .ok (.ireturn, 1) := by decide +kernel
theorem dX5_appendPreference_40 : decode cX5_appendPreference 40 = .ok (.aload_n 0, 1) := by decide +kernel
theorem dX5_appendPreference_41 : decode cX5_appendPreference 41 = .ok (.getfield 10, 3) := by decide +kernel
theorem dX5_appendPreference_44 : decode cX5_appendPreference 44 = .ok (.iload_n 1, 1) := by decide +kernel
theorem dX5_appendPreference_45 : decode cX5_appendPreference 45 = .ok (.iload_n 2, 1) := by decide +kernel
theorem dX5_appendPreference_46 : decode cX5_appendPreference 46 = .ok (.invokevirtual 76, 3) := by decide +kernel
theorem dX5_appendPreference_49 : decode cX5_appendPreference 49 = .ok (.istore_n 3, 1) := by decide +kernel
theorem dX5_appendPreference_50 : decode cX5_appendPreference 50 = .ok (.aload_n 0, 1) := by decide +kernel
theorem dX5_appendPreference_51 : decode cX5_appendPreference 51 = .ok (.invokevirtual 58, 3) := by decide +kernel
theorem dX5_appendPreference_54 : decode cX5_appendPreference 54 = .ok (.iload_n 3, 1) := by decide +kernel
theorem dX5_appendPreference_55 : decode cX5_appendPreference 55 = .ok (.ireturn, 1) := by decide +kernel
set_option maxRecDepth 20000 in
theorem ggX5_clearPreferences_X2_isApplicant : GoodIn wsX5_clearPreferences wsX2_isApplicant := goodIn_r _ [7, 8, 36, 37, 38, 39, 40] (by decide +kernel) (by decide +kernel)
set_option maxRecDepth 20000 in
theorem gX5_clearPreferences_X2_isApplicant : GoodIn wsX5_clearPreferences (wsV RX5 69 RX2 yX2_isApplicant wsX2_isApplicant) := goodIn_app (goodIn_of _ (by decide +kernel)) ggX5_clearPreferences_X2_isApplicant
set_option maxRecDepth 20000 in
theorem ggX5_clearPreferences_X5_forgetMatchings : GoodIn wsX5_clearPreferences wsX5_forgetMatchings := goodIn_r _ [13, 14, 15, 16, 17, 18, 19, 20, 21, 22, 23, 24, 25, 26, 27, 28, 29, 30, 31, 32, 33, 34, 35, 41, 42, 43, 44] (by decide +kernel) (by decide +kernel)
set_option maxRecDepth 20000 in
theorem gX5_clearPreferences_X5_forgetMatchings : GoodIn wsX5_clearPreferences (wsV RX5 58 RX5 yX5_forgetMatchings wsX5_forgetMatchings) := goodIn_app (goodIn_of _ (by decide +kernel)) ggX5_clearPreferences_X5_forgetMatchings
theorem dX5_clearPreferences_0 : decode cX5_clearPreferences 0 = .ok (.aload_n 0, 1) := by decide +kernel
theorem dX5_clearPreferences_1 : decode cX5_clearPreferences 1 = .ok (.getfield 10, 3) := by decide +kernel
theorem dX5_clearPreferences_4 : decode cX5_clearPreferences 4 = .ok (.iload_n 1, 1) := by decide +kernel
theorem dX5_clearPreferences_5 : decode cX5_clearPreferences 5 = .ok (.invokevirtual 69, 3) := by decide +kernel
theorem dX5_clearPreferences_8 : decode cX5_clearPreferences 8 = .ok (.ifCond .ne 6, 3) := by decide +kernel
theorem dX5_clearPreferences_11 : decode cX5_clearPreferences 11 = .ok (.bipush (-101), 2) := by decide +kernel
theorem dX5_clearPreferences_13 : decode cX5_clearPreferences 13 = .ok (.ireturn, 1) := by decide +kernel
theorem dX5_clearPreferences_14 : decode cX5_clearPreferences 14 = .ok (.aload_n 0, 1) := by decide +kernel
theorem dX5_clearPreferences_15 : decode cX5_clearPreferences 15 = .ok (.getfield 10, 3) := by decide +kernel
theorem dX5_clearPreferences_18 : decode cX5_clearPreferences 18 = .ok (.getfield 80, 3) := by decide +kernel
theorem dX5_clearPreferences_21 : decode cX5_clearPreferences 21 = .ok (.iload_n 1, 1) := by decide +kernel
theorem dX5_clearPreferences_22 : decode cX5_clearPreferences 22 = .ok (.iaload, 1) := by decide +kernel
theorem dX5_clearPreferences_23 : decode cX5_clearPreferences 23 = .ok (.istore_n 2, 1) := by decide +kernel
theorem dX5_clearPreferences_24 : decode cX5_clearPreferences 24 = .ok (.aload_n 0, 1) := by decide +kernel
theorem dX5_clearPreferences_25 : decode cX5_clearPreferences 25 = .ok (.getfield 10, 3) := by decide +kernel
theorem dX5_clearPreferences_28 : decode cX5_clearPreferences 28 = .ok (.getfield 80, 3) := by decide +kernel
theorem dX5_clearPreferences_31 : decode cX5_clearPreferences 31 = .ok (.iload_n 1, 1) := by decide +kernel
theorem dX5_clearPreferences_32 : decode cX5_clearPreferences 32 = .ok (.iconst 0, 1) := by decide +kernel
theorem dX5_clearPreferences_33 : decode cX5_clearPreferences 33 = .ok (.iastore, 1) := by decide +kernel
theorem dX5_clearPreferences_34 : decode cX5_clearPreferences 34 = .ok (.aload_n 0, 1) := by decide +kernel
theorem dX5_clearPreferences_35 : decode cX5_clearPreferences 35 = .ok (.invokevirtual 58, 3) := by decide +kernel
theorem dX5_clearPreferences_38 : decode cX5_clearPreferences 38 = .ok (.iload_n 2, 1) := by decide +kernel
theorem dX5_clearPreferences_39 : decode cX5_clearPreferences 39 = .ok (.ireturn, 1) := by decide +kernel
set_option maxRecDepth 20000 in
theorem ggX5_preferenceAt_X2_isApplicant : GoodIn wsX5_preferenceAt wsX2_isApplicant := goodIn_r _ [7, 8, 21, 22, 23, 24, 25] (by decide +kernel) (by decide +kernel)
set_option maxRecDepth 20000 in
theorem gX5_preferenceAt_X2_isApplicant : GoodIn wsX5_preferenceAt (wsV RX5 69 RX2 yX2_isApplicant wsX2_isApplicant) := goodIn_app (goodIn_of _ (by decide +kernel)) ggX5_preferenceAt_X2_isApplicant
set_option maxRecDepth 20000 in
theorem ggX5_preferenceAt_X2_listed : GoodIn wsX5_preferenceAt wsX2_listed := goodIn_r _ [12, 13, 21, 22, 23, 24, 25] (by decide +kernel) (by decide +kernel)
set_option maxRecDepth 20000 in
theorem gX5_preferenceAt_X2_listed : GoodIn wsX5_preferenceAt (wsV RX5 83 RX2 yX2_listed wsX2_listed) := goodIn_app (goodIn_of _ (by decide +kernel)) ggX5_preferenceAt_X2_listed
theorem dX5_preferenceAt_0 : decode cX5_preferenceAt 0 = .ok (.aload_n 0, 1) := by decide +kernel
theorem dX5_preferenceAt_1 : decode cX5_preferenceAt 1 = .ok (.getfield 10, 3) := by decide +kernel
theorem dX5_preferenceAt_4 : decode cX5_preferenceAt 4 = .ok (.iload_n 1, 1) := by decide +kernel
theorem dX5_preferenceAt_5 : decode cX5_preferenceAt 5 = .ok (.invokevirtual 69, 3) := by decide +kernel
theorem dX5_preferenceAt_8 : decode cX5_preferenceAt 8 = .ok (.ifCond .eq 7, 3) := by decide +kernel
theorem dX5_preferenceAt_11 : decode cX5_preferenceAt 11 = .ok (.iload_n 2, 1) := by decide +kernel
theorem dX5_preferenceAt_12 : decode cX5_preferenceAt 12 = .ok (.ifCond .ge 6, 3) := by decide +kernel
theorem dX5_preferenceAt_15 : decode cX5_preferenceAt 15 = .ok (.bipush (-101), 2) := by decide +kernel
theorem dX5_preferenceAt_17 : decode cX5_preferenceAt 17 = .ok (.ireturn, 1) := by decide +kernel
theorem dX5_preferenceAt_18 : decode cX5_preferenceAt 18 = .ok (.iload_n 2, 1) := by decide +kernel
theorem dX5_preferenceAt_19 : decode cX5_preferenceAt 19 = .ok (.aload_n 0, 1) := by decide +kernel
theorem dX5_preferenceAt_20 : decode cX5_preferenceAt 20 = .ok (.getfield 10, 3) := by decide +kernel
theorem dX5_preferenceAt_23 : decode cX5_preferenceAt 23 = .ok (.getfield 80, 3) := by decide +kernel
theorem dX5_preferenceAt_26 : decode cX5_preferenceAt 26 = .ok (.iload_n 1, 1) := by decide +kernel
theorem dX5_preferenceAt_27 : decode cX5_preferenceAt 27 = .ok (.iaload, 1) := by decide +kernel
theorem dX5_preferenceAt_28 : decode cX5_preferenceAt 28 = .ok (.if_icmp .lt 6, 3) := by decide +kernel
theorem dX5_preferenceAt_31 : decode cX5_preferenceAt 31 = .ok (.bipush (-104), 2) := by decide +kernel
theorem dX5_preferenceAt_33 : decode cX5_preferenceAt 33 = .ok (.ireturn, 1) := by decide +kernel
theorem dX5_preferenceAt_34 : decode cX5_preferenceAt 34 = .ok (.aload_n 0, 1) := by decide +kernel
theorem dX5_preferenceAt_35 : decode cX5_preferenceAt 35 = .ok (.getfield 10, 3) := by decide +kernel
theorem dX5_preferenceAt_38 : decode cX5_preferenceAt 38 = .ok (.iload_n 1, 1) := by decide +kernel
theorem dX5_preferenceAt_39 : decode cX5_preferenceAt 39 = .ok (.iload_n 2, 1) := by decide +kernel
theorem dX5_preferenceAt_40 : decode cX5_preferenceAt 40 = .ok (.invokevirtual 83, 3) := by decide +kernel
theorem dX5_preferenceAt_43 : decode cX5_preferenceAt 43 = .ok (.ireturn, 1) := by decide +kernel
set_option maxRecDepth 20000 in
theorem ggX5_firstPost_X2_isApplicant : GoodIn wsX5_firstPost wsX2_isApplicant := goodIn_r _ [6, 7, 25, 26, 27, 28, 29] (by decide +kernel) (by decide +kernel)
set_option maxRecDepth 20000 in
theorem gX5_firstPost_X2_isApplicant : GoodIn wsX5_firstPost (wsV RX5 69 RX2 yX2_isApplicant wsX2_isApplicant) := goodIn_app (goodIn_of _ (by decide +kernel)) ggX5_firstPost_X2_isApplicant
set_option maxRecDepth 20000 in
theorem ggX5_firstPost_X2_firstOf : GoodIn wsX5_firstPost wsX2_firstOf := goodIn_r _ [11, 12, 13, 14, 15, 5, 16, 17, 25, 26, 27, 28, 29] (by decide +kernel) (by decide +kernel)
set_option maxRecDepth 20000 in
theorem gX5_firstPost_X2_firstOf : GoodIn wsX5_firstPost (wsV RX5 86 RX2 yX2_firstOf wsX2_firstOf) := goodIn_app (goodIn_of _ (by decide +kernel)) ggX5_firstPost_X2_firstOf
theorem dX5_firstPost_0 : decode cX5_firstPost 0 = .ok (.aload_n 0, 1) := by decide +kernel
theorem dX5_firstPost_1 : decode cX5_firstPost 1 = .ok (.getfield 10, 3) := by decide +kernel
theorem dX5_firstPost_4 : decode cX5_firstPost 4 = .ok (.iload_n 1, 1) := by decide +kernel
theorem dX5_firstPost_5 : decode cX5_firstPost 5 = .ok (.invokevirtual 69, 3) := by decide +kernel
theorem dX5_firstPost_8 : decode cX5_firstPost 8 = .ok (.ifCond .ne 6, 3) := by decide +kernel
theorem dX5_firstPost_11 : decode cX5_firstPost 11 = .ok (.bipush (-101), 2) := by decide +kernel
theorem dX5_firstPost_13 : decode cX5_firstPost 13 = .ok (.ireturn, 1) := by decide +kernel
theorem dX5_firstPost_14 : decode cX5_firstPost 14 = .ok (.aload_n 0, 1) := by decide +kernel
theorem dX5_firstPost_15 : decode cX5_firstPost 15 = .ok (.getfield 10, 3) := by decide +kernel
theorem dX5_firstPost_18 : decode cX5_firstPost 18 = .ok (.iload_n 1, 1) := by decide +kernel
theorem dX5_firstPost_19 : decode cX5_firstPost 19 = .ok (.invokevirtual 86, 3) := by decide +kernel
theorem dX5_firstPost_22 : decode cX5_firstPost 22 = .ok (.ireturn, 1) := by decide +kernel
set_option maxRecDepth 20000 in
theorem ggX5_secondPost_X2_isApplicant : GoodIn wsX5_secondPost wsX2_isApplicant := goodIn_r _ [6, 7, 34, 35, 36, 37, 38] (by decide +kernel) (by decide +kernel)
set_option maxRecDepth 20000 in
theorem gX5_secondPost_X2_isApplicant : GoodIn wsX5_secondPost (wsV RX5 69 RX2 yX2_isApplicant wsX2_isApplicant) := goodIn_app (goodIn_of _ (by decide +kernel)) ggX5_secondPost_X2_isApplicant
set_option maxRecDepth 20000 in
theorem ggX5_secondPost_X2_secondOf : GoodIn wsX5_secondPost wsX2_secondOf := goodIn_r _ [11, 12, 13, 14, 15, 16, 5, 17, 18, 19, 20, 21, 22, 7, 23, 24, 25, 26, 34, 35, 36, 37, 38] (by decide +kernel) (by decide +kernel)
set_option maxRecDepth 20000 in
theorem gX5_secondPost_X2_secondOf : GoodIn wsX5_secondPost (wsV RX5 90 RX2 yX2_secondOf wsX2_secondOf) := goodIn_app (goodIn_of _ (by decide +kernel)) ggX5_secondPost_X2_secondOf
theorem dX5_secondPost_0 : decode cX5_secondPost 0 = .ok (.aload_n 0, 1) := by decide +kernel
theorem dX5_secondPost_1 : decode cX5_secondPost 1 = .ok (.getfield 10, 3) := by decide +kernel
theorem dX5_secondPost_4 : decode cX5_secondPost 4 = .ok (.iload_n 1, 1) := by decide +kernel
theorem dX5_secondPost_5 : decode cX5_secondPost 5 = .ok (.invokevirtual 69, 3) := by decide +kernel
theorem dX5_secondPost_8 : decode cX5_secondPost 8 = .ok (.ifCond .ne 6, 3) := by decide +kernel
theorem dX5_secondPost_11 : decode cX5_secondPost 11 = .ok (.bipush (-101), 2) := by decide +kernel
theorem dX5_secondPost_13 : decode cX5_secondPost 13 = .ok (.ireturn, 1) := by decide +kernel
theorem dX5_secondPost_14 : decode cX5_secondPost 14 = .ok (.aload_n 0, 1) := by decide +kernel
theorem dX5_secondPost_15 : decode cX5_secondPost 15 = .ok (.getfield 10, 3) := by decide +kernel
theorem dX5_secondPost_18 : decode cX5_secondPost 18 = .ok (.iload_n 1, 1) := by decide +kernel
theorem dX5_secondPost_19 : decode cX5_secondPost 19 = .ok (.invokevirtual 90, 3) := by decide +kernel
theorem dX5_secondPost_22 : decode cX5_secondPost 22 = .ok (.ireturn, 1) := by decide +kernel
set_option maxRecDepth 20000 in
theorem ggX5_assign_X2_isApplicant : GoodIn wsX5_assign wsX2_isApplicant := goodIn_r _ [11, 12, 61, 62, 63, 64, 65] (by decide +kernel) (by decide +kernel)
set_option maxRecDepth 20000 in
theorem gX5_assign_X2_isApplicant : GoodIn wsX5_assign (wsV RX5 69 RX2 yX2_isApplicant wsX2_isApplicant) := goodIn_app (goodIn_of _ (by decide +kernel)) ggX5_assign_X2_isApplicant
set_option maxRecDepth 20000 in
theorem ggX5_assign_X2_isPost : GoodIn wsX5_assign wsX2_isPost := goodIn_r _ [16, 17, 61, 62, 63, 64, 65] (by decide +kernel) (by decide +kernel)
set_option maxRecDepth 20000 in
theorem gX5_assign_X2_isPost : GoodIn wsX5_assign (wsV RX5 61 RX2 yX2_isPost wsX2_isPost) := goodIn_app (goodIn_of _ (by decide +kernel)) ggX5_assign_X2_isPost
set_option maxRecDepth 20000 in
theorem ggX5_assign_X2_isListed : GoodIn wsX5_assign wsX2_isListed := goodIn_r _ [21, 22, 23, 24, 25, 10, 26, 27, 28, 29, 30, 31, 61, 62, 63, 64, 65] (by decide +kernel) (by decide +kernel)
set_option maxRecDepth 20000 in
theorem gX5_assign_X2_isListed : GoodIn wsX5_assign (wsV RX5 72 RX2 yX2_isListed wsX2_isListed) := goodIn_app (goodIn_of _ (by decide +kernel)) ggX5_assign_X2_isListed
set_option maxRecDepth 20000 in
theorem ggX5_assign_X3_othersAt : GoodIn wsX5_assign wsX3_othersAt := goodIn_r _ [36, 37, 66] (by decide +kernel) (by decide +kernel)
set_option maxRecDepth 20000 in
theorem gX5_assign_X3_othersAt : GoodIn wsX5_assign (wsV RX5 93 RX3 yX3_othersAt wsX3_othersAt) := goodIn_app (goodIn_of _ (by decide +kernel)) ggX5_assign_X3_othersAt
set_option maxRecDepth 20000 in
theorem ggX5_assign_X1_remember : GoodIn wsX5_assign wsX1_remember := goodIn_r _ [42, 43, 44, 45, 46, 47, 48, 41, 49, 50, 51, 52, 35, 53, 37, 67, 68, 69, 66] (by decide +kernel) (by decide +kernel)
set_option maxRecDepth 20000 in
theorem gX5_assign_X1_remember : GoodIn wsX5_assign (wsV RX5 99 RX1 yX1_remember wsX1_remember) := goodIn_app (goodIn_of _ (by decide +kernel)) ggX5_assign_X1_remember
theorem dX5_assign_0 : decode cX5_assign 0 = .ok (.aload_n 0, 1) := by decide +kernel
theorem dX5_assign_1 : decode cX5_assign 1 = .ok (.getfield 10, 3) := by decide +kernel
theorem dX5_assign_4 : decode cX5_assign 4 = .ok (.iload_n 1, 1) := by decide +kernel
theorem dX5_assign_5 : decode cX5_assign 5 = .ok (.invokevirtual 69, 3) := by decide +kernel
theorem dX5_assign_8 : decode cX5_assign 8 = .ok (.ifCond .eq 19, 3) := by decide +kernel
theorem dX5_assign_11 : decode cX5_assign 11 = .ok (.iload_n 2, 1) := by decide +kernel
theorem dX5_assign_12 : decode cX5_assign 12 = .ok (.iconst (-1), 1) := by decide +kernel
theorem dX5_assign_13 : decode cX5_assign 13 = .ok (.if_icmp .eq 17, 3) := by decide +kernel
theorem dX5_assign_16 : decode cX5_assign 16 = .ok (.aload_n 0, 1) := by decide +kernel
theorem dX5_assign_17 : decode cX5_assign 17 = .ok (.getfield 10, 3) := by decide +kernel
theorem dX5_assign_20 : decode cX5_assign 20 = .ok (.iload_n 2, 1) := by decide +kernel
theorem dX5_assign_21 : decode cX5_assign 21 = .ok (.invokevirtual 61, 3) := by decide +kernel
theorem dX5_assign_24 : decode cX5_assign 24 = .ok (.ifCond .ne 6, 3) := by decide +kernel
theorem dX5_assign_27 : decode cX5_assign 27 = .ok (.bipush (-101), 2) := by decide +kernel
theorem dX5_assign_29 : decode cX5_assign 29 = .ok (.ireturn, 1) := by decide +kernel
theorem dX5_assign_30 : decode cX5_assign 30 = .ok (.iload_n 2, 1) := by decide +kernel
theorem dX5_assign_31 : decode cX5_assign 31 = .ok (.iconst (-1), 1) := by decide +kernel
theorem dX5_assign_32 : decode cX5_assign 32 = .ok (.if_icmp .eq 18, 3) := by decide +kernel
theorem dX5_assign_35 : decode cX5_assign 35 = .ok (.aload_n 0, 1) := by decide +kernel
theorem dX5_assign_36 : decode cX5_assign 36 = .ok (.getfield 10, 3) := by decide +kernel
theorem dX5_assign_39 : decode cX5_assign 39 = .ok (.iload_n 1, 1) := by decide +kernel
theorem dX5_assign_40 : decode cX5_assign 40 = .ok (.iload_n 2, 1) := by decide +kernel
theorem dX5_assign_41 : decode cX5_assign 41 = .ok (.invokevirtual 72, 3) := by decide +kernel
theorem dX5_assign_44 : decode cX5_assign 44 = .ok (.ifCond .ne 6, 3) := by decide +kernel
theorem dX5_assign_47 : decode cX5_assign 47 = .ok (.bipush (-102), 2) := by decide +kernel
theorem dX5_assign_49 : decode cX5_assign 49 = .ok (.ireturn, 1) := by decide +kernel
theorem dX5_assign_50 : decode cX5_assign 50 = .ok (.iload_n 2, 1) := by decide +kernel
theorem dX5_assign_51 : decode cX5_assign 51 = .ok (.iconst (-1), 1) := by decide +kernel
theorem dX5_assign_52 : decode cX5_assign 52 = .ok (.if_icmp .eq 27, 3) := by decide +kernel
theorem dX5_assign_55 : decode cX5_assign 55 = .ok (.aload_n 0, 1) := by decide +kernel
theorem dX5_assign_56 : decode cX5_assign 56 = .ok (.getfield 19, 3) := by decide +kernel
theorem dX5_assign_59 : decode cX5_assign 59 = .ok (.iload_n 2, 1) := by decide +kernel
theorem dX5_assign_60 : decode cX5_assign 60 = .ok (.iload_n 1, 1) := by decide +kernel
theorem dX5_assign_61 : decode cX5_assign 61 = .ok (.invokevirtual 93, 3) := by decide +kernel
theorem dX5_assign_64 : decode cX5_assign 64 = .ok (.aload_n 0, 1) := by decide +kernel
theorem dX5_assign_65 : decode cX5_assign 65 = .ok (.getfield 10, 3) := by decide +kernel
theorem dX5_assign_68 : decode cX5_assign 68 = .ok (.getfield 65, 3) := by decide +kernel
theorem dX5_assign_71 : decode cX5_assign 71 = .ok (.iload_n 2, 1) := by decide +kernel
theorem dX5_assign_72 : decode cX5_assign 72 = .ok (.iaload, 1) := by decide +kernel
theorem dX5_assign_73 : decode cX5_assign 73 = .ok (.if_icmp .lt 6, 3) := by decide +kernel
theorem dX5_assign_76 : decode cX5_assign 76 = .ok (.bipush (-103), 2) := by decide +kernel
theorem dX5_assign_78 : decode cX5_assign 78 = .ok (.ireturn, 1) := by decide +kernel
theorem dX5_assign_79 : decode cX5_assign 79 = .ok (.aload_n 0, 1) := by decide +kernel
theorem dX5_assign_80 : decode cX5_assign 80 = .ok (.getfield 19, 3) := by decide +kernel
theorem dX5_assign_83 : decode cX5_assign 83 = .ok (.getfield 96, 3) := by decide +kernel
theorem dX5_assign_86 : decode cX5_assign 86 = .ok (.iload_n 1, 1) := by decide +kernel
theorem dX5_assign_87 : decode cX5_assign 87 = .ok (.iaload, 1) := by decide +kernel
theorem dX5_assign_88 : decode cX5_assign 88 = .ok (.istore_n 3, 1) := by decide +kernel
theorem dX5_assign_89 : decode cX5_assign 89 = .ok (.aload_n 0, 1) := by decide +kernel
theorem dX5_assign_90 : decode cX5_assign 90 = .ok (.getfield 32, 3) := by decide +kernel
theorem dX5_assign_93 : decode cX5_assign 93 = .ok (.aload_n 0, 1) := by decide +kernel
theorem dX5_assign_94 : decode cX5_assign 94 = .ok (.getfield 19, 3) := by decide +kernel
theorem dX5_assign_97 : decode cX5_assign 97 = .ok (.aload_n 0, 1) := by decide +kernel
theorem dX5_assign_98 : decode cX5_assign 98 = .ok (.getfield 23, 3) := by decide +kernel
theorem dX5_assign_101 : decode cX5_assign 101 = .ok (.invokevirtual 99, 3) := by decide +kernel
theorem dX5_assign_104 : decode cX5_assign 104 = .ok (.aload_n 0, 1) := by decide +kernel
theorem dX5_assign_105 : decode cX5_assign 105 = .ok (.getfield 19, 3) := by decide +kernel
theorem dX5_assign_108 : decode cX5_assign 108 = .ok (.getfield 96, 3) := by decide +kernel
theorem dX5_assign_111 : decode cX5_assign 111 = .ok (.iload_n 1, 1) := by decide +kernel
theorem dX5_assign_112 : decode cX5_assign 112 = .ok (.iload_n 2, 1) := by decide +kernel
theorem dX5_assign_113 : decode cX5_assign 113 = .ok (.iastore, 1) := by decide +kernel
theorem dX5_assign_114 : decode cX5_assign 114 = .ok (.iload_n 3, 1) := by decide +kernel
theorem dX5_assign_115 : decode cX5_assign 115 = .ok (.ireturn, 1) := by decide +kernel
set_option maxRecDepth 20000 in
theorem ggX5_postOf_X2_isApplicant : GoodIn wsX5_postOf wsX2_isApplicant := goodIn_r _ [8, 9, 18, 19, 20, 21, 22] (by decide +kernel) (by decide +kernel)
set_option maxRecDepth 20000 in
theorem gX5_postOf_X2_isApplicant : GoodIn wsX5_postOf (wsV RX5 69 RX2 yX2_isApplicant wsX2_isApplicant) := goodIn_app (goodIn_of _ (by decide +kernel)) ggX5_postOf_X2_isApplicant
theorem dX5_postOf_0 : decode cX5_postOf 0 = .ok (.aload_n 0, 1) := by decide +kernel
theorem dX5_postOf_1 : decode cX5_postOf 1 = .ok (.getfield 10, 3) := by decide +kernel
theorem dX5_postOf_4 : decode cX5_postOf 4 = .ok (.iload_n 1, 1) := by decide +kernel
theorem dX5_postOf_5 : decode cX5_postOf 5 = .ok (.invokevirtual 69, 3) := by decide +kernel
theorem dX5_postOf_8 : decode cX5_postOf 8 = .ok (.ifCond .ne 6, 3) := by decide +kernel
theorem dX5_postOf_11 : decode cX5_postOf 11 = .ok (.bipush (-101), 2) := by decide +kernel
theorem dX5_postOf_13 : decode cX5_postOf 13 = .ok (.ireturn, 1) := by decide +kernel
theorem dX5_postOf_14 : decode cX5_postOf 14 = .ok (.aload_n 0, 1) := by decide +kernel
theorem dX5_postOf_15 : decode cX5_postOf 15 = .ok (.getfield 19, 3) := by decide +kernel
theorem dX5_postOf_18 : decode cX5_postOf 18 = .ok (.getfield 96, 3) := by decide +kernel
theorem dX5_postOf_21 : decode cX5_postOf 21 = .ok (.iload_n 1, 1) := by decide +kernel
theorem dX5_postOf_22 : decode cX5_postOf 22 = .ok (.iaload, 1) := by decide +kernel
theorem dX5_postOf_23 : decode cX5_postOf 23 = .ok (.ireturn, 1) := by decide +kernel
set_option maxRecDepth 20000 in
theorem ggX5_size_X3_countPlaced : GoodIn wsX5_size wsX3_countPlaced := goodIn_r _ [6, 7, 15] (by decide +kernel) (by decide +kernel)
set_option maxRecDepth 20000 in
theorem gX5_size_X3_countPlaced : GoodIn wsX5_size (wsV RX5 103 RX3 yX3_countPlaced wsX3_countPlaced) := goodIn_app (goodIn_of _ (by decide +kernel)) ggX5_size_X3_countPlaced
theorem dX5_size_0 : decode cX5_size 0 = .ok (.aload_n 0, 1) := by decide +kernel
theorem dX5_size_1 : decode cX5_size 1 = .ok (.getfield 19, 3) := by decide +kernel
theorem dX5_size_4 : decode cX5_size 4 = .ok (.invokevirtual 103, 3) := by decide +kernel
theorem dX5_size_7 : decode cX5_size 7 = .ok (.ireturn, 1) := by decide +kernel
set_option maxRecDepth 20000 in
theorem ggX5_isParetoOptimal_X0_bestKey : GoodIn wsX5_isParetoOptimal wsX0_bestKey := goodIn_r _ [8, 9, 10, 11, 12, 13, 14, 15, 16, 17, 18, 19, 20, 21, 22, 23, 24, 25, 26, 27, 28, 29, 30, 31, 32, 33, 34, 7, 35, 36, 37, 38, 39, 40, 41, 42, 43, 44, 45, 46, 47, 48, 59, 60, 61, 62, 63, 64, 65, 66] (by decide +kernel) (by decide +kernel)
set_option maxRecDepth 20000 in
theorem gX5_isParetoOptimal_X0_bestKey : GoodIn wsX5_isParetoOptimal (wsV RX5 107 RX0 yX0_bestKey wsX0_bestKey) := goodIn_app (goodIn_of _ (by decide +kernel)) ggX5_isParetoOptimal_X0_bestKey
set_option maxRecDepth 20000 in
theorem ggX5_isParetoOptimal_X0_marginIn : GoodIn wsX5_isParetoOptimal wsX0_marginIn := goodIn_r _ [51] (by decide +kernel) (by decide +kernel)
set_option maxRecDepth 20000 in
theorem gX5_isParetoOptimal_X0_marginIn : GoodIn wsX5_isParetoOptimal (va_wsS RX5 111 yX0_marginIn wsX0_marginIn) := goodIn_app (goodIn_of _ (by decide +kernel)) ggX5_isParetoOptimal_X0_marginIn
theorem dX5_isParetoOptimal_0 : decode cX5_isParetoOptimal 0 = .ok (.aload_n 0, 1) := by decide +kernel
theorem dX5_isParetoOptimal_1 : decode cX5_isParetoOptimal 1 = .ok (.getfield 39, 3) := by decide +kernel
theorem dX5_isParetoOptimal_4 : decode cX5_isParetoOptimal 4 = .ok (.aload_n 0, 1) := by decide +kernel
theorem dX5_isParetoOptimal_5 : decode cX5_isParetoOptimal 5 = .ok (.getfield 10, 3) := by decide +kernel
theorem dX5_isParetoOptimal_8 : decode cX5_isParetoOptimal 8 = .ok (.aload_n 0, 1) := by decide +kernel
theorem dX5_isParetoOptimal_9 : decode cX5_isParetoOptimal 9 = .ok (.getfield 19, 3) := by decide +kernel
theorem dX5_isParetoOptimal_12 : decode cX5_isParetoOptimal 12 = .ok (.iconst 0, 1) := by decide +kernel
theorem dX5_isParetoOptimal_13 : decode cX5_isParetoOptimal 13 = .ok (.invokevirtual 107, 3) := by decide +kernel
theorem dX5_isParetoOptimal_16 : decode cX5_isParetoOptimal 16 = .ok (.istore_n 1, 1) := by decide +kernel
theorem dX5_isParetoOptimal_17 : decode cX5_isParetoOptimal 17 = .ok (.iload_n 1, 1) := by decide +kernel
theorem dX5_isParetoOptimal_18 : decode cX5_isParetoOptimal 18 = .ok (.invokestatic 111, 3) := by decide +kernel
theorem dX5_isParetoOptimal_21 : decode cX5_isParetoOptimal 21 = .ok (.ifCond .ne 7, 3) := by decide +kernel
theorem dX5_isParetoOptimal_24 : decode cX5_isParetoOptimal 24 = .ok (.iconst 1, 1) := by decide +kernel
theorem dX5_isParetoOptimal_25 : decode cX5_isParetoOptimal 25 = .ok (.goto 4, 3) := by decide +kernel
theorem dX5_isParetoOptimal_28 : decode cX5_isParetoOptimal 28 = .ok (.iconst 0, 1) := by decide +kernel
theorem dX5_isParetoOptimal_29 : decode cX5_isParetoOptimal 29 = .ok (.ireturn, 1) := by decide +kernel
set_option maxRecDepth 20000 in
theorem ggX5_save_X3_copyFrom : GoodIn wsX5_save wsX3_copyFrom := goodIn_r _ [7, 8, 20] (by decide +kernel) (by decide +kernel)
set_option maxRecDepth 20000 in
theorem gX5_save_X3_copyFrom : GoodIn wsX5_save (wsV RX5 114 RX3 yX3_copyFrom wsX3_copyFrom) := goodIn_app (goodIn_of _ (by decide +kernel)) ggX5_save_X3_copyFrom
set_option maxRecDepth 20000 in
theorem ggX5_save_X3_countPlaced : GoodIn wsX5_save wsX3_countPlaced := goodIn_r _ [12, 8, 20] (by decide +kernel) (by decide +kernel)
set_option maxRecDepth 20000 in
theorem gX5_save_X3_countPlaced : GoodIn wsX5_save (wsV RX5 103 RX3 yX3_countPlaced wsX3_countPlaced) := goodIn_app (goodIn_of _ (by decide +kernel)) ggX5_save_X3_countPlaced
theorem dX5_save_0 : decode cX5_save 0 = .ok (.aload_n 0, 1) := by decide +kernel
theorem dX5_save_1 : decode cX5_save 1 = .ok (.getfield 23, 3) := by decide +kernel
theorem dX5_save_4 : decode cX5_save 4 = .ok (.aload_n 0, 1) := by decide +kernel
theorem dX5_save_5 : decode cX5_save 5 = .ok (.getfield 19, 3) := by decide +kernel
theorem dX5_save_8 : decode cX5_save 8 = .ok (.invokevirtual 114, 3) := by decide +kernel
theorem dX5_save_11 : decode cX5_save 11 = .ok (.aload_n 0, 1) := by decide +kernel
theorem dX5_save_12 : decode cX5_save 12 = .ok (.getfield 23, 3) := by decide +kernel
theorem dX5_save_15 : decode cX5_save 15 = .ok (.invokevirtual 103, 3) := by decide +kernel
theorem dX5_save_18 : decode cX5_save 18 = .ok (.ireturn, 1) := by decide +kernel
set_option maxRecDepth 20000 in
theorem ggX5_swapSaved_X3_copyFrom : GoodIn wsX5_swapSaved wsX3_copyFrom := goodIn_r _ [9, 10, 35] (by decide +kernel) (by decide +kernel)
set_option maxRecDepth 20000 in
theorem gX5_swapSaved_X3_copyFrom : GoodIn wsX5_swapSaved (wsV RX5 114 RX3 yX3_copyFrom wsX3_copyFrom) := goodIn_app (goodIn_of _ (by decide +kernel)) ggX5_swapSaved_X3_copyFrom
set_option maxRecDepth 20000 in
theorem ggX5_swapSaved_X1_remember : GoodIn wsX5_swapSaved wsX1_remember := goodIn_r _ [15, 16, 17, 18, 19, 20, 21, 14, 22, 23, 6, 7, 8, 9, 10, 36, 37, 38, 35] (by decide +kernel) (by decide +kernel)
set_option maxRecDepth 20000 in
theorem gX5_swapSaved_X1_remember : GoodIn wsX5_swapSaved (wsV RX5 99 RX1 yX1_remember wsX1_remember) := goodIn_app (goodIn_of _ (by decide +kernel)) ggX5_swapSaved_X1_remember
set_option maxRecDepth 20000 in
theorem ggX5_swapSaved_X3_countPlaced : GoodIn wsX5_swapSaved wsX3_countPlaced := goodIn_r _ [27, 10, 35] (by decide +kernel) (by decide +kernel)
set_option maxRecDepth 20000 in
theorem gX5_swapSaved_X3_countPlaced : GoodIn wsX5_swapSaved (wsV RX5 103 RX3 yX3_countPlaced wsX3_countPlaced) := goodIn_app (goodIn_of _ (by decide +kernel)) ggX5_swapSaved_X3_countPlaced
theorem dX5_swapSaved_0 : decode cX5_swapSaved 0 = .ok (.aload_n 0, 1) := by decide +kernel
theorem dX5_swapSaved_1 : decode cX5_swapSaved 1 = .ok (.getfield 26, 3) := by decide +kernel
theorem dX5_swapSaved_4 : decode cX5_swapSaved 4 = .ok (.aload_n 0, 1) := by decide +kernel
theorem dX5_swapSaved_5 : decode cX5_swapSaved 5 = .ok (.getfield 23, 3) := by decide +kernel
theorem dX5_swapSaved_8 : decode cX5_swapSaved 8 = .ok (.invokevirtual 114, 3) := by decide +kernel
theorem dX5_swapSaved_11 : decode cX5_swapSaved 11 = .ok (.aload_n 0, 1) := by decide +kernel
theorem dX5_swapSaved_12 : decode cX5_swapSaved 12 = .ok (.getfield 32, 3) := by decide +kernel
theorem dX5_swapSaved_15 : decode cX5_swapSaved 15 = .ok (.aload_n 0, 1) := by decide +kernel
theorem dX5_swapSaved_16 : decode cX5_swapSaved 16 = .ok (.getfield 19, 3) := by decide +kernel
theorem dX5_swapSaved_19 : decode cX5_swapSaved 19 = .ok (.aload_n 0, 1) := by decide +kernel
theorem dX5_swapSaved_20 : decode cX5_swapSaved 20 = .ok (.getfield 23, 3) := by decide +kernel
theorem dX5_swapSaved_23 : decode cX5_swapSaved 23 = .ok (.invokevirtual 99, 3) := by decide +kernel
theorem dX5_swapSaved_26 : decode cX5_swapSaved 26 = .ok (.aload_n 0, 1) := by decide +kernel
theorem dX5_swapSaved_27 : decode cX5_swapSaved 27 = .ok (.getfield 23, 3) := by decide +kernel
theorem dX5_swapSaved_30 : decode cX5_swapSaved 30 = .ok (.aload_n 0, 1) := by decide +kernel
theorem dX5_swapSaved_31 : decode cX5_swapSaved 31 = .ok (.getfield 19, 3) := by decide +kernel
theorem dX5_swapSaved_34 : decode cX5_swapSaved 34 = .ok (.invokevirtual 114, 3) := by decide +kernel
theorem dX5_swapSaved_37 : decode cX5_swapSaved 37 = .ok (.aload_n 0, 1) := by decide +kernel
theorem dX5_swapSaved_38 : decode cX5_swapSaved 38 = .ok (.getfield 19, 3) := by decide +kernel
theorem dX5_swapSaved_41 : decode cX5_swapSaved 41 = .ok (.aload_n 0, 1) := by decide +kernel
theorem dX5_swapSaved_42 : decode cX5_swapSaved 42 = .ok (.getfield 26, 3) := by decide +kernel
theorem dX5_swapSaved_45 : decode cX5_swapSaved 45 = .ok (.invokevirtual 114, 3) := by decide +kernel
theorem dX5_swapSaved_48 : decode cX5_swapSaved 48 = .ok (.aload_n 0, 1) := by decide +kernel
theorem dX5_swapSaved_49 : decode cX5_swapSaved 49 = .ok (.getfield 19, 3) := by decide +kernel
theorem dX5_swapSaved_52 : decode cX5_swapSaved 52 = .ok (.invokevirtual 103, 3) := by decide +kernel
theorem dX5_swapSaved_55 : decode cX5_swapSaved 55 = .ok (.ireturn, 1) := by decide +kernel
set_option maxRecDepth 20000 in
theorem ggX5_marginOverSaved_X2_rankOf : GoodIn wsX5_marginOverSaved wsX2_rankOf := goodIn_r _ [10, 11, 12, 13, 14, 9, 15, 16, 27, 28, 29, 30, 31] (by decide +kernel) (by decide +kernel)
set_option maxRecDepth 20000 in
theorem gX5_marginOverSaved_X2_rankOf : GoodIn wsX5_marginOverSaved (wsV RX5 118 RX2 yX2_rankOf wsX2_rankOf) := goodIn_app (goodIn_of _ (by decide +kernel)) ggX5_marginOverSaved_X2_rankOf
set_option maxRecDepth 20000 in
theorem ggX5_marginOverSaved_X2_vote : GoodIn wsX5_marginOverSaved wsX2_vote := goodIn_r _ [19] (by decide +kernel) (by decide +kernel)
set_option maxRecDepth 20000 in
theorem gX5_marginOverSaved_X2_vote : GoodIn wsX5_marginOverSaved (va_wsS RX5 121 yX2_vote wsX2_vote) := goodIn_app (goodIn_of _ (by decide +kernel)) ggX5_marginOverSaved_X2_vote
theorem dX5_marginOverSaved_0 : decode cX5_marginOverSaved 0 = .ok (.iconst 0, 1) := by decide +kernel
theorem dX5_marginOverSaved_1 : decode cX5_marginOverSaved 1 = .ok (.istore_n 1, 1) := by decide +kernel
theorem dX5_marginOverSaved_2 : decode cX5_marginOverSaved 2 = .ok (.iconst 0, 1) := by decide +kernel
theorem dX5_marginOverSaved_3 : decode cX5_marginOverSaved 3 = .ok (.istore_n 2, 1) := by decide +kernel
theorem dX5_marginOverSaved_4 : decode cX5_marginOverSaved 4 = .ok (.iload_n 2, 1) := by decide +kernel
theorem dX5_marginOverSaved_5 : decode cX5_marginOverSaved 5 = .ok (.aload_n 0, 1) := by decide +kernel
theorem dX5_marginOverSaved_6 : decode cX5_marginOverSaved 6 = .ok (.getfield 10, 3) := by decide +kernel
theorem dX5_marginOverSaved_9 : decode cX5_marginOverSaved 9 = .ok (.getfield 50, 3) := by decide +kernel
theorem dX5_marginOverSaved_12 : decode cX5_marginOverSaved 12 = .ok (.if_icmp .ge 55, 3) := by decide +kernel
theorem dX5_marginOverSaved_15 : decode cX5_marginOverSaved 15 = .ok (.aload_n 0, 1) := by decide +kernel
theorem dX5_marginOverSaved_16 : decode cX5_marginOverSaved 16 = .ok (.getfield 10, 3) := by decide +kernel
theorem dX5_marginOverSaved_19 : decode cX5_marginOverSaved 19 = .ok (.iload_n 2, 1) := by decide +kernel
theorem dX5_marginOverSaved_20 : decode cX5_marginOverSaved 20 = .ok (.aload_n 0, 1) := by decide +kernel
theorem dX5_marginOverSaved_21 : decode cX5_marginOverSaved 21 = .ok (.getfield 19, 3) := by decide +kernel
theorem dX5_marginOverSaved_24 : decode cX5_marginOverSaved 24 = .ok (.getfield 96, 3) := by decide +kernel
theorem dX5_marginOverSaved_27 : decode cX5_marginOverSaved 27 = .ok (.iload_n 2, 1) := by decide +kernel
theorem dX5_marginOverSaved_28 : decode cX5_marginOverSaved 28 = .ok (.iaload, 1) := by decide +kernel
theorem dX5_marginOverSaved_29 : decode cX5_marginOverSaved 29 = .ok (.invokevirtual 118, 3) := by decide +kernel
theorem dX5_marginOverSaved_32 : decode cX5_marginOverSaved 32 = .ok (.istore_n 3, 1) := by decide +kernel
theorem dX5_marginOverSaved_33 : decode cX5_marginOverSaved 33 = .ok (.aload_n 0, 1) := by decide +kernel
theorem dX5_marginOverSaved_34 : decode cX5_marginOverSaved 34 = .ok (.getfield 10, 3) := by decide +kernel
theorem dX5_marginOverSaved_37 : decode cX5_marginOverSaved 37 = .ok (.iload_n 2, 1) := by decide +kernel
theorem dX5_marginOverSaved_38 : decode cX5_marginOverSaved 38 = .ok (.aload_n 0, 1) := by decide +kernel
theorem dX5_marginOverSaved_39 : decode cX5_marginOverSaved 39 = .ok (.getfield 23, 3) := by decide +kernel
theorem dX5_marginOverSaved_42 : decode cX5_marginOverSaved 42 = .ok (.getfield 96, 3) := by decide +kernel
theorem dX5_marginOverSaved_45 : decode cX5_marginOverSaved 45 = .ok (.iload_n 2, 1) := by decide +kernel
theorem dX5_marginOverSaved_46 : decode cX5_marginOverSaved 46 = .ok (.iaload, 1) := by decide +kernel
theorem dX5_marginOverSaved_47 : decode cX5_marginOverSaved 47 = .ok (.invokevirtual 118, 3) := by decide +kernel
theorem dX5_marginOverSaved_50 : decode cX5_marginOverSaved 50 = .ok (.istore 4, 2) := by decide +kernel
theorem dX5_marginOverSaved_52 : decode cX5_marginOverSaved 52 = .ok (.iload_n 1, 1) := by decide +kernel
theorem dX5_marginOverSaved_53 : decode cX5_marginOverSaved 53 = .ok (.iload_n 3, 1) := by decide +kernel
theorem dX5_marginOverSaved_54 : decode cX5_marginOverSaved 54 = .ok (.iload 4, 2) := by decide +kernel
theorem dX5_marginOverSaved_56 : decode cX5_marginOverSaved 56 = .ok (.invokestatic 121, 3) := by decide +kernel
theorem dX5_marginOverSaved_59 : decode cX5_marginOverSaved 59 = .ok (.iadd, 1) := by decide +kernel
theorem dX5_marginOverSaved_60 : decode cX5_marginOverSaved 60 = .ok (.istore_n 1, 1) := by decide +kernel
theorem dX5_marginOverSaved_61 : decode cX5_marginOverSaved 61 = .ok (.iinc 2 1, 3) := by decide +kernel
theorem dX5_marginOverSaved_64 : decode cX5_marginOverSaved 64 = .ok (.goto (-60), 3) := by decide +kernel
theorem dX5_marginOverSaved_67 : decode cX5_marginOverSaved 67 = .ok (.iload_n 1, 1) := by decide +kernel
theorem dX5_marginOverSaved_68 : decode cX5_marginOverSaved 68 = .ok (.ireturn, 1) := by decide +kernel
set_option maxRecDepth 20000 in
theorem ggX5_unpopularityMargin_X0_bestKey : GoodIn wsX5_unpopularityMargin wsX0_bestKey := goodIn_r _ [8, 9, 10, 11, 12, 13, 14, 15, 16, 17, 18, 19, 20, 21, 22, 23, 24, 25, 26, 27, 28, 29, 30, 31, 32, 33, 34, 7, 35, 36, 37, 38, 39, 40, 41, 42, 43, 44, 45, 46, 47, 48, 59, 60, 61, 62, 63, 64, 65, 66] (by decide +kernel) (by decide +kernel)
set_option maxRecDepth 20000 in
theorem gX5_unpopularityMargin_X0_bestKey : GoodIn wsX5_unpopularityMargin (wsV RX5 107 RX0 yX0_bestKey wsX0_bestKey) := goodIn_app (goodIn_of _ (by decide +kernel)) ggX5_unpopularityMargin_X0_bestKey
set_option maxRecDepth 20000 in
theorem ggX5_unpopularityMargin_X0_marginIn : GoodIn wsX5_unpopularityMargin wsX0_marginIn := goodIn_r _ [51] (by decide +kernel) (by decide +kernel)
set_option maxRecDepth 20000 in
theorem gX5_unpopularityMargin_X0_marginIn : GoodIn wsX5_unpopularityMargin (va_wsS RX5 111 yX0_marginIn wsX0_marginIn) := goodIn_app (goodIn_of _ (by decide +kernel)) ggX5_unpopularityMargin_X0_marginIn
theorem dX5_unpopularityMargin_0 : decode cX5_unpopularityMargin 0 = .ok (.aload_n 0, 1) := by decide +kernel
theorem dX5_unpopularityMargin_1 : decode cX5_unpopularityMargin 1 = .ok (.getfield 39, 3) := by decide +kernel
theorem dX5_unpopularityMargin_4 : decode cX5_unpopularityMargin 4 = .ok (.aload_n 0, 1) := by decide +kernel
theorem dX5_unpopularityMargin_5 : decode cX5_unpopularityMargin 5 = .ok (.getfield 10, 3) := by decide +kernel
theorem dX5_unpopularityMargin_8 : decode cX5_unpopularityMargin 8 = .ok (.aload_n 0, 1) := by decide +kernel
theorem dX5_unpopularityMargin_9 : decode cX5_unpopularityMargin 9 = .ok (.getfield 19, 3) := by decide +kernel
theorem dX5_unpopularityMargin_12 : decode cX5_unpopularityMargin 12 = .ok (.iconst 1, 1) := by decide +kernel
theorem dX5_unpopularityMargin_13 : decode cX5_unpopularityMargin 13 = .ok (.invokevirtual 107, 3) := by decide +kernel
theorem dX5_unpopularityMargin_16 : decode cX5_unpopularityMargin 16 = .ok (.invokestatic 111, 3) := by decide +kernel
theorem dX5_unpopularityMargin_19 : decode cX5_unpopularityMargin 19 = .ok (.ireturn, 1) := by decide +kernel
set_option maxRecDepth 20000 in
theorem ggX5_challengerPost_X2_isApplicant : GoodIn wsX5_challengerPost wsX2_isApplicant := goodIn_r _ [8, 9, 64, 65, 66, 67, 68] (by decide +kernel) (by decide +kernel)
set_option maxRecDepth 20000 in
theorem gX5_challengerPost_X2_isApplicant : GoodIn wsX5_challengerPost (wsV RX5 69 RX2 yX2_isApplicant wsX2_isApplicant) := goodIn_app (goodIn_of _ (by decide +kernel)) ggX5_challengerPost_X2_isApplicant
set_option maxRecDepth 20000 in
theorem ggX5_challengerPost_X0_bestKey : GoodIn wsX5_challengerPost wsX0_bestKey := goodIn_r _ [14, 15, 16, 17, 18, 19, 20, 21, 22, 23, 24, 25, 26, 27, 28, 29, 7, 30, 31, 32, 33, 34, 35, 36, 37, 38, 39, 13, 40, 41, 42, 43, 44, 45, 46, 47, 48, 49, 50, 51, 52, 53, 64, 65, 66, 67, 68, 69, 70, 71] (by decide +kernel) (by decide +kernel)
set_option maxRecDepth 20000 in
theorem gX5_challengerPost_X0_bestKey : GoodIn wsX5_challengerPost (wsV RX5 107 RX0 yX0_bestKey wsX0_bestKey) := goodIn_app (goodIn_of _ (by decide +kernel)) ggX5_challengerPost_X0_bestKey
set_option maxRecDepth 20000 in
theorem ggX5_challengerPost_X0_postIn : GoodIn wsX5_challengerPost wsX0_postIn := goodIn_r _ [56, 19, 46, 47, 13, 48] (by decide +kernel) (by decide +kernel)
set_option maxRecDepth 20000 in
theorem gX5_challengerPost_X0_postIn : GoodIn wsX5_challengerPost (va_wsS RX5 124 yX0_postIn wsX0_postIn) := goodIn_app (goodIn_of _ (by decide +kernel)) ggX5_challengerPost_X0_postIn
theorem dX5_challengerPost_0 : decode cX5_challengerPost 0 = .ok (.aload_n 0, 1) := by decide +kernel
theorem dX5_challengerPost_1 : decode cX5_challengerPost 1 = .ok (.getfield 10, 3) := by decide +kernel
theorem dX5_challengerPost_4 : decode cX5_challengerPost 4 = .ok (.iload_n 1, 1) := by decide +kernel
theorem dX5_challengerPost_5 : decode cX5_challengerPost 5 = .ok (.invokevirtual 69, 3) := by decide +kernel
theorem dX5_challengerPost_8 : decode cX5_challengerPost 8 = .ok (.ifCond .ne 6, 3) := by decide +kernel
theorem dX5_challengerPost_11 : decode cX5_challengerPost 11 = .ok (.bipush (-101), 2) := by decide +kernel
theorem dX5_challengerPost_13 : decode cX5_challengerPost 13 = .ok (.ireturn, 1) := by decide +kernel
theorem dX5_challengerPost_14 : decode cX5_challengerPost 14 = .ok (.aload_n 0, 1) := by decide +kernel
theorem dX5_challengerPost_15 : decode cX5_challengerPost 15 = .ok (.getfield 39, 3) := by decide +kernel
theorem dX5_challengerPost_18 : decode cX5_challengerPost 18 = .ok (.aload_n 0, 1) := by decide +kernel
theorem dX5_challengerPost_19 : decode cX5_challengerPost 19 = .ok (.getfield 10, 3) := by decide +kernel
theorem dX5_challengerPost_22 : decode cX5_challengerPost 22 = .ok (.aload_n 0, 1) := by decide +kernel
theorem dX5_challengerPost_23 : decode cX5_challengerPost 23 = .ok (.getfield 19, 3) := by decide +kernel
theorem dX5_challengerPost_26 : decode cX5_challengerPost 26 = .ok (.iconst 1, 1) := by decide +kernel
theorem dX5_challengerPost_27 : decode cX5_challengerPost 27 = .ok (.invokevirtual 107, 3) := by decide +kernel
theorem dX5_challengerPost_30 : decode cX5_challengerPost 30 = .ok (.iload_n 1, 1) := by decide +kernel
theorem dX5_challengerPost_31 : decode cX5_challengerPost 31 = .ok (.invokestatic 124, 3) := by decide +kernel
theorem dX5_challengerPost_34 : decode cX5_challengerPost 34 = .ok (.ireturn, 1) := by decide +kernel
set_option maxRecDepth 20000 in
theorem ggX5_adoptChallenger_X0_bestKey : GoodIn wsX5_adoptChallenger wsX0_bestKey := goodIn_r _ [11, 12, 13, 14, 15, 16, 17, 18, 19, 20, 21, 22, 23, 24, 25, 26, 27, 28, 29, 30, 31, 32, 33, 34, 35, 36, 37, 10, 38, 39, 40, 41, 42, 43, 44, 45, 46, 47, 48, 49, 50, 51, 99, 100, 101, 102, 103, 105, 106, 104] (by decide +kernel) (by decide +kernel)
set_option maxRecDepth 20000 in
theorem gX5_adoptChallenger_X0_bestKey : GoodIn wsX5_adoptChallenger (wsV RX5 107 RX0 yX0_bestKey wsX0_bestKey) := goodIn_app (goodIn_of _ (by decide +kernel)) ggX5_adoptChallenger_X0_bestKey
set_option maxRecDepth 20000 in
theorem ggX5_adoptChallenger_X3_clear : GoodIn wsX5_adoptChallenger wsX3_clear := goodIn_r _ [56, 57, 104] (by decide +kernel) (by decide +kernel)
set_option maxRecDepth 20000 in
theorem gX5_adoptChallenger_X3_clear : GoodIn wsX5_adoptChallenger (wsV RX5 127 RX3 yX3_clear wsX3_clear) := goodIn_app (goodIn_of _ (by decide +kernel)) ggX5_adoptChallenger_X3_clear
set_option maxRecDepth 20000 in
theorem ggX5_adoptChallenger_X0_postIn : GoodIn wsX5_adoptChallenger wsX0_postIn := goodIn_r _ [60, 16, 44, 45, 10, 46] (by decide +kernel) (by decide +kernel)
set_option maxRecDepth 20000 in
theorem gX5_adoptChallenger_X0_postIn : GoodIn wsX5_adoptChallenger (va_wsS RX5 124 yX0_postIn wsX0_postIn) := goodIn_app (goodIn_of _ (by decide +kernel)) ggX5_adoptChallenger_X0_postIn
set_option maxRecDepth 20000 in
theorem ggX5_adoptChallenger_X5_adoptDraft : GoodIn wsX5_adoptChallenger wsX5_adoptDraft := goodIn_r _ [65, 66, 3, 67, 4, 68, 69, 70, 71, 72, 73, 74, 75, 76, 77, 78, 79, 80, 81, 82, 55, 83, 57, 84, 85, 86, 87, 88, 92, 93, 94, 95, 96, 97, 98, 107, 108, 109, 104] (by decide +kernel) (by decide +kernel)
set_option maxRecDepth 20000 in
theorem gX5_adoptChallenger_X5_adoptDraft : GoodIn wsX5_adoptChallenger (wsV RX5 130 RX5 yX5_adoptDraft wsX5_adoptDraft) := goodIn_app (goodIn_of _ (by decide +kernel)) ggX5_adoptChallenger_X5_adoptDraft
set_option maxRecDepth 20000 in
theorem ggX5_adoptChallenger_X0_marginIn : GoodIn wsX5_adoptChallenger wsX0_marginIn := goodIn_r _ [91] (by decide +kernel) (by decide +kernel)
set_option maxRecDepth 20000 in
theorem gX5_adoptChallenger_X0_marginIn : GoodIn wsX5_adoptChallenger (va_wsS RX5 111 yX0_marginIn wsX0_marginIn) := goodIn_app (goodIn_of _ (by decide +kernel)) ggX5_adoptChallenger_X0_marginIn
theorem dX5_adoptChallenger_0 : decode cX5_adoptChallenger 0 = .ok (.aload_n 0, 1) := by decide +kernel
theorem dX5_adoptChallenger_1 : decode cX5_adoptChallenger 1 = .ok (.getfield 39, 3) := by decide +kernel
theorem dX5_adoptChallenger_4 : decode cX5_adoptChallenger 4 = .ok (.aload_n 0, 1) := by decide +kernel
theorem dX5_adoptChallenger_5 : decode cX5_adoptChallenger 5 = .ok (.getfield 10, 3) := by decide +kernel
theorem dX5_adoptChallenger_8 : decode cX5_adoptChallenger 8 = .ok (.aload_n 0, 1) := by decide +kernel
theorem dX5_adoptChallenger_9 : decode cX5_adoptChallenger 9 = .ok (.getfield 19, 3) := by decide +kernel
theorem dX5_adoptChallenger_12 : decode cX5_adoptChallenger 12 = .ok (.iconst 1, 1) := by decide +kernel
theorem dX5_adoptChallenger_13 : decode cX5_adoptChallenger 13 = .ok (.invokevirtual 107, 3) := by decide +kernel
theorem dX5_adoptChallenger_16 : decode cX5_adoptChallenger 16 = .ok (.istore_n 1, 1) := by decide +kernel
theorem dX5_adoptChallenger_17 : decode cX5_adoptChallenger 17 = .ok (.aload_n 0, 1) := by decide +kernel
theorem dX5_adoptChallenger_18 : decode cX5_adoptChallenger 18 = .ok (.getfield 26, 3) := by decide +kernel
theorem dX5_adoptChallenger_21 : decode cX5_adoptChallenger 21 = .ok (.invokevirtual 127, 3) := by decide +kernel
theorem dX5_adoptChallenger_24 : decode cX5_adoptChallenger 24 = .ok (.iconst 0, 1) := by decide +kernel
theorem dX5_adoptChallenger_25 : decode cX5_adoptChallenger 25 = .ok (.istore_n 2, 1) := by decide +kernel
theorem dX5_adoptChallenger_26 : decode cX5_adoptChallenger 26 = .ok (.iload_n 2, 1) := by decide +kernel
theorem dX5_adoptChallenger_27 : decode cX5_adoptChallenger 27 = .ok (.aload_n 0, 1) := by decide +kernel
theorem dX5_adoptChallenger_28 : decode cX5_adoptChallenger 28 = .ok (.getfield 10, 3) := by decide +kernel
theorem dX5_adoptChallenger_31 : decode cX5_adoptChallenger 31 = .ok (.getfield 50, 3) := by decide +kernel
theorem dX5_adoptChallenger_34 : decode cX5_adoptChallenger 34 = .ok (.if_icmp .ge 23, 3) := by decide +kernel
theorem dX5_adoptChallenger_37 : decode cX5_adoptChallenger 37 = .ok (.aload_n 0, 1) := by decide +kernel
theorem dX5_adoptChallenger_38 : decode cX5_adoptChallenger 38 = .ok (.getfield 26, 3) := by decide +kernel
theorem dX5_adoptChallenger_41 : decode cX5_adoptChallenger 41 = .ok (.getfield 96, 3) := by decide +kernel
theorem dX5_adoptChallenger_44 : decode cX5_adoptChallenger 44 = .ok (.iload_n 2, 1) := by decide +kernel
theorem dX5_adoptChallenger_45 : decode cX5_adoptChallenger 45 = .ok (.iload_n 1, 1) := by decide +kernel
theorem dX5_adoptChallenger_46 : decode cX5_adoptChallenger 46 = .ok (.iload_n 2, 1) := by decide +kernel
theorem dX5_adoptChallenger_47 : decode cX5_adoptChallenger 47 = .ok (.invokestatic 124, 3) := by decide +kernel
theorem dX5_adoptChallenger_50 : decode cX5_adoptChallenger 50 = .ok (.iastore, 1) := by decide +kernel
theorem dX5_adoptChallenger_51 : decode cX5_adoptChallenger 51 = .ok (.iinc 2 1, 3) := by decide +kernel
theorem dX5_adoptChallenger_54 : decode cX5_adoptChallenger 54 = .ok (.goto (-28), 3) := by decide +kernel
theorem dX5_adoptChallenger_57 : decode cX5_adoptChallenger 57 = .ok (.aload_n 0, 1) := by decide +kernel
theorem dX5_adoptChallenger_58 : decode cX5_adoptChallenger 58 = .ok (.invokevirtual 130, 3) := by decide +kernel
theorem dX5_adoptChallenger_61 : decode cX5_adoptChallenger 61 = .ok (.pop, 1) := by decide +kernel
theorem dX5_adoptChallenger_62 : decode cX5_adoptChallenger 62 = .ok (.iload_n 1, 1) := by decide +kernel
theorem dX5_adoptChallenger_63 : decode cX5_adoptChallenger 63 = .ok (.invokestatic 111, 3) := by decide +kernel
theorem dX5_adoptChallenger_66 : decode cX5_adoptChallenger 66 = .ok (.ireturn, 1) := by decide +kernel
set_option maxRecDepth 20000 in
theorem ggX5_popularCount_X4_collect : GoodIn wsX5_popularCount wsX4_collect := goodIn_r _ [7, 8, 9, 10, 11, 12, 6, 13, 14, 15, 16, 17, 18, 19, 20, 21, 22, 23, 24, 25, 26, 27, 28, 29, 30, 31, 32, 33, 34, 35, 36, 37, 38, 39, 40, 41, 42, 43, 44, 45, 46, 47, 48, 49, 50, 51, 52, 53, 54, 55, 56, 57, 58, 59, 60, 61, 62, 63, 71, 72, 73, 74, 75, 76, 77, 78, 79, 80, 81, 82] (by decide +kernel) (by decide +kernel)
set_option maxRecDepth 20000 in
theorem gX5_popularCount_X4_collect : GoodIn wsX5_popularCount (wsV RX5 133 RX4 yX4_collect wsX4_collect) := goodIn_app (goodIn_of _ (by decide +kernel)) ggX5_popularCount_X4_collect
theorem dX5_popularCount_0 : decode cX5_popularCount 0 = .ok (.aload_n 0, 1) := by decide +kernel
theorem dX5_popularCount_1 : decode cX5_popularCount 1 = .ok (.getfield 46, 3) := by decide +kernel
theorem dX5_popularCount_4 : decode cX5_popularCount 4 = .ok (.aload_n 0, 1) := by decide +kernel
theorem dX5_popularCount_5 : decode cX5_popularCount 5 = .ok (.getfield 10, 3) := by decide +kernel
theorem dX5_popularCount_8 : decode cX5_popularCount 8 = .ok (.invokevirtual 133, 3) := by decide +kernel
theorem dX5_popularCount_11 : decode cX5_popularCount 11 = .ok (.ireturn, 1) := by decide +kernel
set_option maxRecDepth 20000 in
theorem ggX5_greatestPopularSize_X4_collect : GoodIn wsX5_greatestPopularSize wsX4_collect := goodIn_r _ [12, 13, 14, 15, 16, 17, 11, 18, 19, 20, 21, 22, 23, 24, 25, 26, 6, 27, 28, 29, 30, 31, 32, 33, 34, 35, 36, 37, 38, 39, 40, 41, 42, 43, 44, 45, 46, 47, 48, 49, 50, 51, 52, 53, 54, 55, 56, 57, 58, 59, 60, 61, 62, 63, 64, 65, 66, 67, 90, 91, 92, 93, 94, 95, 96, 97, 98, 99, 100, 101] (by decide +kernel) (by decide +kernel)
set_option maxRecDepth 20000 in
theorem gX5_greatestPopularSize_X4_collect : GoodIn wsX5_greatestPopularSize (wsV RX5 133 RX4 yX4_collect wsX4_collect) := goodIn_app (goodIn_of _ (by decide +kernel)) ggX5_greatestPopularSize_X4_collect
set_option maxRecDepth 20000 in
theorem ggX5_greatestPopularSize_X4_write : GoodIn wsX5_greatestPopularSize wsX4_write := goodIn_r _ [71, 13, 72, 14, 73, 74, 75, 76, 77, 78, 60, 61, 62, 11, 63, 21, 20, 57, 58, 59, 90, 91, 92, 93, 94, 102, 95, 96, 97, 98, 99, 100, 101] (by decide +kernel) (by decide +kernel)
set_option maxRecDepth 20000 in
theorem gX5_greatestPopularSize_X4_write : GoodIn wsX5_greatestPopularSize (wsV RX5 137 RX4 yX4_write wsX4_write) := goodIn_app (goodIn_of _ (by decide +kernel)) ggX5_greatestPopularSize_X4_write
set_option maxRecDepth 20000 in
theorem ggX5_greatestPopularSize_X3_countPlaced : GoodIn wsX5_greatestPopularSize wsX3_countPlaced := goodIn_r _ [82, 78, 102] (by decide +kernel) (by decide +kernel)
set_option maxRecDepth 20000 in
theorem gX5_greatestPopularSize_X3_countPlaced : GoodIn wsX5_greatestPopularSize (wsV RX5 103 RX3 yX3_countPlaced wsX3_countPlaced) := goodIn_app (goodIn_of _ (by decide +kernel)) ggX5_greatestPopularSize_X3_countPlaced
theorem dX5_greatestPopularSize_0 : decode cX5_greatestPopularSize 0 = .ok (.aload_n 0, 1) := by decide +kernel
theorem dX5_greatestPopularSize_1 : decode cX5_greatestPopularSize 1 = .ok (.getfield 46, 3) := by decide +kernel
theorem dX5_greatestPopularSize_4 : decode cX5_greatestPopularSize 4 = .ok (.aload_n 0, 1) := by decide +kernel
theorem dX5_greatestPopularSize_5 : decode cX5_greatestPopularSize 5 = .ok (.getfield 10, 3) := by decide +kernel
theorem dX5_greatestPopularSize_8 : decode cX5_greatestPopularSize 8 = .ok (.invokevirtual 133, 3) := by decide +kernel
theorem dX5_greatestPopularSize_11 : decode cX5_greatestPopularSize 11 = .ok (.istore_n 1, 1) := by decide +kernel
theorem dX5_greatestPopularSize_12 : decode cX5_greatestPopularSize 12 = .ok (.bipush (-104), 2) := by decide +kernel
theorem dX5_greatestPopularSize_14 : decode cX5_greatestPopularSize 14 = .ok (.istore_n 2, 1) := by decide +kernel
theorem dX5_greatestPopularSize_15 : decode cX5_greatestPopularSize 15 = .ok (.iconst 0, 1) := by decide +kernel
theorem dX5_greatestPopularSize_16 : decode cX5_greatestPopularSize 16 = .ok (.istore_n 3, 1) := by decide +kernel
theorem dX5_greatestPopularSize_17 : decode cX5_greatestPopularSize 17 = .ok (.iload_n 3, 1) := by decide +kernel
theorem dX5_greatestPopularSize_18 : decode cX5_greatestPopularSize 18 = .ok (.iload_n 1, 1) := by decide +kernel
theorem dX5_greatestPopularSize_19 : decode cX5_greatestPopularSize 19 = .ok (.if_icmp .ge 37, 3) := by decide +kernel
theorem dX5_greatestPopularSize_22 : decode cX5_greatestPopularSize 22 = .ok (.aload_n 0, 1) := by decide +kernel
theorem dX5_greatestPopularSize_23 : decode cX5_greatestPopularSize 23 = .ok (.getfield 46, 3) := by decide +kernel
theorem dX5_greatestPopularSize_26 : decode cX5_greatestPopularSize 26 = .ok (.aload_n 0, 1) := by decide +kernel
theorem dX5_greatestPopularSize_27 : decode cX5_greatestPopularSize 27 = .ok (.getfield 10, 3) := by decide +kernel
theorem dX5_greatestPopularSize_30 : decode cX5_greatestPopularSize 30 = .ok (.iload_n 3, 1) := by decide +kernel
theorem dX5_greatestPopularSize_31 : decode cX5_greatestPopularSize 31 = .ok (.aload_n 0, 1) := by decide +kernel
theorem dX5_greatestPopularSize_32 : decode cX5_greatestPopularSize 32 = .ok (.getfield 26, 3) := by decide +kernel
theorem dX5_greatestPopularSize_35 : decode cX5_greatestPopularSize 35 = .ok (.invokevirtual 137, 3) := by decide +kernel
theorem dX5_greatestPopularSize_38 : decode cX5_greatestPopularSize 38 = .ok (.iload_n 2, 1) := by decide +kernel
theorem dX5_greatestPopularSize_39 : decode cX5_greatestPopularSize 39 = .ok (.aload_n 0, 1) := by decide +kernel
theorem dX5_greatestPopularSize_40 : decode cX5_greatestPopularSize 40 = .ok (.getfield 26, 3) := by decide +kernel
theorem dX5_greatestPopularSize_43 : decode cX5_greatestPopularSize 43 = .ok (.invokevirtual 103, 3) := by decide +kernel
theorem dX5_greatestPopularSize_46 : decode cX5_greatestPopularSize 46 = .ok (.invokestatic 141, 3) := by decide +kernel
theorem dX5_greatestPopularSize_49 : decode cX5_greatestPopularSize 49 = .ok (.istore_n 2, 1) := by decide +kernel
theorem dX5_greatestPopularSize_50 : decode cX5_greatestPopularSize 50 = .ok (.iinc 3 1, 3) := by decide +kernel
theorem dX5_greatestPopularSize_53 : decode cX5_greatestPopularSize 53 = .ok (.goto (-36), 3) := by decide +kernel
theorem dX5_greatestPopularSize_56 : decode cX5_greatestPopularSize 56 = .ok (.iload_n 2, 1) := by decide +kernel
theorem dX5_greatestPopularSize_57 : decode cX5_greatestPopularSize 57 = .ok (.ireturn, 1) := by decide +kernel
set_option maxRecDepth 20000 in
theorem ggX5_adoptPopular_X4_collect : GoodIn wsX5_adoptPopular wsX4_collect := goodIn_r _ [8, 9, 10, 11, 12, 13, 7, 14, 15, 16, 17, 18, 19, 20, 21, 22, 23, 24, 25, 26, 27, 28, 29, 30, 31, 32, 33, 34, 35, 36, 37, 38, 39, 40, 41, 42, 43, 44, 45, 46, 47, 48, 49, 50, 51, 52, 53, 54, 55, 56, 57, 58, 59, 60, 61, 62, 63, 64, 112, 113, 114, 115, 116, 117, 118, 119, 120, 121, 122, 123] (by decide +kernel) (by decide +kernel)
set_option maxRecDepth 20000 in
theorem gX5_adoptPopular_X4_collect : GoodIn wsX5_adoptPopular (wsV RX5 133 RX4 yX4_collect wsX4_collect) := goodIn_app (goodIn_of _ (by decide +kernel)) ggX5_adoptPopular_X4_collect
set_option maxRecDepth 20000 in
theorem ggX5_adoptPopular_X4_write : GoodIn wsX5_adoptPopular wsX4_write := goodIn_r _ [68, 9, 69, 10, 70, 71, 72, 73, 74, 75, 57, 58, 59, 7, 60, 17, 16, 54, 55, 56, 112, 113, 114, 115, 116, 124, 117, 118, 119, 120, 121, 122, 123] (by decide +kernel) (by decide +kernel)
set_option maxRecDepth 20000 in
theorem gX5_adoptPopular_X4_write : GoodIn wsX5_adoptPopular (wsV RX5 137 RX4 yX4_write wsX4_write) := goodIn_app (goodIn_of _ (by decide +kernel)) ggX5_adoptPopular_X4_write
set_option maxRecDepth 20000 in
theorem ggX5_adoptPopular_X5_adoptDraft : GoodIn wsX5_adoptPopular wsX5_adoptDraft := goodIn_r _ [80, 81, 82, 83, 3, 84, 85, 86, 87, 88, 89, 90, 91, 92, 93, 94, 95, 96, 97, 98, 73, 99, 75, 100, 101, 102, 103, 104, 105, 106, 107, 108, 109, 110, 111, 125, 126, 127, 124] (by decide +kernel) (by decide +kernel)
set_option maxRecDepth 20000 in
theorem gX5_adoptPopular_X5_adoptDraft : GoodIn wsX5_adoptPopular (wsV RX5 130 RX5 yX5_adoptDraft wsX5_adoptDraft) := goodIn_app (goodIn_of _ (by decide +kernel)) ggX5_adoptPopular_X5_adoptDraft
theorem dX5_adoptPopular_0 : decode cX5_adoptPopular 0 = .ok (.iload_n 1, 1) := by decide +kernel
theorem dX5_adoptPopular_1 : decode cX5_adoptPopular 1 = .ok (.ifCond .ge 6, 3) := by decide +kernel
theorem dX5_adoptPopular_4 : decode cX5_adoptPopular 4 = .ok (.bipush (-101), 2) := by decide +kernel
theorem dX5_adoptPopular_6 : decode cX5_adoptPopular 6 = .ok (.ireturn, 1) := by decide +kernel
theorem dX5_adoptPopular_7 : decode cX5_adoptPopular 7 = .ok (.iload_n 1, 1) := by decide +kernel
theorem dX5_adoptPopular_8 : decode cX5_adoptPopular 8 = .ok (.aload_n 0, 1) := by decide +kernel
theorem dX5_adoptPopular_9 : decode cX5_adoptPopular 9 = .ok (.getfield 46, 3) := by decide +kernel
theorem dX5_adoptPopular_12 : decode cX5_adoptPopular 12 = .ok (.aload_n 0, 1) := by decide +kernel
theorem dX5_adoptPopular_13 : decode cX5_adoptPopular 13 = .ok (.getfield 10, 3) := by decide +kernel
theorem dX5_adoptPopular_16 : decode cX5_adoptPopular 16 = .ok (.invokevirtual 133, 3) := by decide +kernel
theorem dX5_adoptPopular_19 : decode cX5_adoptPopular 19 = .ok (.if_icmp .lt 6, 3) := by decide +kernel
theorem dX5_adoptPopular_22 : decode cX5_adoptPopular 22 = .ok (.bipush (-104), 2) := by decide +kernel
theorem dX5_adoptPopular_24 : decode cX5_adoptPopular 24 = .ok (.ireturn, 1) := by decide +kernel
theorem dX5_adoptPopular_25 : decode cX5_adoptPopular 25 = .ok (.aload_n 0, 1) := by decide +kernel
theorem dX5_adoptPopular_26 : decode cX5_adoptPopular 26 = .ok (.getfield 46, 3) := by decide +kernel
theorem dX5_adoptPopular_29 : decode cX5_adoptPopular 29 = .ok (.aload_n 0, 1) := by decide +kernel
theorem dX5_adoptPopular_30 : decode cX5_adoptPopular 30 = .ok (.getfield 10, 3) := by decide +kernel
theorem dX5_adoptPopular_33 : decode cX5_adoptPopular 33 = .ok (.iload_n 1, 1) := by decide +kernel
theorem dX5_adoptPopular_34 : decode cX5_adoptPopular 34 = .ok (.aload_n 0, 1) := by decide +kernel
theorem dX5_adoptPopular_35 : decode cX5_adoptPopular 35 = .ok (.getfield 26, 3) := by decide +kernel
theorem dX5_adoptPopular_38 : decode cX5_adoptPopular 38 = .ok (.invokevirtual 137, 3) := by decide +kernel
theorem dX5_adoptPopular_41 : decode cX5_adoptPopular 41 = .ok (.aload_n 0, 1) := by decide +kernel
theorem dX5_adoptPopular_42 : decode cX5_adoptPopular 42 = .ok (.invokevirtual 130, 3) := by decide +kernel
theorem dX5_adoptPopular_45 : decode cX5_adoptPopular 45 = .ok (.ireturn, 1) := by decide +kernel
set_option maxRecDepth 20000 in
theorem ggX5_adoptSerial_X2_isApplicant : GoodIn wsX5_adoptSerial wsX2_isApplicant := goodIn_r _ [9, 10, 68, 69, 70, 71, 72] (by decide +kernel) (by decide +kernel)
set_option maxRecDepth 20000 in
theorem gX5_adoptSerial_X2_isApplicant : GoodIn wsX5_adoptSerial (wsV RX5 69 RX2 yX2_isApplicant wsX2_isApplicant) := goodIn_app (goodIn_of _ (by decide +kernel)) ggX5_adoptSerial_X2_isApplicant
set_option maxRecDepth 20000 in
theorem ggX5_adoptSerial_X3_clear : GoodIn wsX5_adoptSerial wsX3_clear := goodIn_r _ [15, 16, 73] (by decide +kernel) (by decide +kernel)
set_option maxRecDepth 20000 in
theorem gX5_adoptSerial_X3_clear : GoodIn wsX5_adoptSerial (wsV RX5 127 RX3 yX3_clear wsX3_clear) := goodIn_app (goodIn_of _ (by decide +kernel)) ggX5_adoptSerial_X3_clear
set_option maxRecDepth 20000 in
theorem ggX5_adoptSerial_X5_mostPreferredFree : GoodIn wsX5_adoptSerial wsX5_mostPreferredFree := goodIn_r _ [21, 1, 22, 2, 23, 24, 25, 26, 8, 27, 28, 29, 30, 31, 14, 32, 16, 61, 62, 63, 64, 65, 66, 67, 68, 69, 70, 71, 72, 73] (by decide +kernel) (by decide +kernel)
set_option maxRecDepth 20000 in
theorem gX5_adoptSerial_X5_mostPreferredFree : GoodIn wsX5_adoptSerial (wsV RX5 146 RX5 yX5_mostPreferredFree wsX5_mostPreferredFree) := goodIn_app (goodIn_of _ (by decide +kernel)) ggX5_adoptSerial_X5_mostPreferredFree
set_option maxRecDepth 20000 in
theorem ggX5_adoptSerial_X5_adoptDraft : GoodIn wsX5_adoptSerial wsX5_adoptDraft := goodIn_r _ [36, 37, 38, 39, 2, 40, 41, 42, 43, 44, 45, 46, 47, 48, 49, 50, 51, 52, 53, 54, 14, 55, 16, 56, 57, 58, 59, 60, 61, 62, 63, 64, 65, 66, 67, 74, 75, 76, 73] (by decide +kernel) (by decide +kernel)
set_option maxRecDepth 20000 in
theorem gX5_adoptSerial_X5_adoptDraft : GoodIn wsX5_adoptSerial (wsV RX5 130 RX5 yX5_adoptDraft wsX5_adoptDraft) := goodIn_app (goodIn_of _ (by decide +kernel)) ggX5_adoptSerial_X5_adoptDraft
theorem dX5_adoptSerial_0 : decode cX5_adoptSerial 0 = .ok (.aload_n 0, 1) := by decide +kernel
theorem dX5_adoptSerial_1 : decode cX5_adoptSerial 1 = .ok (.getfield 10, 3) := by decide +kernel
theorem dX5_adoptSerial_4 : decode cX5_adoptSerial 4 = .ok (.iload_n 1, 1) := by decide +kernel
theorem dX5_adoptSerial_5 : decode cX5_adoptSerial 5 = .ok (.invokevirtual 69, 3) := by decide +kernel
theorem dX5_adoptSerial_8 : decode cX5_adoptSerial 8 = .ok (.ifCond .ne 6, 3) := by decide +kernel
theorem dX5_adoptSerial_11 : decode cX5_adoptSerial 11 = .ok (.bipush (-101), 2) := by decide +kernel
theorem dX5_adoptSerial_13 : decode cX5_adoptSerial 13 = .ok (.ireturn, 1) := by decide +kernel
theorem dX5_adoptSerial_14 : decode cX5_adoptSerial 14 = .ok (.aload_n 0, 1) := by decide +kernel
theorem dX5_adoptSerial_15 : decode cX5_adoptSerial 15 = .ok (.getfield 26, 3) := by decide +kernel
theorem dX5_adoptSerial_18 : decode cX5_adoptSerial 18 = .ok (.invokevirtual 127, 3) := by decide +kernel
theorem dX5_adoptSerial_21 : decode cX5_adoptSerial 21 = .ok (.iload_n 1, 1) := by decide +kernel
theorem dX5_adoptSerial_22 : decode cX5_adoptSerial 22 = .ok (.istore_n 2, 1) := by decide +kernel
theorem dX5_adoptSerial_23 : decode cX5_adoptSerial 23 = .ok (.iload_n 2, 1) := by decide +kernel
theorem dX5_adoptSerial_24 : decode cX5_adoptSerial 24 = .ok (.aload_n 0, 1) := by decide +kernel
theorem dX5_adoptSerial_25 : decode cX5_adoptSerial 25 = .ok (.getfield 10, 3) := by decide +kernel
theorem dX5_adoptSerial_28 : decode cX5_adoptSerial 28 = .ok (.getfield 50, 3) := by decide +kernel
theorem dX5_adoptSerial_31 : decode cX5_adoptSerial 31 = .ok (.if_icmp .ge 23, 3) := by decide +kernel
theorem dX5_adoptSerial_34 : decode cX5_adoptSerial 34 = .ok (.aload_n 0, 1) := by decide +kernel
theorem dX5_adoptSerial_35 : decode cX5_adoptSerial 35 = .ok (.getfield 26, 3) := by decide +kernel
theorem dX5_adoptSerial_38 : decode cX5_adoptSerial 38 = .ok (.getfield 96, 3) := by decide +kernel
theorem dX5_adoptSerial_41 : decode cX5_adoptSerial 41 = .ok (.iload_n 2, 1) := by decide +kernel
theorem dX5_adoptSerial_42 : decode cX5_adoptSerial 42 = .ok (.aload_n 0, 1) := by decide +kernel
theorem dX5_adoptSerial_43 : decode cX5_adoptSerial 43 = .ok (.iload_n 2, 1) := by decide +kernel
theorem dX5_adoptSerial_44 : decode cX5_adoptSerial 44 = .ok (.invokevirtual 146, 3) := by decide +kernel
theorem dX5_adoptSerial_47 : decode cX5_adoptSerial 47 = .ok (.iastore, 1) := by decide +kernel
theorem dX5_adoptSerial_48 : decode cX5_adoptSerial 48 = .ok (.iinc 2 1, 3) := by decide +kernel
theorem dX5_adoptSerial_51 : decode cX5_adoptSerial 51 = .ok (.goto (-28), 3) := by decide +kernel
theorem dX5_adoptSerial_54 : decode cX5_adoptSerial 54 = .ok (.iconst 0, 1) := by decide +kernel
theorem dX5_adoptSerial_55 : decode cX5_adoptSerial 55 = .ok (.istore_n 2, 1) := by decide +kernel
theorem dX5_adoptSerial_56 : decode cX5_adoptSerial 56 = .ok (.iload_n 2, 1) := by decide +kernel
theorem dX5_adoptSerial_57 : decode cX5_adoptSerial 57 = .ok (.iload_n 1, 1) := by decide +kernel
theorem dX5_adoptSerial_58 : decode cX5_adoptSerial 58 = .ok (.if_icmp .ge 23, 3) := by decide +kernel
theorem dX5_adoptSerial_61 : decode cX5_adoptSerial 61 = .ok (.aload_n 0, 1) := by decide +kernel
theorem dX5_adoptSerial_62 : decode cX5_adoptSerial 62 = .ok (.getfield 26, 3) := by decide +kernel
theorem dX5_adoptSerial_65 : decode cX5_adoptSerial 65 = .ok (.getfield 96, 3) := by decide +kernel
theorem dX5_adoptSerial_68 : decode cX5_adoptSerial 68 = .ok (.iload_n 2, 1) := by decide +kernel
theorem dX5_adoptSerial_69 : decode cX5_adoptSerial 69 = .ok (.aload_n 0, 1) := by decide +kernel
theorem dX5_adoptSerial_70 : decode cX5_adoptSerial 70 = .ok (.iload_n 2, 1) := by decide +kernel
theorem dX5_adoptSerial_71 : decode cX5_adoptSerial 71 = .ok (.invokevirtual 146, 3) := by decide +kernel
theorem dX5_adoptSerial_74 : decode cX5_adoptSerial 74 = .ok (.iastore, 1) := by decide +kernel
theorem dX5_adoptSerial_75 : decode cX5_adoptSerial 75 = .ok (.iinc 2 1, 3) := by decide +kernel
theorem dX5_adoptSerial_78 : decode cX5_adoptSerial 78 = .ok (.goto (-22), 3) := by decide +kernel
theorem dX5_adoptSerial_81 : decode cX5_adoptSerial 81 = .ok (.aload_n 0, 1) := by decide +kernel
theorem dX5_adoptSerial_82 : decode cX5_adoptSerial 82 = .ok (.invokevirtual 130, 3) := by decide +kernel
theorem dX5_adoptSerial_85 : decode cX5_adoptSerial 85 = .ok (.ireturn, 1) := by decide +kernel
set_option maxRecDepth 20000 in
theorem ggX5_undo_X1_restore : GoodIn wsX5_undo wsX1_restore := goodIn_r _ [9, 10, 11, 12, 13, 14, 15, 16, 17, 18, 26, 27, 28, 29] (by decide +kernel) (by decide +kernel)
set_option maxRecDepth 20000 in
theorem gX5_undo_X1_restore : GoodIn wsX5_undo (wsV RX5 152 RX1 yX1_restore wsX1_restore) := goodIn_app (goodIn_of _ (by decide +kernel)) ggX5_undo_X1_restore
theorem dX5_undo_0 : decode cX5_undo 0 = .ok (.aload_n 0, 1) := by decide +kernel
theorem dX5_undo_1 : decode cX5_undo 1 = .ok (.getfield 32, 3) := by decide +kernel
theorem dX5_undo_4 : decode cX5_undo 4 = .ok (.getfield 149, 3) := by decide +kernel
theorem dX5_undo_7 : decode cX5_undo 7 = .ok (.ifCond .ne 6, 3) := by decide +kernel
theorem dX5_undo_10 : decode cX5_undo 10 = .ok (.bipush (-104), 2) := by decide +kernel
theorem dX5_undo_12 : decode cX5_undo 12 = .ok (.ireturn, 1) := by decide +kernel
theorem dX5_undo_13 : decode cX5_undo 13 = .ok (.aload_n 0, 1) := by decide +kernel
theorem dX5_undo_14 : decode cX5_undo 14 = .ok (.getfield 32, 3) := by decide +kernel
theorem dX5_undo_17 : decode cX5_undo 17 = .ok (.aload_n 0, 1) := by decide +kernel
theorem dX5_undo_18 : decode cX5_undo 18 = .ok (.getfield 19, 3) := by decide +kernel
theorem dX5_undo_21 : decode cX5_undo 21 = .ok (.aload_n 0, 1) := by decide +kernel
theorem dX5_undo_22 : decode cX5_undo 22 = .ok (.getfield 23, 3) := by decide +kernel
theorem dX5_undo_25 : decode cX5_undo 25 = .ok (.invokevirtual 152, 3) := by decide +kernel
theorem dX5_undo_28 : decode cX5_undo 28 = .ok (.aload_n 0, 1) := by decide +kernel
theorem dX5_undo_29 : decode cX5_undo 29 = .ok (.getfield 32, 3) := by decide +kernel
theorem dX5_undo_32 : decode cX5_undo 32 = .ok (.getfield 149, 3) := by decide +kernel
theorem dX5_undo_35 : decode cX5_undo 35 = .ok (.ireturn, 1) := by decide +kernel
set_option maxRecDepth 20000 in
theorem ggX5_forgetMatchings_X3_clear : GoodIn wsX5_forgetMatchings wsX3_clear := goodIn_r _ [8, 9, 23] (by decide +kernel) (by decide +kernel)
set_option maxRecDepth 20000 in
theorem gX5_forgetMatchings_X3_clear : GoodIn wsX5_forgetMatchings (wsV RX5 127 RX3 yX3_clear wsX3_clear) := goodIn_app (goodIn_of _ (by decide +kernel)) ggX5_forgetMatchings_X3_clear
set_option maxRecDepth 20000 in
theorem ggX5_forgetMatchings_X1_forget : GoodIn wsX5_forgetMatchings wsX1_forget := goodIn_r _ [14, 15, 24, 25, 26] (by decide +kernel) (by decide +kernel)
set_option maxRecDepth 20000 in
theorem gX5_forgetMatchings_X1_forget : GoodIn wsX5_forgetMatchings (wsV RX5 155 RX1 yX1_forget wsX1_forget) := goodIn_app (goodIn_of _ (by decide +kernel)) ggX5_forgetMatchings_X1_forget
theorem dX5_forgetMatchings_0 : decode cX5_forgetMatchings 0 = .ok (.aload_n 0, 1) := by decide +kernel
theorem dX5_forgetMatchings_1 : decode cX5_forgetMatchings 1 = .ok (.getfield 19, 3) := by decide +kernel
theorem dX5_forgetMatchings_4 : decode cX5_forgetMatchings 4 = .ok (.invokevirtual 127, 3) := by decide +kernel
theorem dX5_forgetMatchings_7 : decode cX5_forgetMatchings 7 = .ok (.aload_n 0, 1) := by decide +kernel
theorem dX5_forgetMatchings_8 : decode cX5_forgetMatchings 8 = .ok (.getfield 23, 3) := by decide +kernel
theorem dX5_forgetMatchings_11 : decode cX5_forgetMatchings 11 = .ok (.invokevirtual 127, 3) := by decide +kernel
theorem dX5_forgetMatchings_14 : decode cX5_forgetMatchings 14 = .ok (.aload_n 0, 1) := by decide +kernel
theorem dX5_forgetMatchings_15 : decode cX5_forgetMatchings 15 = .ok (.getfield 32, 3) := by decide +kernel
theorem dX5_forgetMatchings_18 : decode cX5_forgetMatchings 18 = .ok (.invokevirtual 155, 3) := by decide +kernel
theorem dX5_forgetMatchings_21 : decode cX5_forgetMatchings 21 = .ok (.return_, 1) := by decide +kernel
set_option maxRecDepth 20000 in
theorem ggX5_adoptDraft_X1_remember : GoodIn wsX5_adoptDraft wsX1_remember := goodIn_r _ [9, 10, 11, 12, 13, 14, 15, 8, 16, 17, 18, 19, 20, 21, 22, 35, 36, 37, 38] (by decide +kernel) (by decide +kernel)
set_option maxRecDepth 20000 in
theorem gX5_adoptDraft_X1_remember : GoodIn wsX5_adoptDraft (wsV RX5 99 RX1 yX1_remember wsX1_remember) := goodIn_app (goodIn_of _ (by decide +kernel)) ggX5_adoptDraft_X1_remember
set_option maxRecDepth 20000 in
theorem ggX5_adoptDraft_X3_copyFrom : GoodIn wsX5_adoptDraft wsX3_copyFrom := goodIn_r _ [21, 22, 38] (by decide +kernel) (by decide +kernel)
set_option maxRecDepth 20000 in
theorem gX5_adoptDraft_X3_copyFrom : GoodIn wsX5_adoptDraft (wsV RX5 114 RX3 yX3_copyFrom wsX3_copyFrom) := goodIn_app (goodIn_of _ (by decide +kernel)) ggX5_adoptDraft_X3_copyFrom
set_option maxRecDepth 20000 in
theorem ggX5_adoptDraft_X3_countPlaced : GoodIn wsX5_adoptDraft wsX3_countPlaced := goodIn_r _ [27, 22, 38] (by decide +kernel) (by decide +kernel)
set_option maxRecDepth 20000 in
theorem gX5_adoptDraft_X3_countPlaced : GoodIn wsX5_adoptDraft (wsV RX5 103 RX3 yX3_countPlaced wsX3_countPlaced) := goodIn_app (goodIn_of _ (by decide +kernel)) ggX5_adoptDraft_X3_countPlaced
theorem dX5_adoptDraft_0 : decode cX5_adoptDraft 0 = .ok (.aload_n 0, 1) := by decide +kernel
theorem dX5_adoptDraft_1 : decode cX5_adoptDraft 1 = .ok (.getfield 32, 3) := by decide +kernel
theorem dX5_adoptDraft_4 : decode cX5_adoptDraft 4 = .ok (.aload_n 0, 1) := by decide +kernel
theorem dX5_adoptDraft_5 : decode cX5_adoptDraft 5 = .ok (.getfield 19, 3) := by decide +kernel
theorem dX5_adoptDraft_8 : decode cX5_adoptDraft 8 = .ok (.aload_n 0, 1) := by decide +kernel
theorem dX5_adoptDraft_9 : decode cX5_adoptDraft 9 = .ok (.getfield 23, 3) := by decide +kernel
theorem dX5_adoptDraft_12 : decode cX5_adoptDraft 12 = .ok (.invokevirtual 99, 3) := by decide +kernel
theorem dX5_adoptDraft_15 : decode cX5_adoptDraft 15 = .ok (.aload_n 0, 1) := by decide +kernel
theorem dX5_adoptDraft_16 : decode cX5_adoptDraft 16 = .ok (.getfield 19, 3) := by decide +kernel
theorem dX5_adoptDraft_19 : decode cX5_adoptDraft 19 = .ok (.aload_n 0, 1) := by decide +kernel
theorem dX5_adoptDraft_20 : decode cX5_adoptDraft 20 = .ok (.getfield 26, 3) := by decide +kernel
theorem dX5_adoptDraft_23 : decode cX5_adoptDraft 23 = .ok (.invokevirtual 114, 3) := by decide +kernel
theorem dX5_adoptDraft_26 : decode cX5_adoptDraft 26 = .ok (.aload_n 0, 1) := by decide +kernel
theorem dX5_adoptDraft_27 : decode cX5_adoptDraft 27 = .ok (.getfield 19, 3) := by decide +kernel
theorem dX5_adoptDraft_30 : decode cX5_adoptDraft 30 = .ok (.invokevirtual 103, 3) := by decide +kernel
theorem dX5_adoptDraft_33 : decode cX5_adoptDraft 33 = .ok (.ireturn, 1) := by decide +kernel
set_option maxRecDepth 20000 in
theorem ggX5_mostPreferredFree_X2_listed : GoodIn wsX5_mostPreferredFree wsX2_listed := goodIn_r _ [9, 10, 24, 25, 26, 27, 28] (by decide +kernel) (by decide +kernel)
set_option maxRecDepth 20000 in
theorem gX5_mostPreferredFree_X2_listed : GoodIn wsX5_mostPreferredFree (wsV RX5 83 RX2 yX2_listed wsX2_listed) := goodIn_app (goodIn_of _ (by decide +kernel)) ggX5_mostPreferredFree_X2_listed
set_option maxRecDepth 20000 in
theorem ggX5_mostPreferredFree_X3_othersAt : GoodIn wsX5_mostPreferredFree wsX3_othersAt := goodIn_r _ [15, 16, 29] (by decide +kernel) (by decide +kernel)
set_option maxRecDepth 20000 in
theorem gX5_mostPreferredFree_X3_othersAt : GoodIn wsX5_mostPreferredFree (wsV RX5 93 RX3 yX3_othersAt wsX3_othersAt) := goodIn_app (goodIn_of _ (by decide +kernel)) ggX5_mostPreferredFree_X3_othersAt
theorem dX5_mostPreferredFree_0 : decode cX5_mostPreferredFree 0 = .ok (.iconst 0, 1) := by decide +kernel
theorem dX5_mostPreferredFree_1 : decode cX5_mostPreferredFree 1 = .ok (.istore_n 2, 1) := by decide +kernel
theorem dX5_mostPreferredFree_2 : decode cX5_mostPreferredFree 2 = .ok (.iload_n 2, 1) := by decide +kernel
theorem dX5_mostPreferredFree_3 : decode cX5_mostPreferredFree 3 = .ok (.aload_n 0, 1) := by decide +kernel
theorem dX5_mostPreferredFree_4 : decode cX5_mostPreferredFree 4 = .ok (.getfield 10, 3) := by decide +kernel
theorem dX5_mostPreferredFree_7 : decode cX5_mostPreferredFree 7 = .ok (.getfield 80, 3) := by decide +kernel
theorem dX5_mostPreferredFree_10 : decode cX5_mostPreferredFree 10 = .ok (.iload_n 1, 1) := by decide +kernel
theorem dX5_mostPreferredFree_11 : decode cX5_mostPreferredFree 11 = .ok (.iaload, 1) := by decide +kernel
theorem dX5_mostPreferredFree_12 : decode cX5_mostPreferredFree 12 = .ok (.if_icmp .ge 42, 3) := by decide +kernel
theorem dX5_mostPreferredFree_15 : decode cX5_mostPreferredFree 15 = .ok (.aload_n 0, 1) := by decide +kernel
theorem dX5_mostPreferredFree_16 : decode cX5_mostPreferredFree 16 = .ok (.getfield 10, 3) := by decide +kernel
theorem dX5_mostPreferredFree_19 : decode cX5_mostPreferredFree 19 = .ok (.iload_n 1, 1) := by decide +kernel
theorem dX5_mostPreferredFree_20 : decode cX5_mostPreferredFree 20 = .ok (.iload_n 2, 1) := by decide +kernel
theorem dX5_mostPreferredFree_21 : decode cX5_mostPreferredFree 21 = .ok (.invokevirtual 83, 3) := by decide +kernel
theorem dX5_mostPreferredFree_24 : decode cX5_mostPreferredFree 24 = .ok (.istore_n 3, 1) := by decide +kernel
theorem dX5_mostPreferredFree_25 : decode cX5_mostPreferredFree 25 = .ok (.aload_n 0, 1) := by decide +kernel
theorem dX5_mostPreferredFree_26 : decode cX5_mostPreferredFree 26 = .ok (.getfield 26, 3) := by decide +kernel
theorem dX5_mostPreferredFree_29 : decode cX5_mostPreferredFree 29 = .ok (.iload_n 3, 1) := by decide +kernel
theorem dX5_mostPreferredFree_30 : decode cX5_mostPreferredFree 30 = .ok (.iload_n 1, 1) := by decide +kernel
theorem dX5_mostPreferredFree_31 : decode cX5_mostPreferredFree 31 = .ok (.invokevirtual 93, 3) := by decide +kernel
theorem dX5_mostPreferredFree_34 : decode cX5_mostPreferredFree 34 = .ok (.aload_n 0, 1) := by decide +kernel
theorem dX5_mostPreferredFree_35 : decode cX5_mostPreferredFree 35 = .ok (.getfield 10, 3) := by decide +kernel
theorem dX5_mostPreferredFree_38 : decode cX5_mostPreferredFree 38 = .ok (.getfield 65, 3) := by decide +kernel
theorem dX5_mostPreferredFree_41 : decode cX5_mostPreferredFree 41 = .ok (.iload_n 3, 1) := by decide +kernel
theorem dX5_mostPreferredFree_42 : decode cX5_mostPreferredFree 42 = .ok (.iaload, 1) := by decide +kernel
theorem dX5_mostPreferredFree_43 : decode cX5_mostPreferredFree 43 = .ok (.if_icmp .ge 5, 3) := by decide +kernel
theorem dX5_mostPreferredFree_46 : decode cX5_mostPreferredFree 46 = .ok (.iload_n 3, 1) := by decide +kernel
theorem dX5_mostPreferredFree_47 : decode cX5_mostPreferredFree 47 = .ok (.ireturn, 1) := by decide +kernel
theorem dX5_mostPreferredFree_48 : decode cX5_mostPreferredFree 48 = .ok (.iinc 2 1, 3) := by decide +kernel
theorem dX5_mostPreferredFree_51 : decode cX5_mostPreferredFree 51 = .ok (.goto (-49), 3) := by decide +kernel
theorem dX5_mostPreferredFree_54 : decode cX5_mostPreferredFree 54 = .ok (.iconst (-1), 1) := by decide +kernel
theorem dX5_mostPreferredFree_55 : decode cX5_mostPreferredFree 55 = .ok (.ireturn, 1) := by decide +kernel
set_option maxRecDepth 20000 in
theorem ggX6_init_X6_builds : GoodIn wsX6_init wsX6_builds := goodIn_r _ [18, 4, 5, 7, 8, 19, 20, 21, 17, 22, 10, 23, 24, 25, 26, 27, 28, 29, 30, 31, 32, 33] (by decide +kernel) (by decide +kernel)
set_option maxRecDepth 20000 in
theorem gX6_init_X6_builds : GoodIn wsX6_init (wsV RX6 38 RX6 yX6_builds wsX6_builds) := goodIn_app (goodIn_of _ (by decide +kernel)) ggX6_init_X6_builds
