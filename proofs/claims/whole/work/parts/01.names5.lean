set_option maxRecDepth 20000 in
theorem ggX6_init_X6_bares : GoodIn wsX6_init wsX6_bares := goodIn_r _ [18] (by decide +kernel) (by decide +kernel)
set_option maxRecDepth 20000 in
theorem gX6_init_X6_bares : GoodIn wsX6_init (va_wsS RX6 38 yX6_bares wsX6_bares) := goodIn_app (goodIn_of _ (by decide +kernel)) ggX6_init_X6_bares
theorem dX6_init_0 : decode cX6_init 0 = .ok (.aload_n 0, 1) := by decide +kernel
theorem dX6_init_1 : decode cX6_init 1 = .ok (.invokespecial 1, 3) := by decide +kernel
theorem dX6_init_4 : decode cX6_init 4 = .ok (.aload_n 0, 1) := by decide +kernel
theorem dX6_init_5 : decode cX6_init 5 = .ok (.bipush 17, 2) := by decide +kernel
theorem dX6_init_7 : decode cX6_init 7 = .ok (.newarray .int, 2) := by decide +kernel
theorem dX6_init_9 : decode cX6_init 9 = .ok (.putfield 7, 3) := by decide +kernel
theorem dX6_init_12 : decode cX6_init 12 = .ok (.aload_n 0, 1) := by decide +kernel
theorem dX6_init_13 : decode cX6_init 13 = .ok (.bipush 17, 2) := by decide +kernel
theorem dX6_init_15 : decode cX6_init 15 = .ok (.newarray .int, 2) := by decide +kernel
theorem dX6_init_17 : decode cX6_init 17 = .ok (.putfield 13, 3) := by decide +kernel
theorem dX6_init_20 : decode cX6_init 20 = .ok (.aload_n 0, 1) := by decide +kernel
theorem dX6_init_21 : decode cX6_init 21 = .ok (.bipush 102, 2) := by decide +kernel
theorem dX6_init_23 : decode cX6_init 23 = .ok (.newarray .int, 2) := by decide +kernel
theorem dX6_init_25 : decode cX6_init 25 = .ok (.putfield 16, 3) := by decide +kernel
theorem dX6_init_28 : decode cX6_init 28 = .ok (.aload_n 0, 1) := by decide +kernel
theorem dX6_init_29 : decode cX6_init 29 = .ok (.bipush 34, 2) := by decide +kernel
theorem dX6_init_31 : decode cX6_init 31 = .ok (.newarray .int, 2) := by decide +kernel
theorem dX6_init_33 : decode cX6_init 33 = .ok (.putfield 19, 3) := by decide +kernel
theorem dX6_init_36 : decode cX6_init 36 = .ok (.aload_n 0, 1) := by decide +kernel
theorem dX6_init_37 : decode cX6_init 37 = .ok (.iconst 2, 1) := by decide +kernel
theorem dX6_init_38 : decode cX6_init 38 = .ok (.newarray .boolean, 2) := by decide +kernel
theorem dX6_init_40 : decode cX6_init 40 = .ok (.putfield 22, 3) := by decide +kernel
theorem dX6_init_43 : decode cX6_init 43 = .ok (.aload_n 0, 1) := by decide +kernel
theorem dX6_init_44 : decode cX6_init 44 = .ok (.bipush 6, 2) := by decide +kernel
theorem dX6_init_46 : decode cX6_init 46 = .ok (.newarray .int, 2) := by decide +kernel
theorem dX6_init_48 : decode cX6_init 48 = .ok (.putfield 26, 3) := by decide +kernel
theorem dX6_init_51 : decode cX6_init 51 = .ok (.aload_n 0, 1) := by decide +kernel
theorem dX6_init_52 : decode cX6_init 52 = .ok (.bipush 6, 2) := by decide +kernel
theorem dX6_init_54 : decode cX6_init 54 = .ok (.newarray .int, 2) := by decide +kernel
theorem dX6_init_56 : decode cX6_init 56 = .ok (.putfield 29, 3) := by decide +kernel
theorem dX6_init_59 : decode cX6_init 59 = .ok (.aload_n 0, 1) := by decide +kernel
theorem dX6_init_60 : decode cX6_init 60 = .ok (.bipush 120, 2) := by decide +kernel
theorem dX6_init_62 : decode cX6_init 62 = .ok (.newarray .int, 2) := by decide +kernel
theorem dX6_init_64 : decode cX6_init 64 = .ok (.putfield 32, 3) := by decide +kernel
theorem dX6_init_67 : decode cX6_init 67 = .ok (.aload_n 0, 1) := by decide +kernel
theorem dX6_init_68 : decode cX6_init 68 = .ok (.bipush 12, 2) := by decide +kernel
theorem dX6_init_70 : decode cX6_init 70 = .ok (.newarray .int, 2) := by decide +kernel
theorem dX6_init_72 : decode cX6_init 72 = .ok (.putfield 35, 3) := by decide +kernel
theorem dX6_init_75 : decode cX6_init 75 = .ok (.aload_n 0, 1) := by decide +kernel
theorem dX6_init_76 : decode cX6_init 76 = .ok (.getfield 7, 3) := by decide +kernel
theorem dX6_init_79 : decode cX6_init 79 = .ok (.invokestatic 38, 3) := by decide +kernel
theorem dX6_init_82 : decode cX6_init 82 = .ok (.aload_n 0, 1) := by decide +kernel
theorem dX6_init_83 : decode cX6_init 83 = .ok (.getfield 7, 3) := by decide +kernel
theorem dX6_init_86 : decode cX6_init 86 = .ok (.iconst 0, 1) := by decide +kernel
theorem dX6_init_87 : decode cX6_init 87 = .ok (.iconst 1, 1) := by decide +kernel
theorem dX6_init_88 : decode cX6_init 88 = .ok (.iastore, 1) := by decide +kernel
theorem dX6_init_89 : decode cX6_init 89 = .ok (.return_, 1) := by decide +kernel
theorem dX6_within_0 : decode cX6_within 0 = .ok (.iload_n 0, 1) := by decide +kernel
theorem dX6_within_1 : decode cX6_within 1 = .ok (.iload_n 1, 1) := by decide +kernel
theorem dX6_within_2 : decode cX6_within 2 = .ok (.if_icmp .lt 12, 3) := by decide +kernel
theorem dX6_within_5 : decode cX6_within 5 = .ok (.iload_n 0, 1) := by decide +kernel
theorem dX6_within_6 : decode cX6_within 6 = .ok (.iload_n 2, 1) := by decide +kernel
theorem dX6_within_7 : decode cX6_within 7 = .ok (.if_icmp .gt 7, 3) := by decide +kernel
theorem dX6_within_10 : decode cX6_within 10 = .ok (.iconst 1, 1) := by decide +kernel
theorem dX6_within_11 : decode cX6_within 11 = .ok (.goto 4, 3) := by decide +kernel
theorem dX6_within_14 : decode cX6_within 14 = .ok (.iconst 0, 1) := by decide +kernel
theorem dX6_within_15 : decode cX6_within 15 = .ok (.ireturn, 1) := by decide +kernel
theorem dX6_has_0 : decode cX6_has 0 = .ok (.iload_n 0, 1) := by decide +kernel
theorem dX6_has_1 : decode cX6_has 1 = .ok (.iload_n 1, 1) := by decide +kernel
theorem dX6_has_2 : decode cX6_has 2 = .ok (.ishr, 1) := by decide +kernel
theorem dX6_has_3 : decode cX6_has 3 = .ok (.iconst 1, 1) := by decide +kernel
theorem dX6_has_4 : decode cX6_has 4 = .ok (.iand, 1) := by decide +kernel
theorem dX6_has_5 : decode cX6_has 5 = .ok (.iconst 1, 1) := by decide +kernel
theorem dX6_has_6 : decode cX6_has 6 = .ok (.if_icmp .ne 7, 3) := by decide +kernel
theorem dX6_has_9 : decode cX6_has 9 = .ok (.iconst 1, 1) := by decide +kernel
theorem dX6_has_10 : decode cX6_has 10 = .ok (.goto 4, 3) := by decide +kernel
theorem dX6_has_13 : decode cX6_has 13 = .ok (.iconst 0, 1) := by decide +kernel
theorem dX6_has_14 : decode cX6_has 14 = .ok (.ireturn, 1) := by decide +kernel
theorem dX6_bares_0 : decode cX6_bares 0 = .ok (.iconst 0, 1) := by decide +kernel
theorem dX6_bares_1 : decode cX6_bares 1 = .ok (.istore_n 1, 1) := by decide +kernel
theorem dX6_bares_2 : decode cX6_bares 2 = .ok (.iload_n 1, 1) := by decide +kernel
theorem dX6_bares_3 : decode cX6_bares 3 = .ok (.bipush 17, 2) := by decide +kernel
theorem dX6_bares_5 : decode cX6_bares 5 = .ok (.if_icmp .ge 13, 3) := by decide +kernel
theorem dX6_bares_8 : decode cX6_bares 8 = .ok (.aload_n 0, 1) := by decide +kernel
theorem dX6_bares_9 : decode cX6_bares 9 = .ok (.iload_n 1, 1) := by decide +kernel
theorem dX6_bares_10 : decode cX6_bares 10 = .ok (.iconst 0, 1) := by decide +kernel
theorem dX6_bares_11 : decode cX6_bares 11 = .ok (.iastore, 1) := by decide +kernel
theorem dX6_bares_12 : decode cX6_bares 12 = .ok (.iinc 1 1, 3) := by decide +kernel
theorem dX6_bares_15 : decode cX6_bares 15 = .ok (.goto (-13), 3) := by decide +kernel
theorem dX6_bares_18 : decode cX6_bares 18 = .ok (.aload_n 0, 1) := by decide +kernel
theorem dX6_bares_19 : decode cX6_bares 19 = .ok (.iconst 1, 1) := by decide +kernel
theorem dX6_bares_20 : decode cX6_bares 20 = .ok (.iconst 2, 1) := by decide +kernel
theorem dX6_bares_21 : decode cX6_bares 21 = .ok (.iastore, 1) := by decide +kernel
theorem dX6_bares_22 : decode cX6_bares 22 = .ok (.aload_n 0, 1) := by decide +kernel
theorem dX6_bares_23 : decode cX6_bares 23 = .ok (.iconst 2, 1) := by decide +kernel
theorem dX6_bares_24 : decode cX6_bares 24 = .ok (.iconst 2, 1) := by decide +kernel
theorem dX6_bares_25 : decode cX6_bares 25 = .ok (.iastore, 1) := by decide +kernel
theorem dX6_bares_26 : decode cX6_bares 26 = .ok (.aload_n 0, 1) := by decide +kernel
theorem dX6_bares_27 : decode cX6_bares 27 = .ok (.iconst 3, 1) := by decide +kernel
theorem dX6_bares_28 : decode cX6_bares 28 = .ok (.iconst 4, 1) := by decide +kernel
theorem dX6_bares_29 : decode cX6_bares 29 = .ok (.iastore, 1) := by decide +kernel
theorem dX6_bares_30 : decode cX6_bares 30 = .ok (.return_, 1) := by decide +kernel
theorem dX6_least_0 : decode cX6_least 0 = .ok (.iload_n 0, 1) := by decide +kernel
theorem dX6_least_1 : decode cX6_least 1 = .ok (.iconst 1, 1) := by decide +kernel
theorem dX6_least_2 : decode cX6_least 2 = .ok (.if_icmp .ne 7, 3) := by decide +kernel
theorem dX6_least_5 : decode cX6_least 5 = .ok (.iconst 1, 1) := by decide +kernel
theorem dX6_least_6 : decode cX6_least 6 = .ok (.goto 13, 3) := by decide +kernel
theorem dX6_least_9 : decode cX6_least 9 = .ok (.iload_n 0, 1) := by decide +kernel
theorem dX6_least_10 : decode cX6_least 10 = .ok (.iconst 2, 1) := by decide +kernel
theorem dX6_least_11 : decode cX6_least 11 = .ok (.if_icmp .ne 7, 3) := by decide +kernel
theorem dX6_least_14 : decode cX6_least 14 = .ok (.iconst 0, 1) := by decide +kernel
theorem dX6_least_15 : decode cX6_least 15 = .ok (.goto 4, 3) := by decide +kernel
theorem dX6_least_18 : decode cX6_least 18 = .ok (.iconst 2, 1) := by decide +kernel
theorem dX6_least_19 : decode cX6_least 19 = .ok (.ireturn, 1) := by decide +kernel
theorem dX6_greatest_0 : decode cX6_greatest 0 = .ok (.iload_n 0, 1) := by decide +kernel
theorem dX6_greatest_1 : decode cX6_greatest 1 = .ok (.iconst 1, 1) := by decide +kernel
theorem dX6_greatest_2 : decode cX6_greatest 2 = .ok (.if_icmp .ne 7, 3) := by decide +kernel
theorem dX6_greatest_5 : decode cX6_greatest 5 = .ok (.iconst 5, 1) := by decide +kernel
theorem dX6_greatest_6 : decode cX6_greatest 6 = .ok (.goto 5, 3) := by decide +kernel
theorem dX6_greatest_9 : decode cX6_greatest 9 = .ok (.bipush 6, 2) := by decide +kernel
theorem dX6_greatest_11 : decode cX6_greatest 11 = .ok (.ireturn, 1) := by decide +kernel
theorem dX6_skips_0 : decode cX6_skips 0 = .ok (.aload_n 0, 1) := by decide +kernel
theorem dX6_skips_1 : decode cX6_skips 1 = .ok (.getfield 42, 3) := by decide +kernel
theorem dX6_skips_4 : decode cX6_skips 4 = .ok (.aload_n 0, 1) := by decide +kernel
theorem dX6_skips_5 : decode cX6_skips 5 = .ok (.getfield 46, 3) := by decide +kernel
theorem dX6_skips_8 : decode cX6_skips 8 = .ok (.if_icmp .ge 30, 3) := by decide +kernel
theorem dX6_skips_11 : decode cX6_skips 11 = .ok (.aload_n 0, 1) := by decide +kernel
theorem dX6_skips_12 : decode cX6_skips 12 = .ok (.getfield 32, 3) := by decide +kernel
theorem dX6_skips_15 : decode cX6_skips 15 = .ok (.aload_n 0, 1) := by decide +kernel
theorem dX6_skips_16 : decode cX6_skips 16 = .ok (.getfield 42, 3) := by decide +kernel
theorem dX6_skips_19 : decode cX6_skips 19 = .ok (.iaload, 1) := by decide +kernel
theorem dX6_skips_20 : decode cX6_skips 20 = .ok (.bipush 32, 2) := by decide +kernel
theorem dX6_skips_22 : decode cX6_skips 22 = .ok (.if_icmp .ne 16, 3) := by decide +kernel
theorem dX6_skips_25 : decode cX6_skips 25 = .ok (.aload_n 0, 1) := by decide +kernel
theorem dX6_skips_26 : decode cX6_skips 26 = .ok (.dup, 1) := by decide +kernel
theorem dX6_skips_27 : decode cX6_skips 27 = .ok (.getfield 42, 3) := by decide +kernel
theorem dX6_skips_30 : decode cX6_skips 30 = .ok (.iconst 1, 1) := by decide +kernel
theorem dX6_skips_31 : decode cX6_skips 31 = .ok (.iadd, 1) := by decide +kernel
theorem dX6_skips_32 : decode cX6_skips 32 = .ok (.putfield 42, 3) := by decide +kernel
theorem dX6_skips_35 : decode cX6_skips 35 = .ok (.goto (-35), 3) := by decide +kernel
theorem dX6_skips_38 : decode cX6_skips 38 = .ok (.aload_n 0, 1) := by decide +kernel
theorem dX6_skips_39 : decode cX6_skips 39 = .ok (.aload_n 0, 1) := by decide +kernel
theorem dX6_skips_40 : decode cX6_skips 40 = .ok (.getfield 42, 3) := by decide +kernel
theorem dX6_skips_43 : decode cX6_skips 43 = .ok (.putfield 49, 3) := by decide +kernel
theorem dX6_skips_46 : decode cX6_skips 46 = .ok (.return_, 1) := by decide +kernel
set_option maxRecDepth 20000 in
theorem ggX6_isAt_X6_within : GoodIn wsX6_isAt wsX6_within := goodIn_r _ [7] (by decide +kernel) (by decide +kernel)
set_option maxRecDepth 20000 in
theorem gX6_isAt_X6_within : GoodIn wsX6_isAt (va_wsS RX6 52 yX6_within wsX6_within) := goodIn_app (goodIn_of _ (by decide +kernel)) ggX6_isAt_X6_within
theorem dX6_isAt_0 : decode cX6_isAt 0 = .ok (.aload_n 0, 1) := by decide +kernel
theorem dX6_isAt_1 : decode cX6_isAt 1 = .ok (.getfield 42, 3) := by decide +kernel
theorem dX6_isAt_4 : decode cX6_isAt 4 = .ok (.aload_n 0, 1) := by decide +kernel
theorem dX6_isAt_5 : decode cX6_isAt 5 = .ok (.getfield 46, 3) := by decide +kernel
theorem dX6_isAt_8 : decode cX6_isAt 8 = .ok (.if_icmp .ge 24, 3) := by decide +kernel
theorem dX6_isAt_11 : decode cX6_isAt 11 = .ok (.aload_n 0, 1) := by decide +kernel
theorem dX6_isAt_12 : decode cX6_isAt 12 = .ok (.getfield 32, 3) := by decide +kernel
theorem dX6_isAt_15 : decode cX6_isAt 15 = .ok (.aload_n 0, 1) := by decide +kernel
theorem dX6_isAt_16 : decode cX6_isAt 16 = .ok (.getfield 42, 3) := by decide +kernel
theorem dX6_isAt_19 : decode cX6_isAt 19 = .ok (.iaload, 1) := by decide +kernel
theorem dX6_isAt_20 : decode cX6_isAt 20 = .ok (.iload_n 1, 1) := by decide +kernel
theorem dX6_isAt_21 : decode cX6_isAt 21 = .ok (.iload_n 2, 1) := by decide +kernel
theorem dX6_isAt_22 : decode cX6_isAt 22 = .ok (.invokestatic 52, 3) := by decide +kernel
theorem dX6_isAt_25 : decode cX6_isAt 25 = .ok (.ifCond .eq 7, 3) := by decide +kernel
theorem dX6_isAt_28 : decode cX6_isAt 28 = .ok (.iconst 1, 1) := by decide +kernel
theorem dX6_isAt_29 : decode cX6_isAt 29 = .ok (.goto 4, 3) := by decide +kernel
theorem dX6_isAt_32 : decode cX6_isAt 32 = .ok (.iconst 0, 1) := by decide +kernel
theorem dX6_isAt_33 : decode cX6_isAt 33 = .ok (.ireturn, 1) := by decide +kernel
set_option maxRecDepth 20000 in
theorem ggX6_passesEnd_X6_skips : GoodIn wsX6_passesEnd wsX6_skips := goodIn_r _ [6, 1, 7, 8, 9, 17, 18, 19, 20, 21, 22, 23, 24, 25, 26, 27, 28, 29, 30, 31] (by decide +kernel) (by decide +kernel)
set_option maxRecDepth 20000 in
theorem gX6_passesEnd_X6_skips : GoodIn wsX6_passesEnd (wsV RX6 56 RX6 yX6_skips wsX6_skips) := goodIn_app (goodIn_of _ (by decide +kernel)) ggX6_passesEnd_X6_skips
set_option maxRecDepth 20000 in
theorem ggX6_passesEnd_X6_isAt : GoodIn wsX6_passesEnd wsX6_isAt := goodIn_r _ [13, 1, 7, 8, 14, 15, 5, 16, 17, 18, 19, 20, 21, 22, 23, 24, 25, 26, 27, 28, 29, 30, 31] (by decide +kernel) (by decide +kernel)
set_option maxRecDepth 20000 in
theorem gX6_passesEnd_X6_isAt : GoodIn wsX6_passesEnd (wsV RX6 59 RX6 yX6_isAt wsX6_isAt) := goodIn_app (goodIn_of _ (by decide +kernel)) ggX6_passesEnd_X6_isAt
theorem dX6_passesEnd_0 : decode cX6_passesEnd 0 = .ok (.aload_n 0, 1) := by decide +kernel
theorem dX6_passesEnd_1 : decode cX6_passesEnd 1 = .ok (.invokevirtual 56, 3) := by decide +kernel
theorem dX6_passesEnd_4 : decode cX6_passesEnd 4 = .ok (.aload_n 0, 1) := by decide +kernel
theorem dX6_passesEnd_5 : decode cX6_passesEnd 5 = .ok (.bipush 59, 2) := by decide +kernel
theorem dX6_passesEnd_7 : decode cX6_passesEnd 7 = .ok (.bipush 59, 2) := by decide +kernel
theorem dX6_passesEnd_9 : decode cX6_passesEnd 9 = .ok (.invokevirtual 59, 3) := by decide +kernel
theorem dX6_passesEnd_12 : decode cX6_passesEnd 12 = .ok (.istore_n 1, 1) := by decide +kernel
theorem dX6_passesEnd_13 : decode cX6_passesEnd 13 = .ok (.aload_n 0, 1) := by decide +kernel
theorem dX6_passesEnd_14 : decode cX6_passesEnd 14 = .ok (.dup, 1) := by decide +kernel
theorem dX6_passesEnd_15 : decode cX6_passesEnd 15 = .ok (.getfield 42, 3) := by decide +kernel
theorem dX6_passesEnd_18 : decode cX6_passesEnd 18 = .ok (.iload_n 1, 1) := by decide +kernel
theorem dX6_passesEnd_19 : decode cX6_passesEnd 19 = .ok (.ifCond .eq 7, 3) := by decide +kernel
theorem dX6_passesEnd_22 : decode cX6_passesEnd 22 = .ok (.iconst 1, 1) := by decide +kernel
theorem dX6_passesEnd_23 : decode cX6_passesEnd 23 = .ok (.goto 4, 3) := by decide +kernel
theorem dX6_passesEnd_26 : decode cX6_passesEnd 26 = .ok (.iconst 0, 1) := by decide +kernel
theorem dX6_passesEnd_27 : decode cX6_passesEnd 27 = .ok (.iadd, 1) := by decide +kernel
theorem dX6_passesEnd_28 : decode cX6_passesEnd 28 = .ok (.putfield 42, 3) := by decide +kernel
theorem dX6_passesEnd_31 : decode cX6_passesEnd 31 = .ok (.iload_n 1, 1) := by decide +kernel
theorem dX6_passesEnd_32 : decode cX6_passesEnd 32 = .ok (.ireturn, 1) := by decide +kernel
set_option maxRecDepth 20000 in
theorem ggX6_figures_X6_skips : GoodIn wsX6_figures wsX6_skips := goodIn_r _ [8, 2, 9, 1, 3, 17, 18, 19, 20, 21, 22, 23, 24, 25, 26, 27, 28, 29, 30, 31] (by decide +kernel) (by decide +kernel)
set_option maxRecDepth 20000 in
theorem gX6_figures_X6_skips : GoodIn wsX6_figures (wsV RX6 56 RX6 yX6_skips wsX6_skips) := goodIn_app (goodIn_of _ (by decide +kernel)) ggX6_figures_X6_skips
set_option maxRecDepth 20000 in
theorem ggX6_figures_X6_isAt : GoodIn wsX6_figures wsX6_isAt := goodIn_r _ [13, 2, 9, 1, 14, 15, 7, 16, 17, 18, 19, 20, 21, 22, 23, 24, 25, 26, 27, 28, 29, 30, 31] (by decide +kernel) (by decide +kernel)
set_option maxRecDepth 20000 in
theorem gX6_figures_X6_isAt : GoodIn wsX6_figures (wsV RX6 59 RX6 yX6_isAt wsX6_isAt) := goodIn_app (goodIn_of _ (by decide +kernel)) ggX6_figures_X6_isAt
theorem dX6_figures_0 : decode cX6_figures 0 = .ok (.aload_n 0, 1) := by decide +kernel
theorem dX6_figures_1 : decode cX6_figures 1 = .ok (.invokevirtual 56, 3) := by decide +kernel
theorem dX6_figures_4 : decode cX6_figures 4 = .ok (.iconst 1, 1) := by decide +kernel
theorem dX6_figures_5 : decode cX6_figures 5 = .ok (.istore_n 2, 1) := by decide +kernel
theorem dX6_figures_6 : decode cX6_figures 6 = .ok (.aload_n 0, 1) := by decide +kernel
theorem dX6_figures_7 : decode cX6_figures 7 = .ok (.bipush 48, 2) := by decide +kernel
theorem dX6_figures_9 : decode cX6_figures 9 = .ok (.bipush 57, 2) := by decide +kernel
theorem dX6_figures_11 : decode cX6_figures 11 = .ok (.invokevirtual 59, 3) := by decide +kernel
theorem dX6_figures_14 : decode cX6_figures 14 = .ok (.ifCond .eq 42, 3) := by decide +kernel
theorem dX6_figures_17 : decode cX6_figures 17 = .ok (.iload_n 2, 1) := by decide +kernel
theorem dX6_figures_18 : decode cX6_figures 18 = .ok (.ifCond .eq 23, 3) := by decide +kernel
theorem dX6_figures_21 : decode cX6_figures 21 = .ok (.aload_n 0, 1) := by decide +kernel
theorem dX6_figures_22 : decode cX6_figures 22 = .ok (.getfield 32, 3) := by decide +kernel
theorem dX6_figures_25 : decode cX6_figures 25 = .ok (.aload_n 0, 1) := by decide +kernel
theorem dX6_figures_26 : decode cX6_figures 26 = .ok (.getfield 42, 3) := by decide +kernel
theorem dX6_figures_29 : decode cX6_figures 29 = .ok (.iaload, 1) := by decide +kernel
theorem dX6_figures_30 : decode cX6_figures 30 = .ok (.bipush 48, 2) := by decide +kernel
theorem dX6_figures_32 : decode cX6_figures 32 = .ok (.isub, 1) := by decide +kernel
theorem dX6_figures_33 : decode cX6_figures 33 = .ok (.iload_n 1, 1) := by decide +kernel
theorem dX6_figures_34 : decode cX6_figures 34 = .ok (.if_icmp .gt 7, 3) := by decide +kernel
theorem dX6_figures_37 : decode cX6_figures 37 = .ok (.iconst 1, 1) := by decide +kernel
theorem dX6_figures_38 : decode cX6_figures 38 = .ok (.goto 4, 3) := by decide +kernel
theorem dX6_figures_41 : decode cX6_figures 41 = .ok (.iconst 0, 1) := by decide +kernel
theorem dX6_figures_42 : decode cX6_figures 42 = .ok (.istore_n 2, 1) := by decide +kernel
theorem dX6_figures_43 : decode cX6_figures 43 = .ok (.aload_n 0, 1) := by decide +kernel
theorem dX6_figures_44 : decode cX6_figures 44 = .ok (.dup, 1) := by decide +kernel
theorem dX6_figures_45 : decode cX6_figures 45 = .ok (.getfield 42, 3) := by decide +kernel
theorem dX6_figures_48 : decode cX6_figures 48 = .ok (.iconst 1, 1) := by decide +kernel
theorem dX6_figures_49 : decode cX6_figures 49 = .ok (.iadd, 1) := by decide +kernel
theorem dX6_figures_50 : decode cX6_figures 50 = .ok (.putfield 42, 3) := by decide +kernel
theorem dX6_figures_53 : decode cX6_figures 53 = .ok (.goto (-47), 3) := by decide +kernel
theorem dX6_figures_56 : decode cX6_figures 56 = .ok (.iload_n 2, 1) := by decide +kernel
theorem dX6_figures_57 : decode cX6_figures 57 = .ok (.ifCond .eq 26, 3) := by decide +kernel
theorem dX6_figures_60 : decode cX6_figures 60 = .ok (.aload_n 0, 1) := by decide +kernel
theorem dX6_figures_61 : decode cX6_figures 61 = .ok (.getfield 42, 3) := by decide +kernel
theorem dX6_figures_64 : decode cX6_figures 64 = .ok (.aload_n 0, 1) := by decide +kernel
theorem dX6_figures_65 : decode cX6_figures 65 = .ok (.getfield 49, 3) := by decide +kernel
theorem dX6_figures_68 : decode cX6_figures 68 = .ok (.if_icmp .le 15, 3) := by decide +kernel
theorem dX6_figures_71 : decode cX6_figures 71 = .ok (.aload_n 0, 1) := by decide +kernel
theorem dX6_figures_72 : decode cX6_figures 72 = .ok (.getfield 42, 3) := by decide +kernel
theorem dX6_figures_75 : decode cX6_figures 75 = .ok (.aload_n 0, 1) := by decide +kernel
theorem dX6_figures_76 : decode cX6_figures 76 = .ok (.getfield 49, 3) := by decide +kernel
theorem dX6_figures_79 : decode cX6_figures 79 = .ok (.isub, 1) := by decide +kernel
theorem dX6_figures_80 : decode cX6_figures 80 = .ok (.goto 4, 3) := by decide +kernel
theorem dX6_figures_83 : decode cX6_figures 83 = .ok (.iconst (-1), 1) := by decide +kernel
theorem dX6_figures_84 : decode cX6_figures 84 = .ok (.ireturn, 1) := by decide +kernel
set_option maxRecDepth 20000 in
theorem ggX6_wordPassed_X6_skips : GoodIn wsX6_wordPassed wsX6_skips := goodIn_r _ [8, 1, 9, 3, 2, 17, 18, 19, 20, 21, 22, 23, 24, 25, 26, 27, 28, 29, 30, 31] (by decide +kernel) (by decide +kernel)
set_option maxRecDepth 20000 in
theorem gX6_wordPassed_X6_skips : GoodIn wsX6_wordPassed (wsV RX6 56 RX6 yX6_skips wsX6_skips) := goodIn_app (goodIn_of _ (by decide +kernel)) ggX6_wordPassed_X6_skips
set_option maxRecDepth 20000 in
theorem ggX6_wordPassed_X6_isAt : GoodIn wsX6_wordPassed wsX6_isAt := goodIn_r _ [13, 1, 9, 3, 14, 15, 7, 16, 17, 18, 19, 20, 21, 22, 23, 24, 25, 26, 27, 28, 29, 30, 31] (by decide +kernel) (by decide +kernel)
set_option maxRecDepth 20000 in
theorem gX6_wordPassed_X6_isAt : GoodIn wsX6_wordPassed (wsV RX6 59 RX6 yX6_isAt wsX6_isAt) := goodIn_app (goodIn_of _ (by decide +kernel)) ggX6_wordPassed_X6_isAt
theorem dX6_wordPassed_0 : decode cX6_wordPassed 0 = .ok (.aload_n 0, 1) := by decide +kernel
theorem dX6_wordPassed_1 : decode cX6_wordPassed 1 = .ok (.invokevirtual 56, 3) := by decide +kernel
theorem dX6_wordPassed_4 : decode cX6_wordPassed 4 = .ok (.iconst 0, 1) := by decide +kernel
theorem dX6_wordPassed_5 : decode cX6_wordPassed 5 = .ok (.istore_n 1, 1) := by decide +kernel
theorem dX6_wordPassed_6 : decode cX6_wordPassed 6 = .ok (.aload_n 0, 1) := by decide +kernel
theorem dX6_wordPassed_7 : decode cX6_wordPassed 7 = .ok (.bipush 97, 2) := by decide +kernel
theorem dX6_wordPassed_9 : decode cX6_wordPassed 9 = .ok (.bipush 122, 2) := by decide +kernel
theorem dX6_wordPassed_11 : decode cX6_wordPassed 11 = .ok (.invokevirtual 59, 3) := by decide +kernel
theorem dX6_wordPassed_14 : decode cX6_wordPassed 14 = .ok (.ifCond .eq 53, 3) := by decide +kernel
theorem dX6_wordPassed_17 : decode cX6_wordPassed 17 = .ok (.aload_n 0, 1) := by decide +kernel
theorem dX6_wordPassed_18 : decode cX6_wordPassed 18 = .ok (.getfield 42, 3) := by decide +kernel
theorem dX6_wordPassed_21 : decode cX6_wordPassed 21 = .ok (.aload_n 0, 1) := by decide +kernel
theorem dX6_wordPassed_22 : decode cX6_wordPassed 22 = .ok (.getfield 49, 3) := by decide +kernel
theorem dX6_wordPassed_25 : decode cX6_wordPassed 25 = .ok (.isub, 1) := by decide +kernel
theorem dX6_wordPassed_26 : decode cX6_wordPassed 26 = .ok (.iconst 4, 1) := by decide +kernel
theorem dX6_wordPassed_27 : decode cX6_wordPassed 27 = .ok (.if_icmp .le 7, 3) := by decide +kernel
theorem dX6_wordPassed_30 : decode cX6_wordPassed 30 = .ok (.iconst 0, 1) := by decide +kernel
theorem dX6_wordPassed_31 : decode cX6_wordPassed 31 = .ok (.goto 22, 3) := by decide +kernel
theorem dX6_wordPassed_34 : decode cX6_wordPassed 34 = .ok (.bipush 27, 2) := by decide +kernel
theorem dX6_wordPassed_36 : decode cX6_wordPassed 36 = .ok (.iload_n 1, 1) := by decide +kernel
theorem dX6_wordPassed_37 : decode cX6_wordPassed 37 = .ok (.imul, 1) := by decide +kernel
theorem dX6_wordPassed_38 : decode cX6_wordPassed 38 = .ok (.aload_n 0, 1) := by decide +kernel
theorem dX6_wordPassed_39 : decode cX6_wordPassed 39 = .ok (.getfield 32, 3) := by decide +kernel
theorem dX6_wordPassed_42 : decode cX6_wordPassed 42 = .ok (.aload_n 0, 1) := by decide +kernel
theorem dX6_wordPassed_43 : decode cX6_wordPassed 43 = .ok (.getfield 42, 3) := by decide +kernel
theorem dX6_wordPassed_46 : decode cX6_wordPassed 46 = .ok (.iaload, 1) := by decide +kernel
theorem dX6_wordPassed_47 : decode cX6_wordPassed 47 = .ok (.iadd, 1) := by decide +kernel
theorem dX6_wordPassed_48 : decode cX6_wordPassed 48 = .ok (.bipush 97, 2) := by decide +kernel
theorem dX6_wordPassed_50 : decode cX6_wordPassed 50 = .ok (.isub, 1) := by decide +kernel
theorem dX6_wordPassed_51 : decode cX6_wordPassed 51 = .ok (.iconst 1, 1) := by decide +kernel
theorem dX6_wordPassed_52 : decode cX6_wordPassed 52 = .ok (.iadd, 1) := by decide +kernel
theorem dX6_wordPassed_53 : decode cX6_wordPassed 53 = .ok (.istore_n 1, 1) := by decide +kernel
theorem dX6_wordPassed_54 : decode cX6_wordPassed 54 = .ok (.aload_n 0, 1) := by decide +kernel
theorem dX6_wordPassed_55 : decode cX6_wordPassed 55 = .ok (.dup, 1) := by decide +kernel
theorem dX6_wordPassed_56 : decode cX6_wordPassed 56 = .ok (.getfield 42, 3) := by decide +kernel
theorem dX6_wordPassed_59 : decode cX6_wordPassed 59 = .ok (.iconst 1, 1) := by decide +kernel
theorem dX6_wordPassed_60 : decode cX6_wordPassed 60 = .ok (.iadd, 1) := by decide +kernel
theorem dX6_wordPassed_61 : decode cX6_wordPassed 61 = .ok (.putfield 42, 3) := by decide +kernel
theorem dX6_wordPassed_64 : decode cX6_wordPassed 64 = .ok (.goto (-58), 3) := by decide +kernel
theorem dX6_wordPassed_67 : decode cX6_wordPassed 67 = .ok (.aload_n 0, 1) := by decide +kernel
theorem dX6_wordPassed_68 : decode cX6_wordPassed 68 = .ok (.getfield 42, 3) := by decide +kernel
theorem dX6_wordPassed_71 : decode cX6_wordPassed 71 = .ok (.aload_n 0, 1) := by decide +kernel
theorem dX6_wordPassed_72 : decode cX6_wordPassed 72 = .ok (.getfield 49, 3) := by decide +kernel
theorem dX6_wordPassed_75 : decode cX6_wordPassed 75 = .ok (.isub, 1) := by decide +kernel
theorem dX6_wordPassed_76 : decode cX6_wordPassed 76 = .ok (.iconst 5, 1) := by decide +kernel
theorem dX6_wordPassed_77 : decode cX6_wordPassed 77 = .ok (.if_icmp .le 7, 3) := by decide +kernel
theorem dX6_wordPassed_80 : decode cX6_wordPassed 80 = .ok (.iconst 0, 1) := by decide +kernel
theorem dX6_wordPassed_81 : decode cX6_wordPassed 81 = .ok (.goto 4, 3) := by decide +kernel
theorem dX6_wordPassed_84 : decode cX6_wordPassed 84 = .ok (.iload_n 1, 1) := by decide +kernel
theorem dX6_wordPassed_85 : decode cX6_wordPassed 85 = .ok (.lookupswitch 61 #[(1503, 59), (243140, 51), (453701, 55), (4281544, 53), (9665171, 57)], 51) := by decide +kernel
theorem dX6_wordPassed_136 : decode cX6_wordPassed 136 = .ok (.iconst 0, 1) := by decide +kernel
theorem dX6_wordPassed_137 : decode cX6_wordPassed 137 = .ok (.ireturn, 1) := by decide +kernel
theorem dX6_wordPassed_138 : decode cX6_wordPassed 138 = .ok (.iconst 1, 1) := by decide +kernel
theorem dX6_wordPassed_139 : decode cX6_wordPassed 139 = .ok (.ireturn, 1) := by decide +kernel
theorem dX6_wordPassed_140 : decode cX6_wordPassed 140 = .ok (.iconst 2, 1) := by decide +kernel
theorem dX6_wordPassed_141 : decode cX6_wordPassed 141 = .ok (.ireturn, 1) := by decide +kernel
theorem dX6_wordPassed_142 : decode cX6_wordPassed 142 = .ok (.iconst 3, 1) := by decide +kernel
theorem dX6_wordPassed_143 : decode cX6_wordPassed 143 = .ok (.ireturn, 1) := by decide +kernel
theorem dX6_wordPassed_144 : decode cX6_wordPassed 144 = .ok (.iconst 4, 1) := by decide +kernel
theorem dX6_wordPassed_145 : decode cX6_wordPassed 145 = .ok (.ireturn, 1) := by decide +kernel
theorem dX6_wordPassed_146 : decode cX6_wordPassed 146 = .ok (.bipush (-9), 2) := by decide +kernel
theorem dX6_wordPassed_148 : decode cX6_wordPassed 148 = .ok (.ireturn, 1) := by decide +kernel
set_option maxRecDepth 20000 in
theorem ggX6_readsLine_X6_figures : GoodIn wsX6_readsLine wsX6_figures := goodIn_r _ [8, 2, 9, 3, 10, 11, 12, 7, 13, 14, 15, 16, 17, 18, 19, 20, 21, 22, 23, 24, 25, 26, 27, 28, 29, 30, 31, 32, 33, 34, 35, 36] (by decide +kernel) (by decide +kernel)
set_option maxRecDepth 20000 in
theorem gX6_readsLine_X6_figures : GoodIn wsX6_readsLine (wsV RX6 63 RX6 yX6_figures wsX6_figures) := goodIn_app (goodIn_of _ (by decide +kernel)) ggX6_readsLine_X6_figures
set_option maxRecDepth 20000 in
theorem ggX6_readsLine_X6_within : GoodIn wsX6_readsLine wsX6_within := goodIn_r _ [21] (by decide +kernel) (by decide +kernel)
set_option maxRecDepth 20000 in
theorem gX6_readsLine_X6_within : GoodIn wsX6_readsLine (va_wsS RX6 52 yX6_within wsX6_within) := goodIn_app (goodIn_of _ (by decide +kernel)) ggX6_readsLine_X6_within
theorem dX6_readsLine_0 : decode cX6_readsLine 0 = .ok (.aload_n 0, 1) := by decide +kernel
theorem dX6_readsLine_1 : decode cX6_readsLine 1 = .ok (.getfield 13, 3) := by decide +kernel
theorem dX6_readsLine_4 : decode cX6_readsLine 4 = .ok (.iconst 0, 1) := by decide +kernel
theorem dX6_readsLine_5 : decode cX6_readsLine 5 = .ok (.iaload, 1) := by decide +kernel
theorem dX6_readsLine_6 : decode cX6_readsLine 6 = .ok (.ifCond .le 7, 3) := by decide +kernel
theorem dX6_readsLine_9 : decode cX6_readsLine 9 = .ok (.iconst (-1), 1) := by decide +kernel
theorem dX6_readsLine_10 : decode cX6_readsLine 10 = .ok (.goto 9, 3) := by decide +kernel
theorem dX6_readsLine_13 : decode cX6_readsLine 13 = .ok (.aload_n 0, 1) := by decide +kernel
theorem dX6_readsLine_14 : decode cX6_readsLine 14 = .ok (.bipush 7, 2) := by decide +kernel
theorem dX6_readsLine_16 : decode cX6_readsLine 16 = .ok (.invokevirtual 63, 3) := by decide +kernel
theorem dX6_readsLine_19 : decode cX6_readsLine 19 = .ok (.istore_n 1, 1) := by decide +kernel
theorem dX6_readsLine_20 : decode cX6_readsLine 20 = .ok (.iload_n 1, 1) := by decide +kernel
theorem dX6_readsLine_21 : decode cX6_readsLine 21 = .ok (.iconst 1, 1) := by decide +kernel
theorem dX6_readsLine_22 : decode cX6_readsLine 22 = .ok (.bipush 12, 2) := by decide +kernel
theorem dX6_readsLine_24 : decode cX6_readsLine 24 = .ok (.invokestatic 52, 3) := by decide +kernel
theorem dX6_readsLine_27 : decode cX6_readsLine 27 = .ok (.ifCond .ne 5, 3) := by decide +kernel
theorem dX6_readsLine_30 : decode cX6_readsLine 30 = .ok (.iconst 0, 1) := by decide +kernel
theorem dX6_readsLine_31 : decode cX6_readsLine 31 = .ok (.ireturn, 1) := by decide +kernel
theorem dX6_readsLine_32 : decode cX6_readsLine 32 = .ok (.aload_n 0, 1) := by decide +kernel
theorem dX6_readsLine_33 : decode cX6_readsLine 33 = .ok (.getfield 13, 3) := by decide +kernel
theorem dX6_readsLine_36 : decode cX6_readsLine 36 = .ok (.iconst 0, 1) := by decide +kernel
theorem dX6_readsLine_37 : decode cX6_readsLine 37 = .ok (.iload_n 1, 1) := by decide +kernel
theorem dX6_readsLine_38 : decode cX6_readsLine 38 = .ok (.iastore, 1) := by decide +kernel
theorem dX6_readsLine_39 : decode cX6_readsLine 39 = .ok (.iconst 0, 1) := by decide +kernel
theorem dX6_readsLine_40 : decode cX6_readsLine 40 = .ok (.istore_n 2, 1) := by decide +kernel
theorem dX6_readsLine_41 : decode cX6_readsLine 41 = .ok (.iload_n 2, 1) := by decide +kernel
theorem dX6_readsLine_42 : decode cX6_readsLine 42 = .ok (.iload_n 1, 1) := by decide +kernel
theorem dX6_readsLine_43 : decode cX6_readsLine 43 = .ok (.if_icmp .ge 31, 3) := by decide +kernel
theorem dX6_readsLine_46 : decode cX6_readsLine 46 = .ok (.aload_n 0, 1) := by decide +kernel
theorem dX6_readsLine_47 : decode cX6_readsLine 47 = .ok (.getfield 13, 3) := by decide +kernel
theorem dX6_readsLine_50 : decode cX6_readsLine 50 = .ok (.iconst 4, 1) := by decide +kernel
theorem dX6_readsLine_51 : decode cX6_readsLine 51 = .ok (.iload_n 2, 1) := by decide +kernel
theorem dX6_readsLine_52 : decode cX6_readsLine 52 = .ok (.iadd, 1) := by decide +kernel
theorem dX6_readsLine_53 : decode cX6_readsLine 53 = .ok (.aload_n 0, 1) := by decide +kernel
theorem dX6_readsLine_54 : decode cX6_readsLine 54 = .ok (.getfield 32, 3) := by decide +kernel
theorem dX6_readsLine_57 : decode cX6_readsLine 57 = .ok (.aload_n 0, 1) := by decide +kernel
theorem dX6_readsLine_58 : decode cX6_readsLine 58 = .ok (.getfield 49, 3) := by decide +kernel
theorem dX6_readsLine_61 : decode cX6_readsLine 61 = .ok (.iload_n 2, 1) := by decide +kernel
theorem dX6_readsLine_62 : decode cX6_readsLine 62 = .ok (.iadd, 1) := by decide +kernel
theorem dX6_readsLine_63 : decode cX6_readsLine 63 = .ok (.iaload, 1) := by decide +kernel
theorem dX6_readsLine_64 : decode cX6_readsLine 64 = .ok (.bipush 48, 2) := by decide +kernel
theorem dX6_readsLine_66 : decode cX6_readsLine 66 = .ok (.isub, 1) := by decide +kernel
theorem dX6_readsLine_67 : decode cX6_readsLine 67 = .ok (.iastore, 1) := by decide +kernel
theorem dX6_readsLine_68 : decode cX6_readsLine 68 = .ok (.iinc 2 1, 3) := by decide +kernel
theorem dX6_readsLine_71 : decode cX6_readsLine 71 = .ok (.goto (-30), 3) := by decide +kernel
theorem dX6_readsLine_74 : decode cX6_readsLine 74 = .ok (.iconst 1, 1) := by decide +kernel
theorem dX6_readsLine_75 : decode cX6_readsLine 75 = .ok (.ireturn, 1) := by decide +kernel
set_option maxRecDepth 20000 in
theorem ggX6_readsHands_X6_figures : GoodIn wsX6_readsHands wsX6_figures := goodIn_r _ [9, 3, 10, 4, 11, 12, 13, 8, 14, 15, 16, 17, 18, 19, 20, 21, 22, 23, 24, 25, 26, 27, 28, 29, 30, 31, 32, 33, 34, 35, 36, 37] (by decide +kernel) (by decide +kernel)
set_option maxRecDepth 20000 in
theorem gX6_readsHands_X6_figures : GoodIn wsX6_readsHands (wsV RX6 63 RX6 yX6_figures wsX6_figures) := goodIn_app (goodIn_of _ (by decide +kernel)) ggX6_readsHands_X6_figures
theorem dX6_readsHands_0 : decode cX6_readsHands 0 = .ok (.aload_n 0, 1) := by decide +kernel
theorem dX6_readsHands_1 : decode cX6_readsHands 1 = .ok (.getfield 67, 3) := by decide +kernel
theorem dX6_readsHands_4 : decode cX6_readsHands 4 = .ok (.ifCond .ne 26, 3) := by decide +kernel
theorem dX6_readsHands_7 : decode cX6_readsHands 7 = .ok (.aload_n 0, 1) := by decide +kernel
theorem dX6_readsHands_8 : decode cX6_readsHands 8 = .ok (.getfield 13, 3) := by decide +kernel
theorem dX6_readsHands_11 : decode cX6_readsHands 11 = .ok (.iconst 0, 1) := by decide +kernel
theorem dX6_readsHands_12 : decode cX6_readsHands 12 = .ok (.iaload, 1) := by decide +kernel
theorem dX6_readsHands_13 : decode cX6_readsHands 13 = .ok (.ifCond .eq 17, 3) := by decide +kernel
theorem dX6_readsHands_16 : decode cX6_readsHands 16 = .ok (.aload_n 0, 1) := by decide +kernel
theorem dX6_readsHands_17 : decode cX6_readsHands 17 = .ok (.iconst 1, 1) := by decide +kernel
theorem dX6_readsHands_18 : decode cX6_readsHands 18 = .ok (.invokevirtual 63, 3) := by decide +kernel
theorem dX6_readsHands_21 : decode cX6_readsHands 21 = .ok (.aload_n 0, 1) := by decide +kernel
theorem dX6_readsHands_22 : decode cX6_readsHands 22 = .ok (.getfield 13, 3) := by decide +kernel
theorem dX6_readsHands_25 : decode cX6_readsHands 25 = .ok (.iconst 0, 1) := by decide +kernel
theorem dX6_readsHands_26 : decode cX6_readsHands 26 = .ok (.iaload, 1) := by decide +kernel
theorem dX6_readsHands_27 : decode cX6_readsHands 27 = .ok (.if_icmp .eq 5, 3) := by decide +kernel
theorem dX6_readsHands_30 : decode cX6_readsHands 30 = .ok (.iconst 0, 1) := by decide +kernel
theorem dX6_readsHands_31 : decode cX6_readsHands 31 = .ok (.ireturn, 1) := by decide +kernel
theorem dX6_readsHands_32 : decode cX6_readsHands 32 = .ok (.aload_n 0, 1) := by decide +kernel
theorem dX6_readsHands_33 : decode cX6_readsHands 33 = .ok (.iconst 1, 1) := by decide +kernel
theorem dX6_readsHands_34 : decode cX6_readsHands 34 = .ok (.putfield 67, 3) := by decide +kernel
theorem dX6_readsHands_37 : decode cX6_readsHands 37 = .ok (.iconst 0, 1) := by decide +kernel
theorem dX6_readsHands_38 : decode cX6_readsHands 38 = .ok (.istore_n 1, 1) := by decide +kernel
theorem dX6_readsHands_39 : decode cX6_readsHands 39 = .ok (.iload_n 1, 1) := by decide +kernel
theorem dX6_readsHands_40 : decode cX6_readsHands 40 = .ok (.aload_n 0, 1) := by decide +kernel
theorem dX6_readsHands_41 : decode cX6_readsHands 41 = .ok (.getfield 13, 3) := by decide +kernel
theorem dX6_readsHands_44 : decode cX6_readsHands 44 = .ok (.iconst 0, 1) := by decide +kernel
theorem dX6_readsHands_45 : decode cX6_readsHands 45 = .ok (.iaload, 1) := by decide +kernel
theorem dX6_readsHands_46 : decode cX6_readsHands 46 = .ok (.if_icmp .ge 53, 3) := by decide +kernel
theorem dX6_readsHands_49 : decode cX6_readsHands 49 = .ok (.aload_n 0, 1) := by decide +kernel
theorem dX6_readsHands_50 : decode cX6_readsHands 50 = .ok (.getfield 13, 3) := by decide +kernel
theorem dX6_readsHands_53 : decode cX6_readsHands 53 = .ok (.bipush 16, 2) := by decide +kernel
theorem dX6_readsHands_55 : decode cX6_readsHands 55 = .ok (.dup2, 1) := by decide +kernel
theorem dX6_readsHands_56 : decode cX6_readsHands 56 = .ok (.iaload, 1) := by decide +kernel
theorem dX6_readsHands_57 : decode cX6_readsHands 57 = .ok (.aload_n 0, 1) := by decide +kernel
theorem dX6_readsHands_58 : decode cX6_readsHands 58 = .ok (.getfield 13, 3) := by decide +kernel
theorem dX6_readsHands_61 : decode cX6_readsHands 61 = .ok (.iconst 4, 1) := by decide +kernel
theorem dX6_readsHands_62 : decode cX6_readsHands 62 = .ok (.iload_n 1, 1) := by decide +kernel
theorem dX6_readsHands_63 : decode cX6_readsHands 63 = .ok (.iadd, 1) := by decide +kernel
theorem dX6_readsHands_64 : decode cX6_readsHands 64 = .ok (.iaload, 1) := by decide +kernel
theorem dX6_readsHands_65 : decode cX6_readsHands 65 = .ok (.ifCond .le 25, 3) := by decide +kernel
theorem dX6_readsHands_68 : decode cX6_readsHands 68 = .ok (.aload_n 0, 1) := by decide +kernel
theorem dX6_readsHands_69 : decode cX6_readsHands 69 = .ok (.getfield 32, 3) := by decide +kernel
theorem dX6_readsHands_72 : decode cX6_readsHands 72 = .ok (.aload_n 0, 1) := by decide +kernel
theorem dX6_readsHands_73 : decode cX6_readsHands 73 = .ok (.getfield 49, 3) := by decide +kernel
theorem dX6_readsHands_76 : decode cX6_readsHands 76 = .ok (.iload_n 1, 1) := by decide +kernel
theorem dX6_readsHands_77 : decode cX6_readsHands 77 = .ok (.iadd, 1) := by decide +kernel
theorem dX6_readsHands_78 : decode cX6_readsHands 78 = .ok (.iaload, 1) := by decide +kernel
theorem dX6_readsHands_79 : decode cX6_readsHands 79 = .ok (.bipush 49, 2) := by decide +kernel
theorem dX6_readsHands_81 : decode cX6_readsHands 81 = .ok (.if_icmp .ne 9, 3) := by decide +kernel
theorem dX6_readsHands_84 : decode cX6_readsHands 84 = .ok (.iconst 1, 1) := by decide +kernel
theorem dX6_readsHands_85 : decode cX6_readsHands 85 = .ok (.iload_n 1, 1) := by decide +kernel
theorem dX6_readsHands_86 : decode cX6_readsHands 86 = .ok (.ishl, 1) := by decide +kernel
theorem dX6_readsHands_87 : decode cX6_readsHands 87 = .ok (.goto 4, 3) := by decide +kernel
theorem dX6_readsHands_90 : decode cX6_readsHands 90 = .ok (.iconst 0, 1) := by decide +kernel
theorem dX6_readsHands_91 : decode cX6_readsHands 91 = .ok (.ior, 1) := by decide +kernel
theorem dX6_readsHands_92 : decode cX6_readsHands 92 = .ok (.iastore, 1) := by decide +kernel
theorem dX6_readsHands_93 : decode cX6_readsHands 93 = .ok (.iinc 1 1, 3) := by decide +kernel
theorem dX6_readsHands_96 : decode cX6_readsHands 96 = .ok (.goto (-57), 3) := by decide +kernel
theorem dX6_readsHands_99 : decode cX6_readsHands 99 = .ok (.iconst 1, 1) := by decide +kernel
theorem dX6_readsHands_100 : decode cX6_readsHands 100 = .ok (.ireturn, 1) := by decide +kernel
set_option maxRecDepth 20000 in
theorem ggX6_readsNumber_X6_figures : GoodIn wsX6_readsNumber wsX6_figures := goodIn_r _ [8, 2, 9, 3, 10, 11, 12, 7, 13, 14, 15, 16, 17, 18, 19, 20, 21, 28, 29, 30, 31, 32, 33, 34, 35, 36, 37, 38, 39, 40, 41, 42] (by decide +kernel) (by decide +kernel)
set_option maxRecDepth 20000 in
theorem gX6_readsNumber_X6_figures : GoodIn wsX6_readsNumber (wsV RX6 63 RX6 yX6_figures wsX6_figures) := goodIn_app (goodIn_of _ (by decide +kernel)) ggX6_readsNumber_X6_figures
set_option maxRecDepth 20000 in
theorem ggX6_readsNumber_X6_least : GoodIn wsX6_readsNumber wsX6_least := goodIn_r _ [24] (by decide +kernel) (by decide +kernel)
set_option maxRecDepth 20000 in
theorem gX6_readsNumber_X6_least : GoodIn wsX6_readsNumber (va_wsS RX6 71 yX6_least wsX6_least) := goodIn_app (goodIn_of _ (by decide +kernel)) ggX6_readsNumber_X6_least
set_option maxRecDepth 20000 in
theorem ggX6_readsNumber_X6_greatest : GoodIn wsX6_readsNumber wsX6_greatest := goodIn_r _ [27] (by decide +kernel) (by decide +kernel)
set_option maxRecDepth 20000 in
theorem gX6_readsNumber_X6_greatest : GoodIn wsX6_readsNumber (va_wsS RX6 74 yX6_greatest wsX6_greatest) := goodIn_app (goodIn_of _ (by decide +kernel)) ggX6_readsNumber_X6_greatest
set_option maxRecDepth 20000 in
theorem ggX6_readsNumber_X6_within : GoodIn wsX6_readsNumber wsX6_within := goodIn_r _ [21] (by decide +kernel) (by decide +kernel)
set_option maxRecDepth 20000 in
theorem gX6_readsNumber_X6_within : GoodIn wsX6_readsNumber (va_wsS RX6 52 yX6_within wsX6_within) := goodIn_app (goodIn_of _ (by decide +kernel)) ggX6_readsNumber_X6_within
theorem dX6_readsNumber_0 : decode cX6_readsNumber 0 = .ok (.aload_n 0, 1) := by decide +kernel
theorem dX6_readsNumber_1 : decode cX6_readsNumber 1 = .ok (.bipush 9, 2) := by decide +kernel
theorem dX6_readsNumber_3 : decode cX6_readsNumber 3 = .ok (.invokevirtual 63, 3) := by decide +kernel
theorem dX6_readsNumber_6 : decode cX6_readsNumber 6 = .ok (.iconst 1, 1) := by decide +kernel
theorem dX6_readsNumber_7 : decode cX6_readsNumber 7 = .ok (.if_icmp .eq 5, 3) := by decide +kernel
theorem dX6_readsNumber_10 : decode cX6_readsNumber 10 = .ok (.iconst 0, 1) := by decide +kernel
theorem dX6_readsNumber_11 : decode cX6_readsNumber 11 = .ok (.ireturn, 1) := by decide +kernel
theorem dX6_readsNumber_12 : decode cX6_readsNumber 12 = .ok (.aload_n 0, 1) := by decide +kernel
theorem dX6_readsNumber_13 : decode cX6_readsNumber 13 = .ok (.getfield 13, 3) := by decide +kernel
theorem dX6_readsNumber_16 : decode cX6_readsNumber 16 = .ok (.iload_n 1, 1) := by decide +kernel
theorem dX6_readsNumber_17 : decode cX6_readsNumber 17 = .ok (.aload_n 0, 1) := by decide +kernel
theorem dX6_readsNumber_18 : decode cX6_readsNumber 18 = .ok (.getfield 32, 3) := by decide +kernel
theorem dX6_readsNumber_21 : decode cX6_readsNumber 21 = .ok (.aload_n 0, 1) := by decide +kernel
theorem dX6_readsNumber_22 : decode cX6_readsNumber 22 = .ok (.getfield 49, 3) := by decide +kernel
theorem dX6_readsNumber_25 : decode cX6_readsNumber 25 = .ok (.iaload, 1) := by decide +kernel
theorem dX6_readsNumber_26 : decode cX6_readsNumber 26 = .ok (.bipush 48, 2) := by decide +kernel
theorem dX6_readsNumber_28 : decode cX6_readsNumber 28 = .ok (.isub, 1) := by decide +kernel
theorem dX6_readsNumber_29 : decode cX6_readsNumber 29 = .ok (.iastore, 1) := by decide +kernel
theorem dX6_readsNumber_30 : decode cX6_readsNumber 30 = .ok (.aload_n 0, 1) := by decide +kernel
theorem dX6_readsNumber_31 : decode cX6_readsNumber 31 = .ok (.getfield 13, 3) := by decide +kernel
theorem dX6_readsNumber_34 : decode cX6_readsNumber 34 = .ok (.iload_n 1, 1) := by decide +kernel
theorem dX6_readsNumber_35 : decode cX6_readsNumber 35 = .ok (.iaload, 1) := by decide +kernel
theorem dX6_readsNumber_36 : decode cX6_readsNumber 36 = .ok (.iload_n 1, 1) := by decide +kernel
theorem dX6_readsNumber_37 : decode cX6_readsNumber 37 = .ok (.invokestatic 71, 3) := by decide +kernel
theorem dX6_readsNumber_40 : decode cX6_readsNumber 40 = .ok (.iload_n 1, 1) := by decide +kernel
theorem dX6_readsNumber_41 : decode cX6_readsNumber 41 = .ok (.invokestatic 74, 3) := by decide +kernel
theorem dX6_readsNumber_44 : decode cX6_readsNumber 44 = .ok (.invokestatic 52, 3) := by decide +kernel
theorem dX6_readsNumber_47 : decode cX6_readsNumber 47 = .ok (.ireturn, 1) := by decide +kernel
set_option maxRecDepth 20000 in
theorem ggX6_readsItem_X6_wordPassed : GoodIn wsX6_readsItem wsX6_wordPassed := goodIn_r _ [5, 6, 7, 8, 9, 10, 11, 4, 12, 13, 14, 15, 16, 17, 18, 19, 20, 45, 46, 47, 48, 49, 50, 51, 52, 53, 54, 55, 56, 57, 58, 59] (by decide +kernel) (by decide +kernel)
set_option maxRecDepth 20000 in
theorem gX6_readsItem_X6_wordPassed : GoodIn wsX6_readsItem (wsV RX6 77 RX6 yX6_wordPassed wsX6_wordPassed) := goodIn_app (goodIn_of _ (by decide +kernel)) ggX6_readsItem_X6_wordPassed
set_option maxRecDepth 20000 in
theorem ggX6_readsItem_X6_readsLine : GoodIn wsX6_readsItem wsX6_readsLine := goodIn_r _ [24, 25, 8, 7, 26, 27, 28, 4, 29, 6, 9, 10, 11, 12, 13, 14, 15, 16, 17, 18, 19, 20, 45, 46, 47, 48, 49, 50, 51, 52, 53, 54, 55, 56, 57, 58, 59] (by decide +kernel) (by decide +kernel)
set_option maxRecDepth 20000 in
theorem gX6_readsItem_X6_readsLine : GoodIn wsX6_readsItem (wsV RX6 81 RX6 yX6_readsLine wsX6_readsLine) := goodIn_app (goodIn_of _ (by decide +kernel)) ggX6_readsItem_X6_readsLine
set_option maxRecDepth 20000 in
theorem ggX6_readsItem_X6_readsHands : GoodIn wsX6_readsItem wsX6_readsHands := goodIn_r _ [33, 34, 25, 8, 7, 26, 27, 28, 4, 29, 6, 9, 10, 11, 12, 13, 14, 15, 16, 17, 18, 19, 20, 45, 46, 47, 48, 49, 50, 51, 52, 53, 54, 55, 56, 57, 58, 59] (by decide +kernel) (by decide +kernel)
set_option maxRecDepth 20000 in
theorem gX6_readsItem_X6_readsHands : GoodIn wsX6_readsItem (wsV RX6 85 RX6 yX6_readsHands wsX6_readsHands) := goodIn_app (goodIn_of _ (by decide +kernel)) ggX6_readsItem_X6_readsHands
set_option maxRecDepth 20000 in
theorem ggX6_readsItem_X6_readsNumber : GoodIn wsX6_readsItem wsX6_readsNumber := goodIn_r _ [38, 25, 8, 7, 26, 27, 28, 4, 29, 6, 9, 10, 11, 12, 13, 14, 15, 16, 17, 18, 19, 20, 39, 40, 41, 42, 43, 44, 45, 46, 47, 48, 49, 50, 51, 52, 53, 54, 55, 56, 57, 58, 59] (by decide +kernel) (by decide +kernel)
set_option maxRecDepth 20000 in
theorem gX6_readsItem_X6_readsNumber : GoodIn wsX6_readsItem (wsV RX6 88 RX6 yX6_readsNumber wsX6_readsNumber) := goodIn_app (goodIn_of _ (by decide +kernel)) ggX6_readsItem_X6_readsNumber
theorem dX6_readsItem_0 : decode cX6_readsItem 0 = .ok (.aload_n 0, 1) := by decide +kernel
theorem dX6_readsItem_1 : decode cX6_readsItem 1 = .ok (.invokevirtual 77, 3) := by decide +kernel
theorem dX6_readsItem_4 : decode cX6_readsItem 4 = .ok (.istore_n 1, 1) := by decide +kernel
theorem dX6_readsItem_5 : decode cX6_readsItem 5 = .ok (.iload_n 1, 1) := by decide +kernel
theorem dX6_readsItem_6 : decode cX6_readsItem 6 = .ok (.bipush (-9), 2) := by decide +kernel
theorem dX6_readsItem_8 : decode cX6_readsItem 8 = .ok (.if_icmp .ne 5, 3) := by decide +kernel
theorem dX6_readsItem_11 : decode cX6_readsItem 11 = .ok (.iconst 0, 1) := by decide +kernel
theorem dX6_readsItem_12 : decode cX6_readsItem 12 = .ok (.ireturn, 1) := by decide +kernel
theorem dX6_readsItem_13 : decode cX6_readsItem 13 = .ok (.iload_n 1, 1) := by decide +kernel
theorem dX6_readsItem_14 : decode cX6_readsItem 14 = .ok (.ifCond .ne 10, 3) := by decide +kernel
theorem dX6_readsItem_17 : decode cX6_readsItem 17 = .ok (.aload_n 0, 1) := by decide +kernel
theorem dX6_readsItem_18 : decode cX6_readsItem 18 = .ok (.invokevirtual 81, 3) := by decide +kernel
theorem dX6_readsItem_21 : decode cX6_readsItem 21 = .ok (.goto 22, 3) := by decide +kernel
theorem dX6_readsItem_24 : decode cX6_readsItem 24 = .ok (.iload_n 1, 1) := by decide +kernel
theorem dX6_readsItem_25 : decode cX6_readsItem 25 = .ok (.iconst 1, 1) := by decide +kernel
theorem dX6_readsItem_26 : decode cX6_readsItem 26 = .ok (.if_icmp .ne 10, 3) := by decide +kernel
theorem dX6_readsItem_29 : decode cX6_readsItem 29 = .ok (.aload_n 0, 1) := by decide +kernel
theorem dX6_readsItem_30 : decode cX6_readsItem 30 = .ok (.invokevirtual 85, 3) := by decide +kernel
theorem dX6_readsItem_33 : decode cX6_readsItem 33 = .ok (.goto 10, 3) := by decide +kernel
theorem dX6_readsItem_36 : decode cX6_readsItem 36 = .ok (.aload_n 0, 1) := by decide +kernel
theorem dX6_readsItem_37 : decode cX6_readsItem 37 = .ok (.iload_n 1, 1) := by decide +kernel
theorem dX6_readsItem_38 : decode cX6_readsItem 38 = .ok (.iconst 1, 1) := by decide +kernel
theorem dX6_readsItem_39 : decode cX6_readsItem 39 = .ok (.isub, 1) := by decide +kernel
theorem dX6_readsItem_40 : decode cX6_readsItem 40 = .ok (.invokevirtual 88, 3) := by decide +kernel
theorem dX6_readsItem_43 : decode cX6_readsItem 43 = .ok (.ireturn, 1) := by decide +kernel
set_option maxRecDepth 20000 in
theorem ggX6_reads_X6_bares : GoodIn wsX6_reads wsX6_bares := goodIn_r _ [8] (by decide +kernel) (by decide +kernel)
set_option maxRecDepth 20000 in
theorem gX6_reads_X6_bares : GoodIn wsX6_reads (va_wsS RX6 38 yX6_bares wsX6_bares) := goodIn_app (goodIn_of _ (by decide +kernel)) ggX6_reads_X6_bares
set_option maxRecDepth 20000 in
theorem ggX6_reads_X6_skips : GoodIn wsX6_reads wsX6_skips := goodIn_r _ [12, 3, 4, 13, 14, 56, 57, 58, 59, 60, 61, 62, 63, 64, 65, 66, 67, 68, 69, 70] (by decide +kernel) (by decide +kernel)
set_option maxRecDepth 20000 in
theorem gX6_reads_X6_skips : GoodIn wsX6_reads (wsV RX6 56 RX6 yX6_skips wsX6_skips) := goodIn_app (goodIn_of _ (by decide +kernel)) ggX6_reads_X6_skips
set_option maxRecDepth 20000 in
theorem ggX6_reads_X6_readsItem : GoodIn wsX6_reads wsX6_readsItem := goodIn_r _ [18, 19, 20, 21, 7, 22, 3, 14, 13, 9, 10, 11, 12, 4, 23, 24, 25, 26, 27, 28, 29, 30, 31, 32, 33, 1, 34, 35, 36, 37, 38, 39, 40, 41, 2, 42, 43, 44, 45, 46, 47, 48, 49, 50, 51, 56, 57, 58, 59, 60, 61, 62, 63, 64, 65, 66, 67, 68, 69, 70] (by decide +kernel) (by decide +kernel)
set_option maxRecDepth 20000 in
theorem gX6_reads_X6_readsItem : GoodIn wsX6_reads (wsV RX6 92 RX6 yX6_readsItem wsX6_readsItem) := goodIn_app (goodIn_of _ (by decide +kernel)) ggX6_reads_X6_readsItem
set_option maxRecDepth 20000 in
theorem ggX6_reads_X6_passesEnd : GoodIn wsX6_reads wsX6_passesEnd := goodIn_r _ [55, 3, 9, 10, 11, 7, 12, 4, 13, 14, 23, 24, 25, 26, 27, 28, 29, 56, 57, 58, 59, 60, 61, 62, 63, 64, 65, 66, 67, 68, 69, 70] (by decide +kernel) (by decide +kernel)
set_option maxRecDepth 20000 in
theorem gX6_reads_X6_passesEnd : GoodIn wsX6_reads (wsV RX6 95 RX6 yX6_passesEnd wsX6_passesEnd) := goodIn_app (goodIn_of _ (by decide +kernel)) ggX6_reads_X6_passesEnd
theorem dX6_reads_0 : decode cX6_reads 0 = .ok (.aload_n 0, 1) := by decide +kernel
theorem dX6_reads_1 : decode cX6_reads 1 = .ok (.getfield 13, 3) := by decide +kernel
theorem dX6_reads_4 : decode cX6_reads 4 = .ok (.invokestatic 38, 3) := by decide +kernel
theorem dX6_reads_7 : decode cX6_reads 7 = .ok (.aload_n 0, 1) := by decide +kernel
theorem dX6_reads_8 : decode cX6_reads 8 = .ok (.iconst 0, 1) := by decide +kernel
theorem dX6_reads_9 : decode cX6_reads 9 = .ok (.putfield 67, 3) := by decide +kernel
theorem dX6_reads_12 : decode cX6_reads 12 = .ok (.aload_n 0, 1) := by decide +kernel
theorem dX6_reads_13 : decode cX6_reads 13 = .ok (.iconst 0, 1) := by decide +kernel
theorem dX6_reads_14 : decode cX6_reads 14 = .ok (.putfield 42, 3) := by decide +kernel
theorem dX6_reads_17 : decode cX6_reads 17 = .ok (.iconst 0, 1) := by decide +kernel
theorem dX6_reads_18 : decode cX6_reads 18 = .ok (.istore_n 1, 1) := by decide +kernel
theorem dX6_reads_19 : decode cX6_reads 19 = .ok (.aload_n 0, 1) := by decide +kernel
theorem dX6_reads_20 : decode cX6_reads 20 = .ok (.invokevirtual 56, 3) := by decide +kernel
theorem dX6_reads_23 : decode cX6_reads 23 = .ok (.aload_n 0, 1) := by decide +kernel
theorem dX6_reads_24 : decode cX6_reads 24 = .ok (.getfield 42, 3) := by decide +kernel
theorem dX6_reads_27 : decode cX6_reads 27 = .ok (.aload_n 0, 1) := by decide +kernel
theorem dX6_reads_28 : decode cX6_reads 28 = .ok (.getfield 46, 3) := by decide +kernel
theorem dX6_reads_31 : decode cX6_reads 31 = .ok (.if_icmp .ge 29, 3) := by decide +kernel
theorem dX6_reads_34 : decode cX6_reads 34 = .ok (.aload_n 0, 1) := by decide +kernel
theorem dX6_reads_35 : decode cX6_reads 35 = .ok (.invokevirtual 92, 3) := by decide +kernel
theorem dX6_reads_38 : decode cX6_reads 38 = .ok (.ifCond .eq 10, 3) := by decide +kernel
theorem dX6_reads_41 : decode cX6_reads 41 = .ok (.aload_n 0, 1) := by decide +kernel
theorem dX6_reads_42 : decode cX6_reads 42 = .ok (.invokevirtual 95, 3) := by decide +kernel
theorem dX6_reads_45 : decode cX6_reads 45 = .ok (.ifCond .ne 5, 3) := by decide +kernel
theorem dX6_reads_48 : decode cX6_reads 48 = .ok (.iconst (-1), 1) := by decide +kernel
theorem dX6_reads_49 : decode cX6_reads 49 = .ok (.ireturn, 1) := by decide +kernel
theorem dX6_reads_50 : decode cX6_reads 50 = .ok (.iinc 1 1, 3) := by decide +kernel
theorem dX6_reads_53 : decode cX6_reads 53 = .ok (.aload_n 0, 1) := by decide +kernel
theorem dX6_reads_54 : decode cX6_reads 54 = .ok (.invokevirtual 56, 3) := by decide +kernel
theorem dX6_reads_57 : decode cX6_reads 57 = .ok (.goto (-34), 3) := by decide +kernel
theorem dX6_reads_60 : decode cX6_reads 60 = .ok (.aload_n 0, 1) := by decide +kernel
theorem dX6_reads_61 : decode cX6_reads 61 = .ok (.getfield 13, 3) := by decide +kernel
theorem dX6_reads_64 : decode cX6_reads 64 = .ok (.iconst 0, 1) := by decide +kernel
theorem dX6_reads_65 : decode cX6_reads 65 = .ok (.iaload, 1) := by decide +kernel
theorem dX6_reads_66 : decode cX6_reads 66 = .ok (.ifCond .le 7, 3) := by decide +kernel
theorem dX6_reads_69 : decode cX6_reads 69 = .ok (.iload_n 1, 1) := by decide +kernel
theorem dX6_reads_70 : decode cX6_reads 70 = .ok (.goto 4, 3) := by decide +kernel
theorem dX6_reads_73 : decode cX6_reads 73 = .ok (.iconst (-1), 1) := by decide +kernel
theorem dX6_reads_74 : decode cX6_reads 74 = .ok (.ireturn, 1) := by decide +kernel
set_option maxRecDepth 20000 in
theorem ggX6_type_X6_within : GoodIn wsX6_type wsX6_within := goodIn_r _ [6] (by decide +kernel) (by decide +kernel)
set_option maxRecDepth 20000 in
theorem gX6_type_X6_within : GoodIn wsX6_type (va_wsS RX6 52 yX6_within wsX6_within) := goodIn_app (goodIn_of _ (by decide +kernel)) ggX6_type_X6_within
theorem dX6_type_0 : decode cX6_type 0 = .ok (.iload_n 1, 1) := by decide +kernel
theorem dX6_type_1 : decode cX6_type 1 = .ok (.iconst 0, 1) := by decide +kernel
theorem dX6_type_2 : decode cX6_type 2 = .ok (.sipush 255, 3) := by decide +kernel
theorem dX6_type_5 : decode cX6_type 5 = .ok (.invokestatic 52, 3) := by decide +kernel
theorem dX6_type_8 : decode cX6_type 8 = .ok (.ifCond .ne 5, 3) := by decide +kernel
theorem dX6_type_11 : decode cX6_type 11 = .ok (.iconst (-1), 1) := by decide +kernel
theorem dX6_type_12 : decode cX6_type 12 = .ok (.ireturn, 1) := by decide +kernel
theorem dX6_type_13 : decode cX6_type 13 = .ok (.aload_n 0, 1) := by decide +kernel
theorem dX6_type_14 : decode cX6_type 14 = .ok (.getfield 46, 3) := by decide +kernel
theorem dX6_type_17 : decode cX6_type 17 = .ok (.bipush 120, 2) := by decide +kernel
theorem dX6_type_19 : decode cX6_type 19 = .ok (.if_icmp .ne 6, 3) := by decide +kernel
theorem dX6_type_22 : decode cX6_type 22 = .ok (.bipush (-3), 2) := by decide +kernel
theorem dX6_type_24 : decode cX6_type 24 = .ok (.ireturn, 1) := by decide +kernel
theorem dX6_type_25 : decode cX6_type 25 = .ok (.aload_n 0, 1) := by decide +kernel
theorem dX6_type_26 : decode cX6_type 26 = .ok (.getfield 32, 3) := by decide +kernel
theorem dX6_type_29 : decode cX6_type 29 = .ok (.aload_n 0, 1) := by decide +kernel
theorem dX6_type_30 : decode cX6_type 30 = .ok (.getfield 46, 3) := by decide +kernel
theorem dX6_type_33 : decode cX6_type 33 = .ok (.iload_n 1, 1) := by decide +kernel
theorem dX6_type_34 : decode cX6_type 34 = .ok (.iastore, 1) := by decide +kernel
theorem dX6_type_35 : decode cX6_type 35 = .ok (.aload_n 0, 1) := by decide +kernel
theorem dX6_type_36 : decode cX6_type 36 = .ok (.dup, 1) := by decide +kernel
theorem dX6_type_37 : decode cX6_type 37 = .ok (.getfield 46, 3) := by decide +kernel
theorem dX6_type_40 : decode cX6_type 40 = .ok (.iconst 1, 1) := by decide +kernel
theorem dX6_type_41 : decode cX6_type 41 = .ok (.iadd, 1) := by decide +kernel
theorem dX6_type_42 : decode cX6_type 42 = .ok (.putfield 46, 3) := by decide +kernel
theorem dX6_type_45 : decode cX6_type 45 = .ok (.aload_n 0, 1) := by decide +kernel
theorem dX6_type_46 : decode cX6_type 46 = .ok (.getfield 46, 3) := by decide +kernel
theorem dX6_type_49 : decode cX6_type 49 = .ok (.ireturn, 1) := by decide +kernel
theorem dX6_clear_0 : decode cX6_clear 0 = .ok (.aload_n 0, 1) := by decide +kernel
theorem dX6_clear_1 : decode cX6_clear 1 = .ok (.getfield 46, 3) := by decide +kernel
theorem dX6_clear_4 : decode cX6_clear 4 = .ok (.istore_n 1, 1) := by decide +kernel
theorem dX6_clear_5 : decode cX6_clear 5 = .ok (.aload_n 0, 1) := by decide +kernel
theorem dX6_clear_6 : decode cX6_clear 6 = .ok (.iconst 0, 1) := by decide +kernel
theorem dX6_clear_7 : decode cX6_clear 7 = .ok (.putfield 46, 3) := by decide +kernel
theorem dX6_clear_10 : decode cX6_clear 10 = .ok (.iload_n 1, 1) := by decide +kernel
theorem dX6_clear_11 : decode cX6_clear 11 = .ok (.ireturn, 1) := by decide +kernel
theorem dX6_keeps_0 : decode cX6_keeps 0 = .ok (.aload_n 0, 1) := by decide +kernel
theorem dX6_keeps_1 : decode cX6_keeps 1 = .ok (.getfield 98, 3) := by decide +kernel
theorem dX6_keeps_4 : decode cX6_keeps 4 = .ok (.bipush 6, 2) := by decide +kernel
theorem dX6_keeps_6 : decode cX6_keeps 6 = .ok (.if_icmp .ne 42, 3) := by decide +kernel
theorem dX6_keeps_9 : decode cX6_keeps 9 = .ok (.iconst 0, 1) := by decide +kernel
theorem dX6_keeps_10 : decode cX6_keeps 10 = .ok (.istore_n 1, 1) := by decide +kernel
theorem dX6_keeps_11 : decode cX6_keeps 11 = .ok (.iload_n 1, 1) := by decide +kernel
theorem dX6_keeps_12 : decode cX6_keeps 12 = .ok (.bipush 85, 2) := by decide +kernel
theorem dX6_keeps_14 : decode cX6_keeps 14 = .ok (.if_icmp .ge 24, 3) := by decide +kernel
theorem dX6_keeps_17 : decode cX6_keeps 17 = .ok (.aload_n 0, 1) := by decide +kernel
theorem dX6_keeps_18 : decode cX6_keeps 18 = .ok (.getfield 16, 3) := by decide +kernel
theorem dX6_keeps_21 : decode cX6_keeps 21 = .ok (.iload_n 1, 1) := by decide +kernel
theorem dX6_keeps_22 : decode cX6_keeps 22 = .ok (.aload_n 0, 1) := by decide +kernel
theorem dX6_keeps_23 : decode cX6_keeps 23 = .ok (.getfield 16, 3) := by decide +kernel
theorem dX6_keeps_26 : decode cX6_keeps 26 = .ok (.iload_n 1, 1) := by decide +kernel
theorem dX6_keeps_27 : decode cX6_keeps 27 = .ok (.bipush 17, 2) := by decide +kernel
theorem dX6_keeps_29 : decode cX6_keeps 29 = .ok (.iadd, 1) := by decide +kernel
theorem dX6_keeps_30 : decode cX6_keeps 30 = .ok (.iaload, 1) := by decide +kernel
theorem dX6_keeps_31 : decode cX6_keeps 31 = .ok (.iastore, 1) := by decide +kernel
theorem dX6_keeps_32 : decode cX6_keeps 32 = .ok (.iinc 1 1, 3) := by decide +kernel
theorem dX6_keeps_35 : decode cX6_keeps 35 = .ok (.goto (-24), 3) := by decide +kernel
theorem dX6_keeps_38 : decode cX6_keeps 38 = .ok (.aload_n 0, 1) := by decide +kernel
theorem dX6_keeps_39 : decode cX6_keeps 39 = .ok (.dup, 1) := by decide +kernel
theorem dX6_keeps_40 : decode cX6_keeps 40 = .ok (.getfield 98, 3) := by decide +kernel
theorem dX6_keeps_43 : decode cX6_keeps 43 = .ok (.iconst 1, 1) := by decide +kernel
theorem dX6_keeps_44 : decode cX6_keeps 44 = .ok (.isub, 1) := by decide +kernel
theorem dX6_keeps_45 : decode cX6_keeps 45 = .ok (.putfield 98, 3) := by decide +kernel
theorem dX6_keeps_48 : decode cX6_keeps 48 = .ok (.iconst 0, 1) := by decide +kernel
theorem dX6_keeps_49 : decode cX6_keeps 49 = .ok (.istore_n 1, 1) := by decide +kernel
theorem dX6_keeps_50 : decode cX6_keeps 50 = .ok (.iload_n 1, 1) := by decide +kernel
theorem dX6_keeps_51 : decode cX6_keeps 51 = .ok (.bipush 17, 2) := by decide +kernel
theorem dX6_keeps_53 : decode cX6_keeps 53 = .ok (.if_icmp .ge 29, 3) := by decide +kernel
theorem dX6_keeps_56 : decode cX6_keeps 56 = .ok (.aload_n 0, 1) := by decide +kernel
theorem dX6_keeps_57 : decode cX6_keeps 57 = .ok (.getfield 16, 3) := by decide +kernel
theorem dX6_keeps_60 : decode cX6_keeps 60 = .ok (.bipush 17, 2) := by decide +kernel
theorem dX6_keeps_62 : decode cX6_keeps 62 = .ok (.aload_n 0, 1) := by decide +kernel
theorem dX6_keeps_63 : decode cX6_keeps 63 = .ok (.getfield 98, 3) := by decide +kernel
theorem dX6_keeps_66 : decode cX6_keeps 66 = .ok (.imul, 1) := by decide +kernel
theorem dX6_keeps_67 : decode cX6_keeps 67 = .ok (.iload_n 1, 1) := by decide +kernel
theorem dX6_keeps_68 : decode cX6_keeps 68 = .ok (.iadd, 1) := by decide +kernel
theorem dX6_keeps_69 : decode cX6_keeps 69 = .ok (.aload_n 0, 1) := by decide +kernel
theorem dX6_keeps_70 : decode cX6_keeps 70 = .ok (.getfield 7, 3) := by decide +kernel
theorem dX6_keeps_73 : decode cX6_keeps 73 = .ok (.iload_n 1, 1) := by decide +kernel
theorem dX6_keeps_74 : decode cX6_keeps 74 = .ok (.iaload, 1) := by decide +kernel
theorem dX6_keeps_75 : decode cX6_keeps 75 = .ok (.iastore, 1) := by decide +kernel
theorem dX6_keeps_76 : decode cX6_keeps 76 = .ok (.iinc 1 1, 3) := by decide +kernel
theorem dX6_keeps_79 : decode cX6_keeps 79 = .ok (.goto (-29), 3) := by decide +kernel
theorem dX6_keeps_82 : decode cX6_keeps 82 = .ok (.aload_n 0, 1) := by decide +kernel
theorem dX6_keeps_83 : decode cX6_keeps 83 = .ok (.dup, 1) := by decide +kernel
theorem dX6_keeps_84 : decode cX6_keeps 84 = .ok (.getfield 98, 3) := by decide +kernel
theorem dX6_keeps_87 : decode cX6_keeps 87 = .ok (.iconst 1, 1) := by decide +kernel
theorem dX6_keeps_88 : decode cX6_keeps 88 = .ok (.iadd, 1) := by decide +kernel
theorem dX6_keeps_89 : decode cX6_keeps 89 = .ok (.putfield 98, 3) := by decide +kernel
theorem dX6_keeps_92 : decode cX6_keeps 92 = .ok (.return_, 1) := by decide +kernel
set_option maxRecDepth 20000 in
theorem ggX6_tells_X6_reads : GoodIn wsX6_tells wsX6_reads := goodIn_r _ [9, 3, 10, 11, 4, 12, 13, 8, 14, 15, 16, 17, 18, 19, 1, 20, 21, 22, 23, 24, 25, 26, 27, 28, 29, 30, 31, 32, 33, 34, 35, 36, 37, 38, 39, 40, 41, 42, 43, 44, 45, 46, 47, 48, 49, 50, 51, 52, 53, 54, 55, 56, 57, 58, 59, 60, 67, 68, 69, 70, 71, 72, 73, 74, 75, 76, 77, 78, 79, 80, 81] (by decide +kernel) (by decide +kernel)
set_option maxRecDepth 20000 in
theorem gX6_tells_X6_reads : GoodIn wsX6_tells (wsV RX6 101 RX6 yX6_reads wsX6_reads) := goodIn_app (goodIn_of _ (by decide +kernel)) ggX6_tells_X6_reads
set_option maxRecDepth 20000 in
theorem ggX6_tells_X6_keeps : GoodIn wsX6_tells wsX6_keeps := goodIn_r _ [64, 65, 66, 2, 67, 68, 69, 70, 71, 72, 73, 74, 75, 76, 77, 78, 79, 80, 81] (by decide +kernel) (by decide +kernel)
set_option maxRecDepth 20000 in
theorem gX6_tells_X6_keeps : GoodIn wsX6_tells (wsV RX6 104 RX6 yX6_keeps wsX6_keeps) := goodIn_app (goodIn_of _ (by decide +kernel)) ggX6_tells_X6_keeps
theorem dX6_tells_0 : decode cX6_tells 0 = .ok (.aload_n 0, 1) := by decide +kernel
theorem dX6_tells_1 : decode cX6_tells 1 = .ok (.invokevirtual 101, 3) := by decide +kernel
theorem dX6_tells_4 : decode cX6_tells 4 = .ok (.istore_n 1, 1) := by decide +kernel
theorem dX6_tells_5 : decode cX6_tells 5 = .ok (.iload_n 1, 1) := by decide +kernel
theorem dX6_tells_6 : decode cX6_tells 6 = .ok (.ifCond .ge 11, 3) := by decide +kernel
theorem dX6_tells_9 : decode cX6_tells 9 = .ok (.bipush (-10), 2) := by decide +kernel
theorem dX6_tells_11 : decode cX6_tells 11 = .ok (.aload_n 0, 1) := by decide +kernel
theorem dX6_tells_12 : decode cX6_tells 12 = .ok (.getfield 49, 3) := by decide +kernel
theorem dX6_tells_15 : decode cX6_tells 15 = .ok (.isub, 1) := by decide +kernel
theorem dX6_tells_16 : decode cX6_tells 16 = .ok (.ireturn, 1) := by decide +kernel
theorem dX6_tells_17 : decode cX6_tells 17 = .ok (.aload_n 0, 1) := by decide +kernel
theorem dX6_tells_18 : decode cX6_tells 18 = .ok (.invokevirtual 104, 3) := by decide +kernel
theorem dX6_tells_21 : decode cX6_tells 21 = .ok (.iconst 0, 1) := by decide +kernel
theorem dX6_tells_22 : decode cX6_tells 22 = .ok (.istore_n 2, 1) := by decide +kernel
theorem dX6_tells_23 : decode cX6_tells 23 = .ok (.iload_n 2, 1) := by decide +kernel
theorem dX6_tells_24 : decode cX6_tells 24 = .ok (.bipush 17, 2) := by decide +kernel
theorem dX6_tells_26 : decode cX6_tells 26 = .ok (.if_icmp .ge 21, 3) := by decide +kernel
theorem dX6_tells_29 : decode cX6_tells 29 = .ok (.aload_n 0, 1) := by decide +kernel
theorem dX6_tells_30 : decode cX6_tells 30 = .ok (.getfield 7, 3) := by decide +kernel
theorem dX6_tells_33 : decode cX6_tells 33 = .ok (.iload_n 2, 1) := by decide +kernel
theorem dX6_tells_34 : decode cX6_tells 34 = .ok (.aload_n 0, 1) := by decide +kernel
theorem dX6_tells_35 : decode cX6_tells 35 = .ok (.getfield 13, 3) := by decide +kernel
theorem dX6_tells_38 : decode cX6_tells 38 = .ok (.iload_n 2, 1) := by decide +kernel
theorem dX6_tells_39 : decode cX6_tells 39 = .ok (.iaload, 1) := by decide +kernel
theorem dX6_tells_40 : decode cX6_tells 40 = .ok (.iastore, 1) := by decide +kernel
theorem dX6_tells_41 : decode cX6_tells 41 = .ok (.iinc 2 1, 3) := by decide +kernel
theorem dX6_tells_44 : decode cX6_tells 44 = .ok (.goto (-21), 3) := by decide +kernel
theorem dX6_tells_47 : decode cX6_tells 47 = .ok (.aload_n 0, 1) := by decide +kernel
theorem dX6_tells_48 : decode cX6_tells 48 = .ok (.iconst 0, 1) := by decide +kernel
theorem dX6_tells_49 : decode cX6_tells 49 = .ok (.putfield 46, 3) := by decide +kernel
theorem dX6_tells_52 : decode cX6_tells 52 = .ok (.iload_n 1, 1) := by decide +kernel
theorem dX6_tells_53 : decode cX6_tells 53 = .ok (.ireturn, 1) := by decide +kernel
set_option maxRecDepth 20000 in
theorem ggX6_isTick_X6_within : GoodIn wsX6_isTick wsX6_within := goodIn_r _ [5] (by decide +kernel) (by decide +kernel)
set_option maxRecDepth 20000 in
theorem gX6_isTick_X6_within : GoodIn wsX6_isTick (va_wsS RX6 52 yX6_within wsX6_within) := goodIn_app (goodIn_of _ (by decide +kernel)) ggX6_isTick_X6_within
theorem dX6_isTick_0 : decode cX6_isTick 0 = .ok (.iload_n 1, 1) := by decide +kernel
theorem dX6_isTick_1 : decode cX6_isTick 1 = .ok (.iconst 0, 1) := by decide +kernel
theorem dX6_isTick_2 : decode cX6_isTick 2 = .ok (.aload_n 0, 1) := by decide +kernel
theorem dX6_isTick_3 : decode cX6_isTick 3 = .ok (.getfield 7, 3) := by decide +kernel
theorem dX6_isTick_6 : decode cX6_isTick 6 = .ok (.iconst 0, 1) := by decide +kernel
theorem dX6_isTick_7 : decode cX6_isTick 7 = .ok (.iaload, 1) := by decide +kernel
theorem dX6_isTick_8 : decode cX6_isTick 8 = .ok (.iconst 1, 1) := by decide +kernel
theorem dX6_isTick_9 : decode cX6_isTick 9 = .ok (.isub, 1) := by decide +kernel
theorem dX6_isTick_10 : decode cX6_isTick 10 = .ok (.invokestatic 52, 3) := by decide +kernel
theorem dX6_isTick_13 : decode cX6_isTick 13 = .ok (.ireturn, 1) := by decide +kernel
set_option maxRecDepth 20000 in
theorem ggX6_isNote_X6_isTick : GoodIn wsX6_isNote wsX6_isTick := goodIn_r _ [6, 1, 7, 8, 5, 9, 10, 11, 12, 13, 14, 15, 16, 17, 18, 19, 20, 21, 22, 23, 24] (by decide +kernel) (by decide +kernel)
set_option maxRecDepth 20000 in
theorem gX6_isNote_X6_isTick : GoodIn wsX6_isNote (wsV RX6 107 RX6 yX6_isTick wsX6_isTick) := goodIn_app (goodIn_of _ (by decide +kernel)) ggX6_isNote_X6_isTick
theorem dX6_isNote_0 : decode cX6_isNote 0 = .ok (.aload_n 0, 1) := by decide +kernel
theorem dX6_isNote_1 : decode cX6_isNote 1 = .ok (.iload_n 1, 1) := by decide +kernel
theorem dX6_isNote_2 : decode cX6_isNote 2 = .ok (.invokevirtual 107, 3) := by decide +kernel
theorem dX6_isNote_5 : decode cX6_isNote 5 = .ok (.ifCond .eq 18, 3) := by decide +kernel
theorem dX6_isNote_8 : decode cX6_isNote 8 = .ok (.aload_n 0, 1) := by decide +kernel
theorem dX6_isNote_9 : decode cX6_isNote 9 = .ok (.getfield 7, 3) := by decide +kernel
theorem dX6_isNote_12 : decode cX6_isNote 12 = .ok (.iconst 4, 1) := by decide +kernel
theorem dX6_isNote_13 : decode cX6_isNote 13 = .ok (.iload_n 1, 1) := by decide +kernel
theorem dX6_isNote_14 : decode cX6_isNote 14 = .ok (.iadd, 1) := by decide +kernel
theorem dX6_isNote_15 : decode cX6_isNote 15 = .ok (.iaload, 1) := by decide +kernel
theorem dX6_isNote_16 : decode cX6_isNote 16 = .ok (.ifCond .le 7, 3) := by decide +kernel
theorem dX6_isNote_19 : decode cX6_isNote 19 = .ok (.iconst 1, 1) := by decide +kernel
theorem dX6_isNote_20 : decode cX6_isNote 20 = .ok (.goto 4, 3) := by decide +kernel
theorem dX6_isNote_23 : decode cX6_isNote 23 = .ok (.iconst 0, 1) := by decide +kernel
theorem dX6_isNote_24 : decode cX6_isNote 24 = .ok (.ireturn, 1) := by decide +kernel
theorem dX6_isHand_0 : decode cX6_isHand 0 = .ok (.iload_n 0, 1) := by decide +kernel
theorem dX6_isHand_1 : decode cX6_isHand 1 = .ok (.ifCond .eq 8, 3) := by decide +kernel
theorem dX6_isHand_4 : decode cX6_isHand 4 = .ok (.iload_n 0, 1) := by decide +kernel
theorem dX6_isHand_5 : decode cX6_isHand 5 = .ok (.iconst 1, 1) := by decide +kernel
theorem dX6_isHand_6 : decode cX6_isHand 6 = .ok (.if_icmp .ne 7, 3) := by decide +kernel
theorem dX6_isHand_9 : decode cX6_isHand 9 = .ok (.iconst 1, 1) := by decide +kernel
theorem dX6_isHand_10 : decode cX6_isHand 10 = .ok (.goto 4, 3) := by decide +kernel
theorem dX6_isHand_13 : decode cX6_isHand 13 = .ok (.iconst 0, 1) := by decide +kernel
theorem dX6_isHand_14 : decode cX6_isHand 14 = .ok (.ireturn, 1) := by decide +kernel
set_option maxRecDepth 20000 in
theorem ggX6_notes_X6_isNote : GoodIn wsX6_notes wsX6_isNote := goodIn_r _ [6, 1, 7, 8, 9, 5, 10, 11, 12, 13, 14, 15, 16, 17, 18, 19, 20, 21, 22, 23, 24, 25, 26, 27, 28] (by decide +kernel) (by decide +kernel)
set_option maxRecDepth 20000 in
theorem gX6_notes_X6_isNote : GoodIn wsX6_notes (wsV RX6 110 RX6 yX6_isNote wsX6_isNote) := goodIn_app (goodIn_of _ (by decide +kernel)) ggX6_notes_X6_isNote
theorem dX6_notes_0 : decode cX6_notes 0 = .ok (.iconst 0, 1) := by decide +kernel
theorem dX6_notes_1 : decode cX6_notes 1 = .ok (.istore_n 1, 1) := by decide +kernel
theorem dX6_notes_2 : decode cX6_notes 2 = .ok (.iconst 0, 1) := by decide +kernel
theorem dX6_notes_3 : decode cX6_notes 3 = .ok (.istore_n 2, 1) := by decide +kernel
theorem dX6_notes_4 : decode cX6_notes 4 = .ok (.iload_n 2, 1) := by decide +kernel
theorem dX6_notes_5 : decode cX6_notes 5 = .ok (.aload_n 0, 1) := by decide +kernel
theorem dX6_notes_6 : decode cX6_notes 6 = .ok (.getfield 7, 3) := by decide +kernel
theorem dX6_notes_9 : decode cX6_notes 9 = .ok (.iconst 0, 1) := by decide +kernel
theorem dX6_notes_10 : decode cX6_notes 10 = .ok (.iaload, 1) := by decide +kernel
theorem dX6_notes_11 : decode cX6_notes 11 = .ok (.if_icmp .ge 25, 3) := by decide +kernel
theorem dX6_notes_14 : decode cX6_notes 14 = .ok (.iload_n 1, 1) := by decide +kernel
theorem dX6_notes_15 : decode cX6_notes 15 = .ok (.aload_n 0, 1) := by decide +kernel
theorem dX6_notes_16 : decode cX6_notes 16 = .ok (.iload_n 2, 1) := by decide +kernel
theorem dX6_notes_17 : decode cX6_notes 17 = .ok (.invokevirtual 110, 3) := by decide +kernel
theorem dX6_notes_20 : decode cX6_notes 20 = .ok (.ifCond .eq 7, 3) := by decide +kernel
theorem dX6_notes_23 : decode cX6_notes 23 = .ok (.iconst 1, 1) := by decide +kernel
theorem dX6_notes_24 : decode cX6_notes 24 = .ok (.goto 4, 3) := by decide +kernel
theorem dX6_notes_27 : decode cX6_notes 27 = .ok (.iconst 0, 1) := by decide +kernel
theorem dX6_notes_28 : decode cX6_notes 28 = .ok (.iadd, 1) := by decide +kernel
theorem dX6_notes_29 : decode cX6_notes 29 = .ok (.istore_n 1, 1) := by decide +kernel
theorem dX6_notes_30 : decode cX6_notes 30 = .ok (.iinc 2 1, 3) := by decide +kernel
theorem dX6_notes_33 : decode cX6_notes 33 = .ok (.goto (-29), 3) := by decide +kernel
theorem dX6_notes_36 : decode cX6_notes 36 = .ok (.iload_n 1, 1) := by decide +kernel
theorem dX6_notes_37 : decode cX6_notes 37 = .ok (.ireturn, 1) := by decide +kernel
set_option maxRecDepth 20000 in
theorem ggX6_nextOf_X6_isNote : GoodIn wsX6_nextOf wsX6_isNote := goodIn_r _ [6, 1, 7, 8, 9, 5, 10, 11, 12, 13, 17, 18, 19, 20, 21, 22, 23, 24, 25, 26, 27, 28, 29, 30, 31] (by decide +kernel) (by decide +kernel)
set_option maxRecDepth 20000 in
theorem gX6_nextOf_X6_isNote : GoodIn wsX6_nextOf (wsV RX6 110 RX6 yX6_isNote wsX6_isNote) := goodIn_app (goodIn_of _ (by decide +kernel)) ggX6_nextOf_X6_isNote
set_option maxRecDepth 20000 in
theorem ggX6_nextOf_X6_has : GoodIn wsX6_nextOf wsX6_has := goodIn_r _ [16] (by decide +kernel) (by decide +kernel)
set_option maxRecDepth 20000 in
theorem gX6_nextOf_X6_has : GoodIn wsX6_nextOf (va_wsS RX6 113 yX6_has wsX6_has) := goodIn_app (goodIn_of _ (by decide +kernel)) ggX6_nextOf_X6_has
theorem dX6_nextOf_0 : decode cX6_nextOf 0 = .ok (.iload_n 2, 1) := by decide +kernel
theorem dX6_nextOf_1 : decode cX6_nextOf 1 = .ok (.iconst 1, 1) := by decide +kernel
theorem dX6_nextOf_2 : decode cX6_nextOf 2 = .ok (.iadd, 1) := by decide +kernel
theorem dX6_nextOf_3 : decode cX6_nextOf 3 = .ok (.istore_n 3, 1) := by decide +kernel
theorem dX6_nextOf_4 : decode cX6_nextOf 4 = .ok (.iload_n 3, 1) := by decide +kernel
theorem dX6_nextOf_5 : decode cX6_nextOf 5 = .ok (.aload_n 0, 1) := by decide +kernel
theorem dX6_nextOf_6 : decode cX6_nextOf 6 = .ok (.getfield 7, 3) := by decide +kernel
theorem dX6_nextOf_9 : decode cX6_nextOf 9 = .ok (.iconst 0, 1) := by decide +kernel
theorem dX6_nextOf_10 : decode cX6_nextOf 10 = .ok (.iaload, 1) := by decide +kernel
theorem dX6_nextOf_11 : decode cX6_nextOf 11 = .ok (.if_icmp .ge 30, 3) := by decide +kernel
theorem dX6_nextOf_14 : decode cX6_nextOf 14 = .ok (.aload_n 0, 1) := by decide +kernel
theorem dX6_nextOf_15 : decode cX6_nextOf 15 = .ok (.iload_n 3, 1) := by decide +kernel
theorem dX6_nextOf_16 : decode cX6_nextOf 16 = .ok (.invokevirtual 110, 3) := by decide +kernel
theorem dX6_nextOf_19 : decode cX6_nextOf 19 = .ok (.ifCond .eq 16, 3) := by decide +kernel
theorem dX6_nextOf_22 : decode cX6_nextOf 22 = .ok (.iload_n 1, 1) := by decide +kernel
theorem dX6_nextOf_23 : decode cX6_nextOf 23 = .ok (.iload_n 3, 1) := by decide +kernel
theorem dX6_nextOf_24 : decode cX6_nextOf 24 = .ok (.invokestatic 113, 3) := by decide +kernel
theorem dX6_nextOf_27 : decode cX6_nextOf 27 = .ok (.iload_n 1, 1) := by decide +kernel
theorem dX6_nextOf_28 : decode cX6_nextOf 28 = .ok (.iload_n 2, 1) := by decide +kernel
theorem dX6_nextOf_29 : decode cX6_nextOf 29 = .ok (.invokestatic 113, 3) := by decide +kernel
theorem dX6_nextOf_32 : decode cX6_nextOf 32 = .ok (.if_icmp .eq 9, 3) := by decide +kernel
theorem dX6_nextOf_35 : decode cX6_nextOf 35 = .ok (.iinc 3 1, 3) := by decide +kernel
theorem dX6_nextOf_38 : decode cX6_nextOf 38 = .ok (.goto (-34), 3) := by decide +kernel
theorem dX6_nextOf_41 : decode cX6_nextOf 41 = .ok (.iload_n 3, 1) := by decide +kernel
theorem dX6_nextOf_42 : decode cX6_nextOf 42 = .ok (.aload_n 0, 1) := by decide +kernel
theorem dX6_nextOf_43 : decode cX6_nextOf 43 = .ok (.getfield 7, 3) := by decide +kernel
theorem dX6_nextOf_46 : decode cX6_nextOf 46 = .ok (.iconst 0, 1) := by decide +kernel
theorem dX6_nextOf_47 : decode cX6_nextOf 47 = .ok (.iaload, 1) := by decide +kernel
theorem dX6_nextOf_48 : decode cX6_nextOf 48 = .ok (.if_icmp .ge 7, 3) := by decide +kernel
theorem dX6_nextOf_51 : decode cX6_nextOf 51 = .ok (.iload_n 3, 1) := by decide +kernel
theorem dX6_nextOf_52 : decode cX6_nextOf 52 = .ok (.goto 5, 3) := by decide +kernel
theorem dX6_nextOf_55 : decode cX6_nextOf 55 = .ok (.bipush (-9), 2) := by decide +kernel
theorem dX6_nextOf_57 : decode cX6_nextOf 57 = .ok (.ireturn, 1) := by decide +kernel
set_option maxRecDepth 20000 in
theorem ggX6_isSoon_X6_isNote : GoodIn wsX6_isSoon wsX6_isNote := goodIn_r _ [5, 6, 7, 8, 9, 4, 10, 11, 12, 13, 21, 22, 23, 24, 25, 26, 27, 28, 29, 30, 31, 32, 33, 34, 35] (by decide +kernel) (by decide +kernel)
set_option maxRecDepth 20000 in
theorem gX6_isSoon_X6_isNote : GoodIn wsX6_isSoon (wsV RX6 110 RX6 yX6_isNote wsX6_isNote) := goodIn_app (goodIn_of _ (by decide +kernel)) ggX6_isSoon_X6_isNote
set_option maxRecDepth 20000 in
theorem ggX6_isSoon_X6_nextOf : GoodIn wsX6_isSoon wsX6_nextOf := goodIn_r _ [17, 6, 1, 2, 3, 4, 5, 7, 8, 9, 10, 11, 12, 13, 18, 19, 20, 21, 22, 23, 24, 25, 26, 27, 28, 29, 30, 31, 32, 33, 34, 35] (by decide +kernel) (by decide +kernel)
set_option maxRecDepth 20000 in
theorem gX6_isSoon_X6_nextOf : GoodIn wsX6_isSoon (wsV RX6 116 RX6 yX6_nextOf wsX6_nextOf) := goodIn_app (goodIn_of _ (by decide +kernel)) ggX6_isSoon_X6_nextOf
theorem dX6_isSoon_0 : decode cX6_isSoon 0 = .ok (.aload_n 0, 1) := by decide +kernel
theorem dX6_isSoon_1 : decode cX6_isSoon 1 = .ok (.iload_n 2, 1) := by decide +kernel
theorem dX6_isSoon_2 : decode cX6_isSoon 2 = .ok (.invokevirtual 110, 3) := by decide +kernel
theorem dX6_isSoon_5 : decode cX6_isSoon 5 = .ok (.ifCond .eq 12, 3) := by decide +kernel
theorem dX6_isSoon_8 : decode cX6_isSoon 8 = .ok (.aload_n 0, 1) := by decide +kernel
theorem dX6_isSoon_9 : decode cX6_isSoon 9 = .ok (.iload_n 1, 1) := by decide +kernel
theorem dX6_isSoon_10 : decode cX6_isSoon 10 = .ok (.iload_n 2, 1) := by decide +kernel
theorem dX6_isSoon_11 : decode cX6_isSoon 11 = .ok (.invokevirtual 116, 3) := by decide +kernel
theorem dX6_isSoon_14 : decode cX6_isSoon 14 = .ok (.goto 5, 3) := by decide +kernel
theorem dX6_isSoon_17 : decode cX6_isSoon 17 = .ok (.bipush (-9), 2) := by decide +kernel
theorem dX6_isSoon_19 : decode cX6_isSoon 19 = .ok (.istore 4, 2) := by decide +kernel
theorem dX6_isSoon_21 : decode cX6_isSoon 21 = .ok (.iload 4, 2) := by decide +kernel
theorem dX6_isSoon_23 : decode cX6_isSoon 23 = .ok (.bipush (-9), 2) := by decide +kernel
theorem dX6_isSoon_25 : decode cX6_isSoon 25 = .ok (.if_icmp .eq 15, 3) := by decide +kernel
theorem dX6_isSoon_28 : decode cX6_isSoon 28 = .ok (.iload 4, 2) := by decide +kernel
theorem dX6_isSoon_30 : decode cX6_isSoon 30 = .ok (.iload_n 2, 1) := by decide +kernel
theorem dX6_isSoon_31 : decode cX6_isSoon 31 = .ok (.isub, 1) := by decide +kernel
theorem dX6_isSoon_32 : decode cX6_isSoon 32 = .ok (.iload_n 3, 1) := by decide +kernel
theorem dX6_isSoon_33 : decode cX6_isSoon 33 = .ok (.if_icmp .ge 7, 3) := by decide +kernel
theorem dX6_isSoon_36 : decode cX6_isSoon 36 = .ok (.iconst 1, 1) := by decide +kernel
theorem dX6_isSoon_37 : decode cX6_isSoon 37 = .ok (.goto 4, 3) := by decide +kernel
theorem dX6_isSoon_40 : decode cX6_isSoon 40 = .ok (.iconst 0, 1) := by decide +kernel
theorem dX6_isSoon_41 : decode cX6_isSoon 41 = .ok (.ireturn, 1) := by decide +kernel
set_option maxRecDepth 20000 in
theorem ggX6_isFar_X6_isNote : GoodIn wsX6_isFar wsX6_isNote := goodIn_r _ [6, 1, 7, 8, 9, 5, 10, 11, 12, 13, 21, 22, 23, 24, 25, 26, 27, 28, 29, 30, 31, 32, 33, 34, 35] (by decide +kernel) (by decide +kernel)
set_option maxRecDepth 20000 in
theorem gX6_isFar_X6_isNote : GoodIn wsX6_isFar (wsV RX6 110 RX6 yX6_isNote wsX6_isNote) := goodIn_app (goodIn_of _ (by decide +kernel)) ggX6_isFar_X6_isNote
set_option maxRecDepth 20000 in
theorem ggX6_isFar_X6_nextOf : GoodIn wsX6_isFar wsX6_nextOf := goodIn_r _ [17, 1, 2, 3, 4, 5, 6, 7, 8, 9, 10, 11, 12, 13, 18, 19, 20, 21, 22, 23, 24, 25, 26, 27, 28, 29, 30, 31, 32, 33, 34, 35] (by decide +kernel) (by decide +kernel)
set_option maxRecDepth 20000 in
theorem gX6_isFar_X6_nextOf : GoodIn wsX6_isFar (wsV RX6 116 RX6 yX6_nextOf wsX6_nextOf) := goodIn_app (goodIn_of _ (by decide +kernel)) ggX6_isFar_X6_nextOf
theorem dX6_isFar_0 : decode cX6_isFar 0 = .ok (.aload_n 0, 1) := by decide +kernel
theorem dX6_isFar_1 : decode cX6_isFar 1 = .ok (.iload_n 2, 1) := by decide +kernel
theorem dX6_isFar_2 : decode cX6_isFar 2 = .ok (.invokevirtual 110, 3) := by decide +kernel
theorem dX6_isFar_5 : decode cX6_isFar 5 = .ok (.ifCond .eq 12, 3) := by decide +kernel
theorem dX6_isFar_8 : decode cX6_isFar 8 = .ok (.aload_n 0, 1) := by decide +kernel
theorem dX6_isFar_9 : decode cX6_isFar 9 = .ok (.iload_n 1, 1) := by decide +kernel
theorem dX6_isFar_10 : decode cX6_isFar 10 = .ok (.iload_n 2, 1) := by decide +kernel
theorem dX6_isFar_11 : decode cX6_isFar 11 = .ok (.invokevirtual 116, 3) := by decide +kernel
theorem dX6_isFar_14 : decode cX6_isFar 14 = .ok (.goto 5, 3) := by decide +kernel
theorem dX6_isFar_17 : decode cX6_isFar 17 = .ok (.bipush (-9), 2) := by decide +kernel
theorem dX6_isFar_19 : decode cX6_isFar 19 = .ok (.istore_n 3, 1) := by decide +kernel
theorem dX6_isFar_20 : decode cX6_isFar 20 = .ok (.iload_n 3, 1) := by decide +kernel
theorem dX6_isFar_21 : decode cX6_isFar 21 = .ok (.bipush (-9), 2) := by decide +kernel
theorem dX6_isFar_23 : decode cX6_isFar 23 = .ok (.if_icmp .ne 7, 3) := by decide +kernel
theorem dX6_isFar_26 : decode cX6_isFar 26 = .ok (.iconst 0, 1) := by decide +kernel
theorem dX6_isFar_27 : decode cX6_isFar 27 = .ok (.goto 20, 3) := by decide +kernel
theorem dX6_isFar_30 : decode cX6_isFar 30 = .ok (.aload_n 0, 1) := by decide +kernel
theorem dX6_isFar_31 : decode cX6_isFar 31 = .ok (.getfield 7, 3) := by decide +kernel
theorem dX6_isFar_34 : decode cX6_isFar 34 = .ok (.iconst 4, 1) := by decide +kernel
theorem dX6_isFar_35 : decode cX6_isFar 35 = .ok (.iload_n 3, 1) := by decide +kernel
theorem dX6_isFar_36 : decode cX6_isFar 36 = .ok (.iadd, 1) := by decide +kernel
theorem dX6_isFar_37 : decode cX6_isFar 37 = .ok (.iaload, 1) := by decide +kernel
theorem dX6_isFar_38 : decode cX6_isFar 38 = .ok (.aload_n 0, 1) := by decide +kernel
theorem dX6_isFar_39 : decode cX6_isFar 39 = .ok (.getfield 7, 3) := by decide +kernel
theorem dX6_isFar_42 : decode cX6_isFar 42 = .ok (.iconst 4, 1) := by decide +kernel
theorem dX6_isFar_43 : decode cX6_isFar 43 = .ok (.iload_n 2, 1) := by decide +kernel
theorem dX6_isFar_44 : decode cX6_isFar 44 = .ok (.iadd, 1) := by decide +kernel
theorem dX6_isFar_45 : decode cX6_isFar 45 = .ok (.iaload, 1) := by decide +kernel
theorem dX6_isFar_46 : decode cX6_isFar 46 = .ok (.isub, 1) := by decide +kernel
theorem dX6_isFar_47 : decode cX6_isFar 47 = .ok (.istore 4, 2) := by decide +kernel
theorem dX6_isFar_49 : decode cX6_isFar 49 = .ok (.iload_n 3, 1) := by decide +kernel
theorem dX6_isFar_50 : decode cX6_isFar 50 = .ok (.bipush (-9), 2) := by decide +kernel
theorem dX6_isFar_52 : decode cX6_isFar 52 = .ok (.if_icmp .eq 33, 3) := by decide +kernel
theorem dX6_isFar_55 : decode cX6_isFar 55 = .ok (.iload 4, 2) := by decide +kernel
theorem dX6_isFar_57 : decode cX6_isFar 57 = .ok (.ifCond .ge 9, 3) := by decide +kernel
theorem dX6_isFar_60 : decode cX6_isFar 60 = .ok (.iload 4, 2) := by decide +kernel
theorem dX6_isFar_62 : decode cX6_isFar 62 = .ok (.ineg, 1) := by decide +kernel
theorem dX6_isFar_63 : decode cX6_isFar 63 = .ok (.goto 5, 3) := by decide +kernel
theorem dX6_isFar_66 : decode cX6_isFar 66 = .ok (.iload 4, 2) := by decide +kernel
theorem dX6_isFar_68 : decode cX6_isFar 68 = .ok (.aload_n 0, 1) := by decide +kernel
theorem dX6_isFar_69 : decode cX6_isFar 69 = .ok (.getfield 7, 3) := by decide +kernel
theorem dX6_isFar_72 : decode cX6_isFar 72 = .ok (.iconst 2, 1) := by decide +kernel
theorem dX6_isFar_73 : decode cX6_isFar 73 = .ok (.iaload, 1) := by decide +kernel
theorem dX6_isFar_74 : decode cX6_isFar 74 = .ok (.iload_n 3, 1) := by decide +kernel
theorem dX6_isFar_75 : decode cX6_isFar 75 = .ok (.iadd, 1) := by decide +kernel
theorem dX6_isFar_76 : decode cX6_isFar 76 = .ok (.iload_n 2, 1) := by decide +kernel
theorem dX6_isFar_77 : decode cX6_isFar 77 = .ok (.isub, 1) := by decide +kernel
theorem dX6_isFar_78 : decode cX6_isFar 78 = .ok (.if_icmp .le 7, 3) := by decide +kernel
theorem dX6_isFar_81 : decode cX6_isFar 81 = .ok (.iconst 1, 1) := by decide +kernel
theorem dX6_isFar_82 : decode cX6_isFar 82 = .ok (.goto 4, 3) := by decide +kernel
theorem dX6_isFar_85 : decode cX6_isFar 85 = .ok (.iconst 0, 1) := by decide +kernel
theorem dX6_isFar_86 : decode cX6_isFar 86 = .ok (.ireturn, 1) := by decide +kernel
set_option maxRecDepth 20000 in
theorem ggX6_isLawful_X6_isSoon : GoodIn wsX6_isLawful wsX6_isSoon := goodIn_r _ [6, 7, 8, 9, 5, 10, 1, 11, 12, 13, 14, 15, 16, 17, 18, 19, 20, 21, 22, 23, 24, 29, 30, 31, 32, 33, 34, 35, 36, 37, 38, 39, 40, 41, 42, 43] (by decide +kernel) (by decide +kernel)
set_option maxRecDepth 20000 in
theorem gX6_isLawful_X6_isSoon : GoodIn wsX6_isLawful (wsV RX6 120 RX6 yX6_isSoon wsX6_isSoon) := goodIn_app (goodIn_of _ (by decide +kernel)) ggX6_isLawful_X6_isSoon
set_option maxRecDepth 20000 in
theorem ggX6_isLawful_X6_isFar : GoodIn wsX6_isLawful wsX6_isFar := goodIn_r _ [28, 1, 7, 8, 9, 5, 10, 11, 12, 13, 14, 15, 16, 17, 18, 19, 20, 21, 22, 23, 24, 29, 30, 31, 32, 33, 34, 35, 36, 37, 38, 39, 40, 41, 42, 43] (by decide +kernel) (by decide +kernel)
set_option maxRecDepth 20000 in
theorem gX6_isLawful_X6_isFar : GoodIn wsX6_isLawful (wsV RX6 123 RX6 yX6_isFar wsX6_isFar) := goodIn_app (goodIn_of _ (by decide +kernel)) ggX6_isLawful_X6_isFar
theorem dX6_isLawful_0 : decode cX6_isLawful 0 = .ok (.iconst 1, 1) := by decide +kernel
theorem dX6_isLawful_1 : decode cX6_isLawful 1 = .ok (.istore_n 3, 1) := by decide +kernel
theorem dX6_isLawful_2 : decode cX6_isLawful 2 = .ok (.iconst 0, 1) := by decide +kernel
theorem dX6_isLawful_3 : decode cX6_isLawful 3 = .ok (.istore 4, 2) := by decide +kernel
theorem dX6_isLawful_5 : decode cX6_isLawful 5 = .ok (.iload 4, 2) := by decide +kernel
theorem dX6_isLawful_7 : decode cX6_isLawful 7 = .ok (.aload_n 0, 1) := by decide +kernel
theorem dX6_isLawful_8 : decode cX6_isLawful 8 = .ok (.getfield 7, 3) := by decide +kernel
theorem dX6_isLawful_11 : decode cX6_isLawful 11 = .ok (.iconst 0, 1) := by decide +kernel
theorem dX6_isLawful_12 : decode cX6_isLawful 12 = .ok (.iaload, 1) := by decide +kernel
theorem dX6_isLawful_13 : decode cX6_isLawful 13 = .ok (.if_icmp .ge 40, 3) := by decide +kernel
theorem dX6_isLawful_16 : decode cX6_isLawful 16 = .ok (.iload_n 3, 1) := by decide +kernel
theorem dX6_isLawful_17 : decode cX6_isLawful 17 = .ok (.ifCond .eq 36, 3) := by decide +kernel
theorem dX6_isLawful_20 : decode cX6_isLawful 20 = .ok (.aload_n 0, 1) := by decide +kernel
theorem dX6_isLawful_21 : decode cX6_isLawful 21 = .ok (.iload_n 1, 1) := by decide +kernel
theorem dX6_isLawful_22 : decode cX6_isLawful 22 = .ok (.iload 4, 2) := by decide +kernel
theorem dX6_isLawful_24 : decode cX6_isLawful 24 = .ok (.iload_n 2, 1) := by decide +kernel
theorem dX6_isLawful_25 : decode cX6_isLawful 25 = .ok (.invokevirtual 120, 3) := by decide +kernel
theorem dX6_isLawful_28 : decode cX6_isLawful 28 = .ok (.ifCond .ne 17, 3) := by decide +kernel
theorem dX6_isLawful_31 : decode cX6_isLawful 31 = .ok (.aload_n 0, 1) := by decide +kernel
theorem dX6_isLawful_32 : decode cX6_isLawful 32 = .ok (.iload_n 1, 1) := by decide +kernel
theorem dX6_isLawful_33 : decode cX6_isLawful 33 = .ok (.iload 4, 2) := by decide +kernel
theorem dX6_isLawful_35 : decode cX6_isLawful 35 = .ok (.invokevirtual 123, 3) := by decide +kernel
theorem dX6_isLawful_38 : decode cX6_isLawful 38 = .ok (.ifCond .ne 7, 3) := by decide +kernel
theorem dX6_isLawful_41 : decode cX6_isLawful 41 = .ok (.iconst 1, 1) := by decide +kernel
theorem dX6_isLawful_42 : decode cX6_isLawful 42 = .ok (.goto 4, 3) := by decide +kernel
theorem dX6_isLawful_45 : decode cX6_isLawful 45 = .ok (.iconst 0, 1) := by decide +kernel
theorem dX6_isLawful_46 : decode cX6_isLawful 46 = .ok (.istore_n 3, 1) := by decide +kernel
theorem dX6_isLawful_47 : decode cX6_isLawful 47 = .ok (.iinc 4 1, 3) := by decide +kernel
theorem dX6_isLawful_50 : decode cX6_isLawful 50 = .ok (.goto (-45), 3) := by decide +kernel
theorem dX6_isLawful_53 : decode cX6_isLawful 53 = .ok (.iload_n 3, 1) := by decide +kernel
theorem dX6_isLawful_54 : decode cX6_isLawful 54 = .ok (.ireturn, 1) := by decide +kernel
set_option maxRecDepth 20000 in
theorem ggX6_isLawfulNow_X6_isLawful : GoodIn wsX6_isLawfulNow wsX6_isLawful := goodIn_r _ [6, 1, 7, 8, 9, 5, 10, 11, 12, 13, 14, 15, 16, 17, 18, 19, 20, 21, 22, 23, 24, 25, 26, 27, 28, 29, 30, 31, 32, 33, 34, 35, 36, 37, 38, 39, 40, 41, 42, 43, 44, 45, 46, 47] (by decide +kernel) (by decide +kernel)
set_option maxRecDepth 20000 in
theorem gX6_isLawfulNow_X6_isLawful : GoodIn wsX6_isLawfulNow (wsV RX6 126 RX6 yX6_isLawful wsX6_isLawful) := goodIn_app (goodIn_of _ (by decide +kernel)) ggX6_isLawfulNow_X6_isLawful
theorem dX6_isLawfulNow_0 : decode cX6_isLawfulNow 0 = .ok (.aload_n 0, 1) := by decide +kernel
theorem dX6_isLawfulNow_1 : decode cX6_isLawfulNow 1 = .ok (.iload_n 1, 1) := by decide +kernel
theorem dX6_isLawfulNow_2 : decode cX6_isLawfulNow 2 = .ok (.aload_n 0, 1) := by decide +kernel
theorem dX6_isLawfulNow_3 : decode cX6_isLawfulNow 3 = .ok (.getfield 7, 3) := by decide +kernel
theorem dX6_isLawfulNow_6 : decode cX6_isLawfulNow 6 = .ok (.iconst 1, 1) := by decide +kernel
theorem dX6_isLawfulNow_7 : decode cX6_isLawfulNow 7 = .ok (.iaload, 1) := by decide +kernel
theorem dX6_isLawfulNow_8 : decode cX6_isLawfulNow 8 = .ok (.invokevirtual 126, 3) := by decide +kernel
theorem dX6_isLawfulNow_11 : decode cX6_isLawfulNow 11 = .ok (.ireturn, 1) := by decide +kernel
set_option maxRecDepth 20000 in
theorem ggX6_likeness_X6_isNote : GoodIn wsX6_likeness wsX6_isNote := goodIn_r _ [6, 1, 7, 8, 9, 5, 10, 11, 12, 13, 17, 18, 19, 20, 21, 22, 23, 24, 25, 26, 27, 28, 29, 30, 31] (by decide +kernel) (by decide +kernel)
set_option maxRecDepth 20000 in
theorem gX6_likeness_X6_isNote : GoodIn wsX6_likeness (wsV RX6 110 RX6 yX6_isNote wsX6_isNote) := goodIn_app (goodIn_of _ (by decide +kernel)) ggX6_likeness_X6_isNote
set_option maxRecDepth 20000 in
theorem ggX6_likeness_X6_has : GoodIn wsX6_likeness wsX6_has := goodIn_r _ [16] (by decide +kernel) (by decide +kernel)
set_option maxRecDepth 20000 in
theorem gX6_likeness_X6_has : GoodIn wsX6_likeness (va_wsS RX6 113 yX6_has wsX6_has) := goodIn_app (goodIn_of _ (by decide +kernel)) ggX6_likeness_X6_has
theorem dX6_likeness_0 : decode cX6_likeness 0 = .ok (.iconst 0, 1) := by decide +kernel
theorem dX6_likeness_1 : decode cX6_likeness 1 = .ok (.istore_n 2, 1) := by decide +kernel
theorem dX6_likeness_2 : decode cX6_likeness 2 = .ok (.iconst 0, 1) := by decide +kernel
theorem dX6_likeness_3 : decode cX6_likeness 3 = .ok (.istore_n 3, 1) := by decide +kernel
theorem dX6_likeness_4 : decode cX6_likeness 4 = .ok (.iload_n 3, 1) := by decide +kernel
theorem dX6_likeness_5 : decode cX6_likeness 5 = .ok (.aload_n 0, 1) := by decide +kernel
theorem dX6_likeness_6 : decode cX6_likeness 6 = .ok (.getfield 7, 3) := by decide +kernel
theorem dX6_likeness_9 : decode cX6_likeness 9 = .ok (.iconst 0, 1) := by decide +kernel
theorem dX6_likeness_10 : decode cX6_likeness 10 = .ok (.iaload, 1) := by decide +kernel
theorem dX6_likeness_11 : decode cX6_likeness 11 = .ok (.if_icmp .ge 58, 3) := by decide +kernel
theorem dX6_likeness_14 : decode cX6_likeness 14 = .ok (.iload_n 3, 1) := by decide +kernel
theorem dX6_likeness_15 : decode cX6_likeness 15 = .ok (.aload_n 0, 1) := by decide +kernel
theorem dX6_likeness_16 : decode cX6_likeness 16 = .ok (.getfield 7, 3) := by decide +kernel
theorem dX6_likeness_19 : decode cX6_likeness 19 = .ok (.iconst 3, 1) := by decide +kernel
theorem dX6_likeness_20 : decode cX6_likeness 20 = .ok (.iaload, 1) := by decide +kernel
theorem dX6_likeness_21 : decode cX6_likeness 21 = .ok (.iadd, 1) := by decide +kernel
theorem dX6_likeness_22 : decode cX6_likeness 22 = .ok (.istore 4, 2) := by decide +kernel
theorem dX6_likeness_24 : decode cX6_likeness 24 = .ok (.iload_n 2, 1) := by decide +kernel
theorem dX6_likeness_25 : decode cX6_likeness 25 = .ok (.aload_n 0, 1) := by decide +kernel
theorem dX6_likeness_26 : decode cX6_likeness 26 = .ok (.iload_n 3, 1) := by decide +kernel
theorem dX6_likeness_27 : decode cX6_likeness 27 = .ok (.invokevirtual 110, 3) := by decide +kernel
theorem dX6_likeness_30 : decode cX6_likeness 30 = .ok (.ifCond .eq 30, 3) := by decide +kernel
theorem dX6_likeness_33 : decode cX6_likeness 33 = .ok (.aload_n 0, 1) := by decide +kernel
theorem dX6_likeness_34 : decode cX6_likeness 34 = .ok (.iload 4, 2) := by decide +kernel
theorem dX6_likeness_36 : decode cX6_likeness 36 = .ok (.invokevirtual 110, 3) := by decide +kernel
theorem dX6_likeness_39 : decode cX6_likeness 39 = .ok (.ifCond .eq 21, 3) := by decide +kernel
theorem dX6_likeness_42 : decode cX6_likeness 42 = .ok (.iload_n 1, 1) := by decide +kernel
theorem dX6_likeness_43 : decode cX6_likeness 43 = .ok (.iload_n 3, 1) := by decide +kernel
theorem dX6_likeness_44 : decode cX6_likeness 44 = .ok (.invokestatic 113, 3) := by decide +kernel
theorem dX6_likeness_47 : decode cX6_likeness 47 = .ok (.iload_n 1, 1) := by decide +kernel
theorem dX6_likeness_48 : decode cX6_likeness 48 = .ok (.iload 4, 2) := by decide +kernel
theorem dX6_likeness_50 : decode cX6_likeness 50 = .ok (.invokestatic 113, 3) := by decide +kernel
theorem dX6_likeness_53 : decode cX6_likeness 53 = .ok (.if_icmp .ne 7, 3) := by decide +kernel
theorem dX6_likeness_56 : decode cX6_likeness 56 = .ok (.iconst 1, 1) := by decide +kernel
theorem dX6_likeness_57 : decode cX6_likeness 57 = .ok (.goto 4, 3) := by decide +kernel
theorem dX6_likeness_60 : decode cX6_likeness 60 = .ok (.iconst 0, 1) := by decide +kernel
theorem dX6_likeness_61 : decode cX6_likeness 61 = .ok (.iadd, 1) := by decide +kernel
theorem dX6_likeness_62 : decode cX6_likeness 62 = .ok (.istore_n 2, 1) := by decide +kernel
theorem dX6_likeness_63 : decode cX6_likeness 63 = .ok (.iinc 3 1, 3) := by decide +kernel
theorem dX6_likeness_66 : decode cX6_likeness 66 = .ok (.goto (-62), 3) := by decide +kernel
theorem dX6_likeness_69 : decode cX6_likeness 69 = .ok (.iload_n 2, 1) := by decide +kernel
theorem dX6_likeness_70 : decode cX6_likeness 70 = .ok (.ireturn, 1) := by decide +kernel
set_option maxRecDepth 20000 in
theorem ggX6_tilt_X6_isNote : GoodIn wsX6_tilt wsX6_isNote := goodIn_r _ [6, 1, 7, 8, 9, 5, 10, 11, 12, 13, 17, 18, 19, 20, 21, 22, 23, 24, 25, 26, 27, 28, 29, 30, 31] (by decide +kernel) (by decide +kernel)
set_option maxRecDepth 20000 in
theorem gX6_tilt_X6_isNote : GoodIn wsX6_tilt (wsV RX6 110 RX6 yX6_isNote wsX6_isNote) := goodIn_app (goodIn_of _ (by decide +kernel)) ggX6_tilt_X6_isNote
set_option maxRecDepth 20000 in
theorem ggX6_tilt_X6_has : GoodIn wsX6_tilt wsX6_has := goodIn_r _ [16] (by decide +kernel) (by decide +kernel)
set_option maxRecDepth 20000 in
theorem gX6_tilt_X6_has : GoodIn wsX6_tilt (va_wsS RX6 113 yX6_has wsX6_has) := goodIn_app (goodIn_of _ (by decide +kernel)) ggX6_tilt_X6_has
theorem dX6_tilt_0 : decode cX6_tilt 0 = .ok (.iconst 0, 1) := by decide +kernel
theorem dX6_tilt_1 : decode cX6_tilt 1 = .ok (.istore_n 2, 1) := by decide +kernel
theorem dX6_tilt_2 : decode cX6_tilt 2 = .ok (.iconst 0, 1) := by decide +kernel
theorem dX6_tilt_3 : decode cX6_tilt 3 = .ok (.istore_n 3, 1) := by decide +kernel
theorem dX6_tilt_4 : decode cX6_tilt 4 = .ok (.iload_n 3, 1) := by decide +kernel
theorem dX6_tilt_5 : decode cX6_tilt 5 = .ok (.aload_n 0, 1) := by decide +kernel
theorem dX6_tilt_6 : decode cX6_tilt 6 = .ok (.getfield 7, 3) := by decide +kernel
theorem dX6_tilt_9 : decode cX6_tilt 9 = .ok (.iconst 0, 1) := by decide +kernel
theorem dX6_tilt_10 : decode cX6_tilt 10 = .ok (.iaload, 1) := by decide +kernel
theorem dX6_tilt_11 : decode cX6_tilt 11 = .ok (.if_icmp .ge 37, 3) := by decide +kernel
theorem dX6_tilt_14 : decode cX6_tilt 14 = .ok (.iload_n 2, 1) := by decide +kernel
theorem dX6_tilt_15 : decode cX6_tilt 15 = .ok (.aload_n 0, 1) := by decide +kernel
theorem dX6_tilt_16 : decode cX6_tilt 16 = .ok (.iload_n 3, 1) := by decide +kernel
theorem dX6_tilt_17 : decode cX6_tilt 17 = .ok (.invokevirtual 110, 3) := by decide +kernel
theorem dX6_tilt_20 : decode cX6_tilt 20 = .ok (.ifCond .ne 7, 3) := by decide +kernel
theorem dX6_tilt_23 : decode cX6_tilt 23 = .ok (.iconst 0, 1) := by decide +kernel
theorem dX6_tilt_24 : decode cX6_tilt 24 = .ok (.goto 16, 3) := by decide +kernel
theorem dX6_tilt_27 : decode cX6_tilt 27 = .ok (.iload_n 1, 1) := by decide +kernel
theorem dX6_tilt_28 : decode cX6_tilt 28 = .ok (.iload_n 3, 1) := by decide +kernel
theorem dX6_tilt_29 : decode cX6_tilt 29 = .ok (.invokestatic 113, 3) := by decide +kernel
theorem dX6_tilt_32 : decode cX6_tilt 32 = .ok (.ifCond .eq 7, 3) := by decide +kernel
theorem dX6_tilt_35 : decode cX6_tilt 35 = .ok (.iconst (-1), 1) := by decide +kernel
theorem dX6_tilt_36 : decode cX6_tilt 36 = .ok (.goto 4, 3) := by decide +kernel
theorem dX6_tilt_39 : decode cX6_tilt 39 = .ok (.iconst 1, 1) := by decide +kernel
theorem dX6_tilt_40 : decode cX6_tilt 40 = .ok (.iadd, 1) := by decide +kernel
theorem dX6_tilt_41 : decode cX6_tilt 41 = .ok (.istore_n 2, 1) := by decide +kernel
theorem dX6_tilt_42 : decode cX6_tilt 42 = .ok (.iinc 3 1, 3) := by decide +kernel
theorem dX6_tilt_45 : decode cX6_tilt 45 = .ok (.goto (-41), 3) := by decide +kernel
theorem dX6_tilt_48 : decode cX6_tilt 48 = .ok (.iload_n 2, 1) := by decide +kernel
theorem dX6_tilt_49 : decode cX6_tilt 49 = .ok (.ireturn, 1) := by decide +kernel
set_option maxRecDepth 20000 in
theorem ggX6_ofHand_X6_isNote : GoodIn wsX6_ofHand wsX6_isNote := goodIn_r _ [6, 1, 7, 8, 9, 5, 10, 11, 12, 13, 14, 15, 16, 17, 18, 19, 20, 21, 22, 23, 24, 25, 26, 27, 28] (by decide +kernel) (by decide +kernel)
set_option maxRecDepth 20000 in
theorem gX6_ofHand_X6_isNote : GoodIn wsX6_ofHand (wsV RX6 110 RX6 yX6_isNote wsX6_isNote) := goodIn_app (goodIn_of _ (by decide +kernel)) ggX6_ofHand_X6_isNote
theorem dX6_ofHand_0 : decode cX6_ofHand 0 = .ok (.iconst 0, 1) := by decide +kernel
theorem dX6_ofHand_1 : decode cX6_ofHand 1 = .ok (.istore_n 2, 1) := by decide +kernel
theorem dX6_ofHand_2 : decode cX6_ofHand 2 = .ok (.iconst 0, 1) := by decide +kernel
theorem dX6_ofHand_3 : decode cX6_ofHand 3 = .ok (.istore_n 3, 1) := by decide +kernel
theorem dX6_ofHand_4 : decode cX6_ofHand 4 = .ok (.iload_n 3, 1) := by decide +kernel
theorem dX6_ofHand_5 : decode cX6_ofHand 5 = .ok (.aload_n 0, 1) := by decide +kernel
theorem dX6_ofHand_6 : decode cX6_ofHand 6 = .ok (.getfield 7, 3) := by decide +kernel
theorem dX6_ofHand_9 : decode cX6_ofHand 9 = .ok (.iconst 0, 1) := by decide +kernel
theorem dX6_ofHand_10 : decode cX6_ofHand 10 = .ok (.iaload, 1) := by decide +kernel
theorem dX6_ofHand_11 : decode cX6_ofHand 11 = .ok (.if_icmp .ge 40, 3) := by decide +kernel
theorem dX6_ofHand_14 : decode cX6_ofHand 14 = .ok (.iload_n 2, 1) := by decide +kernel
theorem dX6_ofHand_15 : decode cX6_ofHand 15 = .ok (.aload_n 0, 1) := by decide +kernel
theorem dX6_ofHand_16 : decode cX6_ofHand 16 = .ok (.iload_n 3, 1) := by decide +kernel
theorem dX6_ofHand_17 : decode cX6_ofHand 17 = .ok (.invokevirtual 110, 3) := by decide +kernel
theorem dX6_ofHand_20 : decode cX6_ofHand 20 = .ok (.ifCond .eq 22, 3) := by decide +kernel
theorem dX6_ofHand_23 : decode cX6_ofHand 23 = .ok (.aload_n 0, 1) := by decide +kernel
theorem dX6_ofHand_24 : decode cX6_ofHand 24 = .ok (.getfield 7, 3) := by decide +kernel
theorem dX6_ofHand_27 : decode cX6_ofHand 27 = .ok (.bipush 16, 2) := by decide +kernel
theorem dX6_ofHand_29 : decode cX6_ofHand 29 = .ok (.iaload, 1) := by decide +kernel
theorem dX6_ofHand_30 : decode cX6_ofHand 30 = .ok (.iload_n 3, 1) := by decide +kernel
theorem dX6_ofHand_31 : decode cX6_ofHand 31 = .ok (.ishr, 1) := by decide +kernel
theorem dX6_ofHand_32 : decode cX6_ofHand 32 = .ok (.iconst 1, 1) := by decide +kernel
theorem dX6_ofHand_33 : decode cX6_ofHand 33 = .ok (.iand, 1) := by decide +kernel
theorem dX6_ofHand_34 : decode cX6_ofHand 34 = .ok (.iload_n 1, 1) := by decide +kernel
theorem dX6_ofHand_35 : decode cX6_ofHand 35 = .ok (.if_icmp .ne 7, 3) := by decide +kernel
theorem dX6_ofHand_38 : decode cX6_ofHand 38 = .ok (.iconst 1, 1) := by decide +kernel
theorem dX6_ofHand_39 : decode cX6_ofHand 39 = .ok (.goto 4, 3) := by decide +kernel
theorem dX6_ofHand_42 : decode cX6_ofHand 42 = .ok (.iconst 0, 1) := by decide +kernel
theorem dX6_ofHand_43 : decode cX6_ofHand 43 = .ok (.iadd, 1) := by decide +kernel
theorem dX6_ofHand_44 : decode cX6_ofHand 44 = .ok (.istore_n 2, 1) := by decide +kernel
theorem dX6_ofHand_45 : decode cX6_ofHand 45 = .ok (.iinc 3 1, 3) := by decide +kernel
theorem dX6_ofHand_48 : decode cX6_ofHand 48 = .ok (.goto (-44), 3) := by decide +kernel
theorem dX6_ofHand_51 : decode cX6_ofHand 51 = .ok (.iload_n 2, 1) := by decide +kernel
theorem dX6_ofHand_52 : decode cX6_ofHand 52 = .ok (.ireturn, 1) := by decide +kernel
set_option maxRecDepth 20000 in
theorem ggX6_shareOf_X6_isNote : GoodIn wsX6_shareOf wsX6_isNote := goodIn_r _ [6, 1, 7, 8, 9, 5, 10, 11, 12, 13, 14, 15, 16, 17, 18, 19, 20, 21, 22, 23, 24, 25, 26, 27, 28] (by decide +kernel) (by decide +kernel)
set_option maxRecDepth 20000 in
theorem gX6_shareOf_X6_isNote : GoodIn wsX6_shareOf (wsV RX6 110 RX6 yX6_isNote wsX6_isNote) := goodIn_app (goodIn_of _ (by decide +kernel)) ggX6_shareOf_X6_isNote
theorem dX6_shareOf_0 : decode cX6_shareOf 0 = .ok (.iload_n 1, 1) := by decide +kernel
theorem dX6_shareOf_1 : decode cX6_shareOf 1 = .ok (.istore_n 2, 1) := by decide +kernel
theorem dX6_shareOf_2 : decode cX6_shareOf 2 = .ok (.iconst 0, 1) := by decide +kernel
theorem dX6_shareOf_3 : decode cX6_shareOf 3 = .ok (.istore_n 3, 1) := by decide +kernel
theorem dX6_shareOf_4 : decode cX6_shareOf 4 = .ok (.aload_n 0, 1) := by decide +kernel
theorem dX6_shareOf_5 : decode cX6_shareOf 5 = .ok (.getfield 7, 3) := by decide +kernel
theorem dX6_shareOf_8 : decode cX6_shareOf 8 = .ok (.iconst 0, 1) := by decide +kernel
theorem dX6_shareOf_9 : decode cX6_shareOf 9 = .ok (.iaload, 1) := by decide +kernel
theorem dX6_shareOf_10 : decode cX6_shareOf 10 = .ok (.iconst 1, 1) := by decide +kernel
theorem dX6_shareOf_11 : decode cX6_shareOf 11 = .ok (.isub, 1) := by decide +kernel
theorem dX6_shareOf_12 : decode cX6_shareOf 12 = .ok (.istore 4, 2) := by decide +kernel
theorem dX6_shareOf_14 : decode cX6_shareOf 14 = .ok (.iload 4, 2) := by decide +kernel
theorem dX6_shareOf_16 : decode cX6_shareOf 16 = .ok (.ifCond .lt 31, 3) := by decide +kernel
theorem dX6_shareOf_19 : decode cX6_shareOf 19 = .ok (.aload_n 0, 1) := by decide +kernel
theorem dX6_shareOf_20 : decode cX6_shareOf 20 = .ok (.iload 4, 2) := by decide +kernel
theorem dX6_shareOf_22 : decode cX6_shareOf 22 = .ok (.invokevirtual 110, 3) := by decide +kernel
theorem dX6_shareOf_25 : decode cX6_shareOf 25 = .ok (.ifCond .eq 16, 3) := by decide +kernel
theorem dX6_shareOf_28 : decode cX6_shareOf 28 = .ok (.iload_n 3, 1) := by decide +kernel
theorem dX6_shareOf_29 : decode cX6_shareOf 29 = .ok (.iload_n 2, 1) := by decide +kernel
theorem dX6_shareOf_30 : decode cX6_shareOf 30 = .ok (.iconst 1, 1) := by decide +kernel
theorem dX6_shareOf_31 : decode cX6_shareOf 31 = .ok (.iand, 1) := by decide +kernel
theorem dX6_shareOf_32 : decode cX6_shareOf 32 = .ok (.iload 4, 2) := by decide +kernel
theorem dX6_shareOf_34 : decode cX6_shareOf 34 = .ok (.ishl, 1) := by decide +kernel
theorem dX6_shareOf_35 : decode cX6_shareOf 35 = .ok (.ior, 1) := by decide +kernel
theorem dX6_shareOf_36 : decode cX6_shareOf 36 = .ok (.istore_n 3, 1) := by decide +kernel
theorem dX6_shareOf_37 : decode cX6_shareOf 37 = .ok (.iload_n 2, 1) := by decide +kernel
theorem dX6_shareOf_38 : decode cX6_shareOf 38 = .ok (.iconst 1, 1) := by decide +kernel
theorem dX6_shareOf_39 : decode cX6_shareOf 39 = .ok (.ishr, 1) := by decide +kernel
theorem dX6_shareOf_40 : decode cX6_shareOf 40 = .ok (.istore_n 2, 1) := by decide +kernel
theorem dX6_shareOf_41 : decode cX6_shareOf 41 = .ok (.iinc 4 (-1), 3) := by decide +kernel
theorem dX6_shareOf_44 : decode cX6_shareOf 44 = .ok (.goto (-30), 3) := by decide +kernel
theorem dX6_shareOf_47 : decode cX6_shareOf 47 = .ok (.iload_n 3, 1) := by decide +kernel
theorem dX6_shareOf_48 : decode cX6_shareOf 48 = .ok (.ireturn, 1) := by decide +kernel
set_option maxRecDepth 20000 in
theorem ggX6_gives_X6_isNote : GoodIn wsX6_gives wsX6_isNote := goodIn_r _ [6, 1, 7, 8, 9, 5, 10, 11, 12, 13, 27, 28, 29, 30, 31, 32, 33, 34, 35, 36, 37, 38, 39, 40, 41] (by decide +kernel) (by decide +kernel)
set_option maxRecDepth 20000 in
theorem gX6_gives_X6_isNote : GoodIn wsX6_gives (wsV RX6 110 RX6 yX6_isNote wsX6_isNote) := goodIn_app (goodIn_of _ (by decide +kernel)) ggX6_gives_X6_isNote
set_option maxRecDepth 20000 in
theorem ggX6_gives_X6_isHand : GoodIn wsX6_gives wsX6_isHand := goodIn_r _ [16] (by decide +kernel) (by decide +kernel)
set_option maxRecDepth 20000 in
theorem gX6_gives_X6_isHand : GoodIn wsX6_gives (va_wsS RX6 129 yX6_isHand wsX6_isHand) := goodIn_app (goodIn_of _ (by decide +kernel)) ggX6_gives_X6_isHand
set_option maxRecDepth 20000 in
theorem ggX6_gives_X6_keeps : GoodIn wsX6_gives wsX6_keeps := goodIn_r _ [20, 21, 22, 1, 27, 28, 29, 30, 31, 32, 33, 34, 35, 36, 37, 38, 39, 40, 41] (by decide +kernel) (by decide +kernel)
set_option maxRecDepth 20000 in
theorem gX6_gives_X6_keeps : GoodIn wsX6_gives (wsV RX6 104 RX6 yX6_keeps wsX6_keeps) := goodIn_app (goodIn_of _ (by decide +kernel)) ggX6_gives_X6_keeps
set_option maxRecDepth 20000 in
theorem ggX6_gives_X6_ofHand : GoodIn wsX6_gives wsX6_ofHand := goodIn_r _ [26, 1, 2, 3, 4, 5, 6, 7, 8, 9, 10, 11, 12, 13, 27, 28, 29, 30, 31, 32, 33, 34, 35, 36, 37, 38, 39, 40, 41] (by decide +kernel) (by decide +kernel)
set_option maxRecDepth 20000 in
theorem gX6_gives_X6_ofHand : GoodIn wsX6_gives (wsV RX6 132 RX6 yX6_ofHand wsX6_ofHand) := goodIn_app (goodIn_of _ (by decide +kernel)) ggX6_gives_X6_ofHand
theorem dX6_gives_0 : decode cX6_gives 0 = .ok (.aload_n 0, 1) := by decide +kernel
theorem dX6_gives_1 : decode cX6_gives 1 = .ok (.iload_n 1, 1) := by decide +kernel
theorem dX6_gives_2 : decode cX6_gives 2 = .ok (.invokevirtual 110, 3) := by decide +kernel
theorem dX6_gives_5 : decode cX6_gives 5 = .ok (.ifCond .eq 10, 3) := by decide +kernel
theorem dX6_gives_8 : decode cX6_gives 8 = .ok (.iload_n 2, 1) := by decide +kernel
theorem dX6_gives_9 : decode cX6_gives 9 = .ok (.invokestatic 129, 3) := by decide +kernel
theorem dX6_gives_12 : decode cX6_gives 12 = .ok (.ifCond .ne 5, 3) := by decide +kernel
theorem dX6_gives_15 : decode cX6_gives 15 = .ok (.iconst (-1), 1) := by decide +kernel
theorem dX6_gives_16 : decode cX6_gives 16 = .ok (.ireturn, 1) := by decide +kernel
theorem dX6_gives_17 : decode cX6_gives 17 = .ok (.aload_n 0, 1) := by decide +kernel
theorem dX6_gives_18 : decode cX6_gives 18 = .ok (.getfield 7, 3) := by decide +kernel
theorem dX6_gives_21 : decode cX6_gives 21 = .ok (.bipush 16, 2) := by decide +kernel
theorem dX6_gives_23 : decode cX6_gives 23 = .ok (.iaload, 1) := by decide +kernel
theorem dX6_gives_24 : decode cX6_gives 24 = .ok (.iload_n 1, 1) := by decide +kernel
theorem dX6_gives_25 : decode cX6_gives 25 = .ok (.ishr, 1) := by decide +kernel
theorem dX6_gives_26 : decode cX6_gives 26 = .ok (.iconst 1, 1) := by decide +kernel
theorem dX6_gives_27 : decode cX6_gives 27 = .ok (.iand, 1) := by decide +kernel
theorem dX6_gives_28 : decode cX6_gives 28 = .ok (.iload_n 2, 1) := by decide +kernel
theorem dX6_gives_29 : decode cX6_gives 29 = .ok (.if_icmp .ne 6, 3) := by decide +kernel
theorem dX6_gives_32 : decode cX6_gives 32 = .ok (.bipush (-2), 2) := by decide +kernel
theorem dX6_gives_34 : decode cX6_gives 34 = .ok (.ireturn, 1) := by decide +kernel
theorem dX6_gives_35 : decode cX6_gives 35 = .ok (.aload_n 0, 1) := by decide +kernel
theorem dX6_gives_36 : decode cX6_gives 36 = .ok (.invokevirtual 104, 3) := by decide +kernel
theorem dX6_gives_39 : decode cX6_gives 39 = .ok (.aload_n 0, 1) := by decide +kernel
theorem dX6_gives_40 : decode cX6_gives 40 = .ok (.getfield 7, 3) := by decide +kernel
theorem dX6_gives_43 : decode cX6_gives 43 = .ok (.bipush 16, 2) := by decide +kernel
theorem dX6_gives_45 : decode cX6_gives 45 = .ok (.dup2, 1) := by decide +kernel
theorem dX6_gives_46 : decode cX6_gives 46 = .ok (.iaload, 1) := by decide +kernel
theorem dX6_gives_47 : decode cX6_gives 47 = .ok (.iconst 1, 1) := by decide +kernel
theorem dX6_gives_48 : decode cX6_gives 48 = .ok (.iload_n 1, 1) := by decide +kernel
theorem dX6_gives_49 : decode cX6_gives 49 = .ok (.ishl, 1) := by decide +kernel
theorem dX6_gives_50 : decode cX6_gives 50 = .ok (.ixor, 1) := by decide +kernel
theorem dX6_gives_51 : decode cX6_gives 51 = .ok (.iastore, 1) := by decide +kernel
theorem dX6_gives_52 : decode cX6_gives 52 = .ok (.aload_n 0, 1) := by decide +kernel
theorem dX6_gives_53 : decode cX6_gives 53 = .ok (.iload_n 2, 1) := by decide +kernel
theorem dX6_gives_54 : decode cX6_gives 54 = .ok (.invokevirtual 132, 3) := by decide +kernel
theorem dX6_gives_57 : decode cX6_gives 57 = .ok (.ireturn, 1) := by decide +kernel
set_option maxRecDepth 20000 in
theorem ggX6_flips_X6_isTick : GoodIn wsX6_flips wsX6_isTick := goodIn_r _ [6, 1, 7, 8, 5, 9, 20, 21, 22, 23, 24, 25, 26, 27, 28, 29, 30, 31, 32, 33, 34] (by decide +kernel) (by decide +kernel)
set_option maxRecDepth 20000 in
theorem gX6_flips_X6_isTick : GoodIn wsX6_flips (wsV RX6 107 RX6 yX6_isTick wsX6_isTick) := goodIn_app (goodIn_of _ (by decide +kernel)) ggX6_flips_X6_isTick
set_option maxRecDepth 20000 in
theorem ggX6_flips_X6_isNote : GoodIn wsX6_flips wsX6_isNote := goodIn_r _ [13, 1, 2, 3, 4, 5, 6, 7, 8, 9, 20, 21, 22, 23, 24, 25, 26, 27, 28, 29, 30, 31, 32, 33, 34] (by decide +kernel) (by decide +kernel)
set_option maxRecDepth 20000 in
theorem gX6_flips_X6_isNote : GoodIn wsX6_flips (wsV RX6 110 RX6 yX6_isNote wsX6_isNote) := goodIn_app (goodIn_of _ (by decide +kernel)) ggX6_flips_X6_isNote
set_option maxRecDepth 20000 in
theorem ggX6_flips_X6_keeps : GoodIn wsX6_flips wsX6_keeps := goodIn_r _ [17, 18, 19, 1, 20, 21, 22, 23, 24, 25, 26, 27, 28, 29, 30, 31, 32, 33, 34] (by decide +kernel) (by decide +kernel)
set_option maxRecDepth 20000 in
theorem gX6_flips_X6_keeps : GoodIn wsX6_flips (wsV RX6 104 RX6 yX6_keeps wsX6_keeps) := goodIn_app (goodIn_of _ (by decide +kernel)) ggX6_flips_X6_keeps
theorem dX6_flips_0 : decode cX6_flips 0 = .ok (.aload_n 0, 1) := by decide +kernel
theorem dX6_flips_1 : decode cX6_flips 1 = .ok (.iload_n 1, 1) := by decide +kernel
theorem dX6_flips_2 : decode cX6_flips 2 = .ok (.invokevirtual 107, 3) := by decide +kernel
theorem dX6_flips_5 : decode cX6_flips 5 = .ok (.ifCond .eq 16, 3) := by decide +kernel
theorem dX6_flips_8 : decode cX6_flips 8 = .ok (.aload_n 0, 1) := by decide +kernel
theorem dX6_flips_9 : decode cX6_flips 9 = .ok (.iload_n 2, 1) := by decide +kernel
theorem dX6_flips_10 : decode cX6_flips 10 = .ok (.invokevirtual 107, 3) := by decide +kernel
theorem dX6_flips_13 : decode cX6_flips 13 = .ok (.ifCond .eq 8, 3) := by decide +kernel
theorem dX6_flips_16 : decode cX6_flips 16 = .ok (.iload_n 2, 1) := by decide +kernel
theorem dX6_flips_17 : decode cX6_flips 17 = .ok (.iload_n 1, 1) := by decide +kernel
theorem dX6_flips_18 : decode cX6_flips 18 = .ok (.if_icmp .ge 5, 3) := by decide +kernel
theorem dX6_flips_21 : decode cX6_flips 21 = .ok (.iconst (-1), 1) := by decide +kernel
theorem dX6_flips_22 : decode cX6_flips 22 = .ok (.ireturn, 1) := by decide +kernel
theorem dX6_flips_23 : decode cX6_flips 23 = .ok (.iconst 0, 1) := by decide +kernel
theorem dX6_flips_24 : decode cX6_flips 24 = .ok (.istore_n 3, 1) := by decide +kernel
theorem dX6_flips_25 : decode cX6_flips 25 = .ok (.iconst 0, 1) := by decide +kernel
theorem dX6_flips_26 : decode cX6_flips 26 = .ok (.istore 4, 2) := by decide +kernel
theorem dX6_flips_28 : decode cX6_flips 28 = .ok (.iload_n 1, 1) := by decide +kernel
theorem dX6_flips_29 : decode cX6_flips 29 = .ok (.istore 5, 2) := by decide +kernel
theorem dX6_flips_31 : decode cX6_flips 31 = .ok (.iload 5, 2) := by decide +kernel
theorem dX6_flips_33 : decode cX6_flips 33 = .ok (.iload_n 2, 1) := by decide +kernel
theorem dX6_flips_34 : decode cX6_flips 34 = .ok (.if_icmp .gt 48, 3) := by decide +kernel
theorem dX6_flips_37 : decode cX6_flips 37 = .ok (.iload_n 3, 1) := by decide +kernel
theorem dX6_flips_38 : decode cX6_flips 38 = .ok (.aload_n 0, 1) := by decide +kernel
theorem dX6_flips_39 : decode cX6_flips 39 = .ok (.iload 5, 2) := by decide +kernel
theorem dX6_flips_41 : decode cX6_flips 41 = .ok (.invokevirtual 110, 3) := by decide +kernel
theorem dX6_flips_44 : decode cX6_flips 44 = .ok (.ifCond .eq 10, 3) := by decide +kernel
theorem dX6_flips_47 : decode cX6_flips 47 = .ok (.iconst 1, 1) := by decide +kernel
theorem dX6_flips_48 : decode cX6_flips 48 = .ok (.iload 5, 2) := by decide +kernel
theorem dX6_flips_50 : decode cX6_flips 50 = .ok (.ishl, 1) := by decide +kernel
theorem dX6_flips_51 : decode cX6_flips 51 = .ok (.goto 4, 3) := by decide +kernel
theorem dX6_flips_54 : decode cX6_flips 54 = .ok (.iconst 0, 1) := by decide +kernel
theorem dX6_flips_55 : decode cX6_flips 55 = .ok (.ior, 1) := by decide +kernel
theorem dX6_flips_56 : decode cX6_flips 56 = .ok (.istore_n 3, 1) := by decide +kernel
theorem dX6_flips_57 : decode cX6_flips 57 = .ok (.iload 4, 2) := by decide +kernel
theorem dX6_flips_59 : decode cX6_flips 59 = .ok (.aload_n 0, 1) := by decide +kernel
theorem dX6_flips_60 : decode cX6_flips 60 = .ok (.iload 5, 2) := by decide +kernel
theorem dX6_flips_62 : decode cX6_flips 62 = .ok (.invokevirtual 110, 3) := by decide +kernel
theorem dX6_flips_65 : decode cX6_flips 65 = .ok (.ifCond .eq 7, 3) := by decide +kernel
theorem dX6_flips_68 : decode cX6_flips 68 = .ok (.iconst 1, 1) := by decide +kernel
theorem dX6_flips_69 : decode cX6_flips 69 = .ok (.goto 4, 3) := by decide +kernel
theorem dX6_flips_72 : decode cX6_flips 72 = .ok (.iconst 0, 1) := by decide +kernel
theorem dX6_flips_73 : decode cX6_flips 73 = .ok (.iadd, 1) := by decide +kernel
theorem dX6_flips_74 : decode cX6_flips 74 = .ok (.istore 4, 2) := by decide +kernel
theorem dX6_flips_76 : decode cX6_flips 76 = .ok (.iinc 5 1, 3) := by decide +kernel
theorem dX6_flips_79 : decode cX6_flips 79 = .ok (.goto (-48), 3) := by decide +kernel
theorem dX6_flips_82 : decode cX6_flips 82 = .ok (.iload 4, 2) := by decide +kernel
theorem dX6_flips_84 : decode cX6_flips 84 = .ok (.ifCond .ne 6, 3) := by decide +kernel
theorem dX6_flips_87 : decode cX6_flips 87 = .ok (.bipush (-2), 2) := by decide +kernel
theorem dX6_flips_89 : decode cX6_flips 89 = .ok (.ireturn, 1) := by decide +kernel
theorem dX6_flips_90 : decode cX6_flips 90 = .ok (.aload_n 0, 1) := by decide +kernel
theorem dX6_flips_91 : decode cX6_flips 91 = .ok (.invokevirtual 104, 3) := by decide +kernel
theorem dX6_flips_94 : decode cX6_flips 94 = .ok (.aload_n 0, 1) := by decide +kernel
theorem dX6_flips_95 : decode cX6_flips 95 = .ok (.getfield 7, 3) := by decide +kernel
theorem dX6_flips_98 : decode cX6_flips 98 = .ok (.bipush 16, 2) := by decide +kernel
theorem dX6_flips_100 : decode cX6_flips 100 = .ok (.dup2, 1) := by decide +kernel
theorem dX6_flips_101 : decode cX6_flips 101 = .ok (.iaload, 1) := by decide +kernel
theorem dX6_flips_102 : decode cX6_flips 102 = .ok (.iload_n 3, 1) := by decide +kernel
theorem dX6_flips_103 : decode cX6_flips 103 = .ok (.ixor, 1) := by decide +kernel
theorem dX6_flips_104 : decode cX6_flips 104 = .ok (.iastore, 1) := by decide +kernel
theorem dX6_flips_105 : decode cX6_flips 105 = .ok (.iload 4, 2) := by decide +kernel
theorem dX6_flips_107 : decode cX6_flips 107 = .ok (.ireturn, 1) := by decide +kernel
theorem dX6_ones_0 : decode cX6_ones 0 = .ok (.iconst 0, 1) := by decide +kernel
theorem dX6_ones_1 : decode cX6_ones 1 = .ok (.istore_n 1, 1) := by decide +kernel
theorem dX6_ones_2 : decode cX6_ones 2 = .ok (.iconst 0, 1) := by decide +kernel
theorem dX6_ones_3 : decode cX6_ones 3 = .ok (.istore_n 2, 1) := by decide +kernel
theorem dX6_ones_4 : decode cX6_ones 4 = .ok (.iload_n 2, 1) := by decide +kernel
theorem dX6_ones_5 : decode cX6_ones 5 = .ok (.bipush 12, 2) := by decide +kernel
theorem dX6_ones_7 : decode cX6_ones 7 = .ok (.if_icmp .ge 17, 3) := by decide +kernel
theorem dX6_ones_10 : decode cX6_ones 10 = .ok (.iload_n 1, 1) := by decide +kernel
theorem dX6_ones_11 : decode cX6_ones 11 = .ok (.iload_n 0, 1) := by decide +kernel
theorem dX6_ones_12 : decode cX6_ones 12 = .ok (.iload_n 2, 1) := by decide +kernel
theorem dX6_ones_13 : decode cX6_ones 13 = .ok (.ishr, 1) := by decide +kernel
theorem dX6_ones_14 : decode cX6_ones 14 = .ok (.iconst 1, 1) := by decide +kernel
theorem dX6_ones_15 : decode cX6_ones 15 = .ok (.iand, 1) := by decide +kernel
theorem dX6_ones_16 : decode cX6_ones 16 = .ok (.iadd, 1) := by decide +kernel
theorem dX6_ones_17 : decode cX6_ones 17 = .ok (.istore_n 1, 1) := by decide +kernel
theorem dX6_ones_18 : decode cX6_ones 18 = .ok (.iinc 2 1, 3) := by decide +kernel
theorem dX6_ones_21 : decode cX6_ones 21 = .ok (.goto (-17), 3) := by decide +kernel
theorem dX6_ones_24 : decode cX6_ones 24 = .ok (.iload_n 1, 1) := by decide +kernel
theorem dX6_ones_25 : decode cX6_ones 25 = .ok (.ireturn, 1) := by decide +kernel
set_option maxRecDepth 20000 in
theorem ggX6_nearest_X6_notes : GoodIn wsX6_nearest wsX6_notes := goodIn_r _ [6, 1, 7, 8, 9, 5, 10, 11, 12, 13, 14, 15, 16, 17, 48, 49, 50, 51, 52, 53, 54, 55, 56, 57, 58, 59, 60, 61, 62] (by decide +kernel) (by decide +kernel)
set_option maxRecDepth 20000 in
theorem gX6_nearest_X6_notes : GoodIn wsX6_nearest (wsV RX6 135 RX6 yX6_notes wsX6_notes) := goodIn_app (goodIn_of _ (by decide +kernel)) ggX6_nearest_X6_notes
set_option maxRecDepth 20000 in
theorem ggX6_nearest_X6_shareOf : GoodIn wsX6_nearest wsX6_shareOf := goodIn_r _ [21, 1, 7, 8, 9, 5, 10, 11, 12, 13, 14, 15, 16, 17, 48, 49, 50, 51, 52, 53, 54, 55, 56, 57, 58, 59, 60, 61, 62] (by decide +kernel) (by decide +kernel)
set_option maxRecDepth 20000 in
theorem gX6_nearest_X6_shareOf : GoodIn wsX6_nearest (wsV RX6 138 RX6 yX6_shareOf wsX6_shareOf) := goodIn_app (goodIn_of _ (by decide +kernel)) ggX6_nearest_X6_shareOf
set_option maxRecDepth 20000 in
theorem ggX6_nearest_X6_ones : GoodIn wsX6_nearest wsX6_ones := goodIn_r _ [24] (by decide +kernel) (by decide +kernel)
set_option maxRecDepth 20000 in
theorem gX6_nearest_X6_ones : GoodIn wsX6_nearest (va_wsS RX6 141 yX6_ones wsX6_ones) := goodIn_app (goodIn_of _ (by decide +kernel)) ggX6_nearest_X6_ones
set_option maxRecDepth 20000 in
theorem ggX6_nearest_X6_isLawfulNow : GoodIn wsX6_nearest wsX6_isLawfulNow := goodIn_r _ [28, 1, 29, 30, 31, 5, 32, 33, 34, 35, 36, 7, 8, 9, 10, 11, 12, 13, 14, 15, 16, 17, 37, 38, 39, 40, 41, 42, 43, 44, 45, 46, 47, 48, 49, 50, 51, 52, 53, 54, 55, 56, 57, 58, 59, 60, 61, 62] (by decide +kernel) (by decide +kernel)
set_option maxRecDepth 20000 in
theorem gX6_nearest_X6_isLawfulNow : GoodIn wsX6_nearest (wsV RX6 144 RX6 yX6_isLawfulNow wsX6_isLawfulNow) := goodIn_app (goodIn_of _ (by decide +kernel)) ggX6_nearest_X6_isLawfulNow
theorem dX6_nearest_0 : decode cX6_nearest 0 = .ok (.bipush (-9), 2) := by decide +kernel
theorem dX6_nearest_2 : decode cX6_nearest 2 = .ok (.istore_n 1, 1) := by decide +kernel
theorem dX6_nearest_3 : decode cX6_nearest 3 = .ok (.iconst 0, 1) := by decide +kernel
theorem dX6_nearest_4 : decode cX6_nearest 4 = .ok (.istore_n 2, 1) := by decide +kernel
theorem dX6_nearest_5 : decode cX6_nearest 5 = .ok (.iload_n 2, 1) := by decide +kernel
theorem dX6_nearest_6 : decode cX6_nearest 6 = .ok (.iconst 1, 1) := by decide +kernel
theorem dX6_nearest_7 : decode cX6_nearest 7 = .ok (.aload_n 0, 1) := by decide +kernel
theorem dX6_nearest_8 : decode cX6_nearest 8 = .ok (.invokevirtual 135, 3) := by decide +kernel
theorem dX6_nearest_11 : decode cX6_nearest 11 = .ok (.ishl, 1) := by decide +kernel
theorem dX6_nearest_12 : decode cX6_nearest 12 = .ok (.if_icmp .ge 74, 3) := by decide +kernel
theorem dX6_nearest_15 : decode cX6_nearest 15 = .ok (.aload_n 0, 1) := by decide +kernel
theorem dX6_nearest_16 : decode cX6_nearest 16 = .ok (.iload_n 2, 1) := by decide +kernel
theorem dX6_nearest_17 : decode cX6_nearest 17 = .ok (.invokevirtual 138, 3) := by decide +kernel
theorem dX6_nearest_20 : decode cX6_nearest 20 = .ok (.istore_n 3, 1) := by decide +kernel
theorem dX6_nearest_21 : decode cX6_nearest 21 = .ok (.iload_n 1, 1) := by decide +kernel
theorem dX6_nearest_22 : decode cX6_nearest 22 = .ok (.bipush (-9), 2) := by decide +kernel
theorem dX6_nearest_24 : decode cX6_nearest 24 = .ok (.if_icmp .eq 30, 3) := by decide +kernel
theorem dX6_nearest_27 : decode cX6_nearest 27 = .ok (.iload_n 3, 1) := by decide +kernel
theorem dX6_nearest_28 : decode cX6_nearest 28 = .ok (.aload_n 0, 1) := by decide +kernel
theorem dX6_nearest_29 : decode cX6_nearest 29 = .ok (.getfield 7, 3) := by decide +kernel
theorem dX6_nearest_32 : decode cX6_nearest 32 = .ok (.bipush 16, 2) := by decide +kernel
theorem dX6_nearest_34 : decode cX6_nearest 34 = .ok (.iaload, 1) := by decide +kernel
theorem dX6_nearest_35 : decode cX6_nearest 35 = .ok (.ixor, 1) := by decide +kernel
theorem dX6_nearest_36 : decode cX6_nearest 36 = .ok (.invokestatic 141, 3) := by decide +kernel
theorem dX6_nearest_39 : decode cX6_nearest 39 = .ok (.iload_n 1, 1) := by decide +kernel
theorem dX6_nearest_40 : decode cX6_nearest 40 = .ok (.aload_n 0, 1) := by decide +kernel
theorem dX6_nearest_41 : decode cX6_nearest 41 = .ok (.getfield 7, 3) := by decide +kernel
theorem dX6_nearest_44 : decode cX6_nearest 44 = .ok (.bipush 16, 2) := by decide +kernel
theorem dX6_nearest_46 : decode cX6_nearest 46 = .ok (.iaload, 1) := by decide +kernel
theorem dX6_nearest_47 : decode cX6_nearest 47 = .ok (.ixor, 1) := by decide +kernel
theorem dX6_nearest_48 : decode cX6_nearest 48 = .ok (.invokestatic 141, 3) := by decide +kernel
theorem dX6_nearest_51 : decode cX6_nearest 51 = .ok (.if_icmp .ge 7, 3) := by decide +kernel
theorem dX6_nearest_54 : decode cX6_nearest 54 = .ok (.iconst 1, 1) := by decide +kernel
theorem dX6_nearest_55 : decode cX6_nearest 55 = .ok (.goto 4, 3) := by decide +kernel
theorem dX6_nearest_58 : decode cX6_nearest 58 = .ok (.iconst 0, 1) := by decide +kernel
theorem dX6_nearest_59 : decode cX6_nearest 59 = .ok (.istore 4, 2) := by decide +kernel
theorem dX6_nearest_61 : decode cX6_nearest 61 = .ok (.iload 4, 2) := by decide +kernel
theorem dX6_nearest_63 : decode cX6_nearest 63 = .ok (.ifCond .eq 15, 3) := by decide +kernel
theorem dX6_nearest_66 : decode cX6_nearest 66 = .ok (.aload_n 0, 1) := by decide +kernel
theorem dX6_nearest_67 : decode cX6_nearest 67 = .ok (.iload_n 3, 1) := by decide +kernel
theorem dX6_nearest_68 : decode cX6_nearest 68 = .ok (.invokevirtual 144, 3) := by decide +kernel
theorem dX6_nearest_71 : decode cX6_nearest 71 = .ok (.ifCond .eq 7, 3) := by decide +kernel
theorem dX6_nearest_74 : decode cX6_nearest 74 = .ok (.iload_n 3, 1) := by decide +kernel
theorem dX6_nearest_75 : decode cX6_nearest 75 = .ok (.goto 4, 3) := by decide +kernel
theorem dX6_nearest_78 : decode cX6_nearest 78 = .ok (.iload_n 1, 1) := by decide +kernel
theorem dX6_nearest_79 : decode cX6_nearest 79 = .ok (.istore_n 1, 1) := by decide +kernel
theorem dX6_nearest_80 : decode cX6_nearest 80 = .ok (.iinc 2 1, 3) := by decide +kernel
theorem dX6_nearest_83 : decode cX6_nearest 83 = .ok (.goto (-78), 3) := by decide +kernel
theorem dX6_nearest_86 : decode cX6_nearest 86 = .ok (.iload_n 1, 1) := by decide +kernel
theorem dX6_nearest_87 : decode cX6_nearest 87 = .ok (.ireturn, 1) := by decide +kernel
set_option maxRecDepth 20000 in
theorem ggX6_mends_X6_isLawfulNow : GoodIn wsX6_mends wsX6_isLawfulNow := goodIn_r _ [6, 1, 7, 8, 9, 5, 10, 11, 12, 13, 14, 15, 16, 17, 18, 19, 20, 21, 22, 23, 24, 25, 26, 27, 28, 29, 30, 31, 32, 33, 34, 35, 36, 58, 59, 60, 61, 62, 63, 64, 65, 66, 67, 68, 69, 70, 71, 72] (by decide +kernel) (by decide +kernel)
set_option maxRecDepth 20000 in
theorem gX6_mends_X6_isLawfulNow : GoodIn wsX6_mends (wsV RX6 144 RX6 yX6_isLawfulNow wsX6_isLawfulNow) := goodIn_app (goodIn_of _ (by decide +kernel)) ggX6_mends_X6_isLawfulNow
set_option maxRecDepth 20000 in
theorem ggX6_mends_X6_nearest : GoodIn wsX6_mends wsX6_nearest := goodIn_r _ [40, 1, 41, 42, 43, 5, 44, 15, 16, 17, 18, 19, 20, 21, 22, 23, 24, 25, 45, 46, 47, 48, 49, 50, 51, 2, 3, 4, 6, 7, 8, 9, 10, 11, 12, 13, 14, 26, 27, 28, 29, 30, 31, 32, 33, 34, 35, 36, 58, 59, 60, 61, 62, 63, 64, 65, 66, 67, 68, 69, 70, 71, 72] (by decide +kernel) (by decide +kernel)
set_option maxRecDepth 20000 in
theorem gX6_mends_X6_nearest : GoodIn wsX6_mends (wsV RX6 147 RX6 yX6_nearest wsX6_nearest) := goodIn_app (goodIn_of _ (by decide +kernel)) ggX6_mends_X6_nearest
set_option maxRecDepth 20000 in
theorem ggX6_mends_X6_keeps : GoodIn wsX6_mends wsX6_keeps := goodIn_r _ [55, 56, 57, 1, 58, 59, 60, 61, 62, 63, 64, 65, 66, 67, 68, 69, 70, 71, 72] (by decide +kernel) (by decide +kernel)
set_option maxRecDepth 20000 in
theorem gX6_mends_X6_keeps : GoodIn wsX6_mends (wsV RX6 104 RX6 yX6_keeps wsX6_keeps) := goodIn_app (goodIn_of _ (by decide +kernel)) ggX6_mends_X6_keeps
set_option maxRecDepth 20000 in
theorem ggX6_mends_X6_ones : GoodIn wsX6_mends wsX6_ones := goodIn_r _ [51] (by decide +kernel) (by decide +kernel)
set_option maxRecDepth 20000 in
theorem gX6_mends_X6_ones : GoodIn wsX6_mends (va_wsS RX6 141 yX6_ones wsX6_ones) := goodIn_app (goodIn_of _ (by decide +kernel)) ggX6_mends_X6_ones
theorem dX6_mends_0 : decode cX6_mends 0 = .ok (.aload_n 0, 1) := by decide +kernel
theorem dX6_mends_1 : decode cX6_mends 1 = .ok (.aload_n 0, 1) := by decide +kernel
theorem dX6_mends_2 : decode cX6_mends 2 = .ok (.getfield 7, 3) := by decide +kernel
theorem dX6_mends_5 : decode cX6_mends 5 = .ok (.bipush 16, 2) := by decide +kernel
theorem dX6_mends_7 : decode cX6_mends 7 = .ok (.iaload, 1) := by decide +kernel
theorem dX6_mends_8 : decode cX6_mends 8 = .ok (.invokevirtual 144, 3) := by decide +kernel
theorem dX6_mends_11 : decode cX6_mends 11 = .ok (.ifCond .eq 8, 3) := by decide +kernel
theorem dX6_mends_14 : decode cX6_mends 14 = .ok (.bipush (-9), 2) := by decide +kernel
theorem dX6_mends_16 : decode cX6_mends 16 = .ok (.goto 7, 3) := by decide +kernel
theorem dX6_mends_19 : decode cX6_mends 19 = .ok (.aload_n 0, 1) := by decide +kernel
theorem dX6_mends_20 : decode cX6_mends 20 = .ok (.invokevirtual 147, 3) := by decide +kernel
theorem dX6_mends_23 : decode cX6_mends 23 = .ok (.istore_n 1, 1) := by decide +kernel
theorem dX6_mends_24 : decode cX6_mends 24 = .ok (.iload_n 1, 1) := by decide +kernel
theorem dX6_mends_25 : decode cX6_mends 25 = .ok (.bipush (-9), 2) := by decide +kernel
theorem dX6_mends_27 : decode cX6_mends 27 = .ok (.if_icmp .ne 6, 3) := by decide +kernel
theorem dX6_mends_30 : decode cX6_mends 30 = .ok (.bipush (-2), 2) := by decide +kernel
theorem dX6_mends_32 : decode cX6_mends 32 = .ok (.ireturn, 1) := by decide +kernel
theorem dX6_mends_33 : decode cX6_mends 33 = .ok (.aload_n 0, 1) := by decide +kernel
theorem dX6_mends_34 : decode cX6_mends 34 = .ok (.invokevirtual 104, 3) := by decide +kernel
theorem dX6_mends_37 : decode cX6_mends 37 = .ok (.iload_n 1, 1) := by decide +kernel
theorem dX6_mends_38 : decode cX6_mends 38 = .ok (.aload_n 0, 1) := by decide +kernel
theorem dX6_mends_39 : decode cX6_mends 39 = .ok (.getfield 7, 3) := by decide +kernel
theorem dX6_mends_42 : decode cX6_mends 42 = .ok (.bipush 16, 2) := by decide +kernel
theorem dX6_mends_44 : decode cX6_mends 44 = .ok (.iaload, 1) := by decide +kernel
theorem dX6_mends_45 : decode cX6_mends 45 = .ok (.ixor, 1) := by decide +kernel
theorem dX6_mends_46 : decode cX6_mends 46 = .ok (.invokestatic 141, 3) := by decide +kernel
theorem dX6_mends_49 : decode cX6_mends 49 = .ok (.istore_n 2, 1) := by decide +kernel
theorem dX6_mends_50 : decode cX6_mends 50 = .ok (.aload_n 0, 1) := by decide +kernel
theorem dX6_mends_51 : decode cX6_mends 51 = .ok (.getfield 7, 3) := by decide +kernel
theorem dX6_mends_54 : decode cX6_mends 54 = .ok (.bipush 16, 2) := by decide +kernel
theorem dX6_mends_56 : decode cX6_mends 56 = .ok (.iload_n 1, 1) := by decide +kernel
theorem dX6_mends_57 : decode cX6_mends 57 = .ok (.iastore, 1) := by decide +kernel
theorem dX6_mends_58 : decode cX6_mends 58 = .ok (.iload_n 2, 1) := by decide +kernel
theorem dX6_mends_59 : decode cX6_mends 59 = .ok (.ireturn, 1) := by decide +kernel
set_option maxRecDepth 20000 in
theorem ggX6_sets_X6_within : GoodIn wsX6_sets wsX6_within := goodIn_r _ [5] (by decide +kernel) (by decide +kernel)
set_option maxRecDepth 20000 in
theorem gX6_sets_X6_within : GoodIn wsX6_sets (va_wsS RX6 52 yX6_within wsX6_within) := goodIn_app (goodIn_of _ (by decide +kernel)) ggX6_sets_X6_within
set_option maxRecDepth 20000 in
theorem ggX6_sets_X6_least : GoodIn wsX6_sets wsX6_least := goodIn_r _ [8] (by decide +kernel) (by decide +kernel)
set_option maxRecDepth 20000 in
theorem gX6_sets_X6_least : GoodIn wsX6_sets (va_wsS RX6 71 yX6_least wsX6_least) := goodIn_app (goodIn_of _ (by decide +kernel)) ggX6_sets_X6_least
set_option maxRecDepth 20000 in
theorem ggX6_sets_X6_greatest : GoodIn wsX6_sets wsX6_greatest := goodIn_r _ [11] (by decide +kernel) (by decide +kernel)
set_option maxRecDepth 20000 in
theorem gX6_sets_X6_greatest : GoodIn wsX6_sets (va_wsS RX6 74 yX6_greatest wsX6_greatest) := goodIn_app (goodIn_of _ (by decide +kernel)) ggX6_sets_X6_greatest
set_option maxRecDepth 20000 in
theorem ggX6_sets_X6_keeps : GoodIn wsX6_sets wsX6_keeps := goodIn_r _ [15, 16, 17, 1, 18, 19, 20, 21, 22, 23, 24, 25, 26, 27, 28, 29, 30, 31, 32] (by decide +kernel) (by decide +kernel)
set_option maxRecDepth 20000 in
theorem gX6_sets_X6_keeps : GoodIn wsX6_sets (wsV RX6 104 RX6 yX6_keeps wsX6_keeps) := goodIn_app (goodIn_of _ (by decide +kernel)) ggX6_sets_X6_keeps
theorem dX6_sets_0 : decode cX6_sets 0 = .ok (.iload_n 1, 1) := by decide +kernel
theorem dX6_sets_1 : decode cX6_sets 1 = .ok (.iconst 0, 1) := by decide +kernel
theorem dX6_sets_2 : decode cX6_sets 2 = .ok (.iconst 2, 1) := by decide +kernel
theorem dX6_sets_3 : decode cX6_sets 3 = .ok (.invokestatic 52, 3) := by decide +kernel
theorem dX6_sets_6 : decode cX6_sets 6 = .ok (.ifCond .eq 22, 3) := by decide +kernel
theorem dX6_sets_9 : decode cX6_sets 9 = .ok (.iload_n 2, 1) := by decide +kernel
theorem dX6_sets_10 : decode cX6_sets 10 = .ok (.iload_n 1, 1) := by decide +kernel
theorem dX6_sets_11 : decode cX6_sets 11 = .ok (.iconst 1, 1) := by decide +kernel
theorem dX6_sets_12 : decode cX6_sets 12 = .ok (.iadd, 1) := by decide +kernel
theorem dX6_sets_13 : decode cX6_sets 13 = .ok (.invokestatic 71, 3) := by decide +kernel
theorem dX6_sets_16 : decode cX6_sets 16 = .ok (.iload_n 1, 1) := by decide +kernel
theorem dX6_sets_17 : decode cX6_sets 17 = .ok (.iconst 1, 1) := by decide +kernel
theorem dX6_sets_18 : decode cX6_sets 18 = .ok (.iadd, 1) := by decide +kernel
theorem dX6_sets_19 : decode cX6_sets 19 = .ok (.invokestatic 74, 3) := by decide +kernel
theorem dX6_sets_22 : decode cX6_sets 22 = .ok (.invokestatic 52, 3) := by decide +kernel
theorem dX6_sets_25 : decode cX6_sets 25 = .ok (.ifCond .ne 5, 3) := by decide +kernel
theorem dX6_sets_28 : decode cX6_sets 28 = .ok (.iconst (-1), 1) := by decide +kernel
theorem dX6_sets_29 : decode cX6_sets 29 = .ok (.ireturn, 1) := by decide +kernel
theorem dX6_sets_30 : decode cX6_sets 30 = .ok (.aload_n 0, 1) := by decide +kernel
theorem dX6_sets_31 : decode cX6_sets 31 = .ok (.getfield 7, 3) := by decide +kernel
theorem dX6_sets_34 : decode cX6_sets 34 = .ok (.iload_n 1, 1) := by decide +kernel
theorem dX6_sets_35 : decode cX6_sets 35 = .ok (.iconst 1, 1) := by decide +kernel
theorem dX6_sets_36 : decode cX6_sets 36 = .ok (.iadd, 1) := by decide +kernel
theorem dX6_sets_37 : decode cX6_sets 37 = .ok (.iaload, 1) := by decide +kernel
theorem dX6_sets_38 : decode cX6_sets 38 = .ok (.istore_n 3, 1) := by decide +kernel
theorem dX6_sets_39 : decode cX6_sets 39 = .ok (.iload_n 3, 1) := by decide +kernel
theorem dX6_sets_40 : decode cX6_sets 40 = .ok (.iload_n 2, 1) := by decide +kernel
theorem dX6_sets_41 : decode cX6_sets 41 = .ok (.if_icmp .ne 6, 3) := by decide +kernel
theorem dX6_sets_44 : decode cX6_sets 44 = .ok (.bipush (-2), 2) := by decide +kernel
theorem dX6_sets_46 : decode cX6_sets 46 = .ok (.ireturn, 1) := by decide +kernel
theorem dX6_sets_47 : decode cX6_sets 47 = .ok (.aload_n 0, 1) := by decide +kernel
theorem dX6_sets_48 : decode cX6_sets 48 = .ok (.invokevirtual 104, 3) := by decide +kernel
theorem dX6_sets_51 : decode cX6_sets 51 = .ok (.aload_n 0, 1) := by decide +kernel
theorem dX6_sets_52 : decode cX6_sets 52 = .ok (.getfield 7, 3) := by decide +kernel
theorem dX6_sets_55 : decode cX6_sets 55 = .ok (.iload_n 1, 1) := by decide +kernel
theorem dX6_sets_56 : decode cX6_sets 56 = .ok (.iconst 1, 1) := by decide +kernel
theorem dX6_sets_57 : decode cX6_sets 57 = .ok (.iadd, 1) := by decide +kernel
theorem dX6_sets_58 : decode cX6_sets 58 = .ok (.iload_n 2, 1) := by decide +kernel
theorem dX6_sets_59 : decode cX6_sets 59 = .ok (.iastore, 1) := by decide +kernel
theorem dX6_sets_60 : decode cX6_sets 60 = .ok (.iload_n 3, 1) := by decide +kernel
theorem dX6_sets_61 : decode cX6_sets 61 = .ok (.ireturn, 1) := by decide +kernel
theorem dX6_undo_0 : decode cX6_undo 0 = .ok (.aload_n 0, 1) := by decide +kernel
theorem dX6_undo_1 : decode cX6_undo 1 = .ok (.getfield 98, 3) := by decide +kernel
theorem dX6_undo_4 : decode cX6_undo 4 = .ok (.ifCond .ne 6, 3) := by decide +kernel
theorem dX6_undo_7 : decode cX6_undo 7 = .ok (.bipush (-2), 2) := by decide +kernel
theorem dX6_undo_9 : decode cX6_undo 9 = .ok (.ireturn, 1) := by decide +kernel
theorem dX6_undo_10 : decode cX6_undo 10 = .ok (.aload_n 0, 1) := by decide +kernel
theorem dX6_undo_11 : decode cX6_undo 11 = .ok (.dup, 1) := by decide +kernel
theorem dX6_undo_12 : decode cX6_undo 12 = .ok (.getfield 98, 3) := by decide +kernel
theorem dX6_undo_15 : decode cX6_undo 15 = .ok (.iconst 1, 1) := by decide +kernel
theorem dX6_undo_16 : decode cX6_undo 16 = .ok (.isub, 1) := by decide +kernel
theorem dX6_undo_17 : decode cX6_undo 17 = .ok (.putfield 98, 3) := by decide +kernel
theorem dX6_undo_20 : decode cX6_undo 20 = .ok (.iconst 0, 1) := by decide +kernel
theorem dX6_undo_21 : decode cX6_undo 21 = .ok (.istore_n 1, 1) := by decide +kernel
theorem dX6_undo_22 : decode cX6_undo 22 = .ok (.iload_n 1, 1) := by decide +kernel
theorem dX6_undo_23 : decode cX6_undo 23 = .ok (.bipush 17, 2) := by decide +kernel
theorem dX6_undo_25 : decode cX6_undo 25 = .ok (.if_icmp .ge 29, 3) := by decide +kernel
theorem dX6_undo_28 : decode cX6_undo 28 = .ok (.aload_n 0, 1) := by decide +kernel
theorem dX6_undo_29 : decode cX6_undo 29 = .ok (.getfield 7, 3) := by decide +kernel
theorem dX6_undo_32 : decode cX6_undo 32 = .ok (.iload_n 1, 1) := by decide +kernel
theorem dX6_undo_33 : decode cX6_undo 33 = .ok (.aload_n 0, 1) := by decide +kernel
theorem dX6_undo_34 : decode cX6_undo 34 = .ok (.getfield 16, 3) := by decide +kernel
theorem dX6_undo_37 : decode cX6_undo 37 = .ok (.bipush 17, 2) := by decide +kernel
theorem dX6_undo_39 : decode cX6_undo 39 = .ok (.aload_n 0, 1) := by decide +kernel
theorem dX6_undo_40 : decode cX6_undo 40 = .ok (.getfield 98, 3) := by decide +kernel
theorem dX6_undo_43 : decode cX6_undo 43 = .ok (.imul, 1) := by decide +kernel
theorem dX6_undo_44 : decode cX6_undo 44 = .ok (.iload_n 1, 1) := by decide +kernel
theorem dX6_undo_45 : decode cX6_undo 45 = .ok (.iadd, 1) := by decide +kernel
theorem dX6_undo_46 : decode cX6_undo 46 = .ok (.iaload, 1) := by decide +kernel
theorem dX6_undo_47 : decode cX6_undo 47 = .ok (.iastore, 1) := by decide +kernel
theorem dX6_undo_48 : decode cX6_undo 48 = .ok (.iinc 1 1, 3) := by decide +kernel
theorem dX6_undo_51 : decode cX6_undo 51 = .ok (.goto (-29), 3) := by decide +kernel
theorem dX6_undo_54 : decode cX6_undo 54 = .ok (.aload_n 0, 1) := by decide +kernel
theorem dX6_undo_55 : decode cX6_undo 55 = .ok (.getfield 98, 3) := by decide +kernel
theorem dX6_undo_58 : decode cX6_undo 58 = .ok (.ireturn, 1) := by decide +kernel
set_option maxRecDepth 20000 in
theorem ggX6_tick_X6_isTick : GoodIn wsX6_tick wsX6_isTick := goodIn_r _ [6, 1, 7, 8, 5, 9, 29, 30, 31, 32, 33, 34, 35, 36, 37, 38, 39, 40, 41, 42, 43] (by decide +kernel) (by decide +kernel)
set_option maxRecDepth 20000 in
theorem gX6_tick_X6_isTick : GoodIn wsX6_tick (wsV RX6 107 RX6 yX6_isTick wsX6_isTick) := goodIn_app (goodIn_of _ (by decide +kernel)) ggX6_tick_X6_isTick
set_option maxRecDepth 20000 in
theorem ggX6_tick_X6_within : GoodIn wsX6_tick wsX6_within := goodIn_r _ [9] (by decide +kernel) (by decide +kernel)
set_option maxRecDepth 20000 in
theorem gX6_tick_X6_within : GoodIn wsX6_tick (va_wsS RX6 52 yX6_within wsX6_within) := goodIn_app (goodIn_of _ (by decide +kernel)) ggX6_tick_X6_within
set_option maxRecDepth 20000 in
theorem ggX6_tick_X6_isNote : GoodIn wsX6_tick wsX6_isNote := goodIn_r _ [13, 1, 2, 3, 4, 5, 6, 7, 8, 9, 29, 30, 31, 32, 33, 34, 35, 36, 37, 38, 39, 40, 41, 42, 43] (by decide +kernel) (by decide +kernel)
set_option maxRecDepth 20000 in
theorem gX6_tick_X6_isNote : GoodIn wsX6_tick (wsV RX6 110 RX6 yX6_isNote wsX6_isNote) := goodIn_app (goodIn_of _ (by decide +kernel)) ggX6_tick_X6_isNote
set_option maxRecDepth 20000 in
theorem ggX6_tick_X6_isSoon : GoodIn wsX6_tick wsX6_isSoon := goodIn_r _ [17, 10, 11, 12, 5, 13, 1, 2, 3, 4, 6, 7, 8, 9, 18, 19, 20, 21, 22, 23, 24, 29, 30, 31, 32, 33, 34, 35, 36, 37, 38, 39, 40, 41, 42, 43] (by decide +kernel) (by decide +kernel)
set_option maxRecDepth 20000 in
theorem gX6_tick_X6_isSoon : GoodIn wsX6_tick (wsV RX6 120 RX6 yX6_isSoon wsX6_isSoon) := goodIn_app (goodIn_of _ (by decide +kernel)) ggX6_tick_X6_isSoon
set_option maxRecDepth 20000 in
theorem ggX6_tick_X6_isFar : GoodIn wsX6_tick wsX6_isFar := goodIn_r _ [28, 1, 10, 11, 12, 5, 13, 2, 3, 4, 6, 7, 8, 9, 18, 19, 20, 21, 22, 23, 24, 29, 30, 31, 32, 33, 34, 35, 36, 37, 38, 39, 40, 41, 42, 43] (by decide +kernel) (by decide +kernel)
set_option maxRecDepth 20000 in
theorem gX6_tick_X6_isFar : GoodIn wsX6_tick (wsV RX6 123 RX6 yX6_isFar wsX6_isFar) := goodIn_app (goodIn_of _ (by decide +kernel)) ggX6_tick_X6_isFar
theorem dX6_tick_0 : decode cX6_tick 0 = .ok (.aload_n 0, 1) := by decide +kernel
theorem dX6_tick_1 : decode cX6_tick 1 = .ok (.iload_n 1, 1) := by decide +kernel
theorem dX6_tick_2 : decode cX6_tick 2 = .ok (.invokevirtual 107, 3) := by decide +kernel
theorem dX6_tick_5 : decode cX6_tick 5 = .ok (.ifCond .eq 12, 3) := by decide +kernel
theorem dX6_tick_8 : decode cX6_tick 8 = .ok (.iload_n 2, 1) := by decide +kernel
theorem dX6_tick_9 : decode cX6_tick 9 = .ok (.iconst 0, 1) := by decide +kernel
theorem dX6_tick_10 : decode cX6_tick 10 = .ok (.iconst 3, 1) := by decide +kernel
theorem dX6_tick_11 : decode cX6_tick 11 = .ok (.invokestatic 52, 3) := by decide +kernel
theorem dX6_tick_14 : decode cX6_tick 14 = .ok (.ifCond .ne 5, 3) := by decide +kernel
theorem dX6_tick_17 : decode cX6_tick 17 = .ok (.iconst (-1), 1) := by decide +kernel
theorem dX6_tick_18 : decode cX6_tick 18 = .ok (.ireturn, 1) := by decide +kernel
theorem dX6_tick_19 : decode cX6_tick 19 = .ok (.iload_n 2, 1) := by decide +kernel
theorem dX6_tick_20 : decode cX6_tick 20 = .ok (.tableswitch 89 0 2 #[28, 37, 62], 28) := by decide +kernel
theorem dX6_tick_48 : decode cX6_tick 48 = .ok (.aload_n 0, 1) := by decide +kernel
theorem dX6_tick_49 : decode cX6_tick 49 = .ok (.getfield 7, 3) := by decide +kernel
theorem dX6_tick_52 : decode cX6_tick 52 = .ok (.iconst 4, 1) := by decide +kernel
theorem dX6_tick_53 : decode cX6_tick 53 = .ok (.iload_n 1, 1) := by decide +kernel
theorem dX6_tick_54 : decode cX6_tick 54 = .ok (.iadd, 1) := by decide +kernel
theorem dX6_tick_55 : decode cX6_tick 55 = .ok (.iaload, 1) := by decide +kernel
theorem dX6_tick_56 : decode cX6_tick 56 = .ok (.ireturn, 1) := by decide +kernel
theorem dX6_tick_57 : decode cX6_tick 57 = .ok (.aload_n 0, 1) := by decide +kernel
theorem dX6_tick_58 : decode cX6_tick 58 = .ok (.iload_n 1, 1) := by decide +kernel
theorem dX6_tick_59 : decode cX6_tick 59 = .ok (.invokevirtual 110, 3) := by decide +kernel
theorem dX6_tick_62 : decode cX6_tick 62 = .ok (.ifCond .eq 17, 3) := by decide +kernel
theorem dX6_tick_65 : decode cX6_tick 65 = .ok (.aload_n 0, 1) := by decide +kernel
theorem dX6_tick_66 : decode cX6_tick 66 = .ok (.getfield 7, 3) := by decide +kernel
theorem dX6_tick_69 : decode cX6_tick 69 = .ok (.bipush 16, 2) := by decide +kernel
theorem dX6_tick_71 : decode cX6_tick 71 = .ok (.iaload, 1) := by decide +kernel
theorem dX6_tick_72 : decode cX6_tick 72 = .ok (.iload_n 1, 1) := by decide +kernel
theorem dX6_tick_73 : decode cX6_tick 73 = .ok (.ishr, 1) := by decide +kernel
theorem dX6_tick_74 : decode cX6_tick 74 = .ok (.iconst 1, 1) := by decide +kernel
theorem dX6_tick_75 : decode cX6_tick 75 = .ok (.iand, 1) := by decide +kernel
theorem dX6_tick_76 : decode cX6_tick 76 = .ok (.goto 5, 3) := by decide +kernel
theorem dX6_tick_79 : decode cX6_tick 79 = .ok (.bipush (-9), 2) := by decide +kernel
theorem dX6_tick_81 : decode cX6_tick 81 = .ok (.ireturn, 1) := by decide +kernel
theorem dX6_tick_82 : decode cX6_tick 82 = .ok (.aload_n 0, 1) := by decide +kernel
theorem dX6_tick_83 : decode cX6_tick 83 = .ok (.aload_n 0, 1) := by decide +kernel
theorem dX6_tick_84 : decode cX6_tick 84 = .ok (.getfield 7, 3) := by decide +kernel
theorem dX6_tick_87 : decode cX6_tick 87 = .ok (.bipush 16, 2) := by decide +kernel
theorem dX6_tick_89 : decode cX6_tick 89 = .ok (.iaload, 1) := by decide +kernel
theorem dX6_tick_90 : decode cX6_tick 90 = .ok (.iload_n 1, 1) := by decide +kernel
theorem dX6_tick_91 : decode cX6_tick 91 = .ok (.aload_n 0, 1) := by decide +kernel
theorem dX6_tick_92 : decode cX6_tick 92 = .ok (.getfield 7, 3) := by decide +kernel
theorem dX6_tick_95 : decode cX6_tick 95 = .ok (.iconst 1, 1) := by decide +kernel
theorem dX6_tick_96 : decode cX6_tick 96 = .ok (.iaload, 1) := by decide +kernel
theorem dX6_tick_97 : decode cX6_tick 97 = .ok (.invokevirtual 120, 3) := by decide +kernel
theorem dX6_tick_100 : decode cX6_tick 100 = .ok (.ifCond .eq 7, 3) := by decide +kernel
theorem dX6_tick_103 : decode cX6_tick 103 = .ok (.iconst 1, 1) := by decide +kernel
theorem dX6_tick_104 : decode cX6_tick 104 = .ok (.goto 4, 3) := by decide +kernel
theorem dX6_tick_107 : decode cX6_tick 107 = .ok (.iconst 0, 1) := by decide +kernel
theorem dX6_tick_108 : decode cX6_tick 108 = .ok (.ireturn, 1) := by decide +kernel
theorem dX6_tick_109 : decode cX6_tick 109 = .ok (.aload_n 0, 1) := by decide +kernel
theorem dX6_tick_110 : decode cX6_tick 110 = .ok (.aload_n 0, 1) := by decide +kernel
theorem dX6_tick_111 : decode cX6_tick 111 = .ok (.getfield 7, 3) := by decide +kernel
theorem dX6_tick_114 : decode cX6_tick 114 = .ok (.bipush 16, 2) := by decide +kernel
theorem dX6_tick_116 : decode cX6_tick 116 = .ok (.iaload, 1) := by decide +kernel
theorem dX6_tick_117 : decode cX6_tick 117 = .ok (.iload_n 1, 1) := by decide +kernel
theorem dX6_tick_118 : decode cX6_tick 118 = .ok (.invokevirtual 123, 3) := by decide +kernel
theorem dX6_tick_121 : decode cX6_tick 121 = .ok (.ifCond .eq 7, 3) := by decide +kernel
theorem dX6_tick_124 : decode cX6_tick 124 = .ok (.iconst 1, 1) := by decide +kernel
theorem dX6_tick_125 : decode cX6_tick 125 = .ok (.goto 4, 3) := by decide +kernel
theorem dX6_tick_128 : decode cX6_tick 128 = .ok (.iconst 0, 1) := by decide +kernel
theorem dX6_tick_129 : decode cX6_tick 129 = .ok (.ireturn, 1) := by decide +kernel
set_option maxRecDepth 20000 in
theorem ggX6_pairs_X6_isSoon : GoodIn wsX6_pairs wsX6_isSoon := goodIn_r _ [6, 7, 8, 9, 5, 10, 1, 11, 12, 13, 14, 15, 16, 17, 18, 19, 20, 21, 22, 23, 24, 29, 30, 31, 32, 33, 34, 35, 36, 37, 38, 39, 40, 41, 42, 43] (by decide +kernel) (by decide +kernel)
set_option maxRecDepth 20000 in
theorem gX6_pairs_X6_isSoon : GoodIn wsX6_pairs (wsV RX6 120 RX6 yX6_isSoon wsX6_isSoon) := goodIn_app (goodIn_of _ (by decide +kernel)) ggX6_pairs_X6_isSoon
set_option maxRecDepth 20000 in
theorem ggX6_pairs_X6_isFar : GoodIn wsX6_pairs wsX6_isFar := goodIn_r _ [28, 1, 7, 8, 9, 5, 10, 11, 12, 13, 14, 15, 16, 17, 18, 19, 20, 21, 22, 23, 24, 29, 30, 31, 32, 33, 34, 35, 36, 37, 38, 39, 40, 41, 42, 43] (by decide +kernel) (by decide +kernel)
set_option maxRecDepth 20000 in
theorem gX6_pairs_X6_isFar : GoodIn wsX6_pairs (wsV RX6 123 RX6 yX6_isFar wsX6_isFar) := goodIn_app (goodIn_of _ (by decide +kernel)) ggX6_pairs_X6_isFar
theorem dX6_pairs_0 : decode cX6_pairs 0 = .ok (.iconst 0, 1) := by decide +kernel
theorem dX6_pairs_1 : decode cX6_pairs 1 = .ok (.istore_n 2, 1) := by decide +kernel
theorem dX6_pairs_2 : decode cX6_pairs 2 = .ok (.iconst 0, 1) := by decide +kernel
theorem dX6_pairs_3 : decode cX6_pairs 3 = .ok (.istore_n 3, 1) := by decide +kernel
theorem dX6_pairs_4 : decode cX6_pairs 4 = .ok (.iload_n 3, 1) := by decide +kernel
theorem dX6_pairs_5 : decode cX6_pairs 5 = .ok (.aload_n 0, 1) := by decide +kernel
theorem dX6_pairs_6 : decode cX6_pairs 6 = .ok (.getfield 7, 3) := by decide +kernel
theorem dX6_pairs_9 : decode cX6_pairs 9 = .ok (.iconst 0, 1) := by decide +kernel
theorem dX6_pairs_10 : decode cX6_pairs 10 = .ok (.iaload, 1) := by decide +kernel
theorem dX6_pairs_11 : decode cX6_pairs 11 = .ok (.if_icmp .ge 60, 3) := by decide +kernel
theorem dX6_pairs_14 : decode cX6_pairs 14 = .ok (.iload_n 2, 1) := by decide +kernel
theorem dX6_pairs_15 : decode cX6_pairs 15 = .ok (.iload_n 1, 1) := by decide +kernel
theorem dX6_pairs_16 : decode cX6_pairs 16 = .ok (.ifCond .eq 27, 3) := by decide +kernel
theorem dX6_pairs_19 : decode cX6_pairs 19 = .ok (.aload_n 0, 1) := by decide +kernel
theorem dX6_pairs_20 : decode cX6_pairs 20 = .ok (.aload_n 0, 1) := by decide +kernel
theorem dX6_pairs_21 : decode cX6_pairs 21 = .ok (.getfield 7, 3) := by decide +kernel
theorem dX6_pairs_24 : decode cX6_pairs 24 = .ok (.bipush 16, 2) := by decide +kernel
theorem dX6_pairs_26 : decode cX6_pairs 26 = .ok (.iaload, 1) := by decide +kernel
theorem dX6_pairs_27 : decode cX6_pairs 27 = .ok (.iload_n 3, 1) := by decide +kernel
theorem dX6_pairs_28 : decode cX6_pairs 28 = .ok (.aload_n 0, 1) := by decide +kernel
theorem dX6_pairs_29 : decode cX6_pairs 29 = .ok (.getfield 7, 3) := by decide +kernel
theorem dX6_pairs_32 : decode cX6_pairs 32 = .ok (.iconst 1, 1) := by decide +kernel
theorem dX6_pairs_33 : decode cX6_pairs 33 = .ok (.iaload, 1) := by decide +kernel
theorem dX6_pairs_34 : decode cX6_pairs 34 = .ok (.invokevirtual 120, 3) := by decide +kernel
theorem dX6_pairs_37 : decode cX6_pairs 37 = .ok (.ifCond .eq 25, 3) := by decide +kernel
theorem dX6_pairs_40 : decode cX6_pairs 40 = .ok (.goto 18, 3) := by decide +kernel
theorem dX6_pairs_43 : decode cX6_pairs 43 = .ok (.aload_n 0, 1) := by decide +kernel
theorem dX6_pairs_44 : decode cX6_pairs 44 = .ok (.aload_n 0, 1) := by decide +kernel
theorem dX6_pairs_45 : decode cX6_pairs 45 = .ok (.getfield 7, 3) := by decide +kernel
theorem dX6_pairs_48 : decode cX6_pairs 48 = .ok (.bipush 16, 2) := by decide +kernel
theorem dX6_pairs_50 : decode cX6_pairs 50 = .ok (.iaload, 1) := by decide +kernel
theorem dX6_pairs_51 : decode cX6_pairs 51 = .ok (.iload_n 3, 1) := by decide +kernel
theorem dX6_pairs_52 : decode cX6_pairs 52 = .ok (.invokevirtual 123, 3) := by decide +kernel
theorem dX6_pairs_55 : decode cX6_pairs 55 = .ok (.ifCond .eq 7, 3) := by decide +kernel
theorem dX6_pairs_58 : decode cX6_pairs 58 = .ok (.iconst 1, 1) := by decide +kernel
theorem dX6_pairs_59 : decode cX6_pairs 59 = .ok (.goto 4, 3) := by decide +kernel
theorem dX6_pairs_62 : decode cX6_pairs 62 = .ok (.iconst 0, 1) := by decide +kernel
theorem dX6_pairs_63 : decode cX6_pairs 63 = .ok (.iadd, 1) := by decide +kernel
theorem dX6_pairs_64 : decode cX6_pairs 64 = .ok (.istore_n 2, 1) := by decide +kernel
theorem dX6_pairs_65 : decode cX6_pairs 65 = .ok (.iinc 3 1, 3) := by decide +kernel
theorem dX6_pairs_68 : decode cX6_pairs 68 = .ok (.goto (-64), 3) := by decide +kernel
theorem dX6_pairs_71 : decode cX6_pairs 71 = .ok (.iload_n 2, 1) := by decide +kernel
theorem dX6_pairs_72 : decode cX6_pairs 72 = .ok (.ireturn, 1) := by decide +kernel
set_option maxRecDepth 20000 in
theorem ggX6_share_X6_pairs : GoodIn wsX6_share wsX6_pairs := goodIn_r _ [7, 1, 8, 9, 10, 6, 11, 12, 13, 14, 15, 16, 17, 18, 19, 20, 21, 22, 23, 24, 25, 26, 27, 28, 29, 30, 31, 32, 33, 50, 51, 52, 53, 54, 55, 56, 57, 58, 59, 60, 61, 62, 63, 64] (by decide +kernel) (by decide +kernel)
set_option maxRecDepth 20000 in
theorem gX6_share_X6_pairs : GoodIn wsX6_share (wsV RX6 150 RX6 yX6_pairs wsX6_pairs) := goodIn_app (goodIn_of _ (by decide +kernel)) ggX6_share_X6_pairs
set_option maxRecDepth 20000 in
theorem ggX6_share_X6_likeness : GoodIn wsX6_share wsX6_likeness := goodIn_r _ [37, 1, 12, 13, 14, 6, 15, 16, 17, 18, 19, 20, 21, 22, 27, 28, 29, 50, 51, 52, 53, 54, 55, 56, 57, 58, 59, 60, 61, 62, 63, 64] (by decide +kernel) (by decide +kernel)
set_option maxRecDepth 20000 in
theorem gX6_share_X6_likeness : GoodIn wsX6_share (wsV RX6 154 RX6 yX6_likeness wsX6_likeness) := goodIn_app (goodIn_of _ (by decide +kernel)) ggX6_share_X6_likeness
set_option maxRecDepth 20000 in
theorem ggX6_share_X6_tilt : GoodIn wsX6_share wsX6_tilt := goodIn_r _ [41, 1, 12, 13, 14, 6, 15, 16, 17, 18, 19, 20, 21, 22, 27, 28, 29, 50, 51, 52, 53, 54, 55, 56, 57, 58, 59, 60, 61, 62, 63, 64] (by decide +kernel) (by decide +kernel)
set_option maxRecDepth 20000 in
theorem gX6_share_X6_tilt : GoodIn wsX6_share (wsV RX6 157 RX6 yX6_tilt wsX6_tilt) := goodIn_app (goodIn_of _ (by decide +kernel)) ggX6_share_X6_tilt
set_option maxRecDepth 20000 in
theorem ggX6_share_X6_isLawfulNow : GoodIn wsX6_share wsX6_isLawfulNow := goodIn_r _ [45, 1, 46, 47, 48, 6, 49, 8, 9, 10, 11, 12, 13, 14, 15, 16, 17, 18, 19, 20, 21, 22, 23, 24, 25, 26, 27, 28, 29, 30, 31, 32, 33, 50, 51, 52, 53, 54, 55, 56, 57, 58, 59, 60, 61, 62, 63, 64] (by decide +kernel) (by decide +kernel)
set_option maxRecDepth 20000 in
theorem gX6_share_X6_isLawfulNow : GoodIn wsX6_share (wsV RX6 144 RX6 yX6_isLawfulNow wsX6_isLawfulNow) := goodIn_app (goodIn_of _ (by decide +kernel)) ggX6_share_X6_isLawfulNow
theorem dX6_share_0 : decode cX6_share 0 = .ok (.iload_n 1, 1) := by decide +kernel
theorem dX6_share_1 : decode cX6_share 1 = .ok (.tableswitch 91 0 4 #[35, 41, 47, 59, 71], 35) := by decide +kernel
theorem dX6_share_36 : decode cX6_share 36 = .ok (.aload_n 0, 1) := by decide +kernel
theorem dX6_share_37 : decode cX6_share 37 = .ok (.iconst 1, 1) := by decide +kernel
theorem dX6_share_38 : decode cX6_share 38 = .ok (.invokevirtual 150, 3) := by decide +kernel
theorem dX6_share_41 : decode cX6_share 41 = .ok (.ireturn, 1) := by decide +kernel
theorem dX6_share_42 : decode cX6_share 42 = .ok (.aload_n 0, 1) := by decide +kernel
theorem dX6_share_43 : decode cX6_share 43 = .ok (.iconst 0, 1) := by decide +kernel
theorem dX6_share_44 : decode cX6_share 44 = .ok (.invokevirtual 150, 3) := by decide +kernel
theorem dX6_share_47 : decode cX6_share 47 = .ok (.ireturn, 1) := by decide +kernel
theorem dX6_share_48 : decode cX6_share 48 = .ok (.aload_n 0, 1) := by decide +kernel
theorem dX6_share_49 : decode cX6_share 49 = .ok (.aload_n 0, 1) := by decide +kernel
theorem dX6_share_50 : decode cX6_share 50 = .ok (.getfield 7, 3) := by decide +kernel
theorem dX6_share_53 : decode cX6_share 53 = .ok (.bipush 16, 2) := by decide +kernel
theorem dX6_share_55 : decode cX6_share 55 = .ok (.iaload, 1) := by decide +kernel
theorem dX6_share_56 : decode cX6_share 56 = .ok (.invokevirtual 154, 3) := by decide +kernel
theorem dX6_share_59 : decode cX6_share 59 = .ok (.ireturn, 1) := by decide +kernel
theorem dX6_share_60 : decode cX6_share 60 = .ok (.aload_n 0, 1) := by decide +kernel
theorem dX6_share_61 : decode cX6_share 61 = .ok (.aload_n 0, 1) := by decide +kernel
theorem dX6_share_62 : decode cX6_share 62 = .ok (.getfield 7, 3) := by decide +kernel
theorem dX6_share_65 : decode cX6_share 65 = .ok (.bipush 16, 2) := by decide +kernel
theorem dX6_share_67 : decode cX6_share 67 = .ok (.iaload, 1) := by decide +kernel
theorem dX6_share_68 : decode cX6_share 68 = .ok (.invokevirtual 157, 3) := by decide +kernel
theorem dX6_share_71 : decode cX6_share 71 = .ok (.ireturn, 1) := by decide +kernel
theorem dX6_share_72 : decode cX6_share 72 = .ok (.aload_n 0, 1) := by decide +kernel
theorem dX6_share_73 : decode cX6_share 73 = .ok (.aload_n 0, 1) := by decide +kernel
theorem dX6_share_74 : decode cX6_share 74 = .ok (.getfield 7, 3) := by decide +kernel
theorem dX6_share_77 : decode cX6_share 77 = .ok (.bipush 16, 2) := by decide +kernel
theorem dX6_share_79 : decode cX6_share 79 = .ok (.iaload, 1) := by decide +kernel
theorem dX6_share_80 : decode cX6_share 80 = .ok (.invokevirtual 144, 3) := by decide +kernel
theorem dX6_share_83 : decode cX6_share 83 = .ok (.ifCond .eq 7, 3) := by decide +kernel
theorem dX6_share_86 : decode cX6_share 86 = .ok (.iconst 1, 1) := by decide +kernel
theorem dX6_share_87 : decode cX6_share 87 = .ok (.goto 4, 3) := by decide +kernel
theorem dX6_share_90 : decode cX6_share 90 = .ok (.iconst 0, 1) := by decide +kernel
theorem dX6_share_91 : decode cX6_share 91 = .ok (.ireturn, 1) := by decide +kernel
theorem dX6_share_92 : decode cX6_share 92 = .ok (.ldc 160, 2) := by decide +kernel
theorem dX6_share_94 : decode cX6_share 94 = .ok (.ireturn, 1) := by decide +kernel
theorem dX6_off_0 : decode cX6_off 0 = .ok (.iload_n 0, 1) := by decide +kernel
theorem dX6_off_1 : decode cX6_off 1 = .ok (.ifCond .ge 8, 3) := by decide +kernel
theorem dX6_off_4 : decode cX6_off 4 = .ok (.iload_n 0, 1) := by decide +kernel
theorem dX6_off_5 : decode cX6_off 5 = .ok (.ineg, 1) := by decide +kernel
theorem dX6_off_6 : decode cX6_off 6 = .ok (.goto 4, 3) := by decide +kernel
theorem dX6_off_9 : decode cX6_off 9 = .ok (.iload_n 0, 1) := by decide +kernel
theorem dX6_off_10 : decode cX6_off 10 = .ok (.ireturn, 1) := by decide +kernel
set_option maxRecDepth 20000 in
theorem ggX6_isBetter_X6_likeness : GoodIn wsX6_isBetter wsX6_likeness := goodIn_r _ [5, 6, 7, 8, 9, 4, 10, 11, 12, 13, 14, 15, 16, 17, 18, 19, 20, 28, 29, 30, 31, 32, 33, 34, 35, 36, 37, 38, 39, 40, 41, 42] (by decide +kernel) (by decide +kernel)
set_option maxRecDepth 20000 in
theorem gX6_isBetter_X6_likeness : GoodIn wsX6_isBetter (wsV RX6 154 RX6 yX6_likeness wsX6_likeness) := goodIn_app (goodIn_of _ (by decide +kernel)) ggX6_isBetter_X6_likeness
set_option maxRecDepth 20000 in
theorem ggX6_isBetter_X6_tilt : GoodIn wsX6_isBetter wsX6_tilt := goodIn_r _ [24, 6, 7, 8, 9, 4, 10, 11, 12, 13, 14, 15, 16, 17, 18, 19, 20, 28, 29, 30, 31, 32, 33, 34, 35, 36, 37, 38, 39, 40, 41, 42] (by decide +kernel) (by decide +kernel)
set_option maxRecDepth 20000 in
theorem gX6_isBetter_X6_tilt : GoodIn wsX6_isBetter (wsV RX6 157 RX6 yX6_tilt wsX6_tilt) := goodIn_app (goodIn_of _ (by decide +kernel)) ggX6_isBetter_X6_tilt
set_option maxRecDepth 20000 in
theorem ggX6_isBetter_X6_off : GoodIn wsX6_isBetter wsX6_off := goodIn_r _ [27] (by decide +kernel) (by decide +kernel)
set_option maxRecDepth 20000 in
theorem gX6_isBetter_X6_off : GoodIn wsX6_isBetter (va_wsS RX6 161 yX6_off wsX6_off) := goodIn_app (goodIn_of _ (by decide +kernel)) ggX6_isBetter_X6_off
theorem dX6_isBetter_0 : decode cX6_isBetter 0 = .ok (.aload_n 0, 1) := by decide +kernel
theorem dX6_isBetter_1 : decode cX6_isBetter 1 = .ok (.iload_n 1, 1) := by decide +kernel
theorem dX6_isBetter_2 : decode cX6_isBetter 2 = .ok (.invokevirtual 154, 3) := by decide +kernel
theorem dX6_isBetter_5 : decode cX6_isBetter 5 = .ok (.aload_n 0, 1) := by decide +kernel
theorem dX6_isBetter_6 : decode cX6_isBetter 6 = .ok (.iload_n 2, 1) := by decide +kernel
theorem dX6_isBetter_7 : decode cX6_isBetter 7 = .ok (.invokevirtual 154, 3) := by decide +kernel
theorem dX6_isBetter_10 : decode cX6_isBetter 10 = .ok (.isub, 1) := by decide +kernel
theorem dX6_isBetter_11 : decode cX6_isBetter 11 = .ok (.istore_n 3, 1) := by decide +kernel
theorem dX6_isBetter_12 : decode cX6_isBetter 12 = .ok (.iload_n 3, 1) := by decide +kernel
theorem dX6_isBetter_13 : decode cX6_isBetter 13 = .ok (.ifCond .gt 26, 3) := by decide +kernel
theorem dX6_isBetter_16 : decode cX6_isBetter 16 = .ok (.iload_n 3, 1) := by decide +kernel
theorem dX6_isBetter_17 : decode cX6_isBetter 17 = .ok (.ifCond .ne 26, 3) := by decide +kernel
theorem dX6_isBetter_20 : decode cX6_isBetter 20 = .ok (.aload_n 0, 1) := by decide +kernel
theorem dX6_isBetter_21 : decode cX6_isBetter 21 = .ok (.iload_n 1, 1) := by decide +kernel
theorem dX6_isBetter_22 : decode cX6_isBetter 22 = .ok (.invokevirtual 157, 3) := by decide +kernel
theorem dX6_isBetter_25 : decode cX6_isBetter 25 = .ok (.invokestatic 161, 3) := by decide +kernel
theorem dX6_isBetter_28 : decode cX6_isBetter 28 = .ok (.aload_n 0, 1) := by decide +kernel
theorem dX6_isBetter_29 : decode cX6_isBetter 29 = .ok (.iload_n 2, 1) := by decide +kernel
theorem dX6_isBetter_30 : decode cX6_isBetter 30 = .ok (.invokevirtual 157, 3) := by decide +kernel
theorem dX6_isBetter_33 : decode cX6_isBetter 33 = .ok (.invokestatic 161, 3) := by decide +kernel
theorem dX6_isBetter_36 : decode cX6_isBetter 36 = .ok (.if_icmp .ge 7, 3) := by decide +kernel
theorem dX6_isBetter_39 : decode cX6_isBetter 39 = .ok (.iconst 1, 1) := by decide +kernel
theorem dX6_isBetter_40 : decode cX6_isBetter 40 = .ok (.goto 4, 3) := by decide +kernel
theorem dX6_isBetter_43 : decode cX6_isBetter 43 = .ok (.iconst 0, 1) := by decide +kernel
theorem dX6_isBetter_44 : decode cX6_isBetter 44 = .ok (.ireturn, 1) := by decide +kernel
set_option maxRecDepth 20000 in
theorem ggX6_best_X6_within : GoodIn wsX6_best wsX6_within := goodIn_r _ [6] (by decide +kernel) (by decide +kernel)
set_option maxRecDepth 20000 in
theorem gX6_best_X6_within : GoodIn wsX6_best (va_wsS RX6 52 yX6_within wsX6_within) := goodIn_app (goodIn_of _ (by decide +kernel)) ggX6_best_X6_within
set_option maxRecDepth 20000 in
theorem ggX6_best_X6_notes : GoodIn wsX6_best wsX6_notes := goodIn_r _ [10, 11, 12, 13, 14, 5, 15, 16, 17, 18, 19, 3, 4, 6, 62, 63, 64, 65, 66, 67, 68, 69, 70, 71, 72, 73, 74, 75, 76] (by decide +kernel) (by decide +kernel)
set_option maxRecDepth 20000 in
theorem gX6_best_X6_notes : GoodIn wsX6_best (wsV RX6 135 RX6 yX6_notes wsX6_notes) := goodIn_app (goodIn_of _ (by decide +kernel)) ggX6_best_X6_notes
set_option maxRecDepth 20000 in
theorem ggX6_best_X6_shareOf : GoodIn wsX6_best wsX6_shareOf := goodIn_r _ [23, 11, 12, 13, 14, 5, 15, 16, 17, 18, 19, 3, 4, 6, 62, 63, 64, 65, 66, 67, 68, 69, 70, 71, 72, 73, 74, 75, 76] (by decide +kernel) (by decide +kernel)
set_option maxRecDepth 20000 in
theorem gX6_best_X6_shareOf : GoodIn wsX6_best (wsV RX6 138 RX6 yX6_shareOf wsX6_shareOf) := goodIn_app (goodIn_of _ (by decide +kernel)) ggX6_best_X6_shareOf
set_option maxRecDepth 20000 in
theorem ggX6_best_X6_isLawfulNow : GoodIn wsX6_best wsX6_isLawfulNow := goodIn_r _ [27, 11, 28, 29, 30, 5, 31, 32, 33, 34, 35, 12, 13, 14, 15, 16, 17, 18, 19, 3, 4, 6, 36, 37, 38, 39, 40, 41, 42, 43, 44, 45, 46, 62, 63, 64, 65, 66, 67, 68, 69, 70, 71, 72, 73, 74, 75, 76] (by decide +kernel) (by decide +kernel)
set_option maxRecDepth 20000 in
theorem gX6_best_X6_isLawfulNow : GoodIn wsX6_best (wsV RX6 144 RX6 yX6_isLawfulNow wsX6_isLawfulNow) := goodIn_app (goodIn_of _ (by decide +kernel)) ggX6_best_X6_isLawfulNow
set_option maxRecDepth 20000 in
theorem ggX6_best_X6_isBetter : GoodIn wsX6_best wsX6_isBetter := goodIn_r _ [50, 51, 52, 53, 5, 54, 11, 12, 13, 14, 15, 16, 17, 18, 19, 3, 4, 6, 40, 41, 42, 55, 56, 57, 58, 59, 60, 61, 62, 63, 64, 65, 66, 67, 68, 69, 70, 71, 72, 73, 74, 75, 76] (by decide +kernel) (by decide +kernel)
set_option maxRecDepth 20000 in
theorem gX6_best_X6_isBetter : GoodIn wsX6_best (wsV RX6 164 RX6 yX6_isBetter wsX6_isBetter) := goodIn_app (goodIn_of _ (by decide +kernel)) ggX6_best_X6_isBetter
set_option maxRecDepth 20000 in
theorem ggX6_best_X6_likeness : GoodIn wsX6_best wsX6_likeness := goodIn_r _ [54, 11, 12, 13, 14, 5, 15, 16, 17, 18, 19, 3, 4, 6, 40, 41, 42, 62, 63, 64, 65, 66, 67, 68, 69, 70, 71, 72, 73, 74, 75, 76] (by decide +kernel) (by decide +kernel)
set_option maxRecDepth 20000 in
theorem gX6_best_X6_likeness : GoodIn wsX6_best (wsV RX6 154 RX6 yX6_likeness wsX6_likeness) := goodIn_app (goodIn_of _ (by decide +kernel)) ggX6_best_X6_likeness
set_option maxRecDepth 20000 in
theorem ggX6_best_X6_tilt : GoodIn wsX6_best wsX6_tilt := goodIn_r _ [58, 11, 12, 13, 14, 5, 15, 16, 17, 18, 19, 3, 4, 6, 40, 41, 42, 62, 63, 64, 65, 66, 67, 68, 69, 70, 71, 72, 73, 74, 75, 76] (by decide +kernel) (by decide +kernel)
set_option maxRecDepth 20000 in
theorem gX6_best_X6_tilt : GoodIn wsX6_best (wsV RX6 157 RX6 yX6_tilt wsX6_tilt) := goodIn_app (goodIn_of _ (by decide +kernel)) ggX6_best_X6_tilt
theorem dX6_best_0 : decode cX6_best 0 = .ok (.iload_n 1, 1) := by decide +kernel
theorem dX6_best_1 : decode cX6_best 1 = .ok (.iconst 0, 1) := by decide +kernel
theorem dX6_best_2 : decode cX6_best 2 = .ok (.iconst 2, 1) := by decide +kernel
theorem dX6_best_3 : decode cX6_best 3 = .ok (.invokestatic 52, 3) := by decide +kernel
theorem dX6_best_6 : decode cX6_best 6 = .ok (.ifCond .ne 6, 3) := by decide +kernel
theorem dX6_best_9 : decode cX6_best 9 = .ok (.ldc 160, 2) := by decide +kernel
theorem dX6_best_11 : decode cX6_best 11 = .ok (.ireturn, 1) := by decide +kernel
theorem dX6_best_12 : decode cX6_best 12 = .ok (.bipush (-9), 2) := by decide +kernel
theorem dX6_best_14 : decode cX6_best 14 = .ok (.istore_n 2, 1) := by decide +kernel
theorem dX6_best_15 : decode cX6_best 15 = .ok (.iconst 0, 1) := by decide +kernel
theorem dX6_best_16 : decode cX6_best 16 = .ok (.istore_n 3, 1) := by decide +kernel
theorem dX6_best_17 : decode cX6_best 17 = .ok (.iload_n 3, 1) := by decide +kernel
theorem dX6_best_18 : decode cX6_best 18 = .ok (.iconst 1, 1) := by decide +kernel
theorem dX6_best_19 : decode cX6_best 19 = .ok (.aload_n 0, 1) := by decide +kernel
theorem dX6_best_20 : decode cX6_best 20 = .ok (.invokevirtual 135, 3) := by decide +kernel
theorem dX6_best_23 : decode cX6_best 23 = .ok (.ishl, 1) := by decide +kernel
theorem dX6_best_24 : decode cX6_best 24 = .ok (.if_icmp .ge 48, 3) := by decide +kernel
theorem dX6_best_27 : decode cX6_best 27 = .ok (.aload_n 0, 1) := by decide +kernel
theorem dX6_best_28 : decode cX6_best 28 = .ok (.iload_n 3, 1) := by decide +kernel
theorem dX6_best_29 : decode cX6_best 29 = .ok (.invokevirtual 138, 3) := by decide +kernel
theorem dX6_best_32 : decode cX6_best 32 = .ok (.istore 4, 2) := by decide +kernel
theorem dX6_best_34 : decode cX6_best 34 = .ok (.aload_n 0, 1) := by decide +kernel
theorem dX6_best_35 : decode cX6_best 35 = .ok (.iload 4, 2) := by decide +kernel
theorem dX6_best_37 : decode cX6_best 37 = .ok (.invokevirtual 144, 3) := by decide +kernel
theorem dX6_best_40 : decode cX6_best 40 = .ok (.ifCond .eq 24, 3) := by decide +kernel
theorem dX6_best_43 : decode cX6_best 43 = .ok (.iload_n 2, 1) := by decide +kernel
theorem dX6_best_44 : decode cX6_best 44 = .ok (.bipush (-9), 2) := by decide +kernel
theorem dX6_best_46 : decode cX6_best 46 = .ok (.if_icmp .eq 13, 3) := by decide +kernel
theorem dX6_best_49 : decode cX6_best 49 = .ok (.aload_n 0, 1) := by decide +kernel
theorem dX6_best_50 : decode cX6_best 50 = .ok (.iload 4, 2) := by decide +kernel
theorem dX6_best_52 : decode cX6_best 52 = .ok (.iload_n 2, 1) := by decide +kernel
theorem dX6_best_53 : decode cX6_best 53 = .ok (.invokevirtual 164, 3) := by decide +kernel
theorem dX6_best_56 : decode cX6_best 56 = .ok (.ifCond .eq 8, 3) := by decide +kernel
theorem dX6_best_59 : decode cX6_best 59 = .ok (.iload 4, 2) := by decide +kernel
theorem dX6_best_61 : decode cX6_best 61 = .ok (.goto 4, 3) := by decide +kernel
theorem dX6_best_64 : decode cX6_best 64 = .ok (.iload_n 2, 1) := by decide +kernel
theorem dX6_best_65 : decode cX6_best 65 = .ok (.istore_n 2, 1) := by decide +kernel
theorem dX6_best_66 : decode cX6_best 66 = .ok (.iinc 3 1, 3) := by decide +kernel
theorem dX6_best_69 : decode cX6_best 69 = .ok (.goto (-52), 3) := by decide +kernel
theorem dX6_best_72 : decode cX6_best 72 = .ok (.iload_n 2, 1) := by decide +kernel
theorem dX6_best_73 : decode cX6_best 73 = .ok (.bipush (-9), 2) := by decide +kernel
theorem dX6_best_75 : decode cX6_best 75 = .ok (.if_icmp .ne 6, 3) := by decide +kernel
theorem dX6_best_78 : decode cX6_best 78 = .ok (.ldc 167, 2) := by decide +kernel
theorem dX6_best_80 : decode cX6_best 80 = .ok (.ireturn, 1) := by decide +kernel
theorem dX6_best_81 : decode cX6_best 81 = .ok (.iload_n 1, 1) := by decide +kernel
theorem dX6_best_82 : decode cX6_best 82 = .ok (.ifCond .ne 11, 3) := by decide +kernel
theorem dX6_best_85 : decode cX6_best 85 = .ok (.aload_n 0, 1) := by decide +kernel
theorem dX6_best_86 : decode cX6_best 86 = .ok (.iload_n 2, 1) := by decide +kernel
theorem dX6_best_87 : decode cX6_best 87 = .ok (.invokevirtual 154, 3) := by decide +kernel
theorem dX6_best_90 : decode cX6_best 90 = .ok (.goto 17, 3) := by decide +kernel
theorem dX6_best_93 : decode cX6_best 93 = .ok (.iload_n 1, 1) := by decide +kernel
theorem dX6_best_94 : decode cX6_best 94 = .ok (.iconst 1, 1) := by decide +kernel
theorem dX6_best_95 : decode cX6_best 95 = .ok (.if_icmp .ne 11, 3) := by decide +kernel
theorem dX6_best_98 : decode cX6_best 98 = .ok (.aload_n 0, 1) := by decide +kernel
theorem dX6_best_99 : decode cX6_best 99 = .ok (.iload_n 2, 1) := by decide +kernel
theorem dX6_best_100 : decode cX6_best 100 = .ok (.invokevirtual 157, 3) := by decide +kernel
theorem dX6_best_103 : decode cX6_best 103 = .ok (.goto 4, 3) := by decide +kernel
theorem dX6_best_106 : decode cX6_best 106 = .ok (.iload_n 2, 1) := by decide +kernel
theorem dX6_best_107 : decode cX6_best 107 = .ok (.ireturn, 1) := by decide +kernel
set_option maxRecDepth 20000 in
theorem ggX6_slowest_X6_notes : GoodIn wsX6_slowest wsX6_notes := goodIn_r _ [5, 6, 7, 8, 9, 4, 10, 11, 12, 13, 14, 15, 16, 17, 41, 42, 43, 44, 45, 46, 47, 48, 49, 50, 51, 52, 53, 54, 55] (by decide +kernel) (by decide +kernel)
set_option maxRecDepth 20000 in
theorem gX6_slowest_X6_notes : GoodIn wsX6_slowest (wsV RX6 135 RX6 yX6_notes wsX6_notes) := goodIn_app (goodIn_of _ (by decide +kernel)) ggX6_slowest_X6_notes
set_option maxRecDepth 20000 in
theorem ggX6_slowest_X6_shareOf : GoodIn wsX6_slowest wsX6_shareOf := goodIn_r _ [21, 6, 7, 8, 9, 4, 10, 11, 12, 13, 14, 15, 16, 17, 41, 42, 43, 44, 45, 46, 47, 48, 49, 50, 51, 52, 53, 54, 55] (by decide +kernel) (by decide +kernel)
set_option maxRecDepth 20000 in
theorem gX6_slowest_X6_shareOf : GoodIn wsX6_slowest (wsV RX6 138 RX6 yX6_shareOf wsX6_shareOf) := goodIn_app (goodIn_of _ (by decide +kernel)) ggX6_slowest_X6_shareOf
set_option maxRecDepth 20000 in
theorem ggX6_slowest_X6_isLawful : GoodIn wsX6_slowest wsX6_isLawful := goodIn_r _ [25, 6, 26, 27, 28, 4, 29, 7, 8, 9, 10, 11, 12, 13, 14, 15, 16, 17, 30, 31, 32, 33, 34, 35, 36, 37, 38, 39, 40, 41, 42, 43, 44, 45, 46, 47, 48, 49, 50, 51, 52, 53, 54, 55] (by decide +kernel) (by decide +kernel)
set_option maxRecDepth 20000 in
theorem gX6_slowest_X6_isLawful : GoodIn wsX6_slowest (wsV RX6 126 RX6 yX6_isLawful wsX6_isLawful) := goodIn_app (goodIn_of _ (by decide +kernel)) ggX6_slowest_X6_isLawful
theorem dX6_slowest_0 : decode cX6_slowest 0 = .ok (.iconst 5, 1) := by decide +kernel
theorem dX6_slowest_1 : decode cX6_slowest 1 = .ok (.istore_n 1, 1) := by decide +kernel
theorem dX6_slowest_2 : decode cX6_slowest 2 = .ok (.iload_n 1, 1) := by decide +kernel
theorem dX6_slowest_3 : decode cX6_slowest 3 = .ok (.ifCond .le 42, 3) := by decide +kernel
theorem dX6_slowest_6 : decode cX6_slowest 6 = .ok (.iconst 0, 1) := by decide +kernel
theorem dX6_slowest_7 : decode cX6_slowest 7 = .ok (.istore_n 2, 1) := by decide +kernel
theorem dX6_slowest_8 : decode cX6_slowest 8 = .ok (.iload_n 2, 1) := by decide +kernel
theorem dX6_slowest_9 : decode cX6_slowest 9 = .ok (.iconst 1, 1) := by decide +kernel
theorem dX6_slowest_10 : decode cX6_slowest 10 = .ok (.aload_n 0, 1) := by decide +kernel
theorem dX6_slowest_11 : decode cX6_slowest 11 = .ok (.invokevirtual 135, 3) := by decide +kernel
theorem dX6_slowest_14 : decode cX6_slowest 14 = .ok (.ishl, 1) := by decide +kernel
theorem dX6_slowest_15 : decode cX6_slowest 15 = .ok (.if_icmp .ge 24, 3) := by decide +kernel
theorem dX6_slowest_18 : decode cX6_slowest 18 = .ok (.aload_n 0, 1) := by decide +kernel
theorem dX6_slowest_19 : decode cX6_slowest 19 = .ok (.aload_n 0, 1) := by decide +kernel
theorem dX6_slowest_20 : decode cX6_slowest 20 = .ok (.iload_n 2, 1) := by decide +kernel
theorem dX6_slowest_21 : decode cX6_slowest 21 = .ok (.invokevirtual 138, 3) := by decide +kernel
theorem dX6_slowest_24 : decode cX6_slowest 24 = .ok (.iload_n 1, 1) := by decide +kernel
theorem dX6_slowest_25 : decode cX6_slowest 25 = .ok (.invokevirtual 126, 3) := by decide +kernel
theorem dX6_slowest_28 : decode cX6_slowest 28 = .ok (.ifCond .eq 5, 3) := by decide +kernel
theorem dX6_slowest_31 : decode cX6_slowest 31 = .ok (.iload_n 1, 1) := by decide +kernel
theorem dX6_slowest_32 : decode cX6_slowest 32 = .ok (.ireturn, 1) := by decide +kernel
theorem dX6_slowest_33 : decode cX6_slowest 33 = .ok (.iinc 2 1, 3) := by decide +kernel
theorem dX6_slowest_36 : decode cX6_slowest 36 = .ok (.goto (-28), 3) := by decide +kernel
theorem dX6_slowest_39 : decode cX6_slowest 39 = .ok (.iinc 1 (-1), 3) := by decide +kernel
theorem dX6_slowest_42 : decode cX6_slowest 42 = .ok (.goto (-40), 3) := by decide +kernel
theorem dX6_slowest_45 : decode cX6_slowest 45 = .ok (.bipush (-9), 2) := by decide +kernel
theorem dX6_slowest_47 : decode cX6_slowest 47 = .ok (.ireturn, 1) := by decide +kernel
set_option maxRecDepth 20000 in
theorem ggX6_change_X6_nearest : GoodIn wsX6_change wsX6_nearest := goodIn_r _ [6, 1, 7, 8, 9, 5, 10, 11, 12, 13, 14, 15, 16, 17, 18, 19, 20, 21, 22, 23, 24, 25, 26, 27, 28, 29, 30, 31, 32, 33, 34, 35, 36, 37, 38, 39, 40, 41, 42, 43, 44, 45, 46, 47, 48, 49, 50, 51, 52, 53, 54, 55, 56, 57, 58, 59, 60, 61, 62, 63, 64, 65, 66] (by decide +kernel) (by decide +kernel)
set_option maxRecDepth 20000 in
theorem gX6_change_X6_nearest : GoodIn wsX6_change (wsV RX6 147 RX6 yX6_nearest wsX6_nearest) := goodIn_app (goodIn_of _ (by decide +kernel)) ggX6_change_X6_nearest
set_option maxRecDepth 20000 in
theorem ggX6_change_X6_ones : GoodIn wsX6_change wsX6_ones := goodIn_r _ [28] (by decide +kernel) (by decide +kernel)
set_option maxRecDepth 20000 in
theorem gX6_change_X6_ones : GoodIn wsX6_change (va_wsS RX6 141 yX6_ones wsX6_ones) := goodIn_app (goodIn_of _ (by decide +kernel)) ggX6_change_X6_ones
theorem dX6_change_0 : decode cX6_change 0 = .ok (.aload_n 0, 1) := by decide +kernel
theorem dX6_change_1 : decode cX6_change 1 = .ok (.invokevirtual 147, 3) := by decide +kernel
theorem dX6_change_4 : decode cX6_change 4 = .ok (.istore_n 1, 1) := by decide +kernel
theorem dX6_change_5 : decode cX6_change 5 = .ok (.iload_n 1, 1) := by decide +kernel
theorem dX6_change_6 : decode cX6_change 6 = .ok (.bipush (-9), 2) := by decide +kernel
theorem dX6_change_8 : decode cX6_change 8 = .ok (.if_icmp .ne 8, 3) := by decide +kernel
theorem dX6_change_11 : decode cX6_change 11 = .ok (.bipush (-9), 2) := by decide +kernel
theorem dX6_change_13 : decode cX6_change 13 = .ok (.goto 15, 3) := by decide +kernel
theorem dX6_change_16 : decode cX6_change 16 = .ok (.iload_n 1, 1) := by decide +kernel
theorem dX6_change_17 : decode cX6_change 17 = .ok (.aload_n 0, 1) := by decide +kernel
theorem dX6_change_18 : decode cX6_change 18 = .ok (.getfield 7, 3) := by decide +kernel
theorem dX6_change_21 : decode cX6_change 21 = .ok (.bipush 16, 2) := by decide +kernel
theorem dX6_change_23 : decode cX6_change 23 = .ok (.iaload, 1) := by decide +kernel
theorem dX6_change_24 : decode cX6_change 24 = .ok (.ixor, 1) := by decide +kernel
theorem dX6_change_25 : decode cX6_change 25 = .ok (.invokestatic 141, 3) := by decide +kernel
theorem dX6_change_28 : decode cX6_change 28 = .ok (.ireturn, 1) := by decide +kernel
set_option maxRecDepth 20000 in
theorem ggX6_busyAt_X6_isNote : GoodIn wsX6_busyAt wsX6_isNote := goodIn_r _ [6, 1, 7, 8, 9, 5, 10, 11, 12, 13, 14, 15, 16, 17, 18, 19, 20, 21, 22, 23, 24, 25, 26, 27, 28] (by decide +kernel) (by decide +kernel)
set_option maxRecDepth 20000 in
theorem gX6_busyAt_X6_isNote : GoodIn wsX6_busyAt (wsV RX6 110 RX6 yX6_isNote wsX6_isNote) := goodIn_app (goodIn_of _ (by decide +kernel)) ggX6_busyAt_X6_isNote
theorem dX6_busyAt_0 : decode cX6_busyAt 0 = .ok (.iconst 0, 1) := by decide +kernel
theorem dX6_busyAt_1 : decode cX6_busyAt 1 = .ok (.istore_n 3, 1) := by decide +kernel
theorem dX6_busyAt_2 : decode cX6_busyAt 2 = .ok (.iload_n 2, 1) := by decide +kernel
theorem dX6_busyAt_3 : decode cX6_busyAt 3 = .ok (.istore 4, 2) := by decide +kernel
theorem dX6_busyAt_5 : decode cX6_busyAt 5 = .ok (.iload 4, 2) := by decide +kernel
theorem dX6_busyAt_7 : decode cX6_busyAt 7 = .ok (.iload_n 2, 1) := by decide +kernel
theorem dX6_busyAt_8 : decode cX6_busyAt 8 = .ok (.aload_n 0, 1) := by decide +kernel
theorem dX6_busyAt_9 : decode cX6_busyAt 9 = .ok (.getfield 7, 3) := by decide +kernel
theorem dX6_busyAt_12 : decode cX6_busyAt 12 = .ok (.iconst 3, 1) := by decide +kernel
theorem dX6_busyAt_13 : decode cX6_busyAt 13 = .ok (.iaload, 1) := by decide +kernel
theorem dX6_busyAt_14 : decode cX6_busyAt 14 = .ok (.iadd, 1) := by decide +kernel
theorem dX6_busyAt_15 : decode cX6_busyAt 15 = .ok (.if_icmp .ge 42, 3) := by decide +kernel
theorem dX6_busyAt_18 : decode cX6_busyAt 18 = .ok (.iload_n 3, 1) := by decide +kernel
theorem dX6_busyAt_19 : decode cX6_busyAt 19 = .ok (.aload_n 0, 1) := by decide +kernel
theorem dX6_busyAt_20 : decode cX6_busyAt 20 = .ok (.iload 4, 2) := by decide +kernel
theorem dX6_busyAt_22 : decode cX6_busyAt 22 = .ok (.invokevirtual 110, 3) := by decide +kernel
theorem dX6_busyAt_25 : decode cX6_busyAt 25 = .ok (.ifCond .eq 23, 3) := by decide +kernel
theorem dX6_busyAt_28 : decode cX6_busyAt 28 = .ok (.aload_n 0, 1) := by decide +kernel
theorem dX6_busyAt_29 : decode cX6_busyAt 29 = .ok (.getfield 7, 3) := by decide +kernel
theorem dX6_busyAt_32 : decode cX6_busyAt 32 = .ok (.bipush 16, 2) := by decide +kernel
theorem dX6_busyAt_34 : decode cX6_busyAt 34 = .ok (.iaload, 1) := by decide +kernel
theorem dX6_busyAt_35 : decode cX6_busyAt 35 = .ok (.iload 4, 2) := by decide +kernel
theorem dX6_busyAt_37 : decode cX6_busyAt 37 = .ok (.ishr, 1) := by decide +kernel
theorem dX6_busyAt_38 : decode cX6_busyAt 38 = .ok (.iconst 1, 1) := by decide +kernel
theorem dX6_busyAt_39 : decode cX6_busyAt 39 = .ok (.iand, 1) := by decide +kernel
theorem dX6_busyAt_40 : decode cX6_busyAt 40 = .ok (.iload_n 1, 1) := by decide +kernel
theorem dX6_busyAt_41 : decode cX6_busyAt 41 = .ok (.if_icmp .ne 7, 3) := by decide +kernel
theorem dX6_busyAt_44 : decode cX6_busyAt 44 = .ok (.iconst 1, 1) := by decide +kernel
theorem dX6_busyAt_45 : decode cX6_busyAt 45 = .ok (.goto 4, 3) := by decide +kernel
theorem dX6_busyAt_48 : decode cX6_busyAt 48 = .ok (.iconst 0, 1) := by decide +kernel
theorem dX6_busyAt_49 : decode cX6_busyAt 49 = .ok (.iadd, 1) := by decide +kernel
theorem dX6_busyAt_50 : decode cX6_busyAt 50 = .ok (.istore_n 3, 1) := by decide +kernel
theorem dX6_busyAt_51 : decode cX6_busyAt 51 = .ok (.iinc 4 1, 3) := by decide +kernel
theorem dX6_busyAt_54 : decode cX6_busyAt 54 = .ok (.goto (-49), 3) := by decide +kernel
theorem dX6_busyAt_57 : decode cX6_busyAt 57 = .ok (.iload_n 3, 1) := by decide +kernel
theorem dX6_busyAt_58 : decode cX6_busyAt 58 = .ok (.ireturn, 1) := by decide +kernel
set_option maxRecDepth 20000 in
theorem ggX6_busiest_X6_isHand : GoodIn wsX6_busiest wsX6_isHand := goodIn_r _ [5] (by decide +kernel) (by decide +kernel)
set_option maxRecDepth 20000 in
theorem gX6_busiest_X6_isHand : GoodIn wsX6_busiest (va_wsS RX6 129 yX6_isHand wsX6_isHand) := goodIn_app (goodIn_of _ (by decide +kernel)) ggX6_busiest_X6_isHand
set_option maxRecDepth 20000 in
theorem ggX6_busiest_X6_within : GoodIn wsX6_busiest wsX6_within := goodIn_r _ [8] (by decide +kernel) (by decide +kernel)
set_option maxRecDepth 20000 in
theorem gX6_busiest_X6_within : GoodIn wsX6_busiest (va_wsS RX6 52 yX6_within wsX6_within) := goodIn_app (goodIn_of _ (by decide +kernel)) ggX6_busiest_X6_within
set_option maxRecDepth 20000 in
theorem ggX6_busiest_X6_busyAt : GoodIn wsX6_busiest wsX6_busyAt := goodIn_r _ [12, 1, 13, 14, 15, 4, 16, 17, 18, 19, 20, 6, 7, 8, 21, 22, 23, 24, 25, 26, 27, 28, 29, 30, 31, 32, 33, 34, 35] (by decide +kernel) (by decide +kernel)
set_option maxRecDepth 20000 in
theorem gX6_busiest_X6_busyAt : GoodIn wsX6_busiest (wsV RX6 168 RX6 yX6_busyAt wsX6_busyAt) := goodIn_app (goodIn_of _ (by decide +kernel)) ggX6_busiest_X6_busyAt
theorem dX6_busiest_0 : decode cX6_busiest 0 = .ok (.iload_n 1, 1) := by decide +kernel
theorem dX6_busiest_1 : decode cX6_busiest 1 = .ok (.invokestatic 129, 3) := by decide +kernel
theorem dX6_busiest_4 : decode cX6_busiest 4 = .ok (.ifCond .eq 12, 3) := by decide +kernel
theorem dX6_busiest_7 : decode cX6_busiest 7 = .ok (.iload_n 2, 1) := by decide +kernel
theorem dX6_busiest_8 : decode cX6_busiest 8 = .ok (.iconst 0, 1) := by decide +kernel
theorem dX6_busiest_9 : decode cX6_busiest 9 = .ok (.iconst 1, 1) := by decide +kernel
theorem dX6_busiest_10 : decode cX6_busiest 10 = .ok (.invokestatic 52, 3) := by decide +kernel
theorem dX6_busiest_13 : decode cX6_busiest 13 = .ok (.ifCond .ne 5, 3) := by decide +kernel
theorem dX6_busiest_16 : decode cX6_busiest 16 = .ok (.iconst (-1), 1) := by decide +kernel
theorem dX6_busiest_17 : decode cX6_busiest 17 = .ok (.ireturn, 1) := by decide +kernel
theorem dX6_busiest_18 : decode cX6_busiest 18 = .ok (.iconst 0, 1) := by decide +kernel
theorem dX6_busiest_19 : decode cX6_busiest 19 = .ok (.istore_n 3, 1) := by decide +kernel
theorem dX6_busiest_20 : decode cX6_busiest 20 = .ok (.iconst 1, 1) := by decide +kernel
theorem dX6_busiest_21 : decode cX6_busiest 21 = .ok (.istore 4, 2) := by decide +kernel
theorem dX6_busiest_23 : decode cX6_busiest 23 = .ok (.iload 4, 2) := by decide +kernel
theorem dX6_busiest_25 : decode cX6_busiest 25 = .ok (.aload_n 0, 1) := by decide +kernel
theorem dX6_busiest_26 : decode cX6_busiest 26 = .ok (.getfield 7, 3) := by decide +kernel
theorem dX6_busiest_29 : decode cX6_busiest 29 = .ok (.iconst 0, 1) := by decide +kernel
theorem dX6_busiest_30 : decode cX6_busiest 30 = .ok (.iaload, 1) := by decide +kernel
theorem dX6_busiest_31 : decode cX6_busiest 31 = .ok (.if_icmp .ge 32, 3) := by decide +kernel
theorem dX6_busiest_34 : decode cX6_busiest 34 = .ok (.aload_n 0, 1) := by decide +kernel
theorem dX6_busiest_35 : decode cX6_busiest 35 = .ok (.iload_n 1, 1) := by decide +kernel
theorem dX6_busiest_36 : decode cX6_busiest 36 = .ok (.iload 4, 2) := by decide +kernel
theorem dX6_busiest_38 : decode cX6_busiest 38 = .ok (.invokevirtual 168, 3) := by decide +kernel
theorem dX6_busiest_41 : decode cX6_busiest 41 = .ok (.aload_n 0, 1) := by decide +kernel
theorem dX6_busiest_42 : decode cX6_busiest 42 = .ok (.iload_n 1, 1) := by decide +kernel
theorem dX6_busiest_43 : decode cX6_busiest 43 = .ok (.iload_n 3, 1) := by decide +kernel
theorem dX6_busiest_44 : decode cX6_busiest 44 = .ok (.invokevirtual 168, 3) := by decide +kernel
theorem dX6_busiest_47 : decode cX6_busiest 47 = .ok (.if_icmp .le 8, 3) := by decide +kernel
theorem dX6_busiest_50 : decode cX6_busiest 50 = .ok (.iload 4, 2) := by decide +kernel
theorem dX6_busiest_52 : decode cX6_busiest 52 = .ok (.goto 4, 3) := by decide +kernel
theorem dX6_busiest_55 : decode cX6_busiest 55 = .ok (.iload_n 3, 1) := by decide +kernel
theorem dX6_busiest_56 : decode cX6_busiest 56 = .ok (.istore_n 3, 1) := by decide +kernel
theorem dX6_busiest_57 : decode cX6_busiest 57 = .ok (.iinc 4 1, 3) := by decide +kernel
theorem dX6_busiest_60 : decode cX6_busiest 60 = .ok (.goto (-37), 3) := by decide +kernel
theorem dX6_busiest_63 : decode cX6_busiest 63 = .ok (.iload_n 2, 1) := by decide +kernel
theorem dX6_busiest_64 : decode cX6_busiest 64 = .ok (.ifCond .ne 7, 3) := by decide +kernel
theorem dX6_busiest_67 : decode cX6_busiest 67 = .ok (.iload_n 3, 1) := by decide +kernel
theorem dX6_busiest_68 : decode cX6_busiest 68 = .ok (.goto 9, 3) := by decide +kernel
theorem dX6_busiest_71 : decode cX6_busiest 71 = .ok (.aload_n 0, 1) := by decide +kernel
theorem dX6_busiest_72 : decode cX6_busiest 72 = .ok (.iload_n 1, 1) := by decide +kernel
theorem dX6_busiest_73 : decode cX6_busiest 73 = .ok (.iload_n 3, 1) := by decide +kernel
theorem dX6_busiest_74 : decode cX6_busiest 74 = .ok (.invokevirtual 168, 3) := by decide +kernel
theorem dX6_busiest_77 : decode cX6_busiest 77 = .ok (.ireturn, 1) := by decide +kernel
set_option maxRecDepth 20000 in
theorem ggX6_shareBy_X6_isNote : GoodIn wsX6_shareBy wsX6_isNote := goodIn_r _ [6, 1, 7, 8, 9, 5, 10, 11, 12, 13, 17, 18, 19, 20, 21, 22, 23, 24, 25, 26, 27, 28, 29, 30, 31] (by decide +kernel) (by decide +kernel)
set_option maxRecDepth 20000 in
theorem gX6_shareBy_X6_isNote : GoodIn wsX6_shareBy (wsV RX6 110 RX6 yX6_isNote wsX6_isNote) := goodIn_app (goodIn_of _ (by decide +kernel)) ggX6_shareBy_X6_isNote
set_option maxRecDepth 20000 in
theorem ggX6_shareBy_X6_has : GoodIn wsX6_shareBy wsX6_has := goodIn_r _ [16] (by decide +kernel) (by decide +kernel)
set_option maxRecDepth 20000 in
theorem gX6_shareBy_X6_has : GoodIn wsX6_shareBy (va_wsS RX6 113 yX6_has wsX6_has) := goodIn_app (goodIn_of _ (by decide +kernel)) ggX6_shareBy_X6_has
theorem dX6_shareBy_0 : decode cX6_shareBy 0 = .ok (.iconst 0, 1) := by decide +kernel
theorem dX6_shareBy_1 : decode cX6_shareBy 1 = .ok (.istore_n 2, 1) := by decide +kernel
theorem dX6_shareBy_2 : decode cX6_shareBy 2 = .ok (.iconst 0, 1) := by decide +kernel
theorem dX6_shareBy_3 : decode cX6_shareBy 3 = .ok (.istore_n 3, 1) := by decide +kernel
theorem dX6_shareBy_4 : decode cX6_shareBy 4 = .ok (.iload_n 3, 1) := by decide +kernel
theorem dX6_shareBy_5 : decode cX6_shareBy 5 = .ok (.aload_n 0, 1) := by decide +kernel
theorem dX6_shareBy_6 : decode cX6_shareBy 6 = .ok (.getfield 7, 3) := by decide +kernel
theorem dX6_shareBy_9 : decode cX6_shareBy 9 = .ok (.iconst 0, 1) := by decide +kernel
theorem dX6_shareBy_10 : decode cX6_shareBy 10 = .ok (.iaload, 1) := by decide +kernel
theorem dX6_shareBy_11 : decode cX6_shareBy 11 = .ok (.if_icmp .ge 44, 3) := by decide +kernel
theorem dX6_shareBy_14 : decode cX6_shareBy 14 = .ok (.iload_n 2, 1) := by decide +kernel
theorem dX6_shareBy_15 : decode cX6_shareBy 15 = .ok (.aload_n 0, 1) := by decide +kernel
theorem dX6_shareBy_16 : decode cX6_shareBy 16 = .ok (.iload_n 3, 1) := by decide +kernel
theorem dX6_shareBy_17 : decode cX6_shareBy 17 = .ok (.invokevirtual 110, 3) := by decide +kernel
theorem dX6_shareBy_20 : decode cX6_shareBy 20 = .ok (.ifCond .eq 26, 3) := by decide +kernel
theorem dX6_shareBy_23 : decode cX6_shareBy 23 = .ok (.iload_n 1, 1) := by decide +kernel
theorem dX6_shareBy_24 : decode cX6_shareBy 24 = .ok (.aload_n 0, 1) := by decide +kernel
theorem dX6_shareBy_25 : decode cX6_shareBy 25 = .ok (.getfield 7, 3) := by decide +kernel
theorem dX6_shareBy_28 : decode cX6_shareBy 28 = .ok (.iconst 4, 1) := by decide +kernel
theorem dX6_shareBy_29 : decode cX6_shareBy 29 = .ok (.iload_n 3, 1) := by decide +kernel
theorem dX6_shareBy_30 : decode cX6_shareBy 30 = .ok (.iadd, 1) := by decide +kernel
theorem dX6_shareBy_31 : decode cX6_shareBy 31 = .ok (.iaload, 1) := by decide +kernel
theorem dX6_shareBy_32 : decode cX6_shareBy 32 = .ok (.iconst 1, 1) := by decide +kernel
theorem dX6_shareBy_33 : decode cX6_shareBy 33 = .ok (.isub, 1) := by decide +kernel
theorem dX6_shareBy_34 : decode cX6_shareBy 34 = .ok (.invokestatic 113, 3) := by decide +kernel
theorem dX6_shareBy_37 : decode cX6_shareBy 37 = .ok (.ifCond .eq 9, 3) := by decide +kernel
theorem dX6_shareBy_40 : decode cX6_shareBy 40 = .ok (.iconst 1, 1) := by decide +kernel
theorem dX6_shareBy_41 : decode cX6_shareBy 41 = .ok (.iload_n 3, 1) := by decide +kernel
theorem dX6_shareBy_42 : decode cX6_shareBy 42 = .ok (.ishl, 1) := by decide +kernel
theorem dX6_shareBy_43 : decode cX6_shareBy 43 = .ok (.goto 4, 3) := by decide +kernel
theorem dX6_shareBy_46 : decode cX6_shareBy 46 = .ok (.iconst 0, 1) := by decide +kernel
theorem dX6_shareBy_47 : decode cX6_shareBy 47 = .ok (.ior, 1) := by decide +kernel
theorem dX6_shareBy_48 : decode cX6_shareBy 48 = .ok (.istore_n 2, 1) := by decide +kernel
theorem dX6_shareBy_49 : decode cX6_shareBy 49 = .ok (.iinc 3 1, 3) := by decide +kernel
theorem dX6_shareBy_52 : decode cX6_shareBy 52 = .ok (.goto (-48), 3) := by decide +kernel
theorem dX6_shareBy_55 : decode cX6_shareBy 55 = .ok (.iload_n 2, 1) := by decide +kernel
theorem dX6_shareBy_56 : decode cX6_shareBy 56 = .ok (.ireturn, 1) := by decide +kernel
set_option maxRecDepth 20000 in
theorem ggX6_pitches_X6_isNote : GoodIn wsX6_pitches wsX6_isNote := goodIn_r _ [6, 1, 7, 8, 9, 5, 10, 11, 12, 13, 14, 15, 16, 17, 18, 19, 20, 21, 22, 23, 24, 25, 26, 27, 28] (by decide +kernel) (by decide +kernel)
set_option maxRecDepth 20000 in
theorem gX6_pitches_X6_isNote : GoodIn wsX6_pitches (wsV RX6 110 RX6 yX6_isNote wsX6_isNote) := goodIn_app (goodIn_of _ (by decide +kernel)) ggX6_pitches_X6_isNote
theorem dX6_pitches_0 : decode cX6_pitches 0 = .ok (.iconst 0, 1) := by decide +kernel
theorem dX6_pitches_1 : decode cX6_pitches 1 = .ok (.istore_n 1, 1) := by decide +kernel
theorem dX6_pitches_2 : decode cX6_pitches 2 = .ok (.iconst 0, 1) := by decide +kernel
theorem dX6_pitches_3 : decode cX6_pitches 3 = .ok (.istore_n 2, 1) := by decide +kernel
theorem dX6_pitches_4 : decode cX6_pitches 4 = .ok (.iload_n 2, 1) := by decide +kernel
theorem dX6_pitches_5 : decode cX6_pitches 5 = .ok (.aload_n 0, 1) := by decide +kernel
theorem dX6_pitches_6 : decode cX6_pitches 6 = .ok (.getfield 7, 3) := by decide +kernel
theorem dX6_pitches_9 : decode cX6_pitches 9 = .ok (.iconst 0, 1) := by decide +kernel
theorem dX6_pitches_10 : decode cX6_pitches 10 = .ok (.iaload, 1) := by decide +kernel
theorem dX6_pitches_11 : decode cX6_pitches 11 = .ok (.if_icmp .ge 36, 3) := by decide +kernel
theorem dX6_pitches_14 : decode cX6_pitches 14 = .ok (.iload_n 1, 1) := by decide +kernel
theorem dX6_pitches_15 : decode cX6_pitches 15 = .ok (.aload_n 0, 1) := by decide +kernel
theorem dX6_pitches_16 : decode cX6_pitches 16 = .ok (.iload_n 2, 1) := by decide +kernel
theorem dX6_pitches_17 : decode cX6_pitches 17 = .ok (.invokevirtual 110, 3) := by decide +kernel
theorem dX6_pitches_20 : decode cX6_pitches 20 = .ok (.ifCond .eq 18, 3) := by decide +kernel
theorem dX6_pitches_23 : decode cX6_pitches 23 = .ok (.iconst 1, 1) := by decide +kernel
theorem dX6_pitches_24 : decode cX6_pitches 24 = .ok (.aload_n 0, 1) := by decide +kernel
theorem dX6_pitches_25 : decode cX6_pitches 25 = .ok (.getfield 7, 3) := by decide +kernel
theorem dX6_pitches_28 : decode cX6_pitches 28 = .ok (.iconst 4, 1) := by decide +kernel
theorem dX6_pitches_29 : decode cX6_pitches 29 = .ok (.iload_n 2, 1) := by decide +kernel
theorem dX6_pitches_30 : decode cX6_pitches 30 = .ok (.iadd, 1) := by decide +kernel
theorem dX6_pitches_31 : decode cX6_pitches 31 = .ok (.iaload, 1) := by decide +kernel
theorem dX6_pitches_32 : decode cX6_pitches 32 = .ok (.iconst 1, 1) := by decide +kernel
theorem dX6_pitches_33 : decode cX6_pitches 33 = .ok (.isub, 1) := by decide +kernel
theorem dX6_pitches_34 : decode cX6_pitches 34 = .ok (.ishl, 1) := by decide +kernel
theorem dX6_pitches_35 : decode cX6_pitches 35 = .ok (.goto 4, 3) := by decide +kernel
theorem dX6_pitches_38 : decode cX6_pitches 38 = .ok (.iconst 0, 1) := by decide +kernel
theorem dX6_pitches_39 : decode cX6_pitches 39 = .ok (.ior, 1) := by decide +kernel
theorem dX6_pitches_40 : decode cX6_pitches 40 = .ok (.istore_n 1, 1) := by decide +kernel
theorem dX6_pitches_41 : decode cX6_pitches 41 = .ok (.iinc 2 1, 3) := by decide +kernel
theorem dX6_pitches_44 : decode cX6_pitches 44 = .ok (.goto (-40), 3) := by decide +kernel
theorem dX6_pitches_47 : decode cX6_pitches 47 = .ok (.iload_n 1, 1) := by decide +kernel
theorem dX6_pitches_48 : decode cX6_pitches 48 = .ok (.ireturn, 1) := by decide +kernel
set_option maxRecDepth 20000 in
theorem ggX6_isTable_X6_pitches : GoodIn wsX6_isTable wsX6_pitches := goodIn_r _ [5, 6, 7, 8, 9, 4, 10, 11, 12, 13, 14, 15, 16, 17, 45, 46, 47, 48, 49, 50, 51, 52, 53, 54, 55, 56, 57, 58, 59] (by decide +kernel) (by decide +kernel)
set_option maxRecDepth 20000 in
theorem gX6_isTable_X6_pitches : GoodIn wsX6_isTable (wsV RX6 171 RX6 yX6_pitches wsX6_pitches) := goodIn_app (goodIn_of _ (by decide +kernel)) ggX6_isTable_X6_pitches
set_option maxRecDepth 20000 in
theorem ggX6_isTable_X6_shareBy : GoodIn wsX6_isTable wsX6_shareBy := goodIn_r _ [21, 6, 7, 8, 9, 4, 10, 11, 12, 13, 14, 15, 16, 17, 22, 23, 24, 45, 46, 47, 48, 49, 50, 51, 52, 53, 54, 55, 56, 57, 58, 59] (by decide +kernel) (by decide +kernel)
set_option maxRecDepth 20000 in
theorem gX6_isTable_X6_shareBy : GoodIn wsX6_isTable (wsV RX6 174 RX6 yX6_shareBy wsX6_shareBy) := goodIn_app (goodIn_of _ (by decide +kernel)) ggX6_isTable_X6_shareBy
set_option maxRecDepth 20000 in
theorem ggX6_isTable_X6_isLawfulNow : GoodIn wsX6_isTable wsX6_isLawfulNow := goodIn_r _ [28, 6, 29, 30, 31, 4, 32, 33, 34, 35, 36, 7, 8, 9, 10, 11, 12, 13, 14, 15, 16, 17, 37, 38, 39, 40, 22, 23, 24, 41, 42, 43, 44, 45, 46, 47, 48, 49, 50, 51, 52, 53, 54, 55, 56, 57, 58, 59] (by decide +kernel) (by decide +kernel)
set_option maxRecDepth 20000 in
theorem gX6_isTable_X6_isLawfulNow : GoodIn wsX6_isTable (wsV RX6 144 RX6 yX6_isLawfulNow wsX6_isLawfulNow) := goodIn_app (goodIn_of _ (by decide +kernel)) ggX6_isTable_X6_isLawfulNow
theorem dX6_isTable_0 : decode cX6_isTable 0 = .ok (.iload_n 1, 1) := by decide +kernel
theorem dX6_isTable_1 : decode cX6_isTable 1 = .ok (.aload_n 0, 1) := by decide +kernel
theorem dX6_isTable_2 : decode cX6_isTable 2 = .ok (.invokevirtual 171, 3) := by decide +kernel
theorem dX6_isTable_5 : decode cX6_isTable 5 = .ok (.iconst (-1), 1) := by decide +kernel
theorem dX6_isTable_6 : decode cX6_isTable 6 = .ok (.ixor, 1) := by decide +kernel
theorem dX6_isTable_7 : decode cX6_isTable 7 = .ok (.iand, 1) := by decide +kernel
theorem dX6_isTable_8 : decode cX6_isTable 8 = .ok (.ifCond .ne 19, 3) := by decide +kernel
theorem dX6_isTable_11 : decode cX6_isTable 11 = .ok (.aload_n 0, 1) := by decide +kernel
theorem dX6_isTable_12 : decode cX6_isTable 12 = .ok (.aload_n 0, 1) := by decide +kernel
theorem dX6_isTable_13 : decode cX6_isTable 13 = .ok (.iload_n 1, 1) := by decide +kernel
theorem dX6_isTable_14 : decode cX6_isTable 14 = .ok (.invokevirtual 174, 3) := by decide +kernel
theorem dX6_isTable_17 : decode cX6_isTable 17 = .ok (.invokevirtual 144, 3) := by decide +kernel
theorem dX6_isTable_20 : decode cX6_isTable 20 = .ok (.ifCond .eq 7, 3) := by decide +kernel
theorem dX6_isTable_23 : decode cX6_isTable 23 = .ok (.iconst 1, 1) := by decide +kernel
theorem dX6_isTable_24 : decode cX6_isTable 24 = .ok (.goto 4, 3) := by decide +kernel
theorem dX6_isTable_27 : decode cX6_isTable 27 = .ok (.iconst 0, 1) := by decide +kernel
theorem dX6_isTable_28 : decode cX6_isTable 28 = .ok (.ireturn, 1) := by decide +kernel
set_option maxRecDepth 20000 in
theorem ggX6_isHeard_X6_shareBy : GoodIn wsX6_isHeard wsX6_shareBy := goodIn_r _ [8, 9, 10, 11, 12, 7, 13, 14, 15, 16, 17, 18, 19, 20, 21, 22, 23, 52, 53, 54, 55, 56, 57, 58, 59, 60, 61, 62, 63, 64, 65, 66] (by decide +kernel) (by decide +kernel)
set_option maxRecDepth 20000 in
theorem gX6_isHeard_X6_shareBy : GoodIn wsX6_isHeard (wsV RX6 174 RX6 yX6_shareBy wsX6_shareBy) := goodIn_app (goodIn_of _ (by decide +kernel)) ggX6_isHeard_X6_shareBy
set_option maxRecDepth 20000 in
theorem ggX6_isHeard_X6_isTable : GoodIn wsX6_isHeard wsX6_isTable := goodIn_r _ [27, 28, 29, 30, 7, 31, 9, 10, 11, 12, 13, 14, 15, 16, 17, 18, 19, 20, 4, 5, 6, 8, 21, 22, 23, 32, 33, 34, 35, 36, 37, 38, 39, 40, 41, 42, 43, 44, 45, 46, 47, 48, 49, 50, 51, 52, 53, 54, 55, 56, 57, 58, 59, 60, 61, 62, 63, 64, 65, 66] (by decide +kernel) (by decide +kernel)
set_option maxRecDepth 20000 in
theorem gX6_isHeard_X6_isTable : GoodIn wsX6_isHeard (wsV RX6 177 RX6 yX6_isTable wsX6_isTable) := goodIn_app (goodIn_of _ (by decide +kernel)) ggX6_isHeard_X6_isTable
set_option maxRecDepth 20000 in
theorem ggX6_isHeard_X6_isNote : GoodIn wsX6_isHeard wsX6_isNote := goodIn_r _ [13, 9, 14, 15, 16, 7, 17, 18, 19, 20, 52, 53, 54, 55, 56, 57, 58, 59, 60, 61, 62, 63, 64, 65, 66] (by decide +kernel) (by decide +kernel)
set_option maxRecDepth 20000 in
theorem gX6_isHeard_X6_isNote : GoodIn wsX6_isHeard (wsV RX6 110 RX6 yX6_isNote wsX6_isNote) := goodIn_app (goodIn_of _ (by decide +kernel)) ggX6_isHeard_X6_isNote
theorem dX6_isHeard_0 : decode cX6_isHeard 0 = .ok (.aload_n 0, 1) := by decide +kernel
theorem dX6_isHeard_1 : decode cX6_isHeard 1 = .ok (.iload_n 1, 1) := by decide +kernel
theorem dX6_isHeard_2 : decode cX6_isHeard 2 = .ok (.invokevirtual 174, 3) := by decide +kernel
theorem dX6_isHeard_5 : decode cX6_isHeard 5 = .ok (.istore_n 2, 1) := by decide +kernel
theorem dX6_isHeard_6 : decode cX6_isHeard 6 = .ok (.aload_n 0, 1) := by decide +kernel
theorem dX6_isHeard_7 : decode cX6_isHeard 7 = .ok (.iload_n 1, 1) := by decide +kernel
theorem dX6_isHeard_8 : decode cX6_isHeard 8 = .ok (.invokevirtual 177, 3) := by decide +kernel
theorem dX6_isHeard_11 : decode cX6_isHeard 11 = .ok (.istore_n 3, 1) := by decide +kernel
theorem dX6_isHeard_12 : decode cX6_isHeard 12 = .ok (.iconst 0, 1) := by decide +kernel
theorem dX6_isHeard_13 : decode cX6_isHeard 13 = .ok (.istore 4, 2) := by decide +kernel
theorem dX6_isHeard_15 : decode cX6_isHeard 15 = .ok (.iload 4, 2) := by decide +kernel
theorem dX6_isHeard_17 : decode cX6_isHeard 17 = .ok (.aload_n 0, 1) := by decide +kernel
theorem dX6_isHeard_18 : decode cX6_isHeard 18 = .ok (.getfield 180, 3) := by decide +kernel
theorem dX6_isHeard_21 : decode cX6_isHeard 21 = .ok (.if_icmp .ge 54, 3) := by decide +kernel
theorem dX6_isHeard_24 : decode cX6_isHeard 24 = .ok (.iload_n 3, 1) := by decide +kernel
theorem dX6_isHeard_25 : decode cX6_isHeard 25 = .ok (.ifCond .eq 42, 3) := by decide +kernel
theorem dX6_isHeard_28 : decode cX6_isHeard 28 = .ok (.aload_n 0, 1) := by decide +kernel
theorem dX6_isHeard_29 : decode cX6_isHeard 29 = .ok (.aload_n 0, 1) := by decide +kernel
theorem dX6_isHeard_30 : decode cX6_isHeard 30 = .ok (.getfield 26, 3) := by decide +kernel
theorem dX6_isHeard_33 : decode cX6_isHeard 33 = .ok (.iload 4, 2) := by decide +kernel
theorem dX6_isHeard_35 : decode cX6_isHeard 35 = .ok (.iaload, 1) := by decide +kernel
theorem dX6_isHeard_36 : decode cX6_isHeard 36 = .ok (.invokevirtual 110, 3) := by decide +kernel
theorem dX6_isHeard_39 : decode cX6_isHeard 39 = .ok (.ifCond .eq 28, 3) := by decide +kernel
theorem dX6_isHeard_42 : decode cX6_isHeard 42 = .ok (.iload_n 2, 1) := by decide +kernel
theorem dX6_isHeard_43 : decode cX6_isHeard 43 = .ok (.aload_n 0, 1) := by decide +kernel
theorem dX6_isHeard_44 : decode cX6_isHeard 44 = .ok (.getfield 26, 3) := by decide +kernel
theorem dX6_isHeard_47 : decode cX6_isHeard 47 = .ok (.iload 4, 2) := by decide +kernel
theorem dX6_isHeard_49 : decode cX6_isHeard 49 = .ok (.iaload, 1) := by decide +kernel
theorem dX6_isHeard_50 : decode cX6_isHeard 50 = .ok (.ishr, 1) := by decide +kernel
theorem dX6_isHeard_51 : decode cX6_isHeard 51 = .ok (.iconst 1, 1) := by decide +kernel
theorem dX6_isHeard_52 : decode cX6_isHeard 52 = .ok (.iand, 1) := by decide +kernel
theorem dX6_isHeard_53 : decode cX6_isHeard 53 = .ok (.aload_n 0, 1) := by decide +kernel
theorem dX6_isHeard_54 : decode cX6_isHeard 54 = .ok (.getfield 29, 3) := by decide +kernel
theorem dX6_isHeard_57 : decode cX6_isHeard 57 = .ok (.iload 4, 2) := by decide +kernel
theorem dX6_isHeard_59 : decode cX6_isHeard 59 = .ok (.iaload, 1) := by decide +kernel
theorem dX6_isHeard_60 : decode cX6_isHeard 60 = .ok (.if_icmp .ne 7, 3) := by decide +kernel
theorem dX6_isHeard_63 : decode cX6_isHeard 63 = .ok (.iconst 1, 1) := by decide +kernel
theorem dX6_isHeard_64 : decode cX6_isHeard 64 = .ok (.goto 4, 3) := by decide +kernel
theorem dX6_isHeard_67 : decode cX6_isHeard 67 = .ok (.iconst 0, 1) := by decide +kernel
theorem dX6_isHeard_68 : decode cX6_isHeard 68 = .ok (.istore_n 3, 1) := by decide +kernel
theorem dX6_isHeard_69 : decode cX6_isHeard 69 = .ok (.iinc 4 1, 3) := by decide +kernel
theorem dX6_isHeard_72 : decode cX6_isHeard 72 = .ok (.goto (-57), 3) := by decide +kernel
theorem dX6_isHeard_75 : decode cX6_isHeard 75 = .ok (.iload_n 3, 1) := by decide +kernel
theorem dX6_isHeard_76 : decode cX6_isHeard 76 = .ok (.ireturn, 1) := by decide +kernel
set_option maxRecDepth 20000 in
theorem ggX6_tellTables_X6_isHeard : GoodIn wsX6_tellTables wsX6_isHeard := goodIn_r _ [5, 6, 7, 8, 9, 10, 11, 4, 12, 13, 14, 15, 16, 17, 18, 19, 20, 21, 22, 23, 24, 25, 26, 27, 28, 29, 30, 31, 32, 33, 34, 35, 36, 37, 38, 39, 40, 41, 42, 43, 44, 45, 46, 47, 48, 49, 50, 51, 52, 53, 54, 55, 56, 57, 58, 59, 60, 61, 62, 63, 64, 65, 66, 67, 68, 69, 70] (by decide +kernel) (by decide +kernel)
set_option maxRecDepth 20000 in
theorem gX6_tellTables_X6_isHeard : GoodIn wsX6_tellTables (wsV RX6 183 RX6 yX6_isHeard wsX6_isHeard) := goodIn_app (goodIn_of _ (by decide +kernel)) ggX6_tellTables_X6_isHeard
set_option maxRecDepth 20000 in
theorem ggX6_tellTables_X6_isTable : GoodIn wsX6_tellTables wsX6_isTable := goodIn_r _ [31, 32, 33, 34, 4, 35, 13, 14, 15, 16, 17, 18, 19, 20, 21, 22, 23, 24, 9, 10, 11, 12, 25, 26, 27, 36, 37, 38, 39, 40, 41, 42, 43, 44, 45, 46, 47, 48, 49, 50, 51, 52, 53, 54, 55, 56, 57, 58, 59, 60, 61, 62, 63, 64, 65, 66, 67, 68, 69, 70] (by decide +kernel) (by decide +kernel)
set_option maxRecDepth 20000 in
theorem gX6_tellTables_X6_isTable : GoodIn wsX6_tellTables (wsV RX6 177 RX6 yX6_isTable wsX6_isTable) := goodIn_app (goodIn_of _ (by decide +kernel)) ggX6_tellTables_X6_isTable
theorem dX6_tellTables_0 : decode cX6_tellTables 0 = .ok (.iconst 0, 1) := by decide +kernel
theorem dX6_tellTables_1 : decode cX6_tellTables 1 = .ok (.istore_n 3, 1) := by decide +kernel
theorem dX6_tellTables_2 : decode cX6_tellTables 2 = .ok (.bipush (-9), 2) := by decide +kernel
theorem dX6_tellTables_4 : decode cX6_tellTables 4 = .ok (.istore 4, 2) := by decide +kernel
theorem dX6_tellTables_6 : decode cX6_tellTables 6 = .ok (.bipush 127, 2) := by decide +kernel
theorem dX6_tellTables_8 : decode cX6_tellTables 8 = .ok (.istore 5, 2) := by decide +kernel
theorem dX6_tellTables_10 : decode cX6_tellTables 10 = .ok (.iload 5, 2) := by decide +kernel
theorem dX6_tellTables_12 : decode cX6_tellTables 12 = .ok (.ifCond .lt 57, 3) := by decide +kernel
theorem dX6_tellTables_15 : decode cX6_tellTables 15 = .ok (.iload_n 2, 1) := by decide +kernel
theorem dX6_tellTables_16 : decode cX6_tellTables 16 = .ok (.ifCond .eq 12, 3) := by decide +kernel
theorem dX6_tellTables_19 : decode cX6_tellTables 19 = .ok (.aload_n 0, 1) := by decide +kernel
theorem dX6_tellTables_20 : decode cX6_tellTables 20 = .ok (.iload 5, 2) := by decide +kernel
theorem dX6_tellTables_22 : decode cX6_tellTables 22 = .ok (.invokevirtual 183, 3) := by decide +kernel
theorem dX6_tellTables_25 : decode cX6_tellTables 25 = .ok (.goto 9, 3) := by decide +kernel
theorem dX6_tellTables_28 : decode cX6_tellTables 28 = .ok (.aload_n 0, 1) := by decide +kernel
theorem dX6_tellTables_29 : decode cX6_tellTables 29 = .ok (.iload 5, 2) := by decide +kernel
theorem dX6_tellTables_31 : decode cX6_tellTables 31 = .ok (.invokevirtual 177, 3) := by decide +kernel
theorem dX6_tellTables_34 : decode cX6_tellTables 34 = .ok (.istore 6, 2) := by decide +kernel
theorem dX6_tellTables_36 : decode cX6_tellTables 36 = .ok (.iload_n 3, 1) := by decide +kernel
theorem dX6_tellTables_37 : decode cX6_tellTables 37 = .ok (.iload 6, 2) := by decide +kernel
theorem dX6_tellTables_39 : decode cX6_tellTables 39 = .ok (.ifCond .eq 7, 3) := by decide +kernel
theorem dX6_tellTables_42 : decode cX6_tellTables 42 = .ok (.iconst 1, 1) := by decide +kernel
theorem dX6_tellTables_43 : decode cX6_tellTables 43 = .ok (.goto 4, 3) := by decide +kernel
theorem dX6_tellTables_46 : decode cX6_tellTables 46 = .ok (.iconst 0, 1) := by decide +kernel
theorem dX6_tellTables_47 : decode cX6_tellTables 47 = .ok (.iadd, 1) := by decide +kernel
theorem dX6_tellTables_48 : decode cX6_tellTables 48 = .ok (.istore_n 3, 1) := by decide +kernel
theorem dX6_tellTables_49 : decode cX6_tellTables 49 = .ok (.iload 6, 2) := by decide +kernel
theorem dX6_tellTables_51 : decode cX6_tellTables 51 = .ok (.ifCond .eq 8, 3) := by decide +kernel
theorem dX6_tellTables_54 : decode cX6_tellTables 54 = .ok (.iload 5, 2) := by decide +kernel
theorem dX6_tellTables_56 : decode cX6_tellTables 56 = .ok (.goto 5, 3) := by decide +kernel
theorem dX6_tellTables_59 : decode cX6_tellTables 59 = .ok (.iload 4, 2) := by decide +kernel
theorem dX6_tellTables_61 : decode cX6_tellTables 61 = .ok (.istore 4, 2) := by decide +kernel
theorem dX6_tellTables_63 : decode cX6_tellTables 63 = .ok (.iinc 5 (-1), 3) := by decide +kernel
theorem dX6_tellTables_66 : decode cX6_tellTables 66 = .ok (.goto (-56), 3) := by decide +kernel
theorem dX6_tellTables_69 : decode cX6_tellTables 69 = .ok (.iload_n 1, 1) := by decide +kernel
theorem dX6_tellTables_70 : decode cX6_tellTables 70 = .ok (.ifCond .ne 7, 3) := by decide +kernel
theorem dX6_tellTables_73 : decode cX6_tellTables 73 = .ok (.iload_n 3, 1) := by decide +kernel
theorem dX6_tellTables_74 : decode cX6_tellTables 74 = .ok (.goto 14, 3) := by decide +kernel
theorem dX6_tellTables_77 : decode cX6_tellTables 77 = .ok (.iload_n 1, 1) := by decide +kernel
theorem dX6_tellTables_78 : decode cX6_tellTables 78 = .ok (.iconst 1, 1) := by decide +kernel
theorem dX6_tellTables_79 : decode cX6_tellTables 79 = .ok (.if_icmp .ne 8, 3) := by decide +kernel
theorem dX6_tellTables_82 : decode cX6_tellTables 82 = .ok (.iload 4, 2) := by decide +kernel
theorem dX6_tellTables_84 : decode cX6_tellTables 84 = .ok (.goto 4, 3) := by decide +kernel
theorem dX6_tellTables_87 : decode cX6_tellTables 87 = .ok (.iconst (-1), 1) := by decide +kernel
theorem dX6_tellTables_88 : decode cX6_tellTables 88 = .ok (.ireturn, 1) := by decide +kernel
set_option maxRecDepth 20000 in
theorem ggX6_tables_X6_tellTables : GoodIn wsX6_tables wsX6_tellTables := goodIn_r _ [5, 6, 7, 8, 4, 9, 10, 11, 12, 13, 14, 15, 16, 17, 18, 19, 20, 21, 22, 23, 24, 25, 26, 27, 28, 29, 30, 31, 32, 33, 34, 35, 36, 37, 38, 39, 40, 41, 42, 43, 44, 45, 46, 47, 48, 49, 50, 51, 52, 53, 54, 55, 56, 57, 58, 59, 60, 61, 62, 63, 64, 65, 66, 67, 68, 69, 70, 71, 72, 73, 74] (by decide +kernel) (by decide +kernel)
set_option maxRecDepth 20000 in
theorem gX6_tables_X6_tellTables : GoodIn wsX6_tables (wsV RX6 186 RX6 yX6_tellTables wsX6_tellTables) := goodIn_app (goodIn_of _ (by decide +kernel)) ggX6_tables_X6_tellTables
theorem dX6_tables_0 : decode cX6_tables 0 = .ok (.aload_n 0, 1) := by decide +kernel
theorem dX6_tables_1 : decode cX6_tables 1 = .ok (.iload_n 1, 1) := by decide +kernel
theorem dX6_tables_2 : decode cX6_tables 2 = .ok (.iconst 0, 1) := by decide +kernel
theorem dX6_tables_3 : decode cX6_tables 3 = .ok (.invokevirtual 186, 3) := by decide +kernel
theorem dX6_tables_6 : decode cX6_tables 6 = .ok (.ireturn, 1) := by decide +kernel
set_option maxRecDepth 20000 in
theorem ggX6_sees_X6_within : GoodIn wsX6_sees wsX6_within := goodIn_r _ [7] (by decide +kernel) (by decide +kernel)
set_option maxRecDepth 20000 in
theorem gX6_sees_X6_within : GoodIn wsX6_sees (va_wsS RX6 52 yX6_within wsX6_within) := goodIn_app (goodIn_of _ (by decide +kernel)) ggX6_sees_X6_within
set_option maxRecDepth 20000 in
theorem ggX6_sees_X6_isHand : GoodIn wsX6_sees wsX6_isHand := goodIn_r _ [10] (by decide +kernel) (by decide +kernel)
set_option maxRecDepth 20000 in
theorem gX6_sees_X6_isHand : GoodIn wsX6_sees (va_wsS RX6 129 yX6_isHand wsX6_isHand) := goodIn_app (goodIn_of _ (by decide +kernel)) ggX6_sees_X6_isHand
theorem dX6_sees_0 : decode cX6_sees 0 = .ok (.iload_n 1, 1) := by decide +kernel
theorem dX6_sees_1 : decode cX6_sees 1 = .ok (.iconst 0, 1) := by decide +kernel
theorem dX6_sees_2 : decode cX6_sees 2 = .ok (.bipush 11, 2) := by decide +kernel
theorem dX6_sees_4 : decode cX6_sees 4 = .ok (.invokestatic 52, 3) := by decide +kernel
theorem dX6_sees_7 : decode cX6_sees 7 = .ok (.ifCond .eq 10, 3) := by decide +kernel
theorem dX6_sees_10 : decode cX6_sees 10 = .ok (.iload_n 2, 1) := by decide +kernel
theorem dX6_sees_11 : decode cX6_sees 11 = .ok (.invokestatic 129, 3) := by decide +kernel
theorem dX6_sees_14 : decode cX6_sees 14 = .ok (.ifCond .ne 5, 3) := by decide +kernel
theorem dX6_sees_17 : decode cX6_sees 17 = .ok (.iconst (-1), 1) := by decide +kernel
theorem dX6_sees_18 : decode cX6_sees 18 = .ok (.ireturn, 1) := by decide +kernel
theorem dX6_sees_19 : decode cX6_sees 19 = .ok (.aload_n 0, 1) := by decide +kernel
theorem dX6_sees_20 : decode cX6_sees 20 = .ok (.getfield 180, 3) := by decide +kernel
theorem dX6_sees_23 : decode cX6_sees 23 = .ok (.bipush 6, 2) := by decide +kernel
theorem dX6_sees_25 : decode cX6_sees 25 = .ok (.if_icmp .ne 6, 3) := by decide +kernel
theorem dX6_sees_28 : decode cX6_sees 28 = .ok (.bipush (-3), 2) := by decide +kernel
theorem dX6_sees_30 : decode cX6_sees 30 = .ok (.ireturn, 1) := by decide +kernel
theorem dX6_sees_31 : decode cX6_sees 31 = .ok (.aload_n 0, 1) := by decide +kernel
theorem dX6_sees_32 : decode cX6_sees 32 = .ok (.getfield 26, 3) := by decide +kernel
theorem dX6_sees_35 : decode cX6_sees 35 = .ok (.aload_n 0, 1) := by decide +kernel
theorem dX6_sees_36 : decode cX6_sees 36 = .ok (.getfield 180, 3) := by decide +kernel
theorem dX6_sees_39 : decode cX6_sees 39 = .ok (.iload_n 1, 1) := by decide +kernel
theorem dX6_sees_40 : decode cX6_sees 40 = .ok (.iastore, 1) := by decide +kernel
theorem dX6_sees_41 : decode cX6_sees 41 = .ok (.aload_n 0, 1) := by decide +kernel
theorem dX6_sees_42 : decode cX6_sees 42 = .ok (.getfield 29, 3) := by decide +kernel
theorem dX6_sees_45 : decode cX6_sees 45 = .ok (.aload_n 0, 1) := by decide +kernel
theorem dX6_sees_46 : decode cX6_sees 46 = .ok (.getfield 180, 3) := by decide +kernel
theorem dX6_sees_49 : decode cX6_sees 49 = .ok (.iload_n 2, 1) := by decide +kernel
theorem dX6_sees_50 : decode cX6_sees 50 = .ok (.iastore, 1) := by decide +kernel
theorem dX6_sees_51 : decode cX6_sees 51 = .ok (.aload_n 0, 1) := by decide +kernel
theorem dX6_sees_52 : decode cX6_sees 52 = .ok (.dup, 1) := by decide +kernel
theorem dX6_sees_53 : decode cX6_sees 53 = .ok (.getfield 180, 3) := by decide +kernel
theorem dX6_sees_56 : decode cX6_sees 56 = .ok (.iconst 1, 1) := by decide +kernel
theorem dX6_sees_57 : decode cX6_sees 57 = .ok (.iadd, 1) := by decide +kernel
theorem dX6_sees_58 : decode cX6_sees 58 = .ok (.putfield 180, 3) := by decide +kernel
theorem dX6_sees_61 : decode cX6_sees 61 = .ok (.aload_n 0, 1) := by decide +kernel
theorem dX6_sees_62 : decode cX6_sees 62 = .ok (.getfield 180, 3) := by decide +kernel
theorem dX6_sees_65 : decode cX6_sees 65 = .ok (.ireturn, 1) := by decide +kernel
theorem dX6_forget_0 : decode cX6_forget 0 = .ok (.aload_n 0, 1) := by decide +kernel
theorem dX6_forget_1 : decode cX6_forget 1 = .ok (.getfield 180, 3) := by decide +kernel
theorem dX6_forget_4 : decode cX6_forget 4 = .ok (.istore_n 1, 1) := by decide +kernel
theorem dX6_forget_5 : decode cX6_forget 5 = .ok (.aload_n 0, 1) := by decide +kernel
theorem dX6_forget_6 : decode cX6_forget 6 = .ok (.iconst 0, 1) := by decide +kernel
theorem dX6_forget_7 : decode cX6_forget 7 = .ok (.putfield 180, 3) := by decide +kernel
theorem dX6_forget_10 : decode cX6_forget 10 = .ok (.iload_n 1, 1) := by decide +kernel
theorem dX6_forget_11 : decode cX6_forget 11 = .ok (.ireturn, 1) := by decide +kernel
set_option maxRecDepth 20000 in
theorem ggX6_which_X6_tellTables : GoodIn wsX6_which wsX6_tellTables := goodIn_r _ [5, 6, 7, 8, 4, 9, 10, 11, 12, 13, 14, 15, 16, 17, 18, 19, 20, 21, 22, 23, 24, 25, 26, 27, 28, 29, 30, 31, 32, 33, 34, 35, 36, 37, 38, 39, 40, 41, 42, 43, 44, 45, 46, 47, 48, 49, 50, 51, 52, 53, 54, 55, 56, 57, 58, 59, 60, 61, 62, 63, 64, 65, 66, 67, 68, 69, 70, 71, 72, 73, 74] (by decide +kernel) (by decide +kernel)
set_option maxRecDepth 20000 in
theorem gX6_which_X6_tellTables : GoodIn wsX6_which (wsV RX6 186 RX6 yX6_tellTables wsX6_tellTables) := goodIn_app (goodIn_of _ (by decide +kernel)) ggX6_which_X6_tellTables
theorem dX6_which_0 : decode cX6_which 0 = .ok (.aload_n 0, 1) := by decide +kernel
theorem dX6_which_1 : decode cX6_which 1 = .ok (.iload_n 1, 1) := by decide +kernel
theorem dX6_which_2 : decode cX6_which 2 = .ok (.iconst 1, 1) := by decide +kernel
theorem dX6_which_3 : decode cX6_which 3 = .ok (.invokevirtual 186, 3) := by decide +kernel
theorem dX6_which_6 : decode cX6_which 6 = .ok (.ireturn, 1) := by decide +kernel
set_option maxRecDepth 20000 in
theorem ggX6_listen_X6_isHeard : GoodIn wsX6_listen wsX6_isHeard := goodIn_r _ [7, 8, 9, 10, 11, 12, 13, 6, 14, 2, 15, 16, 17, 18, 19, 20, 21, 22, 23, 24, 25, 26, 27, 28, 29, 30, 31, 32, 33, 34, 35, 36, 37, 38, 39, 40, 41, 42, 43, 44, 45, 46, 47, 48, 49, 50, 51, 52, 53, 54, 55, 56, 57, 58, 59, 60, 61, 62, 63, 64, 65, 66, 67, 68, 69, 70, 71] (by decide +kernel) (by decide +kernel)
set_option maxRecDepth 20000 in
theorem gX6_listen_X6_isHeard : GoodIn wsX6_listen (wsV RX6 183 RX6 yX6_isHeard wsX6_isHeard) := goodIn_app (goodIn_of _ (by decide +kernel)) ggX6_listen_X6_isHeard
set_option maxRecDepth 20000 in
theorem ggX6_listen_X6_shareBy : GoodIn wsX6_listen wsX6_shareBy := goodIn_r _ [14, 2, 15, 16, 17, 6, 18, 19, 20, 21, 22, 23, 24, 25, 26, 27, 28, 57, 58, 59, 60, 61, 62, 63, 64, 65, 66, 67, 68, 69, 70, 71] (by decide +kernel) (by decide +kernel)
set_option maxRecDepth 20000 in
theorem gX6_listen_X6_shareBy : GoodIn wsX6_listen (wsV RX6 174 RX6 yX6_shareBy wsX6_shareBy) := goodIn_app (goodIn_of _ (by decide +kernel)) ggX6_listen_X6_shareBy
set_option maxRecDepth 20000 in
theorem ggX6_listen_X6_isNote : GoodIn wsX6_listen wsX6_isNote := goodIn_r _ [18, 2, 19, 20, 21, 6, 22, 23, 24, 25, 57, 58, 59, 60, 61, 62, 63, 64, 65, 66, 67, 68, 69, 70, 71] (by decide +kernel) (by decide +kernel)
set_option maxRecDepth 20000 in
theorem gX6_listen_X6_isNote : GoodIn wsX6_listen (wsV RX6 110 RX6 yX6_isNote wsX6_isNote) := goodIn_app (goodIn_of _ (by decide +kernel)) ggX6_listen_X6_isNote
theorem dX6_listen_0 : decode cX6_listen 0 = .ok (.iconst 0, 1) := by decide +kernel
theorem dX6_listen_1 : decode cX6_listen 1 = .ok (.istore_n 1, 1) := by decide +kernel
theorem dX6_listen_2 : decode cX6_listen 2 = .ok (.iconst 0, 1) := by decide +kernel
theorem dX6_listen_3 : decode cX6_listen 3 = .ok (.istore_n 2, 1) := by decide +kernel
theorem dX6_listen_4 : decode cX6_listen 4 = .ok (.iload_n 2, 1) := by decide +kernel
theorem dX6_listen_5 : decode cX6_listen 5 = .ok (.bipush 12, 2) := by decide +kernel
theorem dX6_listen_7 : decode cX6_listen 7 = .ok (.if_icmp .ge 16, 3) := by decide +kernel
theorem dX6_listen_10 : decode cX6_listen 10 = .ok (.aload_n 0, 1) := by decide +kernel
theorem dX6_listen_11 : decode cX6_listen 11 = .ok (.getfield 35, 3) := by decide +kernel
theorem dX6_listen_14 : decode cX6_listen 14 = .ok (.iload_n 2, 1) := by decide +kernel
theorem dX6_listen_15 : decode cX6_listen 15 = .ok (.iconst 0, 1) := by decide +kernel
theorem dX6_listen_16 : decode cX6_listen 16 = .ok (.iastore, 1) := by decide +kernel
theorem dX6_listen_17 : decode cX6_listen 17 = .ok (.iinc 2 1, 3) := by decide +kernel
theorem dX6_listen_20 : decode cX6_listen 20 = .ok (.goto (-16), 3) := by decide +kernel
theorem dX6_listen_23 : decode cX6_listen 23 = .ok (.iconst 0, 1) := by decide +kernel
theorem dX6_listen_24 : decode cX6_listen 24 = .ok (.istore_n 2, 1) := by decide +kernel
theorem dX6_listen_25 : decode cX6_listen 25 = .ok (.iload_n 2, 1) := by decide +kernel
theorem dX6_listen_26 : decode cX6_listen 26 = .ok (.sipush 128, 3) := by decide +kernel
theorem dX6_listen_29 : decode cX6_listen 29 = .ok (.if_icmp .ge 58, 3) := by decide +kernel
theorem dX6_listen_32 : decode cX6_listen 32 = .ok (.aload_n 0, 1) := by decide +kernel
theorem dX6_listen_33 : decode cX6_listen 33 = .ok (.iload_n 2, 1) := by decide +kernel
theorem dX6_listen_34 : decode cX6_listen 34 = .ok (.invokevirtual 183, 3) := by decide +kernel
theorem dX6_listen_37 : decode cX6_listen 37 = .ok (.ifCond .eq 44, 3) := by decide +kernel
theorem dX6_listen_40 : decode cX6_listen 40 = .ok (.iinc 1 1, 3) := by decide +kernel
theorem dX6_listen_43 : decode cX6_listen 43 = .ok (.aload_n 0, 1) := by decide +kernel
theorem dX6_listen_44 : decode cX6_listen 44 = .ok (.iload_n 2, 1) := by decide +kernel
theorem dX6_listen_45 : decode cX6_listen 45 = .ok (.invokevirtual 174, 3) := by decide +kernel
theorem dX6_listen_48 : decode cX6_listen 48 = .ok (.istore_n 3, 1) := by decide +kernel
theorem dX6_listen_49 : decode cX6_listen 49 = .ok (.iconst 0, 1) := by decide +kernel
theorem dX6_listen_50 : decode cX6_listen 50 = .ok (.istore 4, 2) := by decide +kernel
theorem dX6_listen_52 : decode cX6_listen 52 = .ok (.iload 4, 2) := by decide +kernel
theorem dX6_listen_54 : decode cX6_listen 54 = .ok (.bipush 12, 2) := by decide +kernel
theorem dX6_listen_56 : decode cX6_listen 56 = .ok (.if_icmp .ge 25, 3) := by decide +kernel
theorem dX6_listen_59 : decode cX6_listen 59 = .ok (.aload_n 0, 1) := by decide +kernel
theorem dX6_listen_60 : decode cX6_listen 60 = .ok (.getfield 35, 3) := by decide +kernel
theorem dX6_listen_63 : decode cX6_listen 63 = .ok (.iload 4, 2) := by decide +kernel
theorem dX6_listen_65 : decode cX6_listen 65 = .ok (.dup2, 1) := by decide +kernel
theorem dX6_listen_66 : decode cX6_listen 66 = .ok (.iaload, 1) := by decide +kernel
theorem dX6_listen_67 : decode cX6_listen 67 = .ok (.iload_n 3, 1) := by decide +kernel
theorem dX6_listen_68 : decode cX6_listen 68 = .ok (.iload 4, 2) := by decide +kernel
theorem dX6_listen_70 : decode cX6_listen 70 = .ok (.ishr, 1) := by decide +kernel
theorem dX6_listen_71 : decode cX6_listen 71 = .ok (.iconst 1, 1) := by decide +kernel
theorem dX6_listen_72 : decode cX6_listen 72 = .ok (.iand, 1) := by decide +kernel
theorem dX6_listen_73 : decode cX6_listen 73 = .ok (.iadd, 1) := by decide +kernel
theorem dX6_listen_74 : decode cX6_listen 74 = .ok (.iastore, 1) := by decide +kernel
theorem dX6_listen_75 : decode cX6_listen 75 = .ok (.iinc 4 1, 3) := by decide +kernel
theorem dX6_listen_78 : decode cX6_listen 78 = .ok (.goto (-26), 3) := by decide +kernel
theorem dX6_listen_81 : decode cX6_listen 81 = .ok (.iinc 2 1, 3) := by decide +kernel
theorem dX6_listen_84 : decode cX6_listen 84 = .ok (.goto (-59), 3) := by decide +kernel
theorem dX6_listen_87 : decode cX6_listen 87 = .ok (.bipush (-9), 2) := by decide +kernel
theorem dX6_listen_89 : decode cX6_listen 89 = .ok (.istore_n 2, 1) := by decide +kernel
theorem dX6_listen_90 : decode cX6_listen 90 = .ok (.iload_n 1, 1) := by decide +kernel
theorem dX6_listen_91 : decode cX6_listen 91 = .ok (.istore_n 3, 1) := by decide +kernel
theorem dX6_listen_92 : decode cX6_listen 92 = .ok (.aload_n 0, 1) := by decide +kernel
theorem dX6_listen_93 : decode cX6_listen 93 = .ok (.getfield 7, 3) := by decide +kernel
theorem dX6_listen_96 : decode cX6_listen 96 = .ok (.iconst 0, 1) := by decide +kernel
theorem dX6_listen_97 : decode cX6_listen 97 = .ok (.iaload, 1) := by decide +kernel
theorem dX6_listen_98 : decode cX6_listen 98 = .ok (.iconst 1, 1) := by decide +kernel
theorem dX6_listen_99 : decode cX6_listen 99 = .ok (.isub, 1) := by decide +kernel
theorem dX6_listen_100 : decode cX6_listen 100 = .ok (.istore 4, 2) := by decide +kernel
theorem dX6_listen_102 : decode cX6_listen 102 = .ok (.iload 4, 2) := by decide +kernel
theorem dX6_listen_104 : decode cX6_listen 104 = .ok (.ifCond .lt 95, 3) := by decide +kernel
theorem dX6_listen_107 : decode cX6_listen 107 = .ok (.aload_n 0, 1) := by decide +kernel
theorem dX6_listen_108 : decode cX6_listen 108 = .ok (.getfield 35, 3) := by decide +kernel
theorem dX6_listen_111 : decode cX6_listen 111 = .ok (.iload 4, 2) := by decide +kernel
theorem dX6_listen_113 : decode cX6_listen 113 = .ok (.iaload, 1) := by decide +kernel
theorem dX6_listen_114 : decode cX6_listen 114 = .ok (.iload_n 1, 1) := by decide +kernel
theorem dX6_listen_115 : decode cX6_listen 115 = .ok (.aload_n 0, 1) := by decide +kernel
theorem dX6_listen_116 : decode cX6_listen 116 = .ok (.getfield 35, 3) := by decide +kernel
theorem dX6_listen_119 : decode cX6_listen 119 = .ok (.iload 4, 2) := by decide +kernel
theorem dX6_listen_121 : decode cX6_listen 121 = .ok (.iaload, 1) := by decide +kernel
theorem dX6_listen_122 : decode cX6_listen 122 = .ok (.isub, 1) := by decide +kernel
theorem dX6_listen_123 : decode cX6_listen 123 = .ok (.if_icmp .le 13, 3) := by decide +kernel
theorem dX6_listen_126 : decode cX6_listen 126 = .ok (.aload_n 0, 1) := by decide +kernel
theorem dX6_listen_127 : decode cX6_listen 127 = .ok (.getfield 35, 3) := by decide +kernel
theorem dX6_listen_130 : decode cX6_listen 130 = .ok (.iload 4, 2) := by decide +kernel
theorem dX6_listen_132 : decode cX6_listen 132 = .ok (.iaload, 1) := by decide +kernel
theorem dX6_listen_133 : decode cX6_listen 133 = .ok (.goto 12, 3) := by decide +kernel
theorem dX6_listen_136 : decode cX6_listen 136 = .ok (.iload_n 1, 1) := by decide +kernel
theorem dX6_listen_137 : decode cX6_listen 137 = .ok (.aload_n 0, 1) := by decide +kernel
theorem dX6_listen_138 : decode cX6_listen 138 = .ok (.getfield 35, 3) := by decide +kernel
theorem dX6_listen_141 : decode cX6_listen 141 = .ok (.iload 4, 2) := by decide +kernel
theorem dX6_listen_143 : decode cX6_listen 143 = .ok (.iaload, 1) := by decide +kernel
theorem dX6_listen_144 : decode cX6_listen 144 = .ok (.isub, 1) := by decide +kernel
theorem dX6_listen_145 : decode cX6_listen 145 = .ok (.istore 5, 2) := by decide +kernel
theorem dX6_listen_147 : decode cX6_listen 147 = .ok (.aload_n 0, 1) := by decide +kernel
theorem dX6_listen_148 : decode cX6_listen 148 = .ok (.iload 4, 2) := by decide +kernel
theorem dX6_listen_150 : decode cX6_listen 150 = .ok (.invokevirtual 110, 3) := by decide +kernel
theorem dX6_listen_153 : decode cX6_listen 153 = .ok (.ifCond .eq 13, 3) := by decide +kernel
theorem dX6_listen_156 : decode cX6_listen 156 = .ok (.iload 5, 2) := by decide +kernel
theorem dX6_listen_158 : decode cX6_listen 158 = .ok (.iload_n 3, 1) := by decide +kernel
theorem dX6_listen_159 : decode cX6_listen 159 = .ok (.if_icmp .gt 7, 3) := by decide +kernel
theorem dX6_listen_162 : decode cX6_listen 162 = .ok (.iconst 1, 1) := by decide +kernel
theorem dX6_listen_163 : decode cX6_listen 163 = .ok (.goto 4, 3) := by decide +kernel
theorem dX6_listen_166 : decode cX6_listen 166 = .ok (.iconst 0, 1) := by decide +kernel
theorem dX6_listen_167 : decode cX6_listen 167 = .ok (.istore 6, 2) := by decide +kernel
theorem dX6_listen_169 : decode cX6_listen 169 = .ok (.iload 6, 2) := by decide +kernel
theorem dX6_listen_171 : decode cX6_listen 171 = .ok (.ifCond .eq 8, 3) := by decide +kernel
theorem dX6_listen_174 : decode cX6_listen 174 = .ok (.iload 4, 2) := by decide +kernel
theorem dX6_listen_176 : decode cX6_listen 176 = .ok (.goto 4, 3) := by decide +kernel
theorem dX6_listen_179 : decode cX6_listen 179 = .ok (.iload_n 2, 1) := by decide +kernel
theorem dX6_listen_180 : decode cX6_listen 180 = .ok (.istore_n 2, 1) := by decide +kernel
theorem dX6_listen_181 : decode cX6_listen 181 = .ok (.iload 6, 2) := by decide +kernel
theorem dX6_listen_183 : decode cX6_listen 183 = .ok (.ifCond .eq 8, 3) := by decide +kernel
theorem dX6_listen_186 : decode cX6_listen 186 = .ok (.iload 5, 2) := by decide +kernel
theorem dX6_listen_188 : decode cX6_listen 188 = .ok (.goto 4, 3) := by decide +kernel
theorem dX6_listen_191 : decode cX6_listen 191 = .ok (.iload_n 3, 1) := by decide +kernel
theorem dX6_listen_192 : decode cX6_listen 192 = .ok (.istore_n 3, 1) := by decide +kernel
theorem dX6_listen_193 : decode cX6_listen 193 = .ok (.iinc 4 (-1), 3) := by decide +kernel
theorem dX6_listen_196 : decode cX6_listen 196 = .ok (.goto (-94), 3) := by decide +kernel
theorem dX6_listen_199 : decode cX6_listen 199 = .ok (.iload_n 1, 1) := by decide +kernel
theorem dX6_listen_200 : decode cX6_listen 200 = .ok (.iconst 1, 1) := by decide +kernel
theorem dX6_listen_201 : decode cX6_listen 201 = .ok (.if_icmp .le 7, 3) := by decide +kernel
theorem dX6_listen_204 : decode cX6_listen 204 = .ok (.iload_n 2, 1) := by decide +kernel
theorem dX6_listen_205 : decode cX6_listen 205 = .ok (.goto 5, 3) := by decide +kernel
theorem dX6_listen_208 : decode cX6_listen 208 = .ok (.bipush (-9), 2) := by decide +kernel
theorem dX6_listen_210 : decode cX6_listen 210 = .ok (.ireturn, 1) := by decide +kernel
set_option maxRecDepth 20000 in
theorem ggX6_keep_X6_within : GoodIn wsX6_keep wsX6_within := goodIn_r _ [7] (by decide +kernel) (by decide +kernel)
set_option maxRecDepth 20000 in
theorem gX6_keep_X6_within : GoodIn wsX6_keep (va_wsS RX6 52 yX6_within wsX6_within) := goodIn_app (goodIn_of _ (by decide +kernel)) ggX6_keep_X6_within
theorem dX6_keep_0 : decode cX6_keep 0 = .ok (.iload_n 1, 1) := by decide +kernel
theorem dX6_keep_1 : decode cX6_keep 1 = .ok (.iconst 0, 1) := by decide +kernel
theorem dX6_keep_2 : decode cX6_keep 2 = .ok (.iconst 1, 1) := by decide +kernel
theorem dX6_keep_3 : decode cX6_keep 3 = .ok (.invokestatic 52, 3) := by decide +kernel
theorem dX6_keep_6 : decode cX6_keep 6 = .ok (.ifCond .ne 5, 3) := by decide +kernel
theorem dX6_keep_9 : decode cX6_keep 9 = .ok (.iconst (-1), 1) := by decide +kernel
theorem dX6_keep_10 : decode cX6_keep 10 = .ok (.ireturn, 1) := by decide +kernel
theorem dX6_keep_11 : decode cX6_keep 11 = .ok (.iconst 0, 1) := by decide +kernel
theorem dX6_keep_12 : decode cX6_keep 12 = .ok (.istore_n 2, 1) := by decide +kernel
theorem dX6_keep_13 : decode cX6_keep 13 = .ok (.iload_n 2, 1) := by decide +kernel
theorem dX6_keep_14 : decode cX6_keep 14 = .ok (.bipush 17, 2) := by decide +kernel
theorem dX6_keep_16 : decode cX6_keep 16 = .ok (.if_icmp .ge 26, 3) := by decide +kernel
theorem dX6_keep_19 : decode cX6_keep 19 = .ok (.aload_n 0, 1) := by decide +kernel
theorem dX6_keep_20 : decode cX6_keep 20 = .ok (.getfield 19, 3) := by decide +kernel
theorem dX6_keep_23 : decode cX6_keep 23 = .ok (.bipush 17, 2) := by decide +kernel
theorem dX6_keep_25 : decode cX6_keep 25 = .ok (.iload_n 1, 1) := by decide +kernel
theorem dX6_keep_26 : decode cX6_keep 26 = .ok (.imul, 1) := by decide +kernel
theorem dX6_keep_27 : decode cX6_keep 27 = .ok (.iload_n 2, 1) := by decide +kernel
theorem dX6_keep_28 : decode cX6_keep 28 = .ok (.iadd, 1) := by decide +kernel
theorem dX6_keep_29 : decode cX6_keep 29 = .ok (.aload_n 0, 1) := by decide +kernel
theorem dX6_keep_30 : decode cX6_keep 30 = .ok (.getfield 7, 3) := by decide +kernel
theorem dX6_keep_33 : decode cX6_keep 33 = .ok (.iload_n 2, 1) := by decide +kernel
theorem dX6_keep_34 : decode cX6_keep 34 = .ok (.iaload, 1) := by decide +kernel
theorem dX6_keep_35 : decode cX6_keep 35 = .ok (.iastore, 1) := by decide +kernel
theorem dX6_keep_36 : decode cX6_keep 36 = .ok (.iinc 2 1, 3) := by decide +kernel
theorem dX6_keep_39 : decode cX6_keep 39 = .ok (.goto (-26), 3) := by decide +kernel
theorem dX6_keep_42 : decode cX6_keep 42 = .ok (.aload_n 0, 1) := by decide +kernel
theorem dX6_keep_43 : decode cX6_keep 43 = .ok (.getfield 22, 3) := by decide +kernel
theorem dX6_keep_46 : decode cX6_keep 46 = .ok (.iload_n 1, 1) := by decide +kernel
theorem dX6_keep_47 : decode cX6_keep 47 = .ok (.iconst 1, 1) := by decide +kernel
theorem dX6_keep_48 : decode cX6_keep 48 = .ok (.bastore, 1) := by decide +kernel
theorem dX6_keep_49 : decode cX6_keep 49 = .ok (.aload_n 0, 1) := by decide +kernel
theorem dX6_keep_50 : decode cX6_keep 50 = .ok (.getfield 7, 3) := by decide +kernel
theorem dX6_keep_53 : decode cX6_keep 53 = .ok (.iconst 0, 1) := by decide +kernel
theorem dX6_keep_54 : decode cX6_keep 54 = .ok (.iaload, 1) := by decide +kernel
theorem dX6_keep_55 : decode cX6_keep 55 = .ok (.ireturn, 1) := by decide +kernel
set_option maxRecDepth 20000 in
theorem ggX6_back_X6_within : GoodIn wsX6_back wsX6_within := goodIn_r _ [8] (by decide +kernel) (by decide +kernel)
set_option maxRecDepth 20000 in
theorem gX6_back_X6_within : GoodIn wsX6_back (va_wsS RX6 52 yX6_within wsX6_within) := goodIn_app (goodIn_of _ (by decide +kernel)) ggX6_back_X6_within
theorem dX6_back_0 : decode cX6_back 0 = .ok (.iload_n 1, 1) := by decide +kernel
theorem dX6_back_1 : decode cX6_back 1 = .ok (.iconst 0, 1) := by decide +kernel
theorem dX6_back_2 : decode cX6_back 2 = .ok (.iconst 1, 1) := by decide +kernel
theorem dX6_back_3 : decode cX6_back 3 = .ok (.invokestatic 52, 3) := by decide +kernel
theorem dX6_back_6 : decode cX6_back 6 = .ok (.ifCond .ne 5, 3) := by decide +kernel
theorem dX6_back_9 : decode cX6_back 9 = .ok (.iconst (-1), 1) := by decide +kernel
theorem dX6_back_10 : decode cX6_back 10 = .ok (.ireturn, 1) := by decide +kernel
theorem dX6_back_11 : decode cX6_back 11 = .ok (.aload_n 0, 1) := by decide +kernel
theorem dX6_back_12 : decode cX6_back 12 = .ok (.getfield 22, 3) := by decide +kernel
theorem dX6_back_15 : decode cX6_back 15 = .ok (.iload_n 1, 1) := by decide +kernel
theorem dX6_back_16 : decode cX6_back 16 = .ok (.baload, 1) := by decide +kernel
theorem dX6_back_17 : decode cX6_back 17 = .ok (.ifCond .ne 6, 3) := by decide +kernel
theorem dX6_back_20 : decode cX6_back 20 = .ok (.bipush (-2), 2) := by decide +kernel
theorem dX6_back_22 : decode cX6_back 22 = .ok (.ireturn, 1) := by decide +kernel
theorem dX6_back_23 : decode cX6_back 23 = .ok (.iconst 0, 1) := by decide +kernel
theorem dX6_back_24 : decode cX6_back 24 = .ok (.istore_n 2, 1) := by decide +kernel
theorem dX6_back_25 : decode cX6_back 25 = .ok (.iload_n 2, 1) := by decide +kernel
theorem dX6_back_26 : decode cX6_back 26 = .ok (.bipush 17, 2) := by decide +kernel
theorem dX6_back_28 : decode cX6_back 28 = .ok (.if_icmp .ge 26, 3) := by decide +kernel
theorem dX6_back_31 : decode cX6_back 31 = .ok (.aload_n 0, 1) := by decide +kernel
theorem dX6_back_32 : decode cX6_back 32 = .ok (.getfield 7, 3) := by decide +kernel
theorem dX6_back_35 : decode cX6_back 35 = .ok (.iload_n 2, 1) := by decide +kernel
theorem dX6_back_36 : decode cX6_back 36 = .ok (.aload_n 0, 1) := by decide +kernel
theorem dX6_back_37 : decode cX6_back 37 = .ok (.getfield 19, 3) := by decide +kernel
theorem dX6_back_40 : decode cX6_back 40 = .ok (.bipush 17, 2) := by decide +kernel
theorem dX6_back_42 : decode cX6_back 42 = .ok (.iload_n 1, 1) := by decide +kernel
theorem dX6_back_43 : decode cX6_back 43 = .ok (.imul, 1) := by decide +kernel
theorem dX6_back_44 : decode cX6_back 44 = .ok (.iload_n 2, 1) := by decide +kernel
theorem dX6_back_45 : decode cX6_back 45 = .ok (.iadd, 1) := by decide +kernel
theorem dX6_back_46 : decode cX6_back 46 = .ok (.iaload, 1) := by decide +kernel
theorem dX6_back_47 : decode cX6_back 47 = .ok (.iastore, 1) := by decide +kernel
theorem dX6_back_48 : decode cX6_back 48 = .ok (.iinc 2 1, 3) := by decide +kernel
theorem dX6_back_51 : decode cX6_back 51 = .ok (.goto (-26), 3) := by decide +kernel
theorem dX6_back_54 : decode cX6_back 54 = .ok (.aload_n 0, 1) := by decide +kernel
theorem dX6_back_55 : decode cX6_back 55 = .ok (.iconst 0, 1) := by decide +kernel
theorem dX6_back_56 : decode cX6_back 56 = .ok (.putfield 98, 3) := by decide +kernel
theorem dX6_back_59 : decode cX6_back 59 = .ok (.aload_n 0, 1) := by decide +kernel
theorem dX6_back_60 : decode cX6_back 60 = .ok (.getfield 7, 3) := by decide +kernel
theorem dX6_back_63 : decode cX6_back 63 = .ok (.iconst 0, 1) := by decide +kernel
theorem dX6_back_64 : decode cX6_back 64 = .ok (.iaload, 1) := by decide +kernel
theorem dX6_back_65 : decode cX6_back 65 = .ok (.ireturn, 1) := by decide +kernel
set_option maxRecDepth 20000 in
theorem ggX6_count_X6_notes : GoodIn wsX6_count wsX6_notes := goodIn_r _ [9, 1, 10, 11, 12, 8, 13, 14, 15, 16, 17, 18, 19, 20, 21, 22, 23, 24, 25, 26, 27, 28, 29, 30, 31, 32, 33, 34, 35] (by decide +kernel) (by decide +kernel)
set_option maxRecDepth 20000 in
theorem gX6_count_X6_notes : GoodIn wsX6_count (wsV RX6 135 RX6 yX6_notes wsX6_notes) := goodIn_app (goodIn_of _ (by decide +kernel)) ggX6_count_X6_notes
theorem dX6_count_0 : decode cX6_count 0 = .ok (.iload_n 1, 1) := by decide +kernel
theorem dX6_count_1 : decode cX6_count 1 = .ok (.tableswitch 95 0 7 #[47, 54, 59, 66, 73, 80, 85, 90], 47) := by decide +kernel
theorem dX6_count_48 : decode cX6_count 48 = .ok (.aload_n 0, 1) := by decide +kernel
theorem dX6_count_49 : decode cX6_count 49 = .ok (.getfield 7, 3) := by decide +kernel
theorem dX6_count_52 : decode cX6_count 52 = .ok (.iconst 0, 1) := by decide +kernel
theorem dX6_count_53 : decode cX6_count 53 = .ok (.iaload, 1) := by decide +kernel
theorem dX6_count_54 : decode cX6_count 54 = .ok (.ireturn, 1) := by decide +kernel
theorem dX6_count_55 : decode cX6_count 55 = .ok (.aload_n 0, 1) := by decide +kernel
theorem dX6_count_56 : decode cX6_count 56 = .ok (.invokevirtual 135, 3) := by decide +kernel
theorem dX6_count_59 : decode cX6_count 59 = .ok (.ireturn, 1) := by decide +kernel
theorem dX6_count_60 : decode cX6_count 60 = .ok (.aload_n 0, 1) := by decide +kernel
theorem dX6_count_61 : decode cX6_count 61 = .ok (.getfield 7, 3) := by decide +kernel
theorem dX6_count_64 : decode cX6_count 64 = .ok (.iconst 1, 1) := by decide +kernel
theorem dX6_count_65 : decode cX6_count 65 = .ok (.iaload, 1) := by decide +kernel
theorem dX6_count_66 : decode cX6_count 66 = .ok (.ireturn, 1) := by decide +kernel
theorem dX6_count_67 : decode cX6_count 67 = .ok (.aload_n 0, 1) := by decide +kernel
theorem dX6_count_68 : decode cX6_count 68 = .ok (.getfield 7, 3) := by decide +kernel
theorem dX6_count_71 : decode cX6_count 71 = .ok (.iconst 2, 1) := by decide +kernel
theorem dX6_count_72 : decode cX6_count 72 = .ok (.iaload, 1) := by decide +kernel
theorem dX6_count_73 : decode cX6_count 73 = .ok (.ireturn, 1) := by decide +kernel
theorem dX6_count_74 : decode cX6_count 74 = .ok (.aload_n 0, 1) := by decide +kernel
theorem dX6_count_75 : decode cX6_count 75 = .ok (.getfield 7, 3) := by decide +kernel
theorem dX6_count_78 : decode cX6_count 78 = .ok (.iconst 3, 1) := by decide +kernel
theorem dX6_count_79 : decode cX6_count 79 = .ok (.iaload, 1) := by decide +kernel
theorem dX6_count_80 : decode cX6_count 80 = .ok (.ireturn, 1) := by decide +kernel
theorem dX6_count_81 : decode cX6_count 81 = .ok (.aload_n 0, 1) := by decide +kernel
theorem dX6_count_82 : decode cX6_count 82 = .ok (.getfield 180, 3) := by decide +kernel
theorem dX6_count_85 : decode cX6_count 85 = .ok (.ireturn, 1) := by decide +kernel
theorem dX6_count_86 : decode cX6_count 86 = .ok (.aload_n 0, 1) := by decide +kernel
theorem dX6_count_87 : decode cX6_count 87 = .ok (.getfield 46, 3) := by decide +kernel
theorem dX6_count_90 : decode cX6_count 90 = .ok (.ireturn, 1) := by decide +kernel
theorem dX6_count_91 : decode cX6_count 91 = .ok (.aload_n 0, 1) := by decide +kernel
theorem dX6_count_92 : decode cX6_count 92 = .ok (.getfield 98, 3) := by decide +kernel
theorem dX6_count_95 : decode cX6_count 95 = .ok (.ireturn, 1) := by decide +kernel
theorem dX6_count_96 : decode cX6_count 96 = .ok (.iconst (-1), 1) := by decide +kernel
theorem dX6_count_97 : decode cX6_count 97 = .ok (.ireturn, 1) := by decide +kernel
theorem dJ6_bitCount_0f7a4_0 : decode cJ6_bitCount_0f7a4 0 = .ok (.iload_n 0, 1) := by decide +kernel
theorem dJ6_bitCount_0f7a4_1 : decode cJ6_bitCount_0f7a4 1 = .ok (.iload_n 0, 1) := by decide +kernel
theorem dJ6_bitCount_0f7a4_2 : decode cJ6_bitCount_0f7a4 2 = .ok (.iconst 1, 1) := by decide +kernel
theorem dJ6_bitCount_0f7a4_3 : decode cJ6_bitCount_0f7a4 3 = .ok (.iushr, 1) := by decide +kernel
theorem dJ6_bitCount_0f7a4_4 : decode cJ6_bitCount_0f7a4 4 = .ok (.ldc_w 265, 3) := by decide +kernel
theorem dJ6_bitCount_0f7a4_7 : decode cJ6_bitCount_0f7a4 7 = .ok (.iand, 1) := by decide +kernel
theorem dJ6_bitCount_0f7a4_8 : decode cJ6_bitCount_0f7a4 8 = .ok (.isub, 1) := by decide +kernel
theorem dJ6_bitCount_0f7a4_9 : decode cJ6_bitCount_0f7a4 9 = .ok (.istore_n 0, 1) := by decide +kernel
theorem dJ6_bitCount_0f7a4_10 : decode cJ6_bitCount_0f7a4 10 = .ok (.iload_n 0, 1) := by decide +kernel
theorem dJ6_bitCount_0f7a4_11 : decode cJ6_bitCount_0f7a4 11 = .ok (.ldc_w 266, 3) := by decide +kernel
theorem dJ6_bitCount_0f7a4_14 : decode cJ6_bitCount_0f7a4 14 = .ok (.iand, 1) := by decide +kernel
theorem dJ6_bitCount_0f7a4_15 : decode cJ6_bitCount_0f7a4 15 = .ok (.iload_n 0, 1) := by decide +kernel
theorem dJ6_bitCount_0f7a4_16 : decode cJ6_bitCount_0f7a4 16 = .ok (.iconst 2, 1) := by decide +kernel
theorem dJ6_bitCount_0f7a4_17 : decode cJ6_bitCount_0f7a4 17 = .ok (.iushr, 1) := by decide +kernel
theorem dJ6_bitCount_0f7a4_18 : decode cJ6_bitCount_0f7a4 18 = .ok (.ldc_w 266, 3) := by decide +kernel
theorem dJ6_bitCount_0f7a4_21 : decode cJ6_bitCount_0f7a4 21 = .ok (.iand, 1) := by decide +kernel
theorem dJ6_bitCount_0f7a4_22 : decode cJ6_bitCount_0f7a4 22 = .ok (.iadd, 1) := by decide +kernel
theorem dJ6_bitCount_0f7a4_23 : decode cJ6_bitCount_0f7a4 23 = .ok (.istore_n 0, 1) := by decide +kernel
theorem dJ6_bitCount_0f7a4_24 : decode cJ6_bitCount_0f7a4 24 = .ok (.iload_n 0, 1) := by decide +kernel
theorem dJ6_bitCount_0f7a4_25 : decode cJ6_bitCount_0f7a4 25 = .ok (.iload_n 0, 1) := by decide +kernel
theorem dJ6_bitCount_0f7a4_26 : decode cJ6_bitCount_0f7a4 26 = .ok (.iconst 4, 1) := by decide +kernel
theorem dJ6_bitCount_0f7a4_27 : decode cJ6_bitCount_0f7a4 27 = .ok (.iushr, 1) := by decide +kernel
theorem dJ6_bitCount_0f7a4_28 : decode cJ6_bitCount_0f7a4 28 = .ok (.iadd, 1) := by decide +kernel
theorem dJ6_bitCount_0f7a4_29 : decode cJ6_bitCount_0f7a4 29 = .ok (.ldc_w 267, 3) := by decide +kernel
theorem dJ6_bitCount_0f7a4_32 : decode cJ6_bitCount_0f7a4 32 = .ok (.iand, 1) := by decide +kernel
theorem dJ6_bitCount_0f7a4_33 : decode cJ6_bitCount_0f7a4 33 = .ok (.istore_n 0, 1) := by decide +kernel
theorem dJ6_bitCount_0f7a4_34 : decode cJ6_bitCount_0f7a4 34 = .ok (.iload_n 0, 1) := by decide +kernel
theorem dJ6_bitCount_0f7a4_35 : decode cJ6_bitCount_0f7a4 35 = .ok (.iload_n 0, 1) := by decide +kernel
theorem dJ6_bitCount_0f7a4_36 : decode cJ6_bitCount_0f7a4 36 = .ok (.bipush 8, 2) := by decide +kernel
theorem dJ6_bitCount_0f7a4_38 : decode cJ6_bitCount_0f7a4 38 = .ok (.iushr, 1) := by decide +kernel
theorem dJ6_bitCount_0f7a4_39 : decode cJ6_bitCount_0f7a4 39 = .ok (.iadd, 1) := by decide +kernel
theorem dJ6_bitCount_0f7a4_40 : decode cJ6_bitCount_0f7a4 40 = .ok (.istore_n 0, 1) := by decide +kernel
theorem dJ6_bitCount_0f7a4_41 : decode cJ6_bitCount_0f7a4 41 = .ok (.iload_n 0, 1) := by decide +kernel
theorem dJ6_bitCount_0f7a4_42 : decode cJ6_bitCount_0f7a4 42 = .ok (.iload_n 0, 1) := by decide +kernel
theorem dJ6_bitCount_0f7a4_43 : decode cJ6_bitCount_0f7a4 43 = .ok (.bipush 16, 2) := by decide +kernel
theorem dJ6_bitCount_0f7a4_45 : decode cJ6_bitCount_0f7a4 45 = .ok (.iushr, 1) := by decide +kernel
theorem dJ6_bitCount_0f7a4_46 : decode cJ6_bitCount_0f7a4 46 = .ok (.iadd, 1) := by decide +kernel
theorem dJ6_bitCount_0f7a4_47 : decode cJ6_bitCount_0f7a4 47 = .ok (.istore_n 0, 1) := by decide +kernel
theorem dJ6_bitCount_0f7a4_48 : decode cJ6_bitCount_0f7a4 48 = .ok (.iload_n 0, 1) := by decide +kernel
theorem dJ6_bitCount_0f7a4_49 : decode cJ6_bitCount_0f7a4 49 = .ok (.bipush 63, 2) := by decide +kernel
theorem dJ6_bitCount_0f7a4_51 : decode cJ6_bitCount_0f7a4 51 = .ok (.iand, 1) := by decide +kernel
theorem dJ6_bitCount_0f7a4_52 : decode cJ6_bitCount_0f7a4 52 = .ok (.ireturn, 1) := by decide +kernel
theorem dJ9_abs_0f7a4_0 : decode cJ9_abs_0f7a4 0 = .ok (.iload_n 0, 1) := by decide +kernel
theorem dJ9_abs_0f7a4_1 : decode cJ9_abs_0f7a4 1 = .ok (.ifCond .ge 8, 3) := by decide +kernel
theorem dJ9_abs_0f7a4_4 : decode cJ9_abs_0f7a4 4 = .ok (.iload_n 0, 1) := by decide +kernel
theorem dJ9_abs_0f7a4_5 : decode cJ9_abs_0f7a4 5 = .ok (.ineg, 1) := by decide +kernel
theorem dJ9_abs_0f7a4_6 : decode cJ9_abs_0f7a4 6 = .ok (.goto 4, 3) := by decide +kernel
theorem dJ9_abs_0f7a4_9 : decode cJ9_abs_0f7a4 9 = .ok (.iload_n 0, 1) := by decide +kernel
theorem dJ9_abs_0f7a4_10 : decode cJ9_abs_0f7a4 10 = .ok (.ireturn, 1) := by decide +kernel
theorem dJ9_max_7cf53_0 : decode cJ9_max_7cf53 0 = .ok (.iload_n 0, 1) := by decide +kernel
theorem dJ9_max_7cf53_1 : decode cJ9_max_7cf53 1 = .ok (.iload_n 1, 1) := by decide +kernel
theorem dJ9_max_7cf53_2 : decode cJ9_max_7cf53 2 = .ok (.if_icmp .lt 7, 3) := by decide +kernel
theorem dJ9_max_7cf53_5 : decode cJ9_max_7cf53 5 = .ok (.iload_n 0, 1) := by decide +kernel
theorem dJ9_max_7cf53_6 : decode cJ9_max_7cf53 6 = .ok (.goto 4, 3) := by decide +kernel
theorem dJ9_max_7cf53_9 : decode cJ9_max_7cf53 9 = .ok (.iload_n 1, 1) := by decide +kernel
theorem dJ9_max_7cf53_10 : decode cJ9_max_7cf53 10 = .ok (.ireturn, 1) := by decide +kernel
set_option maxRecDepth 20000 in
theorem ggJ0_length_8abf5_J0_coder_7d493 : GoodIn wsJ0_length_8abf5 wsJ0_coder_7d493 := goodIn_r _ [6, 7, 8] (by decide +kernel) (by decide +kernel)
set_option maxRecDepth 20000 in
theorem gJ0_length_8abf5_J0_coder_7d493 : GoodIn wsJ0_length_8abf5 (wsV RJ0 335 RJ0 yJ0_coder_7d493 wsJ0_coder_7d493) := goodIn_app (goodIn_of _ (by decide +kernel)) ggJ0_length_8abf5_J0_coder_7d493
theorem dJ0_length_8abf5_0 : decode cJ0_length_8abf5 0 = .ok (.aload_n 0, 1) := by decide +kernel
theorem dJ0_length_8abf5_1 : decode cJ0_length_8abf5 1 = .ok (.getfield 9, 3) := by decide +kernel
theorem dJ0_length_8abf5_4 : decode cJ0_length_8abf5 4 = .ok (.arraylength, 1) := by decide +kernel
theorem dJ0_length_8abf5_5 : decode cJ0_length_8abf5 5 = .ok (.aload_n 0, 1) := by decide +kernel
theorem dJ0_length_8abf5_6 : decode cJ0_length_8abf5 6 = .ok (.invokevirtual 335, 3) := by decide +kernel
theorem dJ0_length_8abf5_9 : decode cJ0_length_8abf5 9 = .ok (.ishr, 1) := by decide +kernel
theorem dJ0_length_8abf5_10 : decode cJ0_length_8abf5 10 = .ok (.ireturn, 1) := by decide +kernel
set_option maxRecDepth 20000 in
theorem ggJ0_charAt_5068e_J0_isLatin1_aae02 : GoodIn wsJ0_charAt_5068e wsJ0_isLatin1_aae02 := goodIn_r _ [6, 7, 8] (by decide +kernel) (by decide +kernel)
set_option maxRecDepth 20000 in
theorem gJ0_charAt_5068e_J0_isLatin1_aae02 : GoodIn wsJ0_charAt_5068e (wsV RJ0 492 RJ0 yJ0_isLatin1_aae02 wsJ0_isLatin1_aae02) := goodIn_app (goodIn_of _ (by decide +kernel)) ggJ0_charAt_5068e_J0_isLatin1_aae02
set_option maxRecDepth 20000 in
theorem ggJ0_charAt_5068e_J1_charAt_3b067 : GoodIn wsJ0_charAt_5068e wsJ1_charAt_3b067 := goodIn_r _ [12, 13, 14, 5, 15, 16, 17, 18, 19, 20] (by decide +kernel) (by decide +kernel)
set_option maxRecDepth 20000 in
theorem gJ0_charAt_5068e_J1_charAt_3b067 : GoodIn wsJ0_charAt_5068e (va_wsS RJ0 495 yJ1_charAt_3b067 wsJ1_charAt_3b067) := goodIn_app (goodIn_of _ (by decide +kernel)) ggJ0_charAt_5068e_J1_charAt_3b067
set_option maxRecDepth 20000 in
theorem ggJ0_charAt_5068e_J2_charAt_3b067 : GoodIn wsJ0_charAt_5068e wsJ2_charAt_3b067 := goodIn_r _ [24, 25, 26, 23, 27, 28, 29, 30, 31, 14, 5, 15, 16, 17, 18, 19, 20, 32, 33, 34, 35, 36, 37] (by decide +kernel) (by decide +kernel)
set_option maxRecDepth 20000 in
theorem gJ0_charAt_5068e_J2_charAt_3b067 : GoodIn wsJ0_charAt_5068e (va_wsS RJ0 498 yJ2_charAt_3b067 wsJ2_charAt_3b067) := goodIn_app (goodIn_of _ (by decide +kernel)) ggJ0_charAt_5068e_J2_charAt_3b067
theorem dJ0_charAt_5068e_0 : decode cJ0_charAt_5068e 0 = .ok (.aload_n 0, 1) := by decide +kernel
theorem dJ0_charAt_5068e_1 : decode cJ0_charAt_5068e 1 = .ok (.invokevirtual 492, 3) := by decide +kernel
theorem dJ0_charAt_5068e_4 : decode cJ0_charAt_5068e 4 = .ok (.ifCond .eq 12, 3) := by decide +kernel
theorem dJ0_charAt_5068e_7 : decode cJ0_charAt_5068e 7 = .ok (.aload_n 0, 1) := by decide +kernel
theorem dJ0_charAt_5068e_8 : decode cJ0_charAt_5068e 8 = .ok (.getfield 9, 3) := by decide +kernel
theorem dJ0_charAt_5068e_11 : decode cJ0_charAt_5068e 11 = .ok (.iload_n 1, 1) := by decide +kernel
theorem dJ0_charAt_5068e_12 : decode cJ0_charAt_5068e 12 = .ok (.invokestatic 495, 3) := by decide +kernel
theorem dJ0_charAt_5068e_15 : decode cJ0_charAt_5068e 15 = .ok (.ireturn, 1) := by decide +kernel
theorem dJ0_charAt_5068e_16 : decode cJ0_charAt_5068e 16 = .ok (.aload_n 0, 1) := by decide +kernel
theorem dJ0_charAt_5068e_17 : decode cJ0_charAt_5068e 17 = .ok (.getfield 9, 3) := by decide +kernel
theorem dJ0_charAt_5068e_20 : decode cJ0_charAt_5068e 20 = .ok (.iload_n 1, 1) := by decide +kernel
theorem dJ0_charAt_5068e_21 : decode cJ0_charAt_5068e 21 = .ok (.invokestatic 498, 3) := by decide +kernel
theorem dJ0_charAt_5068e_24 : decode cJ0_charAt_5068e 24 = .ok (.ireturn, 1) := by decide +kernel
theorem dJ0_coder_7d493_0 : decode cJ0_coder_7d493 0 = .ok (.getstatic 38, 3) := by decide +kernel
theorem dJ0_coder_7d493_3 : decode cJ0_coder_7d493 3 = .ok (.ifCond .eq 10, 3) := by decide +kernel
theorem dJ0_coder_7d493_6 : decode cJ0_coder_7d493 6 = .ok (.aload_n 0, 1) := by decide +kernel
theorem dJ0_coder_7d493_7 : decode cJ0_coder_7d493 7 = .ok (.getfield 15, 3) := by decide +kernel
theorem dJ0_coder_7d493_10 : decode cJ0_coder_7d493 10 = .ok (.goto 4, 3) := by decide +kernel
theorem dJ0_coder_7d493_13 : decode cJ0_coder_7d493 13 = .ok (.iconst 1, 1) := by decide +kernel
theorem dJ0_coder_7d493_14 : decode cJ0_coder_7d493 14 = .ok (.ireturn, 1) := by decide +kernel
theorem dJ0_isLatin1_aae02_0 : decode cJ0_isLatin1_aae02 0 = .ok (.getstatic 38, 3) := by decide +kernel
theorem dJ0_isLatin1_aae02_3 : decode cJ0_isLatin1_aae02 3 = .ok (.ifCond .eq 14, 3) := by decide +kernel
theorem dJ0_isLatin1_aae02_6 : decode cJ0_isLatin1_aae02 6 = .ok (.aload_n 0, 1) := by decide +kernel
theorem dJ0_isLatin1_aae02_7 : decode cJ0_isLatin1_aae02 7 = .ok (.getfield 15, 3) := by decide +kernel
theorem dJ0_isLatin1_aae02_10 : decode cJ0_isLatin1_aae02 10 = .ok (.ifCond .ne 7, 3) := by decide +kernel
theorem dJ0_isLatin1_aae02_13 : decode cJ0_isLatin1_aae02 13 = .ok (.iconst 1, 1) := by decide +kernel
theorem dJ0_isLatin1_aae02_14 : decode cJ0_isLatin1_aae02 14 = .ok (.goto 4, 3) := by decide +kernel
theorem dJ0_isLatin1_aae02_17 : decode cJ0_isLatin1_aae02 17 = .ok (.iconst 0, 1) := by decide +kernel
theorem dJ0_isLatin1_aae02_18 : decode cJ0_isLatin1_aae02 18 = .ok (.ireturn, 1) := by decide +kernel
set_option maxRecDepth 20000 in
theorem ggJ0_checkIndex_df160_J3_checkIndex_8e157 : GoodIn wsJ0_checkIndex_df160 wsJ3_checkIndex_8e157 := goodIn_r _ [5] (by decide +kernel) (by decide +kernel)
set_option maxRecDepth 20000 in
theorem gJ0_checkIndex_df160_J3_checkIndex_8e157 : GoodIn wsJ0_checkIndex_df160 (va_wsS RJ0 1059 yJ3_checkIndex_8e157 wsJ3_checkIndex_8e157) := goodIn_app (goodIn_of _ (by decide +kernel)) ggJ0_checkIndex_df160_J3_checkIndex_8e157
theorem dJ0_checkIndex_df160_0 : decode cJ0_checkIndex_df160 0 = .ok (.iload_n 0, 1) := by decide +kernel
theorem dJ0_checkIndex_df160_1 : decode cJ0_checkIndex_df160 1 = .ok (.iload_n 1, 1) := by decide +kernel
theorem dJ0_checkIndex_df160_2 : decode cJ0_checkIndex_df160 2 = .ok (.getstatic 1053, 3) := by decide +kernel
theorem dJ0_checkIndex_df160_5 : decode cJ0_checkIndex_df160 5 = .ok (.invokestatic 1059, 3) := by decide +kernel
theorem dJ0_checkIndex_df160_8 : decode cJ0_checkIndex_df160 8 = .ok (.pop, 1) := by decide +kernel
theorem dJ0_checkIndex_df160_9 : decode cJ0_checkIndex_df160 9 = .ok (.return_, 1) := by decide +kernel
set_option maxRecDepth 20000 in
theorem ggJ1_charAt_3b067_J0_checkIndex_df160 : GoodIn wsJ1_charAt_3b067 wsJ0_checkIndex_df160 := goodIn_r _ [4, 5, 6, 7, 8, 9] (by decide +kernel) (by decide +kernel)
set_option maxRecDepth 20000 in
theorem gJ1_charAt_3b067_J0_checkIndex_df160 : GoodIn wsJ1_charAt_3b067 (va_wsS RJ1 9 yJ0_checkIndex_df160 wsJ0_checkIndex_df160) := goodIn_app (goodIn_of _ (by decide +kernel)) ggJ1_charAt_3b067_J0_checkIndex_df160
theorem dJ1_charAt_3b067_0 : decode cJ1_charAt_3b067 0 = .ok (.iload_n 1, 1) := by decide +kernel
theorem dJ1_charAt_3b067_1 : decode cJ1_charAt_3b067 1 = .ok (.aload_n 0, 1) := by decide +kernel
theorem dJ1_charAt_3b067_2 : decode cJ1_charAt_3b067 2 = .ok (.arraylength, 1) := by decide +kernel
theorem dJ1_charAt_3b067_3 : decode cJ1_charAt_3b067 3 = .ok (.invokestatic 9, 3) := by decide +kernel
theorem dJ1_charAt_3b067_6 : decode cJ1_charAt_3b067 6 = .ok (.aload_n 0, 1) := by decide +kernel
theorem dJ1_charAt_3b067_7 : decode cJ1_charAt_3b067 7 = .ok (.iload_n 1, 1) := by decide +kernel
theorem dJ1_charAt_3b067_8 : decode cJ1_charAt_3b067 8 = .ok (.baload, 1) := by decide +kernel
theorem dJ1_charAt_3b067_9 : decode cJ1_charAt_3b067 9 = .ok (.sipush 255, 3) := by decide +kernel
theorem dJ1_charAt_3b067_12 : decode cJ1_charAt_3b067 12 = .ok (.iand, 1) := by decide +kernel
theorem dJ1_charAt_3b067_13 : decode cJ1_charAt_3b067 13 = .ok (.i2c, 1) := by decide +kernel
theorem dJ1_charAt_3b067_14 : decode cJ1_charAt_3b067 14 = .ok (.ireturn, 1) := by decide +kernel
set_option maxRecDepth 20000 in
theorem ggJ2_getChar_3b067_J2_length_9d52b : GoodIn wsJ2_getChar_3b067 wsJ2_length_9d52b := goodIn_r _ [7] (by decide +kernel) (by decide +kernel)
set_option maxRecDepth 20000 in
theorem gJ2_getChar_3b067_J2_length_9d52b : GoodIn wsJ2_getChar_3b067 (va_wsS RJ2 48 yJ2_length_9d52b wsJ2_length_9d52b) := goodIn_app (goodIn_of _ (by decide +kernel)) ggJ2_getChar_3b067_J2_length_9d52b
theorem dJ2_getChar_3b067_0 : decode cJ2_getChar_3b067 0 = .ok (.getstatic 44, 3) := by decide +kernel
theorem dJ2_getChar_3b067_3 : decode cJ2_getChar_3b067 3 = .ok (.ifCond .ne 25, 3) := by decide +kernel
theorem dJ2_getChar_3b067_6 : decode cJ2_getChar_3b067 6 = .ok (.iload_n 1, 1) := by decide +kernel
theorem dJ2_getChar_3b067_7 : decode cJ2_getChar_3b067 7 = .ok (.ifCond .lt 11, 3) := by decide +kernel
theorem dJ2_getChar_3b067_10 : decode cJ2_getChar_3b067 10 = .ok (.iload_n 1, 1) := by decide +kernel
theorem dJ2_getChar_3b067_11 : decode cJ2_getChar_3b067 11 = .ok (.aload_n 0, 1) := by decide +kernel
theorem dJ2_getChar_3b067_12 : decode cJ2_getChar_3b067 12 = .ok (.invokestatic 48, 3) := by decide +kernel
theorem dJ2_getChar_3b067_15 : decode cJ2_getChar_3b067 15 = .ok (.if_icmp .lt 13, 3) := by decide +kernel
theorem dJ2_getChar_3b067_18 : decode cJ2_getChar_3b067 18 = .ok (.new 52, 3) := by decide +kernel
theorem dJ2_getChar_3b067_21 : decode cJ2_getChar_3b067 21 = .ok (.dup, 1) := by decide +kernel
theorem dJ2_getChar_3b067_22 : decode cJ2_getChar_3b067 22 = .ok (.ldc 54, 2) := by decide +kernel
theorem dJ2_getChar_3b067_24 : decode cJ2_getChar_3b067 24 = .ok (.invokespecial 56, 3) := by decide +kernel
theorem dJ2_getChar_3b067_27 : decode cJ2_getChar_3b067 27 = .ok (.athrow, 1) := by decide +kernel
theorem dJ2_getChar_3b067_28 : decode cJ2_getChar_3b067 28 = .ok (.iload_n 1, 1) := by decide +kernel
theorem dJ2_getChar_3b067_29 : decode cJ2_getChar_3b067 29 = .ok (.iconst 1, 1) := by decide +kernel
theorem dJ2_getChar_3b067_30 : decode cJ2_getChar_3b067 30 = .ok (.ishl, 1) := by decide +kernel
theorem dJ2_getChar_3b067_31 : decode cJ2_getChar_3b067 31 = .ok (.istore_n 1, 1) := by decide +kernel
theorem dJ2_getChar_3b067_32 : decode cJ2_getChar_3b067 32 = .ok (.aload_n 0, 1) := by decide +kernel
theorem dJ2_getChar_3b067_33 : decode cJ2_getChar_3b067 33 = .ok (.iload_n 1, 1) := by decide +kernel
theorem dJ2_getChar_3b067_34 : decode cJ2_getChar_3b067 34 = .ok (.iinc 1 1, 3) := by decide +kernel
theorem dJ2_getChar_3b067_37 : decode cJ2_getChar_3b067 37 = .ok (.baload, 1) := by decide +kernel
theorem dJ2_getChar_3b067_38 : decode cJ2_getChar_3b067 38 = .ok (.sipush 255, 3) := by decide +kernel
theorem dJ2_getChar_3b067_41 : decode cJ2_getChar_3b067 41 = .ok (.iand, 1) := by decide +kernel
theorem dJ2_getChar_3b067_42 : decode cJ2_getChar_3b067 42 = .ok (.getstatic 59, 3) := by decide +kernel
theorem dJ2_getChar_3b067_45 : decode cJ2_getChar_3b067 45 = .ok (.ishl, 1) := by decide +kernel
theorem dJ2_getChar_3b067_46 : decode cJ2_getChar_3b067 46 = .ok (.aload_n 0, 1) := by decide +kernel
theorem dJ2_getChar_3b067_47 : decode cJ2_getChar_3b067 47 = .ok (.iload_n 1, 1) := by decide +kernel
theorem dJ2_getChar_3b067_48 : decode cJ2_getChar_3b067 48 = .ok (.baload, 1) := by decide +kernel
theorem dJ2_getChar_3b067_49 : decode cJ2_getChar_3b067 49 = .ok (.sipush 255, 3) := by decide +kernel
theorem dJ2_getChar_3b067_52 : decode cJ2_getChar_3b067 52 = .ok (.iand, 1) := by decide +kernel
theorem dJ2_getChar_3b067_53 : decode cJ2_getChar_3b067 53 = .ok (.getstatic 63, 3) := by decide +kernel
theorem dJ2_getChar_3b067_56 : decode cJ2_getChar_3b067 56 = .ok (.ishl, 1) := by decide +kernel
theorem dJ2_getChar_3b067_57 : decode cJ2_getChar_3b067 57 = .ok (.ior, 1) := by decide +kernel
theorem dJ2_getChar_3b067_58 : decode cJ2_getChar_3b067 58 = .ok (.i2c, 1) := by decide +kernel
theorem dJ2_getChar_3b067_59 : decode cJ2_getChar_3b067 59 = .ok (.ireturn, 1) := by decide +kernel
theorem dJ2_length_9d52b_0 : decode cJ2_length_9d52b 0 = .ok (.aload_n 0, 1) := by decide +kernel
theorem dJ2_length_9d52b_1 : decode cJ2_length_9d52b 1 = .ok (.arraylength, 1) := by decide +kernel
theorem dJ2_length_9d52b_2 : decode cJ2_length_9d52b 2 = .ok (.iconst 1, 1) := by decide +kernel
theorem dJ2_length_9d52b_3 : decode cJ2_length_9d52b 3 = .ok (.ishr, 1) := by decide +kernel
theorem dJ2_length_9d52b_4 : decode cJ2_length_9d52b 4 = .ok (.ireturn, 1) := by decide +kernel
set_option maxRecDepth 20000 in
theorem ggJ2_charAt_3b067_J2_checkIndex_2214a : GoodIn wsJ2_charAt_3b067 wsJ2_checkIndex_2214a := goodIn_r _ [4, 5, 6, 3, 7, 8, 9, 10, 11, 12, 13, 14, 15, 16] (by decide +kernel) (by decide +kernel)
set_option maxRecDepth 20000 in
theorem gJ2_charAt_3b067_J2_checkIndex_2214a : GoodIn wsJ2_charAt_3b067 (va_wsS RJ2 67 yJ2_checkIndex_2214a wsJ2_checkIndex_2214a) := goodIn_app (goodIn_of _ (by decide +kernel)) ggJ2_charAt_3b067_J2_checkIndex_2214a
set_option maxRecDepth 20000 in
theorem ggJ2_charAt_3b067_J2_getChar_3b067 : GoodIn wsJ2_charAt_3b067 wsJ2_getChar_3b067 := goodIn_r _ [19, 20, 21, 22, 5, 6, 3, 7] (by decide +kernel) (by decide +kernel)
set_option maxRecDepth 20000 in
theorem gJ2_charAt_3b067_J2_getChar_3b067 : GoodIn wsJ2_charAt_3b067 (va_wsS RJ2 71 yJ2_getChar_3b067 wsJ2_getChar_3b067) := goodIn_app (goodIn_of _ (by decide +kernel)) ggJ2_charAt_3b067_J2_getChar_3b067
theorem dJ2_charAt_3b067_0 : decode cJ2_charAt_3b067 0 = .ok (.iload_n 1, 1) := by decide +kernel
theorem dJ2_charAt_3b067_1 : decode cJ2_charAt_3b067 1 = .ok (.aload_n 0, 1) := by decide +kernel
theorem dJ2_charAt_3b067_2 : decode cJ2_charAt_3b067 2 = .ok (.invokestatic 67, 3) := by decide +kernel
theorem dJ2_charAt_3b067_5 : decode cJ2_charAt_3b067 5 = .ok (.aload_n 0, 1) := by decide +kernel
theorem dJ2_charAt_3b067_6 : decode cJ2_charAt_3b067 6 = .ok (.iload_n 1, 1) := by decide +kernel
theorem dJ2_charAt_3b067_7 : decode cJ2_charAt_3b067 7 = .ok (.invokestatic 71, 3) := by decide +kernel
theorem dJ2_charAt_3b067_10 : decode cJ2_charAt_3b067 10 = .ok (.ireturn, 1) := by decide +kernel
set_option maxRecDepth 20000 in
theorem ggJ2_checkIndex_2214a_J2_length_9d52b : GoodIn wsJ2_checkIndex_2214a wsJ2_length_9d52b := goodIn_r _ [4] (by decide +kernel) (by decide +kernel)
set_option maxRecDepth 20000 in
theorem gJ2_checkIndex_2214a_J2_length_9d52b : GoodIn wsJ2_checkIndex_2214a (va_wsS RJ2 48 yJ2_length_9d52b wsJ2_length_9d52b) := goodIn_app (goodIn_of _ (by decide +kernel)) ggJ2_checkIndex_2214a_J2_length_9d52b
set_option maxRecDepth 20000 in
theorem ggJ2_checkIndex_2214a_J0_checkIndex_df160 : GoodIn wsJ2_checkIndex_2214a wsJ0_checkIndex_df160 := goodIn_r _ [8, 9, 10, 11, 12, 13] (by decide +kernel) (by decide +kernel)
set_option maxRecDepth 20000 in
theorem gJ2_checkIndex_2214a_J0_checkIndex_df160 : GoodIn wsJ2_checkIndex_2214a (va_wsS RJ2 414 yJ0_checkIndex_df160 wsJ0_checkIndex_df160) := goodIn_app (goodIn_of _ (by decide +kernel)) ggJ2_checkIndex_2214a_J0_checkIndex_df160
theorem dJ2_checkIndex_2214a_0 : decode cJ2_checkIndex_2214a 0 = .ok (.iload_n 0, 1) := by decide +kernel
theorem dJ2_checkIndex_2214a_1 : decode cJ2_checkIndex_2214a 1 = .ok (.aload_n 1, 1) := by decide +kernel
theorem dJ2_checkIndex_2214a_2 : decode cJ2_checkIndex_2214a 2 = .ok (.invokestatic 48, 3) := by decide +kernel
theorem dJ2_checkIndex_2214a_5 : decode cJ2_checkIndex_2214a 5 = .ok (.invokestatic 414, 3) := by decide +kernel
theorem dJ2_checkIndex_2214a_8 : decode cJ2_checkIndex_2214a 8 = .ok (.return_, 1) := by decide +kernel
theorem dJ7_fill_53178_0 : decode cJ7_fill_53178 0 = .ok (.iconst 0, 1) := by decide +kernel
theorem dJ7_fill_53178_1 : decode cJ7_fill_53178 1 = .ok (.istore_n 2, 1) := by decide +kernel
theorem dJ7_fill_53178_2 : decode cJ7_fill_53178 2 = .ok (.aload_n 0, 1) := by decide +kernel
theorem dJ7_fill_53178_3 : decode cJ7_fill_53178 3 = .ok (.arraylength, 1) := by decide +kernel
theorem dJ7_fill_53178_4 : decode cJ7_fill_53178 4 = .ok (.istore_n 3, 1) := by decide +kernel
theorem dJ7_fill_53178_5 : decode cJ7_fill_53178 5 = .ok (.iload_n 2, 1) := by decide +kernel
theorem dJ7_fill_53178_6 : decode cJ7_fill_53178 6 = .ok (.iload_n 3, 1) := by decide +kernel
theorem dJ7_fill_53178_7 : decode cJ7_fill_53178 7 = .ok (.if_icmp .ge 13, 3) := by decide +kernel
theorem dJ7_fill_53178_10 : decode cJ7_fill_53178 10 = .ok (.aload_n 0, 1) := by decide +kernel
theorem dJ7_fill_53178_11 : decode cJ7_fill_53178 11 = .ok (.iload_n 2, 1) := by decide +kernel
theorem dJ7_fill_53178_12 : decode cJ7_fill_53178 12 = .ok (.iload_n 1, 1) := by decide +kernel
theorem dJ7_fill_53178_13 : decode cJ7_fill_53178 13 = .ok (.iastore, 1) := by decide +kernel
theorem dJ7_fill_53178_14 : decode cJ7_fill_53178 14 = .ok (.iinc 2 1, 3) := by decide +kernel
theorem dJ7_fill_53178_17 : decode cJ7_fill_53178 17 = .ok (.goto (-12), 3) := by decide +kernel
theorem dJ7_fill_53178_20 : decode cJ7_fill_53178 20 = .ok (.return_, 1) := by decide +kernel
theorem dJ3_checkIndex_8e157_0 : decode cJ3_checkIndex_8e157 0 = .ok (.iload_n 0, 1) := by decide +kernel
theorem dJ3_checkIndex_8e157_1 : decode cJ3_checkIndex_8e157 1 = .ok (.ifCond .lt 8, 3) := by decide +kernel
theorem dJ3_checkIndex_8e157_4 : decode cJ3_checkIndex_8e157 4 = .ok (.iload_n 0, 1) := by decide +kernel
theorem dJ3_checkIndex_8e157_5 : decode cJ3_checkIndex_8e157 5 = .ok (.iload_n 1, 1) := by decide +kernel
theorem dJ3_checkIndex_8e157_6 : decode cJ3_checkIndex_8e157 6 = .ok (.if_icmp .lt 10, 3) := by decide +kernel
theorem dJ3_checkIndex_8e157_9 : decode cJ3_checkIndex_8e157 9 = .ok (.aload_n 2, 1) := by decide +kernel
theorem dJ3_checkIndex_8e157_10 : decode cJ3_checkIndex_8e157 10 = .ok (.iload_n 0, 1) := by decide +kernel
theorem dJ3_checkIndex_8e157_11 : decode cJ3_checkIndex_8e157 11 = .ok (.iload_n 1, 1) := by decide +kernel
theorem dJ3_checkIndex_8e157_12 : decode cJ3_checkIndex_8e157 12 = .ok (.invokestatic 95, 3) := by decide +kernel
theorem dJ3_checkIndex_8e157_15 : decode cJ3_checkIndex_8e157 15 = .ok (.athrow, 1) := by decide +kernel
theorem dJ3_checkIndex_8e157_16 : decode cJ3_checkIndex_8e157 16 = .ok (.iload_n 0, 1) := by decide +kernel
theorem dJ3_checkIndex_8e157_17 : decode cJ3_checkIndex_8e157 17 = .ok (.ireturn, 1) := by decide +kernel
