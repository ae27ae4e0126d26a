set_option maxRecDepth 20000 in
theorem ggX4_init_X0_init : GoodIn wsX4_init wsX0_init := goodIn_r _ [12, 13, 2, 3, 8, 14, 15, 16, 17, 6, 18, 19, 20, 21, 22, 23, 24, 25, 26, 27, 28, 29, 30, 31, 32, 33, 34, 35] (by decide +kernel) (by decide +kernel)
set_option maxRecDepth 20000 in
theorem gX4_init_X0_init : GoodIn wsX4_init (wsX0_init) := ggX4_init_X0_init
theorem dX4_init_0 : decode cX4_init 0 = .ok (.aload_n 0, 1) := by decide +kernel
theorem dX4_init_1 : decode cX4_init 1 = .ok (.invokespecial 3, 3) := by decide +kernel
theorem dX4_init_4 : decode cX4_init 4 = .ok (.aload_n 0, 1) := by decide +kernel
theorem dX4_init_5 : decode cX4_init 5 = .ok (.new 9, 3) := by decide +kernel
theorem dX4_init_8 : decode cX4_init 8 = .ok (.dup, 1) := by decide +kernel
theorem dX4_init_9 : decode cX4_init 9 = .ok (.invokespecial 11, 3) := by decide +kernel
theorem dX4_init_12 : decode cX4_init 12 = .ok (.putfield 12, 3) := by decide +kernel
theorem dX4_init_15 : decode cX4_init 15 = .ok (.aload_n 0, 1) := by decide +kernel
theorem dX4_init_16 : decode cX4_init 16 = .ok (.bipush 120, 2) := by decide +kernel
theorem dX4_init_18 : decode cX4_init 18 = .ok (.newarray .int, 2) := by decide +kernel
theorem dX4_init_20 : decode cX4_init 20 = .ok (.putfield 18, 3) := by decide +kernel
theorem dX4_init_23 : decode cX4_init 23 = .ok (.return_, 1) := by decide +kernel
theorem dX4_add_0 : decode cX4_add 0 = .ok (.aload_n 0, 1) := by decide +kernel
theorem dX4_add_1 : decode cX4_add 1 = .ok (.getfield 22, 3) := by decide +kernel
theorem dX4_add_4 : decode cX4_add 4 = .ok (.bipush 120, 2) := by decide +kernel
theorem dX4_add_6 : decode cX4_add 6 = .ok (.if_icmp .lt 5, 3) := by decide +kernel
theorem dX4_add_9 : decode cX4_add 9 = .ok (.iconst 0, 1) := by decide +kernel
theorem dX4_add_10 : decode cX4_add 10 = .ok (.ireturn, 1) := by decide +kernel
theorem dX4_add_11 : decode cX4_add 11 = .ok (.aload_n 0, 1) := by decide +kernel
theorem dX4_add_12 : decode cX4_add 12 = .ok (.getfield 18, 3) := by decide +kernel
theorem dX4_add_15 : decode cX4_add 15 = .ok (.aload_n 0, 1) := by decide +kernel
theorem dX4_add_16 : decode cX4_add 16 = .ok (.getfield 22, 3) := by decide +kernel
theorem dX4_add_19 : decode cX4_add 19 = .ok (.iload_n 1, 1) := by decide +kernel
theorem dX4_add_20 : decode cX4_add 20 = .ok (.iastore, 1) := by decide +kernel
theorem dX4_add_21 : decode cX4_add 21 = .ok (.aload_n 0, 1) := by decide +kernel
theorem dX4_add_22 : decode cX4_add 22 = .ok (.dup, 1) := by decide +kernel
theorem dX4_add_23 : decode cX4_add 23 = .ok (.getfield 22, 3) := by decide +kernel
theorem dX4_add_26 : decode cX4_add 26 = .ok (.iconst 1, 1) := by decide +kernel
theorem dX4_add_27 : decode cX4_add 27 = .ok (.iadd, 1) := by decide +kernel
theorem dX4_add_28 : decode cX4_add 28 = .ok (.putfield 22, 3) := by decide +kernel
theorem dX4_add_31 : decode cX4_add 31 = .ok (.iconst 1, 1) := by decide +kernel
theorem dX4_add_32 : decode cX4_add 32 = .ok (.ireturn, 1) := by decide +kernel
set_option maxRecDepth 20000 in
theorem ggX4_read_X0_makeNew : GoodIn wsX4_read wsX0_makeNew := goodIn_r _ [11, 12, 13, 14, 15, 16, 17, 18, 19, 20, 21, 22, 149, 150, 151, 152, 153, 154, 155] (by decide +kernel) (by decide +kernel)
set_option maxRecDepth 20000 in
theorem gX4_read_X0_makeNew : GoodIn wsX4_read (wsV RX4 26 RX0 yX0_makeNew wsX0_makeNew) := goodIn_app (goodIn_of _ (by decide +kernel)) ggX4_read_X0_makeNew
set_option maxRecDepth 20000 in
theorem ggX4_read_X4_nextToken : GoodIn wsX4_read wsX4_nextToken := goodIn_r _ [27, 4, 6, 28, 5, 29, 30, 31, 26, 32, 33, 34, 35, 36, 37, 141, 142, 143, 144, 145, 146, 147, 148] (by decide +kernel) (by decide +kernel)
set_option maxRecDepth 20000 in
theorem gX4_read_X4_nextToken : GoodIn wsX4_read (wsV RX4 39 RX4 yX4_nextToken wsX4_nextToken) := goodIn_app (goodIn_of _ (by decide +kernel)) ggX4_read_X4_nextToken
set_option maxRecDepth 20000 in
theorem ggX4_read_X4_readItem : GoodIn wsX4_read wsX4_readItem := goodIn_r _ [41, 5, 42, 43, 44, 26, 45, 46, 47, 48, 49, 4, 6, 50, 51, 52, 53, 54, 55, 56, 57, 58, 59, 60, 61, 33, 34, 35, 36, 28, 37, 62, 63, 64, 65, 66, 67, 68, 69, 70, 71, 72, 73, 74, 75, 76, 77, 78, 79, 80, 81, 82, 83, 84, 85, 86, 87, 88, 89, 90, 91, 92, 93, 94, 95, 96, 97, 98, 99, 100, 101, 102, 2, 3, 23, 24, 25, 27, 29, 30, 31, 32, 103, 104, 105, 106, 107, 108, 109, 110, 1, 111, 112, 113, 114, 115, 116, 117, 118, 10, 119, 12, 14, 120, 121, 122, 123, 124, 125, 126, 127, 128, 129, 130, 131, 132, 133, 134, 135, 136, 137, 138, 139, 140, 16, 17, 18, 141, 142, 143, 144, 145, 146, 147, 148, 149, 150, 151, 152, 153, 154, 155] (by decide +kernel) (by decide +kernel)
set_option maxRecDepth 20000 in
theorem gX4_read_X4_readItem : GoodIn wsX4_read (wsV RX4 45 RX4 yX4_readItem wsX4_readItem) := goodIn_app (goodIn_of _ (by decide +kernel)) ggX4_read_X4_readItem
theorem dX4_read_0 : decode cX4_read 0 = .ok (.aload_n 0, 1) := by decide +kernel
theorem dX4_read_1 : decode cX4_read 1 = .ok (.getfield 12, 3) := by decide +kernel
theorem dX4_read_4 : decode cX4_read 4 = .ok (.invokevirtual 26, 3) := by decide +kernel
theorem dX4_read_7 : decode cX4_read 7 = .ok (.aload_n 0, 1) := by decide +kernel
theorem dX4_read_8 : decode cX4_read 8 = .ok (.iconst 0, 1) := by decide +kernel
theorem dX4_read_9 : decode cX4_read 9 = .ok (.putfield 29, 3) := by decide +kernel
theorem dX4_read_12 : decode cX4_read 12 = .ok (.aload_n 0, 1) := by decide +kernel
theorem dX4_read_13 : decode cX4_read 13 = .ok (.iconst 0, 1) := by decide +kernel
theorem dX4_read_14 : decode cX4_read 14 = .ok (.putfield 33, 3) := by decide +kernel
theorem dX4_read_17 : decode cX4_read 17 = .ok (.aload_n 0, 1) := by decide +kernel
theorem dX4_read_18 : decode cX4_read 18 = .ok (.iconst 0, 1) := by decide +kernel
theorem dX4_read_19 : decode cX4_read 19 = .ok (.putfield 36, 3) := by decide +kernel
theorem dX4_read_22 : decode cX4_read 22 = .ok (.iconst 0, 1) := by decide +kernel
theorem dX4_read_23 : decode cX4_read 23 = .ok (.istore_n 1, 1) := by decide +kernel
theorem dX4_read_24 : decode cX4_read 24 = .ok (.iload_n 1, 1) := by decide +kernel
theorem dX4_read_25 : decode cX4_read 25 = .ok (.bipush 120, 2) := by decide +kernel
theorem dX4_read_27 : decode cX4_read 27 = .ok (.if_icmp .gt 39, 3) := by decide +kernel
theorem dX4_read_30 : decode cX4_read 30 = .ok (.aload_n 0, 1) := by decide +kernel
theorem dX4_read_31 : decode cX4_read 31 = .ok (.invokevirtual 39, 3) := by decide +kernel
theorem dX4_read_34 : decode cX4_read 34 = .ok (.aload_n 0, 1) := by decide +kernel
theorem dX4_read_35 : decode cX4_read 35 = .ok (.getfield 42, 3) := by decide +kernel
theorem dX4_read_38 : decode cX4_read 38 = .ok (.ifCond .ne 12, 3) := by decide +kernel
theorem dX4_read_41 : decode cX4_read 41 = .ok (.aload_n 0, 1) := by decide +kernel
theorem dX4_read_42 : decode cX4_read 42 = .ok (.getfield 29, 3) := by decide +kernel
theorem dX4_read_45 : decode cX4_read 45 = .ok (.ifCond .eq 5, 3) := by decide +kernel
theorem dX4_read_48 : decode cX4_read 48 = .ok (.iload_n 1, 1) := by decide +kernel
theorem dX4_read_49 : decode cX4_read 49 = .ok (.ireturn, 1) := by decide +kernel
theorem dX4_read_50 : decode cX4_read 50 = .ok (.aload_n 0, 1) := by decide +kernel
theorem dX4_read_51 : decode cX4_read 51 = .ok (.invokevirtual 45, 3) := by decide +kernel
theorem dX4_read_54 : decode cX4_read 54 = .ok (.ifCond .ne 6, 3) := by decide +kernel
theorem dX4_read_57 : decode cX4_read 57 = .ok (.goto 9, 3) := by decide +kernel
theorem dX4_read_60 : decode cX4_read 60 = .ok (.iinc 1 1, 3) := by decide +kernel
theorem dX4_read_63 : decode cX4_read 63 = .ok (.goto (-39), 3) := by decide +kernel
theorem dX4_read_66 : decode cX4_read 66 = .ok (.bipush (-10), 2) := by decide +kernel
theorem dX4_read_68 : decode cX4_read 68 = .ok (.aload_n 0, 1) := by decide +kernel
theorem dX4_read_69 : decode cX4_read 69 = .ok (.getfield 49, 3) := by decide +kernel
theorem dX4_read_72 : decode cX4_read 72 = .ok (.isub, 1) := by decide +kernel
theorem dX4_read_73 : decode cX4_read 73 = .ok (.ireturn, 1) := by decide +kernel
set_option maxRecDepth 20000 in
theorem ggX4_readItem_X4_itemOfWord : GoodIn wsX4_readItem wsX4_itemOfWord := goodIn_r _ [6, 7, 8, 9, 5, 10, 11, 12, 13, 14, 15, 16, 17, 18, 19, 20, 21, 22, 23, 24, 25, 26, 27, 28, 29, 30, 31, 32, 33, 34, 35, 36, 37, 38, 39, 40, 41, 42, 43, 44, 45, 46, 47, 48, 49, 50, 51, 52, 53, 54, 55, 56, 57, 58, 59, 60, 61, 62, 63, 64, 65, 66, 67, 127, 128, 129, 130, 131, 132, 133, 134] (by decide +kernel) (by decide +kernel)
set_option maxRecDepth 20000 in
theorem gX4_readItem_X4_itemOfWord : GoodIn wsX4_readItem (wsV RX4 52 RX4 yX4_itemOfWord wsX4_itemOfWord) := goodIn_app (goodIn_of _ (by decide +kernel)) ggX4_readItem_X4_itemOfWord
set_option maxRecDepth 20000 in
theorem ggX4_readItem_X4_mayBegin : GoodIn wsX4_readItem wsX4_mayBegin := goodIn_r _ [71, 72, 73, 127, 128, 129, 130, 131, 132, 133, 134] (by decide +kernel) (by decide +kernel)
set_option maxRecDepth 20000 in
theorem gX4_readItem_X4_mayBegin : GoodIn wsX4_readItem (wsV RX4 56 RX4 yX4_mayBegin wsX4_mayBegin) := goodIn_app (goodIn_of _ (by decide +kernel)) ggX4_readItem_X4_mayBegin
set_option maxRecDepth 20000 in
theorem ggX4_readItem_X4_nextToken : GoodIn wsX4_readItem wsX4_nextToken := goodIn_r _ [77, 11, 12, 29, 1, 78, 79, 80, 5, 81, 25, 26, 27, 28, 30, 127, 128, 129, 130, 131, 132, 133, 134] (by decide +kernel) (by decide +kernel)
set_option maxRecDepth 20000 in
theorem gX4_readItem_X4_nextToken : GoodIn wsX4_readItem (wsV RX4 39 RX4 yX4_nextToken wsX4_nextToken) := goodIn_app (goodIn_of _ (by decide +kernel)) ggX4_readItem_X4_nextToken
set_option maxRecDepth 20000 in
theorem ggX4_readItem_X4_takeFigures : GoodIn wsX4_readItem wsX4_takeFigures := goodIn_r _ [85, 86, 87, 88, 5, 89, 11, 12, 90, 91, 72, 92, 93, 94, 95, 25, 26, 27, 28, 29, 30, 96, 97, 98, 99, 100, 101, 102, 103, 104, 105, 106, 107, 108, 73, 109, 110, 111, 112, 113, 114, 115, 116, 117, 118, 119, 120, 121, 122, 123, 124, 125, 126, 127, 128, 129, 130, 131, 132, 133, 134, 135, 136, 137, 138, 139, 140, 141] (by decide +kernel) (by decide +kernel)
set_option maxRecDepth 20000 in
theorem gX4_readItem_X4_takeFigures : GoodIn wsX4_readItem (wsV RX4 60 RX4 yX4_takeFigures wsX4_takeFigures) := goodIn_app (goodIn_of _ (by decide +kernel)) ggX4_readItem_X4_takeFigures
theorem dX4_readItem_0 : decode cX4_readItem 0 = .ok (.aload_n 0, 1) := by decide +kernel
theorem dX4_readItem_1 : decode cX4_readItem 1 = .ok (.invokevirtual 52, 3) := by decide +kernel
theorem dX4_readItem_4 : decode cX4_readItem 4 = .ok (.istore_n 1, 1) := by decide +kernel
theorem dX4_readItem_5 : decode cX4_readItem 5 = .ok (.aload_n 0, 1) := by decide +kernel
theorem dX4_readItem_6 : decode cX4_readItem 6 = .ok (.iload_n 1, 1) := by decide +kernel
theorem dX4_readItem_7 : decode cX4_readItem 7 = .ok (.invokevirtual 56, 3) := by decide +kernel
theorem dX4_readItem_10 : decode cX4_readItem 10 = .ok (.ifCond .ne 5, 3) := by decide +kernel
theorem dX4_readItem_13 : decode cX4_readItem 13 = .ok (.iconst 0, 1) := by decide +kernel
theorem dX4_readItem_14 : decode cX4_readItem 14 = .ok (.ireturn, 1) := by decide +kernel
theorem dX4_readItem_15 : decode cX4_readItem 15 = .ok (.aload_n 0, 1) := by decide +kernel
theorem dX4_readItem_16 : decode cX4_readItem 16 = .ok (.invokevirtual 39, 3) := by decide +kernel
theorem dX4_readItem_19 : decode cX4_readItem 19 = .ok (.aload_n 0, 1) := by decide +kernel
theorem dX4_readItem_20 : decode cX4_readItem 20 = .ok (.getfield 42, 3) := by decide +kernel
theorem dX4_readItem_23 : decode cX4_readItem 23 = .ok (.iconst 2, 1) := by decide +kernel
theorem dX4_readItem_24 : decode cX4_readItem 24 = .ok (.if_icmp .ne 11, 3) := by decide +kernel
theorem dX4_readItem_27 : decode cX4_readItem 27 = .ok (.aload_n 0, 1) := by decide +kernel
theorem dX4_readItem_28 : decode cX4_readItem 28 = .ok (.iload_n 1, 1) := by decide +kernel
theorem dX4_readItem_29 : decode cX4_readItem 29 = .ok (.invokevirtual 60, 3) := by decide +kernel
theorem dX4_readItem_32 : decode cX4_readItem 32 = .ok (.ifCond .ne 5, 3) := by decide +kernel
theorem dX4_readItem_35 : decode cX4_readItem 35 = .ok (.iconst 0, 1) := by decide +kernel
theorem dX4_readItem_36 : decode cX4_readItem 36 = .ok (.ireturn, 1) := by decide +kernel
theorem dX4_readItem_37 : decode cX4_readItem 37 = .ok (.aload_n 0, 1) := by decide +kernel
theorem dX4_readItem_38 : decode cX4_readItem 38 = .ok (.invokevirtual 39, 3) := by decide +kernel
theorem dX4_readItem_41 : decode cX4_readItem 41 = .ok (.aload_n 0, 1) := by decide +kernel
theorem dX4_readItem_42 : decode cX4_readItem 42 = .ok (.getfield 42, 3) := by decide +kernel
theorem dX4_readItem_45 : decode cX4_readItem 45 = .ok (.iconst 3, 1) := by decide +kernel
theorem dX4_readItem_46 : decode cX4_readItem 46 = .ok (.if_icmp .ne 7, 3) := by decide +kernel
theorem dX4_readItem_49 : decode cX4_readItem 49 = .ok (.iconst 1, 1) := by decide +kernel
theorem dX4_readItem_50 : decode cX4_readItem 50 = .ok (.goto 4, 3) := by decide +kernel
theorem dX4_readItem_53 : decode cX4_readItem 53 = .ok (.iconst 0, 1) := by decide +kernel
theorem dX4_readItem_54 : decode cX4_readItem 54 = .ok (.ireturn, 1) := by decide +kernel
set_option maxRecDepth 20000 in
theorem ggX4_nextToken_X4_kindAt : GoodIn wsX4_nextToken wsX4_kindAt := goodIn_r _ [9, 10, 11, 12, 8, 13, 3, 14, 15, 16, 17, 18, 19, 20, 21, 22] (by decide +kernel) (by decide +kernel)
set_option maxRecDepth 20000 in
theorem gX4_nextToken_X4_kindAt : GoodIn wsX4_nextToken (wsV RX4 63 RX4 yX4_kindAt wsX4_kindAt) := goodIn_app (goodIn_of _ (by decide +kernel)) ggX4_nextToken_X4_kindAt
theorem dX4_nextToken_0 : decode cX4_nextToken 0 = .ok (.aload_n 0, 1) := by decide +kernel
theorem dX4_nextToken_1 : decode cX4_nextToken 1 = .ok (.aload_n 0, 1) := by decide +kernel
theorem dX4_nextToken_2 : decode cX4_nextToken 2 = .ok (.getfield 36, 3) := by decide +kernel
theorem dX4_nextToken_5 : decode cX4_nextToken 5 = .ok (.putfield 49, 3) := by decide +kernel
theorem dX4_nextToken_8 : decode cX4_nextToken 8 = .ok (.aload_n 0, 1) := by decide +kernel
theorem dX4_nextToken_9 : decode cX4_nextToken 9 = .ok (.getfield 49, 3) := by decide +kernel
theorem dX4_nextToken_12 : decode cX4_nextToken 12 = .ok (.aload_n 0, 1) := by decide +kernel
theorem dX4_nextToken_13 : decode cX4_nextToken 13 = .ok (.getfield 22, 3) := by decide +kernel
theorem dX4_nextToken_16 : decode cX4_nextToken 16 = .ok (.if_icmp .ge 28, 3) := by decide +kernel
theorem dX4_nextToken_19 : decode cX4_nextToken 19 = .ok (.aload_n 0, 1) := by decide +kernel
theorem dX4_nextToken_20 : decode cX4_nextToken 20 = .ok (.aload_n 0, 1) := by decide +kernel
theorem dX4_nextToken_21 : decode cX4_nextToken 21 = .ok (.getfield 49, 3) := by decide +kernel
theorem dX4_nextToken_24 : decode cX4_nextToken 24 = .ok (.invokevirtual 63, 3) := by decide +kernel
theorem dX4_nextToken_27 : decode cX4_nextToken 27 = .ok (.iconst 4, 1) := by decide +kernel
theorem dX4_nextToken_28 : decode cX4_nextToken 28 = .ok (.if_icmp .ne 16, 3) := by decide +kernel
theorem dX4_nextToken_31 : decode cX4_nextToken 31 = .ok (.aload_n 0, 1) := by decide +kernel
theorem dX4_nextToken_32 : decode cX4_nextToken 32 = .ok (.dup, 1) := by decide +kernel
theorem dX4_nextToken_33 : decode cX4_nextToken 33 = .ok (.getfield 49, 3) := by decide +kernel
theorem dX4_nextToken_36 : decode cX4_nextToken 36 = .ok (.iconst 1, 1) := by decide +kernel
theorem dX4_nextToken_37 : decode cX4_nextToken 37 = .ok (.iadd, 1) := by decide +kernel
theorem dX4_nextToken_38 : decode cX4_nextToken 38 = .ok (.putfield 49, 3) := by decide +kernel
theorem dX4_nextToken_41 : decode cX4_nextToken 41 = .ok (.goto (-33), 3) := by decide +kernel
theorem dX4_nextToken_44 : decode cX4_nextToken 44 = .ok (.aload_n 0, 1) := by decide +kernel
theorem dX4_nextToken_45 : decode cX4_nextToken 45 = .ok (.aload_n 0, 1) := by decide +kernel
theorem dX4_nextToken_46 : decode cX4_nextToken 46 = .ok (.aload_n 0, 1) := by decide +kernel
theorem dX4_nextToken_47 : decode cX4_nextToken 47 = .ok (.getfield 49, 3) := by decide +kernel
theorem dX4_nextToken_50 : decode cX4_nextToken 50 = .ok (.invokevirtual 63, 3) := by decide +kernel
theorem dX4_nextToken_53 : decode cX4_nextToken 53 = .ok (.putfield 42, 3) := by decide +kernel
theorem dX4_nextToken_56 : decode cX4_nextToken 56 = .ok (.aload_n 0, 1) := by decide +kernel
theorem dX4_nextToken_57 : decode cX4_nextToken 57 = .ok (.aload_n 0, 1) := by decide +kernel
theorem dX4_nextToken_58 : decode cX4_nextToken 58 = .ok (.getfield 42, 3) := by decide +kernel
theorem dX4_nextToken_61 : decode cX4_nextToken 61 = .ok (.ifCond .ne 10, 3) := by decide +kernel
theorem dX4_nextToken_64 : decode cX4_nextToken 64 = .ok (.aload_n 0, 1) := by decide +kernel
theorem dX4_nextToken_65 : decode cX4_nextToken 65 = .ok (.getfield 49, 3) := by decide +kernel
theorem dX4_nextToken_68 : decode cX4_nextToken 68 = .ok (.goto 9, 3) := by decide +kernel
theorem dX4_nextToken_71 : decode cX4_nextToken 71 = .ok (.aload_n 0, 1) := by decide +kernel
theorem dX4_nextToken_72 : decode cX4_nextToken 72 = .ok (.getfield 49, 3) := by decide +kernel
theorem dX4_nextToken_75 : decode cX4_nextToken 75 = .ok (.iconst 1, 1) := by decide +kernel
theorem dX4_nextToken_76 : decode cX4_nextToken 76 = .ok (.iadd, 1) := by decide +kernel
theorem dX4_nextToken_77 : decode cX4_nextToken 77 = .ok (.putfield 36, 3) := by decide +kernel
theorem dX4_nextToken_80 : decode cX4_nextToken 80 = .ok (.aload_n 0, 1) := by decide +kernel
theorem dX4_nextToken_81 : decode cX4_nextToken 81 = .ok (.getfield 42, 3) := by decide +kernel
theorem dX4_nextToken_84 : decode cX4_nextToken 84 = .ok (.iconst 1, 1) := by decide +kernel
theorem dX4_nextToken_85 : decode cX4_nextToken 85 = .ok (.if_icmp .eq 11, 3) := by decide +kernel
theorem dX4_nextToken_88 : decode cX4_nextToken 88 = .ok (.aload_n 0, 1) := by decide +kernel
theorem dX4_nextToken_89 : decode cX4_nextToken 89 = .ok (.getfield 42, 3) := by decide +kernel
theorem dX4_nextToken_92 : decode cX4_nextToken 92 = .ok (.iconst 2, 1) := by decide +kernel
theorem dX4_nextToken_93 : decode cX4_nextToken 93 = .ok (.if_icmp .ne 7, 3) := by decide +kernel
theorem dX4_nextToken_96 : decode cX4_nextToken 96 = .ok (.iconst 1, 1) := by decide +kernel
theorem dX4_nextToken_97 : decode cX4_nextToken 97 = .ok (.goto 4, 3) := by decide +kernel
theorem dX4_nextToken_100 : decode cX4_nextToken 100 = .ok (.iconst 0, 1) := by decide +kernel
theorem dX4_nextToken_101 : decode cX4_nextToken 101 = .ok (.istore_n 1, 1) := by decide +kernel
theorem dX4_nextToken_102 : decode cX4_nextToken 102 = .ok (.iload_n 1, 1) := by decide +kernel
theorem dX4_nextToken_103 : decode cX4_nextToken 103 = .ok (.ifCond .eq 42, 3) := by decide +kernel
theorem dX4_nextToken_106 : decode cX4_nextToken 106 = .ok (.aload_n 0, 1) := by decide +kernel
theorem dX4_nextToken_107 : decode cX4_nextToken 107 = .ok (.getfield 36, 3) := by decide +kernel
theorem dX4_nextToken_110 : decode cX4_nextToken 110 = .ok (.aload_n 0, 1) := by decide +kernel
theorem dX4_nextToken_111 : decode cX4_nextToken 111 = .ok (.getfield 22, 3) := by decide +kernel
theorem dX4_nextToken_114 : decode cX4_nextToken 114 = .ok (.if_icmp .ge 31, 3) := by decide +kernel
theorem dX4_nextToken_117 : decode cX4_nextToken 117 = .ok (.aload_n 0, 1) := by decide +kernel
theorem dX4_nextToken_118 : decode cX4_nextToken 118 = .ok (.aload_n 0, 1) := by decide +kernel
theorem dX4_nextToken_119 : decode cX4_nextToken 119 = .ok (.getfield 36, 3) := by decide +kernel
theorem dX4_nextToken_122 : decode cX4_nextToken 122 = .ok (.invokevirtual 63, 3) := by decide +kernel
theorem dX4_nextToken_125 : decode cX4_nextToken 125 = .ok (.aload_n 0, 1) := by decide +kernel
theorem dX4_nextToken_126 : decode cX4_nextToken 126 = .ok (.getfield 42, 3) := by decide +kernel
theorem dX4_nextToken_129 : decode cX4_nextToken 129 = .ok (.if_icmp .ne 16, 3) := by decide +kernel
theorem dX4_nextToken_132 : decode cX4_nextToken 132 = .ok (.aload_n 0, 1) := by decide +kernel
theorem dX4_nextToken_133 : decode cX4_nextToken 133 = .ok (.dup, 1) := by decide +kernel
theorem dX4_nextToken_134 : decode cX4_nextToken 134 = .ok (.getfield 36, 3) := by decide +kernel
theorem dX4_nextToken_137 : decode cX4_nextToken 137 = .ok (.iconst 1, 1) := by decide +kernel
theorem dX4_nextToken_138 : decode cX4_nextToken 138 = .ok (.iadd, 1) := by decide +kernel
theorem dX4_nextToken_139 : decode cX4_nextToken 139 = .ok (.putfield 36, 3) := by decide +kernel
theorem dX4_nextToken_142 : decode cX4_nextToken 142 = .ok (.goto (-40), 3) := by decide +kernel
theorem dX4_nextToken_145 : decode cX4_nextToken 145 = .ok (.return_, 1) := by decide +kernel
set_option maxRecDepth 20000 in
theorem ggX4_kindAt_X4_letterAt : GoodIn wsX4_kindAt wsX4_letterAt := goodIn_r _ [5, 6, 7, 8, 9, 10, 11, 12, 13, 14, 15] (by decide +kernel) (by decide +kernel)
set_option maxRecDepth 20000 in
theorem gX4_kindAt_X4_letterAt : GoodIn wsX4_kindAt (wsV RX4 67 RX4 yX4_letterAt wsX4_letterAt) := goodIn_app (goodIn_of _ (by decide +kernel)) ggX4_kindAt_X4_letterAt
theorem dX4_kindAt_0 : decode cX4_kindAt 0 = .ok (.aload_n 0, 1) := by decide +kernel
theorem dX4_kindAt_1 : decode cX4_kindAt 1 = .ok (.iload_n 1, 1) := by decide +kernel
theorem dX4_kindAt_2 : decode cX4_kindAt 2 = .ok (.invokevirtual 67, 3) := by decide +kernel
theorem dX4_kindAt_5 : decode cX4_kindAt 5 = .ok (.istore_n 2, 1) := by decide +kernel
theorem dX4_kindAt_6 : decode cX4_kindAt 6 = .ok (.iload_n 2, 1) := by decide +kernel
theorem dX4_kindAt_7 : decode cX4_kindAt 7 = .ok (.bipush (-9), 2) := by decide +kernel
theorem dX4_kindAt_9 : decode cX4_kindAt 9 = .ok (.if_icmp .ne 5, 3) := by decide +kernel
theorem dX4_kindAt_12 : decode cX4_kindAt 12 = .ok (.iconst 0, 1) := by decide +kernel
theorem dX4_kindAt_13 : decode cX4_kindAt 13 = .ok (.ireturn, 1) := by decide +kernel
theorem dX4_kindAt_14 : decode cX4_kindAt 14 = .ok (.iload_n 2, 1) := by decide +kernel
theorem dX4_kindAt_15 : decode cX4_kindAt 15 = .ok (.bipush 97, 2) := by decide +kernel
theorem dX4_kindAt_17 : decode cX4_kindAt 17 = .ok (.if_icmp .lt 11, 3) := by decide +kernel
theorem dX4_kindAt_20 : decode cX4_kindAt 20 = .ok (.iload_n 2, 1) := by decide +kernel
theorem dX4_kindAt_21 : decode cX4_kindAt 21 = .ok (.bipush 122, 2) := by decide +kernel
theorem dX4_kindAt_23 : decode cX4_kindAt 23 = .ok (.if_icmp .gt 5, 3) := by decide +kernel
theorem dX4_kindAt_26 : decode cX4_kindAt 26 = .ok (.iconst 1, 1) := by decide +kernel
theorem dX4_kindAt_27 : decode cX4_kindAt 27 = .ok (.ireturn, 1) := by decide +kernel
theorem dX4_kindAt_28 : decode cX4_kindAt 28 = .ok (.iload_n 2, 1) := by decide +kernel
theorem dX4_kindAt_29 : decode cX4_kindAt 29 = .ok (.bipush 48, 2) := by decide +kernel
theorem dX4_kindAt_31 : decode cX4_kindAt 31 = .ok (.if_icmp .lt 11, 3) := by decide +kernel
theorem dX4_kindAt_34 : decode cX4_kindAt 34 = .ok (.iload_n 2, 1) := by decide +kernel
theorem dX4_kindAt_35 : decode cX4_kindAt 35 = .ok (.bipush 57, 2) := by decide +kernel
theorem dX4_kindAt_37 : decode cX4_kindAt 37 = .ok (.if_icmp .gt 5, 3) := by decide +kernel
theorem dX4_kindAt_40 : decode cX4_kindAt 40 = .ok (.iconst 2, 1) := by decide +kernel
theorem dX4_kindAt_41 : decode cX4_kindAt 41 = .ok (.ireturn, 1) := by decide +kernel
theorem dX4_kindAt_42 : decode cX4_kindAt 42 = .ok (.iload_n 2, 1) := by decide +kernel
theorem dX4_kindAt_43 : decode cX4_kindAt 43 = .ok (.bipush 59, 2) := by decide +kernel
theorem dX4_kindAt_45 : decode cX4_kindAt 45 = .ok (.if_icmp .ne 5, 3) := by decide +kernel
theorem dX4_kindAt_48 : decode cX4_kindAt 48 = .ok (.iconst 3, 1) := by decide +kernel
theorem dX4_kindAt_49 : decode cX4_kindAt 49 = .ok (.ireturn, 1) := by decide +kernel
theorem dX4_kindAt_50 : decode cX4_kindAt 50 = .ok (.iload_n 2, 1) := by decide +kernel
theorem dX4_kindAt_51 : decode cX4_kindAt 51 = .ok (.bipush 32, 2) := by decide +kernel
theorem dX4_kindAt_53 : decode cX4_kindAt 53 = .ok (.if_icmp .ne 7, 3) := by decide +kernel
theorem dX4_kindAt_56 : decode cX4_kindAt 56 = .ok (.iconst 4, 1) := by decide +kernel
theorem dX4_kindAt_57 : decode cX4_kindAt 57 = .ok (.goto 4, 3) := by decide +kernel
theorem dX4_kindAt_60 : decode cX4_kindAt 60 = .ok (.iconst 5, 1) := by decide +kernel
theorem dX4_kindAt_61 : decode cX4_kindAt 61 = .ok (.ireturn, 1) := by decide +kernel
set_option maxRecDepth 20000 in
theorem ggX4_itemOfWord_X4_isWord : GoodIn wsX4_itemOfWord wsX4_isWord := goodIn_r _ [5, 6, 7, 8, 9, 10, 11, 12, 13, 14, 15, 16, 17, 18, 19, 20, 21, 22, 4, 23, 24, 25, 26, 27, 28, 29, 30, 31, 32, 33, 34, 35, 36, 37, 38, 39, 40, 41, 42, 43, 44, 45, 46, 47, 48, 49, 50, 51, 52, 53, 54, 55, 56, 57, 58, 59, 60, 61, 62, 63, 64, 65, 66, 67, 68, 69, 70] (by decide +kernel) (by decide +kernel)
set_option maxRecDepth 20000 in
theorem gX4_itemOfWord_X4_isWord : GoodIn wsX4_itemOfWord (wsV RX4 72 RX4 yX4_isWord wsX4_isWord) := goodIn_app (goodIn_of _ (by decide +kernel)) ggX4_itemOfWord_X4_isWord
theorem dX4_itemOfWord_0 : decode cX4_itemOfWord 0 = .ok (.aload_n 0, 1) := by decide +kernel
theorem dX4_itemOfWord_1 : decode cX4_itemOfWord 1 = .ok (.ldc 70, 2) := by decide +kernel
theorem dX4_itemOfWord_3 : decode cX4_itemOfWord 3 = .ok (.invokevirtual 72, 3) := by decide +kernel
theorem dX4_itemOfWord_6 : decode cX4_itemOfWord 6 = .ok (.ifCond .eq 5, 3) := by decide +kernel
theorem dX4_itemOfWord_9 : decode cX4_itemOfWord 9 = .ok (.iconst 3, 1) := by decide +kernel
theorem dX4_itemOfWord_10 : decode cX4_itemOfWord 10 = .ok (.ireturn, 1) := by decide +kernel
theorem dX4_itemOfWord_11 : decode cX4_itemOfWord 11 = .ok (.aload_n 0, 1) := by decide +kernel
theorem dX4_itemOfWord_12 : decode cX4_itemOfWord 12 = .ok (.ldc 76, 2) := by decide +kernel
theorem dX4_itemOfWord_14 : decode cX4_itemOfWord 14 = .ok (.invokevirtual 72, 3) := by decide +kernel
theorem dX4_itemOfWord_17 : decode cX4_itemOfWord 17 = .ok (.ifCond .eq 5, 3) := by decide +kernel
theorem dX4_itemOfWord_20 : decode cX4_itemOfWord 20 = .ok (.iconst 4, 1) := by decide +kernel
theorem dX4_itemOfWord_21 : decode cX4_itemOfWord 21 = .ok (.ireturn, 1) := by decide +kernel
theorem dX4_itemOfWord_22 : decode cX4_itemOfWord 22 = .ok (.aload_n 0, 1) := by decide +kernel
theorem dX4_itemOfWord_23 : decode cX4_itemOfWord 23 = .ok (.ldc 78, 2) := by decide +kernel
theorem dX4_itemOfWord_25 : decode cX4_itemOfWord 25 = .ok (.invokevirtual 72, 3) := by decide +kernel
theorem dX4_itemOfWord_28 : decode cX4_itemOfWord 28 = .ok (.ifCond .eq 5, 3) := by decide +kernel
theorem dX4_itemOfWord_31 : decode cX4_itemOfWord 31 = .ok (.iconst 0, 1) := by decide +kernel
theorem dX4_itemOfWord_32 : decode cX4_itemOfWord 32 = .ok (.ireturn, 1) := by decide +kernel
theorem dX4_itemOfWord_33 : decode cX4_itemOfWord 33 = .ok (.aload_n 0, 1) := by decide +kernel
theorem dX4_itemOfWord_34 : decode cX4_itemOfWord 34 = .ok (.ldc 80, 2) := by decide +kernel
theorem dX4_itemOfWord_36 : decode cX4_itemOfWord 36 = .ok (.invokevirtual 72, 3) := by decide +kernel
theorem dX4_itemOfWord_39 : decode cX4_itemOfWord 39 = .ok (.ifCond .eq 5, 3) := by decide +kernel
theorem dX4_itemOfWord_42 : decode cX4_itemOfWord 42 = .ok (.iconst 1, 1) := by decide +kernel
theorem dX4_itemOfWord_43 : decode cX4_itemOfWord 43 = .ok (.ireturn, 1) := by decide +kernel
theorem dX4_itemOfWord_44 : decode cX4_itemOfWord 44 = .ok (.aload_n 0, 1) := by decide +kernel
theorem dX4_itemOfWord_45 : decode cX4_itemOfWord 45 = .ok (.ldc 82, 2) := by decide +kernel
theorem dX4_itemOfWord_47 : decode cX4_itemOfWord 47 = .ok (.invokevirtual 72, 3) := by decide +kernel
theorem dX4_itemOfWord_50 : decode cX4_itemOfWord 50 = .ok (.ifCond .eq 7, 3) := by decide +kernel
theorem dX4_itemOfWord_53 : decode cX4_itemOfWord 53 = .ok (.iconst 2, 1) := by decide +kernel
theorem dX4_itemOfWord_54 : decode cX4_itemOfWord 54 = .ok (.goto 5, 3) := by decide +kernel
theorem dX4_itemOfWord_57 : decode cX4_itemOfWord 57 = .ok (.bipush (-9), 2) := by decide +kernel
theorem dX4_itemOfWord_59 : decode cX4_itemOfWord 59 = .ok (.ireturn, 1) := by decide +kernel
set_option maxRecDepth 20000 in
theorem ggX4_isWord_J0_length_8abf5 : GoodIn wsX4_isWord wsJ0_length_8abf5 := goodIn_r _ [7, 8, 9, 10, 11, 6, 12, 13, 14] (by decide +kernel) (by decide +kernel)
set_option maxRecDepth 20000 in
theorem gX4_isWord_J0_length_8abf5 : GoodIn wsX4_isWord (wsV RX4 84 RJ0 yJ0_length_8abf5 wsJ0_length_8abf5) := goodIn_app (goodIn_of _ (by decide +kernel)) ggX4_isWord_J0_length_8abf5
set_option maxRecDepth 20000 in
theorem ggX4_isWord_X4_letterAt : GoodIn wsX4_isWord wsX4_letterAt := goodIn_r _ [19, 20, 21, 59, 60, 61, 62, 63, 64, 65, 66] (by decide +kernel) (by decide +kernel)
set_option maxRecDepth 20000 in
theorem gX4_isWord_X4_letterAt : GoodIn wsX4_isWord (wsV RX4 67 RX4 yX4_letterAt wsX4_letterAt) := goodIn_app (goodIn_of _ (by decide +kernel)) ggX4_isWord_X4_letterAt
set_option maxRecDepth 20000 in
theorem ggX4_isWord_J0_charAt_5068e : GoodIn wsX4_isWord wsJ0_charAt_5068e := goodIn_r _ [25, 8, 26, 27, 28, 6, 29, 13, 14, 30, 31, 32, 33, 34, 35, 36, 37, 38, 39, 40, 41, 42, 43, 44, 45, 46, 47, 48, 49, 50, 51, 52, 53, 54, 55, 56, 57, 58] (by decide +kernel) (by decide +kernel)
set_option maxRecDepth 20000 in
theorem gX4_isWord_J0_charAt_5068e : GoodIn wsX4_isWord (wsV RX4 88 RJ0 yJ0_charAt_5068e wsJ0_charAt_5068e) := goodIn_app (goodIn_of _ (by decide +kernel)) ggX4_isWord_J0_charAt_5068e
theorem dX4_isWord_0 : decode cX4_isWord 0 = .ok (.aload_n 0, 1) := by decide +kernel
theorem dX4_isWord_1 : decode cX4_isWord 1 = .ok (.getfield 36, 3) := by decide +kernel
theorem dX4_isWord_4 : decode cX4_isWord 4 = .ok (.aload_n 0, 1) := by decide +kernel
theorem dX4_isWord_5 : decode cX4_isWord 5 = .ok (.getfield 49, 3) := by decide +kernel
theorem dX4_isWord_8 : decode cX4_isWord 8 = .ok (.isub, 1) := by decide +kernel
theorem dX4_isWord_9 : decode cX4_isWord 9 = .ok (.aload_n 1, 1) := by decide +kernel
theorem dX4_isWord_10 : decode cX4_isWord 10 = .ok (.invokevirtual 84, 3) := by decide +kernel
theorem dX4_isWord_13 : decode cX4_isWord 13 = .ok (.if_icmp .eq 5, 3) := by decide +kernel
theorem dX4_isWord_16 : decode cX4_isWord 16 = .ok (.iconst 0, 1) := by decide +kernel
theorem dX4_isWord_17 : decode cX4_isWord 17 = .ok (.ireturn, 1) := by decide +kernel
theorem dX4_isWord_18 : decode cX4_isWord 18 = .ok (.iconst 0, 1) := by decide +kernel
theorem dX4_isWord_19 : decode cX4_isWord 19 = .ok (.istore_n 2, 1) := by decide +kernel
theorem dX4_isWord_20 : decode cX4_isWord 20 = .ok (.iload_n 2, 1) := by decide +kernel
theorem dX4_isWord_21 : decode cX4_isWord 21 = .ok (.aload_n 1, 1) := by decide +kernel
theorem dX4_isWord_22 : decode cX4_isWord 22 = .ok (.invokevirtual 84, 3) := by decide +kernel
theorem dX4_isWord_25 : decode cX4_isWord 25 = .ok (.if_icmp .ge 29, 3) := by decide +kernel
theorem dX4_isWord_28 : decode cX4_isWord 28 = .ok (.aload_n 0, 1) := by decide +kernel
theorem dX4_isWord_29 : decode cX4_isWord 29 = .ok (.aload_n 0, 1) := by decide +kernel
theorem dX4_isWord_30 : decode cX4_isWord 30 = .ok (.getfield 49, 3) := by decide +kernel
theorem dX4_isWord_33 : decode cX4_isWord 33 = .ok (.iload_n 2, 1) := by decide +kernel
theorem dX4_isWord_34 : decode cX4_isWord 34 = .ok (.iadd, 1) := by decide +kernel
theorem dX4_isWord_35 : decode cX4_isWord 35 = .ok (.invokevirtual 67, 3) := by decide +kernel
theorem dX4_isWord_38 : decode cX4_isWord 38 = .ok (.aload_n 1, 1) := by decide +kernel
theorem dX4_isWord_39 : decode cX4_isWord 39 = .ok (.iload_n 2, 1) := by decide +kernel
theorem dX4_isWord_40 : decode cX4_isWord 40 = .ok (.invokevirtual 88, 3) := by decide +kernel
theorem dX4_isWord_43 : decode cX4_isWord 43 = .ok (.if_icmp .eq 5, 3) := by decide +kernel
theorem dX4_isWord_46 : decode cX4_isWord 46 = .ok (.iconst 0, 1) := by decide +kernel
theorem dX4_isWord_47 : decode cX4_isWord 47 = .ok (.ireturn, 1) := by decide +kernel
theorem dX4_isWord_48 : decode cX4_isWord 48 = .ok (.iinc 2 1, 3) := by decide +kernel
theorem dX4_isWord_51 : decode cX4_isWord 51 = .ok (.goto (-31), 3) := by decide +kernel
theorem dX4_isWord_54 : decode cX4_isWord 54 = .ok (.iconst 1, 1) := by decide +kernel
theorem dX4_isWord_55 : decode cX4_isWord 55 = .ok (.ireturn, 1) := by decide +kernel
theorem dX4_mayBegin_0 : decode cX4_mayBegin 0 = .ok (.iload_n 1, 1) := by decide +kernel
theorem dX4_mayBegin_1 : decode cX4_mayBegin 1 = .ok (.lookupswitch 70 #[(-9, 35), (3, 37), (4, 50)], 35) := by decide +kernel
theorem dX4_mayBegin_36 : decode cX4_mayBegin 36 = .ok (.iconst 0, 1) := by decide +kernel
theorem dX4_mayBegin_37 : decode cX4_mayBegin 37 = .ok (.ireturn, 1) := by decide +kernel
theorem dX4_mayBegin_38 : decode cX4_mayBegin 38 = .ok (.aload_n 0, 1) := by decide +kernel
theorem dX4_mayBegin_39 : decode cX4_mayBegin 39 = .ok (.getfield 29, 3) := by decide +kernel
theorem dX4_mayBegin_42 : decode cX4_mayBegin 42 = .ok (.ifCond .ne 7, 3) := by decide +kernel
theorem dX4_mayBegin_45 : decode cX4_mayBegin 45 = .ok (.iconst 1, 1) := by decide +kernel
theorem dX4_mayBegin_46 : decode cX4_mayBegin 46 = .ok (.goto 4, 3) := by decide +kernel
theorem dX4_mayBegin_49 : decode cX4_mayBegin 49 = .ok (.iconst 0, 1) := by decide +kernel
theorem dX4_mayBegin_50 : decode cX4_mayBegin 50 = .ok (.ireturn, 1) := by decide +kernel
theorem dX4_mayBegin_51 : decode cX4_mayBegin 51 = .ok (.aload_n 0, 1) := by decide +kernel
theorem dX4_mayBegin_52 : decode cX4_mayBegin 52 = .ok (.getfield 29, 3) := by decide +kernel
theorem dX4_mayBegin_55 : decode cX4_mayBegin 55 = .ok (.ifCond .eq 14, 3) := by decide +kernel
theorem dX4_mayBegin_58 : decode cX4_mayBegin 58 = .ok (.aload_n 0, 1) := by decide +kernel
theorem dX4_mayBegin_59 : decode cX4_mayBegin 59 = .ok (.getfield 33, 3) := by decide +kernel
theorem dX4_mayBegin_62 : decode cX4_mayBegin 62 = .ok (.ifCond .ne 7, 3) := by decide +kernel
theorem dX4_mayBegin_65 : decode cX4_mayBegin 65 = .ok (.iconst 1, 1) := by decide +kernel
theorem dX4_mayBegin_66 : decode cX4_mayBegin 66 = .ok (.goto 4, 3) := by decide +kernel
theorem dX4_mayBegin_69 : decode cX4_mayBegin 69 = .ok (.iconst 0, 1) := by decide +kernel
theorem dX4_mayBegin_70 : decode cX4_mayBegin 70 = .ok (.ireturn, 1) := by decide +kernel
theorem dX4_mayBegin_71 : decode cX4_mayBegin 71 = .ok (.iconst 1, 1) := by decide +kernel
theorem dX4_mayBegin_72 : decode cX4_mayBegin 72 = .ok (.ireturn, 1) := by decide +kernel
set_option maxRecDepth 20000 in
theorem ggX4_takeFigures_X4_takeLine : GoodIn wsX4_takeFigures wsX4_takeLine := goodIn_r _ [5, 6, 7, 8, 9, 10, 11, 12, 13, 4, 14, 15, 16, 17, 18, 19, 20, 21, 22, 23, 24, 25, 26, 27, 53, 54, 55, 56, 57, 58, 59, 60, 61, 62, 63, 64, 65, 66, 67] (by decide +kernel) (by decide +kernel)
set_option maxRecDepth 20000 in
theorem gX4_takeFigures_X4_takeLine : GoodIn wsX4_takeFigures (wsV RX4 92 RX4 yX4_takeLine wsX4_takeLine) := goodIn_app (goodIn_of _ (by decide +kernel)) ggX4_takeFigures_X4_takeLine
set_option maxRecDepth 20000 in
theorem ggX4_takeFigures_X4_takeHands : GoodIn wsX4_takeFigures wsX4_takeHands := goodIn_r _ [31, 6, 7, 8, 9, 32, 33, 34, 11, 12, 13, 4, 14, 15, 16, 17, 18, 19, 20, 35, 36, 37, 53, 54, 55, 56, 57, 58, 59, 60, 61, 62, 63, 64, 65, 66, 67] (by decide +kernel) (by decide +kernel)
set_option maxRecDepth 20000 in
theorem gX4_takeFigures_X4_takeHands : GoodIn wsX4_takeFigures (wsV RX4 95 RX4 yX4_takeHands wsX4_takeHands) := goodIn_app (goodIn_of _ (by decide +kernel)) ggX4_takeFigures_X4_takeHands
set_option maxRecDepth 20000 in
theorem ggX4_takeFigures_X4_takeNumber : GoodIn wsX4_takeFigures wsX4_takeNumber := goodIn_r _ [41, 7, 6, 8, 11, 12, 13, 4, 14, 15, 16, 17, 18, 19, 20, 42, 36, 43, 44, 45, 46, 47, 48, 24, 49, 50, 51, 52, 53, 54, 55, 56, 57, 58, 59, 60, 61, 62, 63, 64, 65, 66, 67] (by decide +kernel) (by decide +kernel)
set_option maxRecDepth 20000 in
theorem gX4_takeFigures_X4_takeNumber : GoodIn wsX4_takeFigures (wsV RX4 98 RX4 yX4_takeNumber wsX4_takeNumber) := goodIn_app (goodIn_of _ (by decide +kernel)) ggX4_takeFigures_X4_takeNumber
theorem dX4_takeFigures_0 : decode cX4_takeFigures 0 = .ok (.iload_n 1, 1) := by decide +kernel
theorem dX4_takeFigures_1 : decode cX4_takeFigures 1 = .ok (.lookupswitch 37 #[(3, 27), (4, 32)], 27) := by decide +kernel
theorem dX4_takeFigures_28 : decode cX4_takeFigures 28 = .ok (.aload_n 0, 1) := by decide +kernel
theorem dX4_takeFigures_29 : decode cX4_takeFigures 29 = .ok (.invokevirtual 92, 3) := by decide +kernel
theorem dX4_takeFigures_32 : decode cX4_takeFigures 32 = .ok (.ireturn, 1) := by decide +kernel
theorem dX4_takeFigures_33 : decode cX4_takeFigures 33 = .ok (.aload_n 0, 1) := by decide +kernel
theorem dX4_takeFigures_34 : decode cX4_takeFigures 34 = .ok (.invokevirtual 95, 3) := by decide +kernel
theorem dX4_takeFigures_37 : decode cX4_takeFigures 37 = .ok (.ireturn, 1) := by decide +kernel
theorem dX4_takeFigures_38 : decode cX4_takeFigures 38 = .ok (.aload_n 0, 1) := by decide +kernel
theorem dX4_takeFigures_39 : decode cX4_takeFigures 39 = .ok (.iload_n 1, 1) := by decide +kernel
theorem dX4_takeFigures_40 : decode cX4_takeFigures 40 = .ok (.invokevirtual 98, 3) := by decide +kernel
theorem dX4_takeFigures_43 : decode cX4_takeFigures 43 = .ok (.ireturn, 1) := by decide +kernel
set_option maxRecDepth 20000 in
theorem ggX4_takeLine_X4_figureAt : GoodIn wsX4_takeLine wsX4_figureAt := goodIn_r _ [10, 11, 12, 13, 9, 14, 15, 16, 24, 25, 26, 27, 28, 29, 30, 31] (by decide +kernel) (by decide +kernel)
set_option maxRecDepth 20000 in
theorem gX4_takeLine_X4_figureAt : GoodIn wsX4_takeLine (wsV RX4 104 RX4 yX4_figureAt wsX4_figureAt) := goodIn_app (goodIn_of _ (by decide +kernel)) ggX4_takeLine_X4_figureAt
set_option maxRecDepth 20000 in
theorem ggX4_takeLine_X0_setPitch : GoodIn wsX4_takeLine wsX0_setPitch := goodIn_r _ [21, 22, 23, 32, 33, 34, 35, 36, 37, 38] (by decide +kernel) (by decide +kernel)
set_option maxRecDepth 20000 in
theorem gX4_takeLine_X0_setPitch : GoodIn wsX4_takeLine (wsV RX4 107 RX0 yX0_setPitch wsX0_setPitch) := goodIn_app (goodIn_of _ (by decide +kernel)) ggX4_takeLine_X0_setPitch
theorem dX4_takeLine_0 : decode cX4_takeLine 0 = .ok (.aload_n 0, 1) := by decide +kernel
theorem dX4_takeLine_1 : decode cX4_takeLine 1 = .ok (.getfield 36, 3) := by decide +kernel
theorem dX4_takeLine_4 : decode cX4_takeLine 4 = .ok (.aload_n 0, 1) := by decide +kernel
theorem dX4_takeLine_5 : decode cX4_takeLine 5 = .ok (.getfield 49, 3) := by decide +kernel
theorem dX4_takeLine_8 : decode cX4_takeLine 8 = .ok (.isub, 1) := by decide +kernel
theorem dX4_takeLine_9 : decode cX4_takeLine 9 = .ok (.bipush 12, 2) := by decide +kernel
theorem dX4_takeLine_11 : decode cX4_takeLine 11 = .ok (.if_icmp .le 5, 3) := by decide +kernel
theorem dX4_takeLine_14 : decode cX4_takeLine 14 = .ok (.iconst 0, 1) := by decide +kernel
theorem dX4_takeLine_15 : decode cX4_takeLine 15 = .ok (.ireturn, 1) := by decide +kernel
theorem dX4_takeLine_16 : decode cX4_takeLine 16 = .ok (.aload_n 0, 1) := by decide +kernel
theorem dX4_takeLine_17 : decode cX4_takeLine 17 = .ok (.getfield 12, 3) := by decide +kernel
theorem dX4_takeLine_20 : decode cX4_takeLine 20 = .ok (.aload_n 0, 1) := by decide +kernel
theorem dX4_takeLine_21 : decode cX4_takeLine 21 = .ok (.getfield 36, 3) := by decide +kernel
theorem dX4_takeLine_24 : decode cX4_takeLine 24 = .ok (.aload_n 0, 1) := by decide +kernel
theorem dX4_takeLine_25 : decode cX4_takeLine 25 = .ok (.getfield 49, 3) := by decide +kernel
theorem dX4_takeLine_28 : decode cX4_takeLine 28 = .ok (.isub, 1) := by decide +kernel
theorem dX4_takeLine_29 : decode cX4_takeLine 29 = .ok (.putfield 101, 3) := by decide +kernel
theorem dX4_takeLine_32 : decode cX4_takeLine 32 = .ok (.iconst 0, 1) := by decide +kernel
theorem dX4_takeLine_33 : decode cX4_takeLine 33 = .ok (.istore_n 1, 1) := by decide +kernel
theorem dX4_takeLine_34 : decode cX4_takeLine 34 = .ok (.iload_n 1, 1) := by decide +kernel
theorem dX4_takeLine_35 : decode cX4_takeLine 35 = .ok (.aload_n 0, 1) := by decide +kernel
theorem dX4_takeLine_36 : decode cX4_takeLine 36 = .ok (.getfield 12, 3) := by decide +kernel
theorem dX4_takeLine_39 : decode cX4_takeLine 39 = .ok (.getfield 101, 3) := by decide +kernel
theorem dX4_takeLine_42 : decode cX4_takeLine 42 = .ok (.if_icmp .ge 37, 3) := by decide +kernel
theorem dX4_takeLine_45 : decode cX4_takeLine 45 = .ok (.aload_n 0, 1) := by decide +kernel
theorem dX4_takeLine_46 : decode cX4_takeLine 46 = .ok (.aload_n 0, 1) := by decide +kernel
theorem dX4_takeLine_47 : decode cX4_takeLine 47 = .ok (.getfield 49, 3) := by decide +kernel
theorem dX4_takeLine_50 : decode cX4_takeLine 50 = .ok (.iload_n 1, 1) := by decide +kernel
theorem dX4_takeLine_51 : decode cX4_takeLine 51 = .ok (.iadd, 1) := by decide +kernel
theorem dX4_takeLine_52 : decode cX4_takeLine 52 = .ok (.invokevirtual 104, 3) := by decide +kernel
theorem dX4_takeLine_55 : decode cX4_takeLine 55 = .ok (.istore_n 2, 1) := by decide +kernel
theorem dX4_takeLine_56 : decode cX4_takeLine 56 = .ok (.iload_n 2, 1) := by decide +kernel
theorem dX4_takeLine_57 : decode cX4_takeLine 57 = .ok (.bipush 7, 2) := by decide +kernel
theorem dX4_takeLine_59 : decode cX4_takeLine 59 = .ok (.if_icmp .le 5, 3) := by decide +kernel
theorem dX4_takeLine_62 : decode cX4_takeLine 62 = .ok (.iconst 0, 1) := by decide +kernel
theorem dX4_takeLine_63 : decode cX4_takeLine 63 = .ok (.ireturn, 1) := by decide +kernel
theorem dX4_takeLine_64 : decode cX4_takeLine 64 = .ok (.aload_n 0, 1) := by decide +kernel
theorem dX4_takeLine_65 : decode cX4_takeLine 65 = .ok (.getfield 12, 3) := by decide +kernel
theorem dX4_takeLine_68 : decode cX4_takeLine 68 = .ok (.iload_n 1, 1) := by decide +kernel
theorem dX4_takeLine_69 : decode cX4_takeLine 69 = .ok (.iload_n 2, 1) := by decide +kernel
theorem dX4_takeLine_70 : decode cX4_takeLine 70 = .ok (.invokevirtual 107, 3) := by decide +kernel
theorem dX4_takeLine_73 : decode cX4_takeLine 73 = .ok (.iinc 1 1, 3) := by decide +kernel
theorem dX4_takeLine_76 : decode cX4_takeLine 76 = .ok (.goto (-42), 3) := by decide +kernel
theorem dX4_takeLine_79 : decode cX4_takeLine 79 = .ok (.aload_n 0, 1) := by decide +kernel
theorem dX4_takeLine_80 : decode cX4_takeLine 80 = .ok (.iconst 1, 1) := by decide +kernel
theorem dX4_takeLine_81 : decode cX4_takeLine 81 = .ok (.putfield 29, 3) := by decide +kernel
theorem dX4_takeLine_84 : decode cX4_takeLine 84 = .ok (.iconst 1, 1) := by decide +kernel
theorem dX4_takeLine_85 : decode cX4_takeLine 85 = .ok (.ireturn, 1) := by decide +kernel
set_option maxRecDepth 20000 in
theorem ggX4_takeHands_X4_figureAt : GoodIn wsX4_takeHands wsX4_figureAt := goodIn_r _ [12, 13, 14, 15, 11, 16, 17, 18, 22, 23, 24, 25, 26, 27, 28, 29] (by decide +kernel) (by decide +kernel)
set_option maxRecDepth 20000 in
theorem gX4_takeHands_X4_figureAt : GoodIn wsX4_takeHands (wsV RX4 104 RX4 yX4_figureAt wsX4_figureAt) := goodIn_app (goodIn_of _ (by decide +kernel)) ggX4_takeHands_X4_figureAt
set_option maxRecDepth 20000 in
theorem ggX4_takeHands_X5_isHand : GoodIn wsX4_takeHands wsX5_isHand := goodIn_r _ [21] (by decide +kernel) (by decide +kernel)
set_option maxRecDepth 20000 in
theorem gX4_takeHands_X5_isHand_n111 : GoodIn wsX4_takeHands (wsX5_isHand) := ggX4_takeHands_X5_isHand
theorem dX4_takeHands_0 : decode cX4_takeHands 0 = .ok (.aload_n 0, 1) := by decide +kernel
theorem dX4_takeHands_1 : decode cX4_takeHands 1 = .ok (.getfield 36, 3) := by decide +kernel
theorem dX4_takeHands_4 : decode cX4_takeHands 4 = .ok (.aload_n 0, 1) := by decide +kernel
theorem dX4_takeHands_5 : decode cX4_takeHands 5 = .ok (.getfield 49, 3) := by decide +kernel
theorem dX4_takeHands_8 : decode cX4_takeHands 8 = .ok (.isub, 1) := by decide +kernel
theorem dX4_takeHands_9 : decode cX4_takeHands 9 = .ok (.aload_n 0, 1) := by decide +kernel
theorem dX4_takeHands_10 : decode cX4_takeHands 10 = .ok (.getfield 12, 3) := by decide +kernel
theorem dX4_takeHands_13 : decode cX4_takeHands 13 = .ok (.getfield 101, 3) := by decide +kernel
theorem dX4_takeHands_16 : decode cX4_takeHands 16 = .ok (.if_icmp .eq 5, 3) := by decide +kernel
theorem dX4_takeHands_19 : decode cX4_takeHands 19 = .ok (.iconst 0, 1) := by decide +kernel
theorem dX4_takeHands_20 : decode cX4_takeHands 20 = .ok (.ireturn, 1) := by decide +kernel
theorem dX4_takeHands_21 : decode cX4_takeHands 21 = .ok (.iconst 0, 1) := by decide +kernel
theorem dX4_takeHands_22 : decode cX4_takeHands 22 = .ok (.istore_n 1, 1) := by decide +kernel
theorem dX4_takeHands_23 : decode cX4_takeHands 23 = .ok (.iload_n 1, 1) := by decide +kernel
theorem dX4_takeHands_24 : decode cX4_takeHands 24 = .ok (.aload_n 0, 1) := by decide +kernel
theorem dX4_takeHands_25 : decode cX4_takeHands 25 = .ok (.getfield 12, 3) := by decide +kernel
theorem dX4_takeHands_28 : decode cX4_takeHands 28 = .ok (.getfield 101, 3) := by decide +kernel
theorem dX4_takeHands_31 : decode cX4_takeHands 31 = .ok (.if_icmp .ge 44, 3) := by decide +kernel
theorem dX4_takeHands_34 : decode cX4_takeHands 34 = .ok (.aload_n 0, 1) := by decide +kernel
theorem dX4_takeHands_35 : decode cX4_takeHands 35 = .ok (.aload_n 0, 1) := by decide +kernel
theorem dX4_takeHands_36 : decode cX4_takeHands 36 = .ok (.getfield 49, 3) := by decide +kernel
theorem dX4_takeHands_39 : decode cX4_takeHands 39 = .ok (.iload_n 1, 1) := by decide +kernel
theorem dX4_takeHands_40 : decode cX4_takeHands 40 = .ok (.iadd, 1) := by decide +kernel
theorem dX4_takeHands_41 : decode cX4_takeHands 41 = .ok (.invokevirtual 104, 3) := by decide +kernel
theorem dX4_takeHands_44 : decode cX4_takeHands 44 = .ok (.istore_n 2, 1) := by decide +kernel
theorem dX4_takeHands_45 : decode cX4_takeHands 45 = .ok (.iload_n 2, 1) := by decide +kernel
theorem dX4_takeHands_46 : decode cX4_takeHands 46 = .ok (.invokestatic 111, 3) := by decide +kernel
theorem dX4_takeHands_49 : decode cX4_takeHands 49 = .ok (.ifCond .ne 5, 3) := by decide +kernel
theorem dX4_takeHands_52 : decode cX4_takeHands 52 = .ok (.iconst 0, 1) := by decide +kernel
theorem dX4_takeHands_53 : decode cX4_takeHands 53 = .ok (.ireturn, 1) := by decide +kernel
theorem dX4_takeHands_54 : decode cX4_takeHands 54 = .ok (.aload_n 0, 1) := by decide +kernel
theorem dX4_takeHands_55 : decode cX4_takeHands 55 = .ok (.getfield 12, 3) := by decide +kernel
theorem dX4_takeHands_58 : decode cX4_takeHands 58 = .ok (.dup, 1) := by decide +kernel
theorem dX4_takeHands_59 : decode cX4_takeHands 59 = .ok (.getfield 114, 3) := by decide +kernel
theorem dX4_takeHands_62 : decode cX4_takeHands 62 = .ok (.iload_n 2, 1) := by decide +kernel
theorem dX4_takeHands_63 : decode cX4_takeHands 63 = .ok (.iload_n 1, 1) := by decide +kernel
theorem dX4_takeHands_64 : decode cX4_takeHands 64 = .ok (.ishl, 1) := by decide +kernel
theorem dX4_takeHands_65 : decode cX4_takeHands 65 = .ok (.ior, 1) := by decide +kernel
theorem dX4_takeHands_66 : decode cX4_takeHands 66 = .ok (.putfield 114, 3) := by decide +kernel
theorem dX4_takeHands_69 : decode cX4_takeHands 69 = .ok (.iinc 1 1, 3) := by decide +kernel
theorem dX4_takeHands_72 : decode cX4_takeHands 72 = .ok (.goto (-49), 3) := by decide +kernel
theorem dX4_takeHands_75 : decode cX4_takeHands 75 = .ok (.aload_n 0, 1) := by decide +kernel
theorem dX4_takeHands_76 : decode cX4_takeHands 76 = .ok (.getfield 12, 3) := by decide +kernel
theorem dX4_takeHands_79 : decode cX4_takeHands 79 = .ok (.dup, 1) := by decide +kernel
theorem dX4_takeHands_80 : decode cX4_takeHands 80 = .ok (.getfield 114, 3) := by decide +kernel
theorem dX4_takeHands_83 : decode cX4_takeHands 83 = .ok (.aload_n 0, 1) := by decide +kernel
theorem dX4_takeHands_84 : decode cX4_takeHands 84 = .ok (.getfield 12, 3) := by decide +kernel
theorem dX4_takeHands_87 : decode cX4_takeHands 87 = .ok (.getfield 116, 3) := by decide +kernel
theorem dX4_takeHands_90 : decode cX4_takeHands 90 = .ok (.iand, 1) := by decide +kernel
theorem dX4_takeHands_91 : decode cX4_takeHands 91 = .ok (.putfield 114, 3) := by decide +kernel
theorem dX4_takeHands_94 : decode cX4_takeHands 94 = .ok (.aload_n 0, 1) := by decide +kernel
theorem dX4_takeHands_95 : decode cX4_takeHands 95 = .ok (.iconst 1, 1) := by decide +kernel
theorem dX4_takeHands_96 : decode cX4_takeHands 96 = .ok (.putfield 33, 3) := by decide +kernel
theorem dX4_takeHands_99 : decode cX4_takeHands 99 = .ok (.iconst 1, 1) := by decide +kernel
theorem dX4_takeHands_100 : decode cX4_takeHands 100 = .ok (.ireturn, 1) := by decide +kernel
set_option maxRecDepth 20000 in
theorem ggX4_takeNumber_X4_figureAt : GoodIn wsX4_takeNumber wsX4_figureAt := goodIn_r _ [8, 9, 10, 11, 7, 12, 13, 14, 28, 29, 30, 31, 32, 33, 34, 35] (by decide +kernel) (by decide +kernel)
set_option maxRecDepth 20000 in
theorem gX4_takeNumber_X4_figureAt : GoodIn wsX4_takeNumber (wsV RX4 104 RX4 yX4_figureAt wsX4_figureAt) := goodIn_app (goodIn_of _ (by decide +kernel)) ggX4_takeNumber_X4_figureAt
set_option maxRecDepth 20000 in
theorem ggX4_takeNumber_X5_isNumber : GoodIn wsX4_takeNumber wsX5_isNumber := goodIn_r _ [17, 18, 19] (by decide +kernel) (by decide +kernel)
set_option maxRecDepth 20000 in
theorem gX4_takeNumber_X5_isNumber_n119 : GoodIn wsX4_takeNumber (wsX5_isNumber) := ggX4_takeNumber_X5_isNumber
set_option maxRecDepth 20000 in
theorem ggX4_takeNumber_X0_setNumber : GoodIn wsX4_takeNumber wsX0_setNumber := goodIn_r _ [24, 25, 26, 27, 36, 37, 38, 39, 40, 41, 42] (by decide +kernel) (by decide +kernel)
set_option maxRecDepth 20000 in
theorem gX4_takeNumber_X0_setNumber : GoodIn wsX4_takeNumber (wsV RX4 123 RX0 yX0_setNumber wsX0_setNumber) := goodIn_app (goodIn_of _ (by decide +kernel)) ggX4_takeNumber_X0_setNumber
theorem dX4_takeNumber_0 : decode cX4_takeNumber 0 = .ok (.aload_n 0, 1) := by decide +kernel
theorem dX4_takeNumber_1 : decode cX4_takeNumber 1 = .ok (.aload_n 0, 1) := by decide +kernel
theorem dX4_takeNumber_2 : decode cX4_takeNumber 2 = .ok (.getfield 49, 3) := by decide +kernel
theorem dX4_takeNumber_5 : decode cX4_takeNumber 5 = .ok (.invokevirtual 104, 3) := by decide +kernel
theorem dX4_takeNumber_8 : decode cX4_takeNumber 8 = .ok (.istore_n 2, 1) := by decide +kernel
theorem dX4_takeNumber_9 : decode cX4_takeNumber 9 = .ok (.aload_n 0, 1) := by decide +kernel
theorem dX4_takeNumber_10 : decode cX4_takeNumber 10 = .ok (.getfield 36, 3) := by decide +kernel
theorem dX4_takeNumber_13 : decode cX4_takeNumber 13 = .ok (.aload_n 0, 1) := by decide +kernel
theorem dX4_takeNumber_14 : decode cX4_takeNumber 14 = .ok (.getfield 49, 3) := by decide +kernel
theorem dX4_takeNumber_17 : decode cX4_takeNumber 17 = .ok (.isub, 1) := by decide +kernel
theorem dX4_takeNumber_18 : decode cX4_takeNumber 18 = .ok (.iconst 1, 1) := by decide +kernel
theorem dX4_takeNumber_19 : decode cX4_takeNumber 19 = .ok (.if_icmp .ne 11, 3) := by decide +kernel
theorem dX4_takeNumber_22 : decode cX4_takeNumber 22 = .ok (.iload_n 1, 1) := by decide +kernel
theorem dX4_takeNumber_23 : decode cX4_takeNumber 23 = .ok (.iload_n 2, 1) := by decide +kernel
theorem dX4_takeNumber_24 : decode cX4_takeNumber 24 = .ok (.invokestatic 119, 3) := by decide +kernel
theorem dX4_takeNumber_27 : decode cX4_takeNumber 27 = .ok (.ifCond .ne 5, 3) := by decide +kernel
theorem dX4_takeNumber_30 : decode cX4_takeNumber 30 = .ok (.iconst 0, 1) := by decide +kernel
theorem dX4_takeNumber_31 : decode cX4_takeNumber 31 = .ok (.ireturn, 1) := by decide +kernel
theorem dX4_takeNumber_32 : decode cX4_takeNumber 32 = .ok (.aload_n 0, 1) := by decide +kernel
theorem dX4_takeNumber_33 : decode cX4_takeNumber 33 = .ok (.getfield 12, 3) := by decide +kernel
theorem dX4_takeNumber_36 : decode cX4_takeNumber 36 = .ok (.iload_n 1, 1) := by decide +kernel
theorem dX4_takeNumber_37 : decode cX4_takeNumber 37 = .ok (.iload_n 2, 1) := by decide +kernel
theorem dX4_takeNumber_38 : decode cX4_takeNumber 38 = .ok (.invokevirtual 123, 3) := by decide +kernel
theorem dX4_takeNumber_41 : decode cX4_takeNumber 41 = .ok (.iconst 1, 1) := by decide +kernel
theorem dX4_takeNumber_42 : decode cX4_takeNumber 42 = .ok (.ireturn, 1) := by decide +kernel
set_option maxRecDepth 20000 in
theorem ggX4_figureAt_X4_letterAt : GoodIn wsX4_figureAt wsX4_letterAt := goodIn_r _ [5, 6, 7, 8, 9, 10, 11, 12, 13, 14, 15] (by decide +kernel) (by decide +kernel)
set_option maxRecDepth 20000 in
theorem gX4_figureAt_X4_letterAt : GoodIn wsX4_figureAt (wsV RX4 67 RX4 yX4_letterAt wsX4_letterAt) := goodIn_app (goodIn_of _ (by decide +kernel)) ggX4_figureAt_X4_letterAt
theorem dX4_figureAt_0 : decode cX4_figureAt 0 = .ok (.aload_n 0, 1) := by decide +kernel
theorem dX4_figureAt_1 : decode cX4_figureAt 1 = .ok (.iload_n 1, 1) := by decide +kernel
theorem dX4_figureAt_2 : decode cX4_figureAt 2 = .ok (.invokevirtual 67, 3) := by decide +kernel
theorem dX4_figureAt_5 : decode cX4_figureAt 5 = .ok (.bipush 48, 2) := by decide +kernel
theorem dX4_figureAt_7 : decode cX4_figureAt 7 = .ok (.isub, 1) := by decide +kernel
theorem dX4_figureAt_8 : decode cX4_figureAt 8 = .ok (.ireturn, 1) := by decide +kernel
theorem dX4_letterAt_0 : decode cX4_letterAt 0 = .ok (.iload_n 1, 1) := by decide +kernel
theorem dX4_letterAt_1 : decode cX4_letterAt 1 = .ok (.ifCond .lt 20, 3) := by decide +kernel
theorem dX4_letterAt_4 : decode cX4_letterAt 4 = .ok (.iload_n 1, 1) := by decide +kernel
theorem dX4_letterAt_5 : decode cX4_letterAt 5 = .ok (.aload_n 0, 1) := by decide +kernel
theorem dX4_letterAt_6 : decode cX4_letterAt 6 = .ok (.getfield 22, 3) := by decide +kernel
theorem dX4_letterAt_9 : decode cX4_letterAt 9 = .ok (.if_icmp .ge 12, 3) := by decide +kernel
theorem dX4_letterAt_12 : decode cX4_letterAt 12 = .ok (.aload_n 0, 1) := by decide +kernel
theorem dX4_letterAt_13 : decode cX4_letterAt 13 = .ok (.getfield 18, 3) := by decide +kernel
theorem dX4_letterAt_16 : decode cX4_letterAt 16 = .ok (.iload_n 1, 1) := by decide +kernel
theorem dX4_letterAt_17 : decode cX4_letterAt 17 = .ok (.iaload, 1) := by decide +kernel
theorem dX4_letterAt_18 : decode cX4_letterAt 18 = .ok (.goto 5, 3) := by decide +kernel
theorem dX4_letterAt_21 : decode cX4_letterAt 21 = .ok (.bipush (-9), 2) := by decide +kernel
theorem dX4_letterAt_23 : decode cX4_letterAt 23 = .ok (.ireturn, 1) := by decide +kernel
