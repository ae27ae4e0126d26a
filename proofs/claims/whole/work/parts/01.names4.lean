set_option maxRecDepth 20000 in
theorem ggX5_init_X0_init : GoodIn wsX5_init wsX0_init := goodIn_r _ [27, 28, 2, 3, 29, 30, 31, 32, 33, 6, 34, 35, 36, 37, 38, 39, 40, 41, 42, 43, 44, 69, 70, 71, 72, 73, 74, 75] (by decide +kernel) (by decide +kernel)
set_option maxRecDepth 20000 in
theorem gX5_init_X0_init : GoodIn wsX5_init (wsX0_init) := ggX5_init_X0_init
set_option maxRecDepth 20000 in
theorem ggX5_init_X4_init : GoodIn wsX5_init wsX4_init := goodIn_r _ [46, 47, 2, 3, 48, 5, 6, 49, 29, 50, 51, 26, 27, 28, 30, 31, 32, 33, 34, 35, 36, 37, 38, 39, 40, 41, 42, 43, 44, 69, 70, 71, 72, 73, 74, 75, 85, 86, 87, 88, 89, 90, 91, 92] (by decide +kernel) (by decide +kernel)
set_option maxRecDepth 20000 in
theorem gX5_init_X4_init_n18 : GoodIn wsX5_init (wsX4_init) := ggX5_init_X4_init
set_option maxRecDepth 20000 in
theorem ggX5_init_X1_init : GoodIn wsX5_init wsX1_init := goodIn_r _ [54, 55, 2, 3, 56, 57, 5, 6, 58, 26, 27, 28, 29, 30, 31, 32, 33, 34, 35, 36, 37, 38, 39, 40, 41, 42, 43, 44, 93, 94, 69, 70, 71, 72, 73, 74, 75] (by decide +kernel) (by decide +kernel)
set_option maxRecDepth 20000 in
theorem gX5_init_X1_init : GoodIn wsX5_init (wsX1_init) := ggX5_init_X1_init
set_option maxRecDepth 20000 in
theorem ggX5_init_X2_init : GoodIn wsX5_init wsX2_init := goodIn_r _ [60, 61, 2, 3, 62, 5, 6, 63, 64, 26, 27, 28, 29, 30, 31, 32, 33, 34, 35, 36, 37, 38, 39, 40, 41, 42, 43, 44, 69, 70, 71, 72, 73, 74, 75, 95, 96, 97, 98] (by decide +kernel) (by decide +kernel)
set_option maxRecDepth 20000 in
theorem gX5_init_X2_init_n32 : GoodIn wsX5_init (wsX2_init) := ggX5_init_X2_init
set_option maxRecDepth 20000 in
theorem ggX5_init_X3_init : GoodIn wsX5_init wsX3_init := goodIn_r _ [66, 67, 2, 3, 29, 68, 99, 100, 101] (by decide +kernel) (by decide +kernel)
set_option maxRecDepth 20000 in
theorem gX5_init_X3_init_n39 : GoodIn wsX5_init (wsX3_init) := ggX5_init_X3_init
theorem dX5_init_0 : decode cX5_init 0 = .ok (.aload_n 0, 1) := by decide +kernel
theorem dX5_init_1 : decode cX5_init 1 = .ok (.invokespecial 1, 3) := by decide +kernel
theorem dX5_init_4 : decode cX5_init 4 = .ok (.aload_n 0, 1) := by decide +kernel
theorem dX5_init_5 : decode cX5_init 5 = .ok (.new 7, 3) := by decide +kernel
theorem dX5_init_8 : decode cX5_init 8 = .ok (.dup, 1) := by decide +kernel
theorem dX5_init_9 : decode cX5_init 9 = .ok (.invokespecial 9, 3) := by decide +kernel
theorem dX5_init_12 : decode cX5_init 12 = .ok (.putfield 10, 3) := by decide +kernel
theorem dX5_init_15 : decode cX5_init 15 = .ok (.aload_n 0, 1) := by decide +kernel
theorem dX5_init_16 : decode cX5_init 16 = .ok (.new 16, 3) := by decide +kernel
theorem dX5_init_19 : decode cX5_init 19 = .ok (.dup, 1) := by decide +kernel
theorem dX5_init_20 : decode cX5_init 20 = .ok (.invokespecial 18, 3) := by decide +kernel
theorem dX5_init_23 : decode cX5_init 23 = .ok (.putfield 19, 3) := by decide +kernel
theorem dX5_init_26 : decode cX5_init 26 = .ok (.aload_n 0, 1) := by decide +kernel
theorem dX5_init_27 : decode cX5_init 27 = .ok (.new 23, 3) := by decide +kernel
theorem dX5_init_30 : decode cX5_init 30 = .ok (.dup, 1) := by decide +kernel
theorem dX5_init_31 : decode cX5_init 31 = .ok (.invokespecial 25, 3) := by decide +kernel
theorem dX5_init_34 : decode cX5_init 34 = .ok (.putfield 26, 3) := by decide +kernel
theorem dX5_init_37 : decode cX5_init 37 = .ok (.aload_n 0, 1) := by decide +kernel
theorem dX5_init_38 : decode cX5_init 38 = .ok (.new 30, 3) := by decide +kernel
theorem dX5_init_41 : decode cX5_init 41 = .ok (.dup, 1) := by decide +kernel
theorem dX5_init_42 : decode cX5_init 42 = .ok (.invokespecial 32, 3) := by decide +kernel
theorem dX5_init_45 : decode cX5_init 45 = .ok (.putfield 33, 3) := by decide +kernel
theorem dX5_init_48 : decode cX5_init 48 = .ok (.aload_n 0, 1) := by decide +kernel
theorem dX5_init_49 : decode cX5_init 49 = .ok (.new 37, 3) := by decide +kernel
theorem dX5_init_52 : decode cX5_init 52 = .ok (.dup, 1) := by decide +kernel
theorem dX5_init_53 : decode cX5_init 53 = .ok (.invokespecial 39, 3) := by decide +kernel
theorem dX5_init_56 : decode cX5_init 56 = .ok (.putfield 40, 3) := by decide +kernel
theorem dX5_init_59 : decode cX5_init 59 = .ok (.aload_n 0, 1) := by decide +kernel
theorem dX5_init_60 : decode cX5_init 60 = .ok (.iconst 2, 1) := by decide +kernel
theorem dX5_init_61 : decode cX5_init 61 = .ok (.anewarray 7, 3) := by decide +kernel
theorem dX5_init_64 : decode cX5_init 64 = .ok (.putfield 44, 3) := by decide +kernel
theorem dX5_init_67 : decode cX5_init 67 = .ok (.return_, 1) := by decide +kernel
set_option maxRecDepth 20000 in
theorem ggX5_type_X4_add : GoodIn wsX5_type wsX4_add := goodIn_r _ [7, 8, 9, 19, 20, 21, 22, 23, 24, 25, 26] (by decide +kernel) (by decide +kernel)
set_option maxRecDepth 20000 in
theorem gX5_type_X4_add : GoodIn wsX5_type (wsV RX5 48 RX4 yX4_add wsX4_add) := goodIn_app (goodIn_of _ (by decide +kernel)) ggX5_type_X4_add
theorem dX5_type_0 : decode cX5_type 0 = .ok (.iload_n 1, 1) := by decide +kernel
theorem dX5_type_1 : decode cX5_type 1 = .ok (.ifCond .lt 10, 3) := by decide +kernel
theorem dX5_type_4 : decode cX5_type 4 = .ok (.iload_n 1, 1) := by decide +kernel
theorem dX5_type_5 : decode cX5_type 5 = .ok (.sipush 255, 3) := by decide +kernel
theorem dX5_type_8 : decode cX5_type 8 = .ok (.if_icmp .le 5, 3) := by decide +kernel
theorem dX5_type_11 : decode cX5_type 11 = .ok (.iconst (-1), 1) := by decide +kernel
theorem dX5_type_12 : decode cX5_type 12 = .ok (.ireturn, 1) := by decide +kernel
theorem dX5_type_13 : decode cX5_type 13 = .ok (.aload_n 0, 1) := by decide +kernel
theorem dX5_type_14 : decode cX5_type 14 = .ok (.getfield 19, 3) := by decide +kernel
theorem dX5_type_17 : decode cX5_type 17 = .ok (.iload_n 1, 1) := by decide +kernel
theorem dX5_type_18 : decode cX5_type 18 = .ok (.invokevirtual 48, 3) := by decide +kernel
theorem dX5_type_21 : decode cX5_type 21 = .ok (.ifCond .eq 13, 3) := by decide +kernel
theorem dX5_type_24 : decode cX5_type 24 = .ok (.aload_n 0, 1) := by decide +kernel
theorem dX5_type_25 : decode cX5_type 25 = .ok (.getfield 19, 3) := by decide +kernel
theorem dX5_type_28 : decode cX5_type 28 = .ok (.getfield 52, 3) := by decide +kernel
theorem dX5_type_31 : decode cX5_type 31 = .ok (.goto 5, 3) := by decide +kernel
theorem dX5_type_34 : decode cX5_type 34 = .ok (.bipush (-3), 2) := by decide +kernel
theorem dX5_type_36 : decode cX5_type 36 = .ok (.ireturn, 1) := by decide +kernel
theorem dX5_clear_0 : decode cX5_clear 0 = .ok (.aload_n 0, 1) := by decide +kernel
theorem dX5_clear_1 : decode cX5_clear 1 = .ok (.getfield 19, 3) := by decide +kernel
theorem dX5_clear_4 : decode cX5_clear 4 = .ok (.getfield 52, 3) := by decide +kernel
theorem dX5_clear_7 : decode cX5_clear 7 = .ok (.istore_n 1, 1) := by decide +kernel
theorem dX5_clear_8 : decode cX5_clear 8 = .ok (.aload_n 0, 1) := by decide +kernel
theorem dX5_clear_9 : decode cX5_clear 9 = .ok (.getfield 19, 3) := by decide +kernel
theorem dX5_clear_12 : decode cX5_clear 12 = .ok (.iconst 0, 1) := by decide +kernel
theorem dX5_clear_13 : decode cX5_clear 13 = .ok (.putfield 52, 3) := by decide +kernel
theorem dX5_clear_16 : decode cX5_clear 16 = .ok (.iload_n 1, 1) := by decide +kernel
theorem dX5_clear_17 : decode cX5_clear 17 = .ok (.ireturn, 1) := by decide +kernel
set_option maxRecDepth 20000 in
theorem ggX5_tells_X4_read : GoodIn wsX5_tells wsX4_read := goodIn_r _ [10, 11, 12, 13, 14, 15, 16, 17, 18, 19, 20, 21, 22, 23, 24, 25, 26, 27, 28, 29, 30, 31, 32, 33, 34, 35, 9, 36, 37, 38, 39, 40, 41, 42, 43, 44, 45, 46, 47, 48, 49, 50, 51, 52, 53, 54, 55, 56, 57, 58, 59, 60, 61, 62, 63, 64, 65, 66, 67, 68, 69, 70, 71, 72, 73, 74, 75, 76, 77, 78, 79, 80, 81, 82, 83, 84, 85, 86, 87, 88, 89, 90, 91, 92, 93, 94, 95, 96, 97, 98, 99, 100, 101, 102, 103, 104, 105, 106, 107, 108, 109, 110, 111, 112, 113, 114, 115, 116, 117, 118, 119, 120, 121, 122, 123, 124, 125, 126, 127, 128, 129, 130, 131, 132, 133, 134, 135, 136, 137, 138, 139, 140, 141, 142, 143, 144, 145, 146, 147, 148, 149, 179, 180, 181, 182, 183, 184, 185, 186, 187, 188, 189, 190, 191, 192, 193] (by decide +kernel) (by decide +kernel)
set_option maxRecDepth 20000 in
theorem gX5_tells_X4_read : GoodIn wsX5_tells (wsV RX5 56 RX4 yX4_read wsX4_read) := goodIn_app (goodIn_of _ (by decide +kernel)) ggX5_tells_X4_read
set_option maxRecDepth 20000 in
theorem ggX5_tells_X1_remember : GoodIn wsX5_tells wsX1_remember := goodIn_r _ [154, 155, 156, 157, 158, 159, 153, 160, 161, 162, 163, 20, 164, 22, 165, 166, 167, 168, 23, 24, 25, 26, 27, 28, 194, 195, 187, 188, 189, 190, 191, 192, 193] (by decide +kernel) (by decide +kernel)
set_option maxRecDepth 20000 in
theorem gX5_tells_X1_remember : GoodIn wsX5_tells (wsV RX5 60 RX1 yX1_remember wsX1_remember) := goodIn_app (goodIn_of _ (by decide +kernel)) ggX5_tells_X1_remember
set_option maxRecDepth 20000 in
theorem ggX5_tells_X0_copyFrom : GoodIn wsX5_tells wsX0_copyFrom := goodIn_r _ [164, 22, 165, 166, 167, 168, 23, 24, 25, 26, 27, 28, 187, 188, 189, 190, 191, 192, 193] (by decide +kernel) (by decide +kernel)
set_option maxRecDepth 20000 in
theorem gX5_tells_X0_copyFrom : GoodIn wsX5_tells (wsV RX5 67 RX0 yX0_copyFrom wsX0_copyFrom) := goodIn_app (goodIn_of _ (by decide +kernel)) ggX5_tells_X0_copyFrom
theorem dX5_tells_0 : decode cX5_tells 0 = .ok (.aload_n 0, 1) := by decide +kernel
theorem dX5_tells_1 : decode cX5_tells 1 = .ok (.getfield 19, 3) := by decide +kernel
theorem dX5_tells_4 : decode cX5_tells 4 = .ok (.invokevirtual 56, 3) := by decide +kernel
theorem dX5_tells_7 : decode cX5_tells 7 = .ok (.istore_n 1, 1) := by decide +kernel
theorem dX5_tells_8 : decode cX5_tells 8 = .ok (.iload_n 1, 1) := by decide +kernel
theorem dX5_tells_9 : decode cX5_tells 9 = .ok (.ifCond .ge 5, 3) := by decide +kernel
theorem dX5_tells_12 : decode cX5_tells 12 = .ok (.iload_n 1, 1) := by decide +kernel
theorem dX5_tells_13 : decode cX5_tells 13 = .ok (.ireturn, 1) := by decide +kernel
theorem dX5_tells_14 : decode cX5_tells 14 = .ok (.aload_n 0, 1) := by decide +kernel
theorem dX5_tells_15 : decode cX5_tells 15 = .ok (.getfield 26, 3) := by decide +kernel
theorem dX5_tells_18 : decode cX5_tells 18 = .ok (.aload_n 0, 1) := by decide +kernel
theorem dX5_tells_19 : decode cX5_tells 19 = .ok (.getfield 10, 3) := by decide +kernel
theorem dX5_tells_22 : decode cX5_tells 22 = .ok (.invokevirtual 60, 3) := by decide +kernel
theorem dX5_tells_25 : decode cX5_tells 25 = .ok (.aload_n 0, 1) := by decide +kernel
theorem dX5_tells_26 : decode cX5_tells 26 = .ok (.getfield 10, 3) := by decide +kernel
theorem dX5_tells_29 : decode cX5_tells 29 = .ok (.aload_n 0, 1) := by decide +kernel
theorem dX5_tells_30 : decode cX5_tells 30 = .ok (.getfield 19, 3) := by decide +kernel
theorem dX5_tells_33 : decode cX5_tells 33 = .ok (.getfield 64, 3) := by decide +kernel
theorem dX5_tells_36 : decode cX5_tells 36 = .ok (.invokevirtual 67, 3) := by decide +kernel
theorem dX5_tells_39 : decode cX5_tells 39 = .ok (.aload_n 0, 1) := by decide +kernel
theorem dX5_tells_40 : decode cX5_tells 40 = .ok (.getfield 19, 3) := by decide +kernel
theorem dX5_tells_43 : decode cX5_tells 43 = .ok (.iconst 0, 1) := by decide +kernel
theorem dX5_tells_44 : decode cX5_tells 44 = .ok (.putfield 52, 3) := by decide +kernel
theorem dX5_tells_47 : decode cX5_tells 47 = .ok (.iload_n 1, 1) := by decide +kernel
theorem dX5_tells_48 : decode cX5_tells 48 = .ok (.ireturn, 1) := by decide +kernel
set_option maxRecDepth 20000 in
theorem ggX5_gives_X0_hasNote : GoodIn wsX5_gives wsX0_hasNote := goodIn_r _ [8, 9, 10, 63, 64, 65, 66, 67, 68, 69] (by decide +kernel) (by decide +kernel)
set_option maxRecDepth 20000 in
theorem gX5_gives_X0_hasNote : GoodIn wsX5_gives (wsV RX5 70 RX0 yX0_hasNote wsX0_hasNote) := goodIn_app (goodIn_of _ (by decide +kernel)) ggX5_gives_X0_hasNote
set_option maxRecDepth 20000 in
theorem ggX5_gives_X5_isHand : GoodIn wsX5_gives wsX5_isHand := goodIn_r _ [14] (by decide +kernel) (by decide +kernel)
set_option maxRecDepth 20000 in
theorem gX5_gives_X5_isHand : GoodIn wsX5_gives (va_wsS RX5 73 yX5_isHand wsX5_isHand) := goodIn_app (goodIn_of _ (by decide +kernel)) ggX5_gives_X5_isHand
set_option maxRecDepth 20000 in
theorem ggX5_gives_X0_handAt : GoodIn wsX5_gives wsX0_handAt := goodIn_r _ [18, 19, 63, 64, 65, 66, 67, 68, 69] (by decide +kernel) (by decide +kernel)
set_option maxRecDepth 20000 in
theorem gX5_gives_X0_handAt : GoodIn wsX5_gives (wsV RX5 76 RX0 yX0_handAt wsX0_handAt) := goodIn_app (goodIn_of _ (by decide +kernel)) ggX5_gives_X0_handAt
set_option maxRecDepth 20000 in
theorem ggX5_gives_X1_remember : GoodIn wsX5_gives wsX1_remember := goodIn_r _ [24, 25, 26, 27, 28, 29, 23, 30, 31, 32, 33, 7, 34, 35, 36, 37, 38, 39, 9, 10, 19, 40, 41, 42, 70, 71, 63, 64, 65, 66, 67, 68, 69] (by decide +kernel) (by decide +kernel)
set_option maxRecDepth 20000 in
theorem gX5_gives_X1_remember : GoodIn wsX5_gives (wsV RX5 60 RX1 yX1_remember wsX1_remember) := goodIn_app (goodIn_of _ (by decide +kernel)) ggX5_gives_X1_remember
set_option maxRecDepth 20000 in
theorem ggX5_gives_X0_notesOf : GoodIn wsX5_gives wsX0_notesOf := goodIn_r _ [46, 10, 19, 63, 64, 65, 66, 67, 68, 69] (by decide +kernel) (by decide +kernel)
set_option maxRecDepth 20000 in
theorem gX5_gives_X0_notesOf : GoodIn wsX5_gives (wsV RX5 83 RX0 yX0_notesOf wsX0_notesOf) := goodIn_app (goodIn_of _ (by decide +kernel)) ggX5_gives_X0_notesOf
set_option maxRecDepth 20000 in
theorem ggX5_gives_J6_bitCount_0f7a4 : GoodIn wsX5_gives wsJ6_bitCount_0f7a4 := goodIn_r _ [50, 51, 52, 53] (by decide +kernel) (by decide +kernel)
set_option maxRecDepth 20000 in
theorem gX5_gives_J6_bitCount_0f7a4 : GoodIn wsX5_gives (va_wsS RX5 86 yJ6_bitCount_0f7a4 wsJ6_bitCount_0f7a4) := goodIn_app (goodIn_of _ (by decide +kernel)) ggX5_gives_J6_bitCount_0f7a4
theorem dX5_gives_0 : decode cX5_gives 0 = .ok (.aload_n 0, 1) := by decide +kernel
theorem dX5_gives_1 : decode cX5_gives 1 = .ok (.getfield 10, 3) := by decide +kernel
theorem dX5_gives_4 : decode cX5_gives 4 = .ok (.iload_n 1, 1) := by decide +kernel
theorem dX5_gives_5 : decode cX5_gives 5 = .ok (.invokevirtual 70, 3) := by decide +kernel
theorem dX5_gives_8 : decode cX5_gives 8 = .ok (.ifCond .eq 10, 3) := by decide +kernel
theorem dX5_gives_11 : decode cX5_gives 11 = .ok (.iload_n 2, 1) := by decide +kernel
theorem dX5_gives_12 : decode cX5_gives 12 = .ok (.invokestatic 73, 3) := by decide +kernel
theorem dX5_gives_15 : decode cX5_gives 15 = .ok (.ifCond .ne 5, 3) := by decide +kernel
theorem dX5_gives_18 : decode cX5_gives 18 = .ok (.iconst (-1), 1) := by decide +kernel
theorem dX5_gives_19 : decode cX5_gives 19 = .ok (.ireturn, 1) := by decide +kernel
theorem dX5_gives_20 : decode cX5_gives 20 = .ok (.aload_n 0, 1) := by decide +kernel
theorem dX5_gives_21 : decode cX5_gives 21 = .ok (.getfield 10, 3) := by decide +kernel
theorem dX5_gives_24 : decode cX5_gives 24 = .ok (.iload_n 1, 1) := by decide +kernel
theorem dX5_gives_25 : decode cX5_gives 25 = .ok (.invokevirtual 76, 3) := by decide +kernel
theorem dX5_gives_28 : decode cX5_gives 28 = .ok (.iload_n 2, 1) := by decide +kernel
theorem dX5_gives_29 : decode cX5_gives 29 = .ok (.if_icmp .ne 6, 3) := by decide +kernel
theorem dX5_gives_32 : decode cX5_gives 32 = .ok (.bipush (-2), 2) := by decide +kernel
theorem dX5_gives_34 : decode cX5_gives 34 = .ok (.ireturn, 1) := by decide +kernel
theorem dX5_gives_35 : decode cX5_gives 35 = .ok (.aload_n 0, 1) := by decide +kernel
theorem dX5_gives_36 : decode cX5_gives 36 = .ok (.getfield 26, 3) := by decide +kernel
theorem dX5_gives_39 : decode cX5_gives 39 = .ok (.aload_n 0, 1) := by decide +kernel
theorem dX5_gives_40 : decode cX5_gives 40 = .ok (.getfield 10, 3) := by decide +kernel
theorem dX5_gives_43 : decode cX5_gives 43 = .ok (.invokevirtual 60, 3) := by decide +kernel
theorem dX5_gives_46 : decode cX5_gives 46 = .ok (.aload_n 0, 1) := by decide +kernel
theorem dX5_gives_47 : decode cX5_gives 47 = .ok (.getfield 10, 3) := by decide +kernel
theorem dX5_gives_50 : decode cX5_gives 50 = .ok (.dup, 1) := by decide +kernel
theorem dX5_gives_51 : decode cX5_gives 51 = .ok (.getfield 80, 3) := by decide +kernel
theorem dX5_gives_54 : decode cX5_gives 54 = .ok (.iconst 1, 1) := by decide +kernel
theorem dX5_gives_55 : decode cX5_gives 55 = .ok (.iload_n 1, 1) := by decide +kernel
theorem dX5_gives_56 : decode cX5_gives 56 = .ok (.ishl, 1) := by decide +kernel
theorem dX5_gives_57 : decode cX5_gives 57 = .ok (.ixor, 1) := by decide +kernel
theorem dX5_gives_58 : decode cX5_gives 58 = .ok (.putfield 80, 3) := by decide +kernel
theorem dX5_gives_61 : decode cX5_gives 61 = .ok (.aload_n 0, 1) := by decide +kernel
theorem dX5_gives_62 : decode cX5_gives 62 = .ok (.getfield 10, 3) := by decide +kernel
theorem dX5_gives_65 : decode cX5_gives 65 = .ok (.iload_n 2, 1) := by decide +kernel
theorem dX5_gives_66 : decode cX5_gives 66 = .ok (.invokevirtual 83, 3) := by decide +kernel
theorem dX5_gives_69 : decode cX5_gives 69 = .ok (.invokestatic 86, 3) := by decide +kernel
theorem dX5_gives_72 : decode cX5_gives 72 = .ok (.ireturn, 1) := by decide +kernel
set_option maxRecDepth 20000 in
theorem ggX5_flips_X0_hasTick : GoodIn wsX5_flips wsX0_hasTick := goodIn_r _ [9, 10, 56, 57, 58, 59, 60, 61, 62] (by decide +kernel) (by decide +kernel)
set_option maxRecDepth 20000 in
theorem gX5_flips_X0_hasTick : GoodIn wsX5_flips (wsV RX5 91 RX0 yX0_hasTick wsX0_hasTick) := goodIn_app (goodIn_of _ (by decide +kernel)) ggX5_flips_X0_hasTick
set_option maxRecDepth 20000 in
theorem ggX5_flips_X5_ticksFrom : GoodIn wsX5_flips wsX5_ticksFrom := goodIn_r _ [14] (by decide +kernel) (by decide +kernel)
set_option maxRecDepth 20000 in
theorem gX5_flips_X5_ticksFrom : GoodIn wsX5_flips (va_wsS RX5 97 yX5_ticksFrom wsX5_ticksFrom) := goodIn_app (goodIn_of _ (by decide +kernel)) ggX5_flips_X5_ticksFrom
set_option maxRecDepth 20000 in
theorem ggX5_flips_X1_remember : GoodIn wsX5_flips wsX1_remember := goodIn_r _ [19, 20, 21, 22, 23, 24, 18, 25, 26, 27, 28, 8, 29, 30, 31, 32, 33, 34, 10, 35, 36, 37, 38, 39, 63, 64, 56, 57, 58, 59, 60, 61, 62] (by decide +kernel) (by decide +kernel)
set_option maxRecDepth 20000 in
theorem gX5_flips_X1_remember : GoodIn wsX5_flips (wsV RX5 60 RX1 yX1_remember wsX1_remember) := goodIn_app (goodIn_of _ (by decide +kernel)) ggX5_flips_X1_remember
set_option maxRecDepth 20000 in
theorem ggX5_flips_J6_bitCount_0f7a4 : GoodIn wsX5_flips wsJ6_bitCount_0f7a4 := goodIn_r _ [43, 44, 45, 46] (by decide +kernel) (by decide +kernel)
set_option maxRecDepth 20000 in
theorem gX5_flips_J6_bitCount_0f7a4 : GoodIn wsX5_flips (va_wsS RX5 86 yJ6_bitCount_0f7a4 wsJ6_bitCount_0f7a4) := goodIn_app (goodIn_of _ (by decide +kernel)) ggX5_flips_J6_bitCount_0f7a4
theorem dX5_flips_0 : decode cX5_flips 0 = .ok (.aload_n 0, 1) := by decide +kernel
theorem dX5_flips_1 : decode cX5_flips 1 = .ok (.getfield 10, 3) := by decide +kernel
theorem dX5_flips_4 : decode cX5_flips 4 = .ok (.iload_n 1, 1) := by decide +kernel
theorem dX5_flips_5 : decode cX5_flips 5 = .ok (.invokevirtual 91, 3) := by decide +kernel
theorem dX5_flips_8 : decode cX5_flips 8 = .ok (.ifCond .eq 19, 3) := by decide +kernel
theorem dX5_flips_11 : decode cX5_flips 11 = .ok (.aload_n 0, 1) := by decide +kernel
theorem dX5_flips_12 : decode cX5_flips 12 = .ok (.getfield 10, 3) := by decide +kernel
theorem dX5_flips_15 : decode cX5_flips 15 = .ok (.iload_n 2, 1) := by decide +kernel
theorem dX5_flips_16 : decode cX5_flips 16 = .ok (.invokevirtual 91, 3) := by decide +kernel
theorem dX5_flips_19 : decode cX5_flips 19 = .ok (.ifCond .eq 8, 3) := by decide +kernel
theorem dX5_flips_22 : decode cX5_flips 22 = .ok (.iload_n 2, 1) := by decide +kernel
theorem dX5_flips_23 : decode cX5_flips 23 = .ok (.iload_n 1, 1) := by decide +kernel
theorem dX5_flips_24 : decode cX5_flips 24 = .ok (.if_icmp .ge 5, 3) := by decide +kernel
theorem dX5_flips_27 : decode cX5_flips 27 = .ok (.iconst (-1), 1) := by decide +kernel
theorem dX5_flips_28 : decode cX5_flips 28 = .ok (.ireturn, 1) := by decide +kernel
theorem dX5_flips_29 : decode cX5_flips 29 = .ok (.aload_n 0, 1) := by decide +kernel
theorem dX5_flips_30 : decode cX5_flips 30 = .ok (.getfield 10, 3) := by decide +kernel
theorem dX5_flips_33 : decode cX5_flips 33 = .ok (.getfield 94, 3) := by decide +kernel
theorem dX5_flips_36 : decode cX5_flips 36 = .ok (.iload_n 1, 1) := by decide +kernel
theorem dX5_flips_37 : decode cX5_flips 37 = .ok (.iload_n 2, 1) := by decide +kernel
theorem dX5_flips_38 : decode cX5_flips 38 = .ok (.iconst 1, 1) := by decide +kernel
theorem dX5_flips_39 : decode cX5_flips 39 = .ok (.iadd, 1) := by decide +kernel
theorem dX5_flips_40 : decode cX5_flips 40 = .ok (.iload_n 1, 1) := by decide +kernel
theorem dX5_flips_41 : decode cX5_flips 41 = .ok (.isub, 1) := by decide +kernel
theorem dX5_flips_42 : decode cX5_flips 42 = .ok (.invokestatic 97, 3) := by decide +kernel
theorem dX5_flips_45 : decode cX5_flips 45 = .ok (.iand, 1) := by decide +kernel
theorem dX5_flips_46 : decode cX5_flips 46 = .ok (.istore_n 3, 1) := by decide +kernel
theorem dX5_flips_47 : decode cX5_flips 47 = .ok (.iload_n 3, 1) := by decide +kernel
theorem dX5_flips_48 : decode cX5_flips 48 = .ok (.ifCond .ne 6, 3) := by decide +kernel
theorem dX5_flips_51 : decode cX5_flips 51 = .ok (.bipush (-2), 2) := by decide +kernel
theorem dX5_flips_53 : decode cX5_flips 53 = .ok (.ireturn, 1) := by decide +kernel
theorem dX5_flips_54 : decode cX5_flips 54 = .ok (.aload_n 0, 1) := by decide +kernel
theorem dX5_flips_55 : decode cX5_flips 55 = .ok (.getfield 26, 3) := by decide +kernel
theorem dX5_flips_58 : decode cX5_flips 58 = .ok (.aload_n 0, 1) := by decide +kernel
theorem dX5_flips_59 : decode cX5_flips 59 = .ok (.getfield 10, 3) := by decide +kernel
theorem dX5_flips_62 : decode cX5_flips 62 = .ok (.invokevirtual 60, 3) := by decide +kernel
theorem dX5_flips_65 : decode cX5_flips 65 = .ok (.aload_n 0, 1) := by decide +kernel
theorem dX5_flips_66 : decode cX5_flips 66 = .ok (.getfield 10, 3) := by decide +kernel
theorem dX5_flips_69 : decode cX5_flips 69 = .ok (.dup, 1) := by decide +kernel
theorem dX5_flips_70 : decode cX5_flips 70 = .ok (.getfield 80, 3) := by decide +kernel
theorem dX5_flips_73 : decode cX5_flips 73 = .ok (.iload_n 3, 1) := by decide +kernel
theorem dX5_flips_74 : decode cX5_flips 74 = .ok (.ixor, 1) := by decide +kernel
theorem dX5_flips_75 : decode cX5_flips 75 = .ok (.putfield 80, 3) := by decide +kernel
theorem dX5_flips_78 : decode cX5_flips 78 = .ok (.iload_n 3, 1) := by decide +kernel
theorem dX5_flips_79 : decode cX5_flips 79 = .ok (.invokestatic 86, 3) := by decide +kernel
theorem dX5_flips_82 : decode cX5_flips 82 = .ok (.ireturn, 1) := by decide +kernel
set_option maxRecDepth 20000 in
theorem ggX5_mends_X5_mendingChanges : GoodIn wsX5_mends wsX5_mendingChanges := goodIn_r _ [10, 3, 2, 4, 5, 11, 12, 13, 14, 15, 16, 17, 18, 19, 20, 21, 22, 23, 24, 25, 26, 27, 28, 29, 30, 31, 32, 33, 34, 35, 36, 37, 38, 39, 40, 41, 42, 43, 44, 45, 46, 47, 48, 49, 50, 51, 52, 53, 54, 55, 56, 57, 58, 59, 60, 61, 62, 63, 64, 65, 66, 67, 68, 69, 70, 71, 72, 73, 74, 75, 76, 77, 78, 79, 80, 81, 82, 83, 84, 85, 86, 87, 88, 89, 90, 91, 92, 93, 94, 95, 96, 109, 110, 111, 112, 113, 114, 115, 116, 117, 118, 119, 120, 121, 122, 123, 124, 125, 126, 127, 128] (by decide +kernel) (by decide +kernel)
set_option maxRecDepth 20000 in
theorem gX5_mends_X5_mendingChanges : GoodIn wsX5_mends (wsV RX5 101 RX5 yX5_mendingChanges wsX5_mendingChanges) := goodIn_app (goodIn_of _ (by decide +kernel)) ggX5_mends_X5_mendingChanges
set_option maxRecDepth 20000 in
theorem ggX5_mends_X1_remember : GoodIn wsX5_mends wsX1_remember := goodIn_r _ [101, 102, 103, 104, 105, 106, 100, 107, 108, 18, 19, 20, 21, 22, 23, 24, 25, 26, 27, 28, 29, 30, 31, 32, 129, 130, 122, 123, 124, 125, 126, 127, 128] (by decide +kernel) (by decide +kernel)
set_option maxRecDepth 20000 in
theorem gX5_mends_X1_remember : GoodIn wsX5_mends (wsV RX5 60 RX1 yX1_remember wsX1_remember) := goodIn_app (goodIn_of _ (by decide +kernel)) ggX5_mends_X1_remember
theorem dX5_mends_0 : decode cX5_mends 0 = .ok (.aload_n 0, 1) := by decide +kernel
theorem dX5_mends_1 : decode cX5_mends 1 = .ok (.invokevirtual 101, 3) := by decide +kernel
theorem dX5_mends_4 : decode cX5_mends 4 = .ok (.istore_n 1, 1) := by decide +kernel
theorem dX5_mends_5 : decode cX5_mends 5 = .ok (.iload_n 1, 1) := by decide +kernel
theorem dX5_mends_6 : decode cX5_mends 6 = .ok (.ifCond .gt 6, 3) := by decide +kernel
theorem dX5_mends_9 : decode cX5_mends 9 = .ok (.bipush (-2), 2) := by decide +kernel
theorem dX5_mends_11 : decode cX5_mends 11 = .ok (.ireturn, 1) := by decide +kernel
theorem dX5_mends_12 : decode cX5_mends 12 = .ok (.aload_n 0, 1) := by decide +kernel
theorem dX5_mends_13 : decode cX5_mends 13 = .ok (.getfield 26, 3) := by decide +kernel
theorem dX5_mends_16 : decode cX5_mends 16 = .ok (.aload_n 0, 1) := by decide +kernel
theorem dX5_mends_17 : decode cX5_mends 17 = .ok (.getfield 10, 3) := by decide +kernel
theorem dX5_mends_20 : decode cX5_mends 20 = .ok (.invokevirtual 60, 3) := by decide +kernel
theorem dX5_mends_23 : decode cX5_mends 23 = .ok (.aload_n 0, 1) := by decide +kernel
theorem dX5_mends_24 : decode cX5_mends 24 = .ok (.getfield 10, 3) := by decide +kernel
theorem dX5_mends_27 : decode cX5_mends 27 = .ok (.aload_n 0, 1) := by decide +kernel
theorem dX5_mends_28 : decode cX5_mends 28 = .ok (.getfield 33, 3) := by decide +kernel
theorem dX5_mends_31 : decode cX5_mends 31 = .ok (.getfield 104, 3) := by decide +kernel
theorem dX5_mends_34 : decode cX5_mends 34 = .ok (.putfield 80, 3) := by decide +kernel
theorem dX5_mends_37 : decode cX5_mends 37 = .ok (.iload_n 1, 1) := by decide +kernel
theorem dX5_mends_38 : decode cX5_mends 38 = .ok (.ireturn, 1) := by decide +kernel
set_option maxRecDepth 20000 in
theorem ggX5_sets_X5_isNumber : GoodIn wsX5_sets wsX5_isNumber := goodIn_r _ [6, 7, 8] (by decide +kernel) (by decide +kernel)
set_option maxRecDepth 20000 in
theorem gX5_sets_X5_isNumber : GoodIn wsX5_sets (va_wsS RX5 107 yX5_isNumber wsX5_isNumber) := goodIn_app (goodIn_of _ (by decide +kernel)) ggX5_sets_X5_isNumber
set_option maxRecDepth 20000 in
theorem ggX5_sets_X0_number : GoodIn wsX5_sets wsX0_number := goodIn_r _ [13, 14, 15, 16, 53, 54, 55, 56, 57, 58, 59] (by decide +kernel) (by decide +kernel)
set_option maxRecDepth 20000 in
theorem gX5_sets_X0_number : GoodIn wsX5_sets (wsV RX5 111 RX0 yX0_number wsX0_number) := goodIn_app (goodIn_of _ (by decide +kernel)) ggX5_sets_X0_number
set_option maxRecDepth 20000 in
theorem ggX5_sets_X1_remember : GoodIn wsX5_sets wsX1_remember := goodIn_r _ [21, 22, 23, 24, 25, 26, 20, 27, 28, 29, 30, 12, 31, 32, 33, 34, 35, 36, 37, 38, 39, 14, 15, 16, 60, 61, 53, 54, 55, 56, 57, 58, 59] (by decide +kernel) (by decide +kernel)
set_option maxRecDepth 20000 in
theorem gX5_sets_X1_remember : GoodIn wsX5_sets (wsV RX5 60 RX1 yX1_remember wsX1_remember) := goodIn_app (goodIn_of _ (by decide +kernel)) ggX5_sets_X1_remember
set_option maxRecDepth 20000 in
theorem ggX5_sets_X0_setNumber : GoodIn wsX5_sets wsX0_setNumber := goodIn_r _ [43, 14, 15, 16, 53, 54, 55, 56, 57, 58, 59] (by decide +kernel) (by decide +kernel)
set_option maxRecDepth 20000 in
theorem gX5_sets_X0_setNumber : GoodIn wsX5_sets (wsV RX5 114 RX0 yX0_setNumber wsX0_setNumber) := goodIn_app (goodIn_of _ (by decide +kernel)) ggX5_sets_X0_setNumber
theorem dX5_sets_0 : decode cX5_sets 0 = .ok (.iload_n 1, 1) := by decide +kernel
theorem dX5_sets_1 : decode cX5_sets 1 = .ok (.iload_n 2, 1) := by decide +kernel
theorem dX5_sets_2 : decode cX5_sets 2 = .ok (.invokestatic 107, 3) := by decide +kernel
theorem dX5_sets_5 : decode cX5_sets 5 = .ok (.ifCond .ne 5, 3) := by decide +kernel
theorem dX5_sets_8 : decode cX5_sets 8 = .ok (.iconst (-1), 1) := by decide +kernel
theorem dX5_sets_9 : decode cX5_sets 9 = .ok (.ireturn, 1) := by decide +kernel
theorem dX5_sets_10 : decode cX5_sets 10 = .ok (.aload_n 0, 1) := by decide +kernel
theorem dX5_sets_11 : decode cX5_sets 11 = .ok (.getfield 10, 3) := by decide +kernel
theorem dX5_sets_14 : decode cX5_sets 14 = .ok (.iload_n 1, 1) := by decide +kernel
theorem dX5_sets_15 : decode cX5_sets 15 = .ok (.invokevirtual 111, 3) := by decide +kernel
theorem dX5_sets_18 : decode cX5_sets 18 = .ok (.istore_n 3, 1) := by decide +kernel
theorem dX5_sets_19 : decode cX5_sets 19 = .ok (.iload_n 3, 1) := by decide +kernel
theorem dX5_sets_20 : decode cX5_sets 20 = .ok (.iload_n 2, 1) := by decide +kernel
theorem dX5_sets_21 : decode cX5_sets 21 = .ok (.if_icmp .ne 6, 3) := by decide +kernel
theorem dX5_sets_24 : decode cX5_sets 24 = .ok (.bipush (-2), 2) := by decide +kernel
theorem dX5_sets_26 : decode cX5_sets 26 = .ok (.ireturn, 1) := by decide +kernel
theorem dX5_sets_27 : decode cX5_sets 27 = .ok (.aload_n 0, 1) := by decide +kernel
theorem dX5_sets_28 : decode cX5_sets 28 = .ok (.getfield 26, 3) := by decide +kernel
theorem dX5_sets_31 : decode cX5_sets 31 = .ok (.aload_n 0, 1) := by decide +kernel
theorem dX5_sets_32 : decode cX5_sets 32 = .ok (.getfield 10, 3) := by decide +kernel
theorem dX5_sets_35 : decode cX5_sets 35 = .ok (.invokevirtual 60, 3) := by decide +kernel
theorem dX5_sets_38 : decode cX5_sets 38 = .ok (.aload_n 0, 1) := by decide +kernel
theorem dX5_sets_39 : decode cX5_sets 39 = .ok (.getfield 10, 3) := by decide +kernel
theorem dX5_sets_42 : decode cX5_sets 42 = .ok (.iload_n 1, 1) := by decide +kernel
theorem dX5_sets_43 : decode cX5_sets 43 = .ok (.iload_n 2, 1) := by decide +kernel
theorem dX5_sets_44 : decode cX5_sets 44 = .ok (.invokevirtual 114, 3) := by decide +kernel
theorem dX5_sets_47 : decode cX5_sets 47 = .ok (.iload_n 3, 1) := by decide +kernel
theorem dX5_sets_48 : decode cX5_sets 48 = .ok (.ireturn, 1) := by decide +kernel
set_option maxRecDepth 20000 in
theorem ggX5_undo_X1_recall : GoodIn wsX5_undo wsX1_recall := goodIn_r _ [8, 9, 10, 11, 12, 13, 14, 15, 16, 17, 18, 19, 20, 21, 22, 23, 24, 25, 26, 36, 37, 38, 39, 40, 41, 42, 43, 44] (by decide +kernel) (by decide +kernel)
set_option maxRecDepth 20000 in
theorem gX5_undo_X1_recall : GoodIn wsX5_undo (wsV RX5 118 RX1 yX1_recall wsX1_recall) := goodIn_app (goodIn_of _ (by decide +kernel)) ggX5_undo_X1_recall
theorem dX5_undo_0 : decode cX5_undo 0 = .ok (.aload_n 0, 1) := by decide +kernel
theorem dX5_undo_1 : decode cX5_undo 1 = .ok (.getfield 26, 3) := by decide +kernel
theorem dX5_undo_4 : decode cX5_undo 4 = .ok (.aload_n 0, 1) := by decide +kernel
theorem dX5_undo_5 : decode cX5_undo 5 = .ok (.getfield 10, 3) := by decide +kernel
theorem dX5_undo_8 : decode cX5_undo 8 = .ok (.invokevirtual 118, 3) := by decide +kernel
theorem dX5_undo_11 : decode cX5_undo 11 = .ok (.ifCond .eq 13, 3) := by decide +kernel
theorem dX5_undo_14 : decode cX5_undo 14 = .ok (.aload_n 0, 1) := by decide +kernel
theorem dX5_undo_15 : decode cX5_undo 15 = .ok (.getfield 26, 3) := by decide +kernel
theorem dX5_undo_18 : decode cX5_undo 18 = .ok (.getfield 122, 3) := by decide +kernel
theorem dX5_undo_21 : decode cX5_undo 21 = .ok (.goto 5, 3) := by decide +kernel
theorem dX5_undo_24 : decode cX5_undo 24 = .ok (.bipush (-2), 2) := by decide +kernel
theorem dX5_undo_26 : decode cX5_undo 26 = .ok (.ireturn, 1) := by decide +kernel
set_option maxRecDepth 20000 in
theorem ggX5_tick_X0_hasTick : GoodIn wsX5_tick wsX0_hasTick := goodIn_r _ [6, 7, 61, 62, 63, 64, 65, 66, 67] (by decide +kernel) (by decide +kernel)
set_option maxRecDepth 20000 in
theorem gX5_tick_X0_hasTick : GoodIn wsX5_tick (wsV RX5 91 RX0 yX0_hasTick wsX0_hasTick) := goodIn_app (goodIn_of _ (by decide +kernel)) ggX5_tick_X0_hasTick
set_option maxRecDepth 20000 in
theorem ggX5_tick_X0_pitchAt : GoodIn wsX5_tick wsX0_pitchAt := goodIn_r _ [11, 12, 61, 62, 63, 64, 65, 66, 67] (by decide +kernel) (by decide +kernel)
set_option maxRecDepth 20000 in
theorem gX5_tick_X0_pitchAt : GoodIn wsX5_tick (wsV RX5 125 RX0 yX0_pitchAt wsX0_pitchAt) := goodIn_app (goodIn_of _ (by decide +kernel)) ggX5_tick_X0_pitchAt
set_option maxRecDepth 20000 in
theorem ggX5_tick_X0_hasNote : GoodIn wsX5_tick wsX0_hasNote := goodIn_r _ [16, 7, 17, 61, 62, 63, 64, 65, 66, 67] (by decide +kernel) (by decide +kernel)
set_option maxRecDepth 20000 in
theorem gX5_tick_X0_hasNote : GoodIn wsX5_tick (wsV RX5 70 RX0 yX0_hasNote wsX0_hasNote) := goodIn_app (goodIn_of _ (by decide +kernel)) ggX5_tick_X0_hasNote
set_option maxRecDepth 20000 in
theorem ggX5_tick_X0_handAt : GoodIn wsX5_tick wsX0_handAt := goodIn_r _ [21, 22, 61, 62, 63, 64, 65, 66, 67] (by decide +kernel) (by decide +kernel)
set_option maxRecDepth 20000 in
theorem gX5_tick_X0_handAt : GoodIn wsX5_tick (wsV RX5 76 RX0 yX0_handAt wsX0_handAt) := goodIn_app (goodIn_of _ (by decide +kernel)) ggX5_tick_X0_handAt
set_option maxRecDepth 20000 in
theorem ggX5_tick_X0_isSoonBehind : GoodIn wsX5_tick wsX0_isSoonBehind := goodIn_r _ [26, 27, 28, 29, 5, 30, 7, 31, 14, 15, 16, 17, 32, 19, 20, 21, 22, 33, 34, 35, 36, 37, 61, 62, 63, 64, 65, 66, 67] (by decide +kernel) (by decide +kernel)
set_option maxRecDepth 20000 in
theorem gX5_tick_X0_isSoonBehind : GoodIn wsX5_tick (wsV RX5 128 RX0 yX0_isSoonBehind wsX0_isSoonBehind) := goodIn_app (goodIn_of _ (by decide +kernel)) ggX5_tick_X0_isSoonBehind
set_option maxRecDepth 20000 in
theorem ggX5_tick_X0_isFarBehind : GoodIn wsX5_tick wsX0_isFarBehind := goodIn_r _ [41, 27, 28, 29, 5, 30, 7, 31, 14, 15, 16, 17, 32, 19, 20, 21, 22, 42, 43, 44, 45, 46, 47, 48, 49, 50, 51, 9, 10, 11, 12, 61, 62, 63, 64, 65, 66, 67] (by decide +kernel) (by decide +kernel)
set_option maxRecDepth 20000 in
theorem gX5_tick_X0_isFarBehind : GoodIn wsX5_tick (wsV RX5 131 RX0 yX0_isFarBehind wsX0_isFarBehind) := goodIn_app (goodIn_of _ (by decide +kernel)) ggX5_tick_X0_isFarBehind
theorem dX5_tick_0 : decode cX5_tick 0 = .ok (.aload_n 0, 1) := by decide +kernel
theorem dX5_tick_1 : decode cX5_tick 1 = .ok (.getfield 10, 3) := by decide +kernel
theorem dX5_tick_4 : decode cX5_tick 4 = .ok (.iload_n 1, 1) := by decide +kernel
theorem dX5_tick_5 : decode cX5_tick 5 = .ok (.invokevirtual 91, 3) := by decide +kernel
theorem dX5_tick_8 : decode cX5_tick 8 = .ok (.ifCond .ne 5, 3) := by decide +kernel
theorem dX5_tick_11 : decode cX5_tick 11 = .ok (.iconst (-1), 1) := by decide +kernel
theorem dX5_tick_12 : decode cX5_tick 12 = .ok (.ireturn, 1) := by decide +kernel
theorem dX5_tick_13 : decode cX5_tick 13 = .ok (.iload_n 2, 1) := by decide +kernel
theorem dX5_tick_14 : decode cX5_tick 14 = .ok (.tableswitch 98 0 3 #[30, 39, 64, 81], 30) := by decide +kernel
theorem dX5_tick_44 : decode cX5_tick 44 = .ok (.aload_n 0, 1) := by decide +kernel
theorem dX5_tick_45 : decode cX5_tick 45 = .ok (.getfield 10, 3) := by decide +kernel
theorem dX5_tick_48 : decode cX5_tick 48 = .ok (.iload_n 1, 1) := by decide +kernel
theorem dX5_tick_49 : decode cX5_tick 49 = .ok (.invokevirtual 125, 3) := by decide +kernel
theorem dX5_tick_52 : decode cX5_tick 52 = .ok (.ireturn, 1) := by decide +kernel
theorem dX5_tick_53 : decode cX5_tick 53 = .ok (.aload_n 0, 1) := by decide +kernel
theorem dX5_tick_54 : decode cX5_tick 54 = .ok (.getfield 10, 3) := by decide +kernel
theorem dX5_tick_57 : decode cX5_tick 57 = .ok (.iload_n 1, 1) := by decide +kernel
theorem dX5_tick_58 : decode cX5_tick 58 = .ok (.invokevirtual 70, 3) := by decide +kernel
theorem dX5_tick_61 : decode cX5_tick 61 = .ok (.ifCond .eq 14, 3) := by decide +kernel
theorem dX5_tick_64 : decode cX5_tick 64 = .ok (.aload_n 0, 1) := by decide +kernel
theorem dX5_tick_65 : decode cX5_tick 65 = .ok (.getfield 10, 3) := by decide +kernel
theorem dX5_tick_68 : decode cX5_tick 68 = .ok (.iload_n 1, 1) := by decide +kernel
theorem dX5_tick_69 : decode cX5_tick 69 = .ok (.invokevirtual 76, 3) := by decide +kernel
theorem dX5_tick_72 : decode cX5_tick 72 = .ok (.goto 5, 3) := by decide +kernel
theorem dX5_tick_75 : decode cX5_tick 75 = .ok (.bipush (-9), 2) := by decide +kernel
theorem dX5_tick_77 : decode cX5_tick 77 = .ok (.ireturn, 1) := by decide +kernel
theorem dX5_tick_78 : decode cX5_tick 78 = .ok (.aload_n 0, 1) := by decide +kernel
theorem dX5_tick_79 : decode cX5_tick 79 = .ok (.getfield 10, 3) := by decide +kernel
theorem dX5_tick_82 : decode cX5_tick 82 = .ok (.iload_n 1, 1) := by decide +kernel
theorem dX5_tick_83 : decode cX5_tick 83 = .ok (.invokevirtual 128, 3) := by decide +kernel
theorem dX5_tick_86 : decode cX5_tick 86 = .ok (.ifCond .eq 7, 3) := by decide +kernel
theorem dX5_tick_89 : decode cX5_tick 89 = .ok (.iconst 1, 1) := by decide +kernel
theorem dX5_tick_90 : decode cX5_tick 90 = .ok (.goto 4, 3) := by decide +kernel
theorem dX5_tick_93 : decode cX5_tick 93 = .ok (.iconst 0, 1) := by decide +kernel
theorem dX5_tick_94 : decode cX5_tick 94 = .ok (.ireturn, 1) := by decide +kernel
theorem dX5_tick_95 : decode cX5_tick 95 = .ok (.aload_n 0, 1) := by decide +kernel
theorem dX5_tick_96 : decode cX5_tick 96 = .ok (.getfield 10, 3) := by decide +kernel
theorem dX5_tick_99 : decode cX5_tick 99 = .ok (.iload_n 1, 1) := by decide +kernel
theorem dX5_tick_100 : decode cX5_tick 100 = .ok (.invokevirtual 131, 3) := by decide +kernel
theorem dX5_tick_103 : decode cX5_tick 103 = .ok (.ifCond .eq 7, 3) := by decide +kernel
theorem dX5_tick_106 : decode cX5_tick 106 = .ok (.iconst 1, 1) := by decide +kernel
theorem dX5_tick_107 : decode cX5_tick 107 = .ok (.goto 4, 3) := by decide +kernel
theorem dX5_tick_110 : decode cX5_tick 110 = .ok (.iconst 0, 1) := by decide +kernel
theorem dX5_tick_111 : decode cX5_tick 111 = .ok (.ireturn, 1) := by decide +kernel
theorem dX5_tick_112 : decode cX5_tick 112 = .ok (.iconst (-1), 1) := by decide +kernel
theorem dX5_tick_113 : decode cX5_tick 113 = .ok (.ireturn, 1) := by decide +kernel
set_option maxRecDepth 20000 in
theorem ggX5_share_X0_countTooSoon : GoodIn wsX5_share wsX0_countTooSoon := goodIn_r _ [8, 9, 10, 11, 12, 7, 13, 14, 15, 16, 17, 18, 19, 20, 21, 22, 23, 24, 25, 26, 27, 28, 29, 30, 31, 32, 88, 89, 90, 91, 92, 93, 94] (by decide +kernel) (by decide +kernel)
set_option maxRecDepth 20000 in
theorem gX5_share_X0_countTooSoon : GoodIn wsX5_share (wsV RX5 134 RX0 yX0_countTooSoon wsX0_countTooSoon) := goodIn_app (goodIn_of _ (by decide +kernel)) ggX5_share_X0_countTooSoon
set_option maxRecDepth 20000 in
theorem ggX5_share_X0_countTooFar : GoodIn wsX5_share wsX0_countTooFar := goodIn_r _ [36, 9, 37, 38, 39, 7, 40, 14, 15, 16, 17, 18, 19, 20, 21, 22, 23, 24, 25, 26, 27, 41, 42, 43, 44, 45, 46, 47, 48, 49, 50, 51, 52, 53, 54, 88, 89, 90, 91, 92, 93, 94] (by decide +kernel) (by decide +kernel)
set_option maxRecDepth 20000 in
theorem gX5_share_X0_countTooFar : GoodIn wsX5_share (wsV RX5 137 RX0 yX0_countTooFar wsX0_countTooFar) := goodIn_app (goodIn_of _ (by decide +kernel)) ggX5_share_X0_countTooFar
set_option maxRecDepth 20000 in
theorem ggX5_share_X0_likeness : GoodIn wsX5_share wsX0_likeness := goodIn_r _ [58, 22, 59, 60, 61, 62, 63, 64, 65, 66, 88, 89, 90, 91, 92, 93, 94] (by decide +kernel) (by decide +kernel)
set_option maxRecDepth 20000 in
theorem gX5_share_X0_likeness : GoodIn wsX5_share (wsV RX5 140 RX0 yX0_likeness wsX0_likeness) := goodIn_app (goodIn_of _ (by decide +kernel)) ggX5_share_X0_likeness
set_option maxRecDepth 20000 in
theorem ggX5_share_X0_tilt : GoodIn wsX5_share wsX0_tilt := goodIn_r _ [70, 22, 60, 61, 62, 63, 64, 65, 66, 88, 89, 90, 91, 92, 93, 94] (by decide +kernel) (by decide +kernel)
set_option maxRecDepth 20000 in
theorem gX5_share_X0_tilt : GoodIn wsX5_share (wsV RX5 143 RX0 yX0_tilt wsX0_tilt) := goodIn_app (goodIn_of _ (by decide +kernel)) ggX5_share_X0_tilt
set_option maxRecDepth 20000 in
theorem ggX5_share_X0_isLawful : GoodIn wsX5_share wsX0_isLawful := goodIn_r _ [74, 9, 18, 19, 20, 7, 21, 22, 75, 76, 77, 78, 28, 29, 30, 31, 32, 41, 42, 43, 44, 45, 46, 47, 48, 49, 50, 51, 52, 53, 54, 88, 89, 90, 91, 92, 93, 94] (by decide +kernel) (by decide +kernel)
set_option maxRecDepth 20000 in
theorem gX5_share_X0_isLawful : GoodIn wsX5_share (wsV RX5 146 RX0 yX0_isLawful wsX0_isLawful) := goodIn_app (goodIn_of _ (by decide +kernel)) ggX5_share_X0_isLawful
theorem dX5_share_0 : decode cX5_share 0 = .ok (.iload_n 1, 1) := by decide +kernel
theorem dX5_share_1 : decode cX5_share 1 = .ok (.tableswitch 104 0 4 #[35, 43, 51, 66, 81], 35) := by decide +kernel
theorem dX5_share_36 : decode cX5_share 36 = .ok (.aload_n 0, 1) := by decide +kernel
theorem dX5_share_37 : decode cX5_share 37 = .ok (.getfield 10, 3) := by decide +kernel
theorem dX5_share_40 : decode cX5_share 40 = .ok (.invokevirtual 134, 3) := by decide +kernel
theorem dX5_share_43 : decode cX5_share 43 = .ok (.ireturn, 1) := by decide +kernel
theorem dX5_share_44 : decode cX5_share 44 = .ok (.aload_n 0, 1) := by decide +kernel
theorem dX5_share_45 : decode cX5_share 45 = .ok (.getfield 10, 3) := by decide +kernel
theorem dX5_share_48 : decode cX5_share 48 = .ok (.invokevirtual 137, 3) := by decide +kernel
theorem dX5_share_51 : decode cX5_share 51 = .ok (.ireturn, 1) := by decide +kernel
theorem dX5_share_52 : decode cX5_share 52 = .ok (.aload_n 0, 1) := by decide +kernel
theorem dX5_share_53 : decode cX5_share 53 = .ok (.getfield 10, 3) := by decide +kernel
theorem dX5_share_56 : decode cX5_share 56 = .ok (.aload_n 0, 1) := by decide +kernel
theorem dX5_share_57 : decode cX5_share 57 = .ok (.getfield 10, 3) := by decide +kernel
theorem dX5_share_60 : decode cX5_share 60 = .ok (.getfield 80, 3) := by decide +kernel
theorem dX5_share_63 : decode cX5_share 63 = .ok (.invokevirtual 140, 3) := by decide +kernel
theorem dX5_share_66 : decode cX5_share 66 = .ok (.ireturn, 1) := by decide +kernel
theorem dX5_share_67 : decode cX5_share 67 = .ok (.aload_n 0, 1) := by decide +kernel
theorem dX5_share_68 : decode cX5_share 68 = .ok (.getfield 10, 3) := by decide +kernel
theorem dX5_share_71 : decode cX5_share 71 = .ok (.aload_n 0, 1) := by decide +kernel
theorem dX5_share_72 : decode cX5_share 72 = .ok (.getfield 10, 3) := by decide +kernel
theorem dX5_share_75 : decode cX5_share 75 = .ok (.getfield 80, 3) := by decide +kernel
theorem dX5_share_78 : decode cX5_share 78 = .ok (.invokevirtual 143, 3) := by decide +kernel
theorem dX5_share_81 : decode cX5_share 81 = .ok (.ireturn, 1) := by decide +kernel
theorem dX5_share_82 : decode cX5_share 82 = .ok (.aload_n 0, 1) := by decide +kernel
theorem dX5_share_83 : decode cX5_share 83 = .ok (.getfield 10, 3) := by decide +kernel
theorem dX5_share_86 : decode cX5_share 86 = .ok (.aload_n 0, 1) := by decide +kernel
theorem dX5_share_87 : decode cX5_share 87 = .ok (.getfield 10, 3) := by decide +kernel
theorem dX5_share_90 : decode cX5_share 90 = .ok (.getfield 80, 3) := by decide +kernel
theorem dX5_share_93 : decode cX5_share 93 = .ok (.invokevirtual 146, 3) := by decide +kernel
theorem dX5_share_96 : decode cX5_share 96 = .ok (.ifCond .eq 7, 3) := by decide +kernel
theorem dX5_share_99 : decode cX5_share 99 = .ok (.iconst 1, 1) := by decide +kernel
theorem dX5_share_100 : decode cX5_share 100 = .ok (.goto 4, 3) := by decide +kernel
theorem dX5_share_103 : decode cX5_share 103 = .ok (.iconst 0, 1) := by decide +kernel
theorem dX5_share_104 : decode cX5_share 104 = .ok (.ireturn, 1) := by decide +kernel
theorem dX5_share_105 : decode cX5_share 105 = .ok (.ldc 149, 2) := by decide +kernel
theorem dX5_share_107 : decode cX5_share 107 = .ok (.ireturn, 1) := by decide +kernel
set_option maxRecDepth 20000 in
theorem ggX5_best_X2_lookAt : GoodIn wsX5_best wsX2_lookAt := goodIn_r _ [10, 11, 12, 13, 14, 15, 16, 17, 18, 19, 20, 21, 22, 23, 24, 25, 26, 27, 105, 106, 107, 108, 109, 110, 111, 112, 113, 114, 115] (by decide +kernel) (by decide +kernel)
set_option maxRecDepth 20000 in
theorem gX5_best_X2_lookAt : GoodIn wsX5_best (wsV RX5 150 RX2 yX2_lookAt wsX2_lookAt) := goodIn_app (goodIn_of _ (by decide +kernel)) ggX5_best_X2_lookAt
set_option maxRecDepth 20000 in
theorem ggX5_best_X2_find : GoodIn wsX5_best wsX2_find := goodIn_r _ [31, 32, 33, 34, 35, 36, 37, 38, 9, 39, 11, 40, 41, 42, 43, 44, 45, 46, 47, 48, 49, 50, 51, 15, 52, 23, 53, 54, 55, 56, 57, 58, 59, 60, 61, 62, 63, 22, 64, 65, 66, 67, 68, 69, 70, 71, 25, 72, 73, 74, 75, 76, 26, 77, 78, 79, 80, 17, 81, 82, 83, 84, 85, 86, 87, 88, 89, 90, 105, 106, 107, 108, 109, 110, 111, 112, 113, 114, 115] (by decide +kernel) (by decide +kernel)
set_option maxRecDepth 20000 in
theorem gX5_best_X2_find : GoodIn wsX5_best (wsV RX5 153 RX2 yX2_find wsX2_find) := goodIn_app (goodIn_of _ (by decide +kernel)) ggX5_best_X2_find
set_option maxRecDepth 20000 in
theorem ggX5_best_X0_likeness : GoodIn wsX5_best wsX0_likeness := goodIn_r _ [94, 23, 27, 53, 54, 55, 56, 57, 58, 59, 109, 110, 111, 112, 113, 114, 115] (by decide +kernel) (by decide +kernel)
set_option maxRecDepth 20000 in
theorem gX5_best_X0_likeness : GoodIn wsX5_best (wsV RX5 140 RX0 yX0_likeness wsX0_likeness) := goodIn_app (goodIn_of _ (by decide +kernel)) ggX5_best_X0_likeness
set_option maxRecDepth 20000 in
theorem ggX5_best_X0_tilt : GoodIn wsX5_best wsX0_tilt := goodIn_r _ [52, 23, 53, 54, 55, 56, 57, 58, 59, 109, 110, 111, 112, 113, 114, 115] (by decide +kernel) (by decide +kernel)
set_option maxRecDepth 20000 in
theorem gX5_best_X0_tilt : GoodIn wsX5_best (wsV RX5 143 RX0 yX0_tilt wsX0_tilt) := goodIn_app (goodIn_of _ (by decide +kernel)) ggX5_best_X0_tilt
theorem dX5_best_0 : decode cX5_best 0 = .ok (.iload_n 1, 1) := by decide +kernel
theorem dX5_best_1 : decode cX5_best 1 = .ok (.ifCond .lt 8, 3) := by decide +kernel
theorem dX5_best_4 : decode cX5_best 4 = .ok (.iload_n 1, 1) := by decide +kernel
theorem dX5_best_5 : decode cX5_best 5 = .ok (.iconst 2, 1) := by decide +kernel
theorem dX5_best_6 : decode cX5_best 6 = .ok (.if_icmp .le 6, 3) := by decide +kernel
theorem dX5_best_9 : decode cX5_best 9 = .ok (.ldc 149, 2) := by decide +kernel
theorem dX5_best_11 : decode cX5_best 11 = .ok (.ireturn, 1) := by decide +kernel
theorem dX5_best_12 : decode cX5_best 12 = .ok (.aload_n 0, 1) := by decide +kernel
theorem dX5_best_13 : decode cX5_best 13 = .ok (.getfield 33, 3) := by decide +kernel
theorem dX5_best_16 : decode cX5_best 16 = .ok (.aload_n 0, 1) := by decide +kernel
theorem dX5_best_17 : decode cX5_best 17 = .ok (.getfield 10, 3) := by decide +kernel
theorem dX5_best_20 : decode cX5_best 20 = .ok (.invokevirtual 150, 3) := by decide +kernel
theorem dX5_best_23 : decode cX5_best 23 = .ok (.aload_n 0, 1) := by decide +kernel
theorem dX5_best_24 : decode cX5_best 24 = .ok (.getfield 33, 3) := by decide +kernel
theorem dX5_best_27 : decode cX5_best 27 = .ok (.iconst 1, 1) := by decide +kernel
theorem dX5_best_28 : decode cX5_best 28 = .ok (.invokevirtual 153, 3) := by decide +kernel
theorem dX5_best_31 : decode cX5_best 31 = .ok (.ifCond .ne 6, 3) := by decide +kernel
theorem dX5_best_34 : decode cX5_best 34 = .ok (.ldc 156, 2) := by decide +kernel
theorem dX5_best_36 : decode cX5_best 36 = .ok (.ireturn, 1) := by decide +kernel
theorem dX5_best_37 : decode cX5_best 37 = .ok (.iload_n 1, 1) := by decide +kernel
theorem dX5_best_38 : decode cX5_best 38 = .ok (.lookupswitch 56 #[(0, 26), (1, 41)], 26) := by decide +kernel
theorem dX5_best_64 : decode cX5_best 64 = .ok (.aload_n 0, 1) := by decide +kernel
theorem dX5_best_65 : decode cX5_best 65 = .ok (.getfield 10, 3) := by decide +kernel
theorem dX5_best_68 : decode cX5_best 68 = .ok (.aload_n 0, 1) := by decide +kernel
theorem dX5_best_69 : decode cX5_best 69 = .ok (.getfield 33, 3) := by decide +kernel
theorem dX5_best_72 : decode cX5_best 72 = .ok (.getfield 104, 3) := by decide +kernel
theorem dX5_best_75 : decode cX5_best 75 = .ok (.invokevirtual 140, 3) := by decide +kernel
theorem dX5_best_78 : decode cX5_best 78 = .ok (.ireturn, 1) := by decide +kernel
theorem dX5_best_79 : decode cX5_best 79 = .ok (.aload_n 0, 1) := by decide +kernel
theorem dX5_best_80 : decode cX5_best 80 = .ok (.getfield 10, 3) := by decide +kernel
theorem dX5_best_83 : decode cX5_best 83 = .ok (.aload_n 0, 1) := by decide +kernel
theorem dX5_best_84 : decode cX5_best 84 = .ok (.getfield 33, 3) := by decide +kernel
theorem dX5_best_87 : decode cX5_best 87 = .ok (.getfield 104, 3) := by decide +kernel
theorem dX5_best_90 : decode cX5_best 90 = .ok (.invokevirtual 143, 3) := by decide +kernel
theorem dX5_best_93 : decode cX5_best 93 = .ok (.ireturn, 1) := by decide +kernel
theorem dX5_best_94 : decode cX5_best 94 = .ok (.aload_n 0, 1) := by decide +kernel
theorem dX5_best_95 : decode cX5_best 95 = .ok (.getfield 33, 3) := by decide +kernel
theorem dX5_best_98 : decode cX5_best 98 = .ok (.getfield 104, 3) := by decide +kernel
theorem dX5_best_101 : decode cX5_best 101 = .ok (.ireturn, 1) := by decide +kernel
set_option maxRecDepth 20000 in
theorem ggX5_slowest_X2_lookAt : GoodIn wsX5_slowest wsX2_lookAt := goodIn_r _ [11, 12, 13, 14, 15, 16, 17, 18, 19, 20, 21, 22, 23, 24, 25, 26, 27, 28, 101, 102, 103, 104, 105, 106, 107, 108, 109, 110, 111] (by decide +kernel) (by decide +kernel)
set_option maxRecDepth 20000 in
theorem gX5_slowest_X2_lookAt : GoodIn wsX5_slowest (wsV RX5 150 RX2 yX2_lookAt wsX2_lookAt) := goodIn_app (goodIn_of _ (by decide +kernel)) ggX5_slowest_X2_lookAt
set_option maxRecDepth 20000 in
theorem ggX5_slowest_X2_find : GoodIn wsX5_slowest wsX2_find := goodIn_r _ [32, 33, 34, 35, 36, 37, 38, 39, 10, 40, 12, 41, 42, 43, 44, 45, 46, 47, 48, 49, 50, 51, 52, 16, 53, 24, 54, 55, 56, 57, 58, 59, 60, 61, 62, 63, 64, 23, 65, 66, 67, 68, 69, 70, 71, 72, 26, 73, 74, 75, 76, 77, 27, 78, 79, 80, 81, 18, 82, 83, 84, 85, 86, 87, 88, 89, 90, 91, 101, 102, 103, 104, 105, 106, 107, 108, 109, 110, 111] (by decide +kernel) (by decide +kernel)
set_option maxRecDepth 20000 in
theorem gX5_slowest_X2_find : GoodIn wsX5_slowest (wsV RX5 153 RX2 yX2_find wsX2_find) := goodIn_app (goodIn_of _ (by decide +kernel)) ggX5_slowest_X2_find
theorem dX5_slowest_0 : decode cX5_slowest 0 = .ok (.aload_n 0, 1) := by decide +kernel
theorem dX5_slowest_1 : decode cX5_slowest 1 = .ok (.getfield 33, 3) := by decide +kernel
theorem dX5_slowest_4 : decode cX5_slowest 4 = .ok (.aload_n 0, 1) := by decide +kernel
theorem dX5_slowest_5 : decode cX5_slowest 5 = .ok (.getfield 10, 3) := by decide +kernel
theorem dX5_slowest_8 : decode cX5_slowest 8 = .ok (.invokevirtual 150, 3) := by decide +kernel
theorem dX5_slowest_11 : decode cX5_slowest 11 = .ok (.getstatic 157, 3) := by decide +kernel
theorem dX5_slowest_14 : decode cX5_slowest 14 = .ok (.iconst 0, 1) := by decide +kernel
theorem dX5_slowest_15 : decode cX5_slowest 15 = .ok (.iaload, 1) := by decide +kernel
theorem dX5_slowest_16 : decode cX5_slowest 16 = .ok (.istore_n 1, 1) := by decide +kernel
theorem dX5_slowest_17 : decode cX5_slowest 17 = .ok (.iload_n 1, 1) := by decide +kernel
theorem dX5_slowest_18 : decode cX5_slowest 18 = .ok (.getstatic 161, 3) := by decide +kernel
theorem dX5_slowest_21 : decode cX5_slowest 21 = .ok (.iconst 0, 1) := by decide +kernel
theorem dX5_slowest_22 : decode cX5_slowest 22 = .ok (.iaload, 1) := by decide +kernel
theorem dX5_slowest_23 : decode cX5_slowest 23 = .ok (.if_icmp .lt 33, 3) := by decide +kernel
theorem dX5_slowest_26 : decode cX5_slowest 26 = .ok (.aload_n 0, 1) := by decide +kernel
theorem dX5_slowest_27 : decode cX5_slowest 27 = .ok (.getfield 33, 3) := by decide +kernel
theorem dX5_slowest_30 : decode cX5_slowest 30 = .ok (.getfield 164, 3) := by decide +kernel
theorem dX5_slowest_33 : decode cX5_slowest 33 = .ok (.iload_n 1, 1) := by decide +kernel
theorem dX5_slowest_34 : decode cX5_slowest 34 = .ok (.putfield 167, 3) := by decide +kernel
theorem dX5_slowest_37 : decode cX5_slowest 37 = .ok (.aload_n 0, 1) := by decide +kernel
theorem dX5_slowest_38 : decode cX5_slowest 38 = .ok (.getfield 33, 3) := by decide +kernel
theorem dX5_slowest_41 : decode cX5_slowest 41 = .ok (.iconst 0, 1) := by decide +kernel
theorem dX5_slowest_42 : decode cX5_slowest 42 = .ok (.invokevirtual 153, 3) := by decide +kernel
theorem dX5_slowest_45 : decode cX5_slowest 45 = .ok (.ifCond .eq 5, 3) := by decide +kernel
theorem dX5_slowest_48 : decode cX5_slowest 48 = .ok (.iload_n 1, 1) := by decide +kernel
theorem dX5_slowest_49 : decode cX5_slowest 49 = .ok (.ireturn, 1) := by decide +kernel
theorem dX5_slowest_50 : decode cX5_slowest 50 = .ok (.iinc 1 (-1), 3) := by decide +kernel
theorem dX5_slowest_53 : decode cX5_slowest 53 = .ok (.goto (-36), 3) := by decide +kernel
theorem dX5_slowest_56 : decode cX5_slowest 56 = .ok (.bipush (-9), 2) := by decide +kernel
theorem dX5_slowest_58 : decode cX5_slowest 58 = .ok (.ireturn, 1) := by decide +kernel
set_option maxRecDepth 20000 in
theorem ggX5_change_X5_mendingChanges : GoodIn wsX5_change wsX5_mendingChanges := goodIn_r _ [5, 6, 7, 8, 9, 10, 11, 12, 13, 14, 15, 16, 17, 18, 19, 20, 21, 22, 23, 24, 25, 26, 27, 28, 29, 30, 31, 32, 33, 34, 35, 36, 37, 38, 39, 40, 41, 42, 43, 44, 45, 46, 47, 48, 49, 50, 51, 52, 53, 54, 55, 56, 57, 58, 59, 60, 61, 62, 63, 64, 65, 66, 67, 68, 69, 70, 71, 72, 73, 74, 75, 76, 77, 78, 79, 80, 81, 82, 83, 84, 85, 86, 87, 88, 89, 90, 91, 92, 93, 94, 95, 96, 97, 98, 99, 100, 101, 102, 103, 104, 105, 106, 107, 108, 109, 110, 111, 112, 113, 114, 115] (by decide +kernel) (by decide +kernel)
set_option maxRecDepth 20000 in
theorem gX5_change_X5_mendingChanges : GoodIn wsX5_change (wsV RX5 101 RX5 yX5_mendingChanges wsX5_mendingChanges) := goodIn_app (goodIn_of _ (by decide +kernel)) ggX5_change_X5_mendingChanges
theorem dX5_change_0 : decode cX5_change 0 = .ok (.aload_n 0, 1) := by decide +kernel
theorem dX5_change_1 : decode cX5_change 1 = .ok (.invokevirtual 101, 3) := by decide +kernel
theorem dX5_change_4 : decode cX5_change 4 = .ok (.ireturn, 1) := by decide +kernel
set_option maxRecDepth 20000 in
theorem ggX5_busiest_X5_isHand : GoodIn wsX5_busiest wsX5_isHand := goodIn_r _ [7] (by decide +kernel) (by decide +kernel)
set_option maxRecDepth 20000 in
theorem gX5_busiest_X5_isHand : GoodIn wsX5_busiest (va_wsS RX5 73 yX5_isHand wsX5_isHand) := goodIn_app (goodIn_of _ (by decide +kernel)) ggX5_busiest_X5_isHand
set_option maxRecDepth 20000 in
theorem ggX5_busiest_X0_notesOf : GoodIn wsX5_busiest wsX0_notesOf := goodIn_r _ [12, 13, 14, 34, 35, 36, 37, 38, 39, 40] (by decide +kernel) (by decide +kernel)
set_option maxRecDepth 20000 in
theorem gX5_busiest_X0_notesOf : GoodIn wsX5_busiest (wsV RX5 83 RX0 yX0_notesOf wsX0_notesOf) := goodIn_app (goodIn_of _ (by decide +kernel)) ggX5_busiest_X0_notesOf
set_option maxRecDepth 20000 in
theorem ggX5_busiest_X5_ticksFrom : GoodIn wsX5_busiest wsX5_ticksFrom := goodIn_r _ [17] (by decide +kernel) (by decide +kernel)
set_option maxRecDepth 20000 in
theorem gX5_busiest_X5_ticksFrom : GoodIn wsX5_busiest (va_wsS RX5 97 yX5_ticksFrom wsX5_ticksFrom) := goodIn_app (goodIn_of _ (by decide +kernel)) ggX5_busiest_X5_ticksFrom
set_option maxRecDepth 20000 in
theorem ggX5_busiest_J6_bitCount_0f7a4 : GoodIn wsX5_busiest wsJ6_bitCount_0f7a4 := goodIn_r _ [21, 22, 23, 24] (by decide +kernel) (by decide +kernel)
set_option maxRecDepth 20000 in
theorem gX5_busiest_J6_bitCount_0f7a4 : GoodIn wsX5_busiest (va_wsS RX5 86 yJ6_bitCount_0f7a4 wsJ6_bitCount_0f7a4) := goodIn_app (goodIn_of _ (by decide +kernel)) ggX5_busiest_J6_bitCount_0f7a4
theorem dX5_busiest_0 : decode cX5_busiest 0 = .ok (.iload_n 1, 1) := by decide +kernel
theorem dX5_busiest_1 : decode cX5_busiest 1 = .ok (.invokestatic 73, 3) := by decide +kernel
theorem dX5_busiest_4 : decode cX5_busiest 4 = .ok (.ifCond .eq 12, 3) := by decide +kernel
theorem dX5_busiest_7 : decode cX5_busiest 7 = .ok (.iload_n 2, 1) := by decide +kernel
theorem dX5_busiest_8 : decode cX5_busiest 8 = .ok (.ifCond .lt 8, 3) := by decide +kernel
theorem dX5_busiest_11 : decode cX5_busiest 11 = .ok (.iload_n 2, 1) := by decide +kernel
theorem dX5_busiest_12 : decode cX5_busiest 12 = .ok (.iconst 1, 1) := by decide +kernel
theorem dX5_busiest_13 : decode cX5_busiest 13 = .ok (.if_icmp .le 5, 3) := by decide +kernel
theorem dX5_busiest_16 : decode cX5_busiest 16 = .ok (.iconst (-1), 1) := by decide +kernel
theorem dX5_busiest_17 : decode cX5_busiest 17 = .ok (.ireturn, 1) := by decide +kernel
theorem dX5_busiest_18 : decode cX5_busiest 18 = .ok (.aload_n 0, 1) := by decide +kernel
theorem dX5_busiest_19 : decode cX5_busiest 19 = .ok (.getfield 10, 3) := by decide +kernel
theorem dX5_busiest_22 : decode cX5_busiest 22 = .ok (.iload_n 1, 1) := by decide +kernel
theorem dX5_busiest_23 : decode cX5_busiest 23 = .ok (.invokevirtual 83, 3) := by decide +kernel
theorem dX5_busiest_26 : decode cX5_busiest 26 = .ok (.istore_n 3, 1) := by decide +kernel
theorem dX5_busiest_27 : decode cX5_busiest 27 = .ok (.iconst 0, 1) := by decide +kernel
theorem dX5_busiest_28 : decode cX5_busiest 28 = .ok (.istore 4, 2) := by decide +kernel
theorem dX5_busiest_30 : decode cX5_busiest 30 = .ok (.iconst 0, 1) := by decide +kernel
theorem dX5_busiest_31 : decode cX5_busiest 31 = .ok (.istore 5, 2) := by decide +kernel
theorem dX5_busiest_33 : decode cX5_busiest 33 = .ok (.iconst 0, 1) := by decide +kernel
theorem dX5_busiest_34 : decode cX5_busiest 34 = .ok (.istore 6, 2) := by decide +kernel
theorem dX5_busiest_36 : decode cX5_busiest 36 = .ok (.iload 6, 2) := by decide +kernel
theorem dX5_busiest_38 : decode cX5_busiest 38 = .ok (.aload_n 0, 1) := by decide +kernel
theorem dX5_busiest_39 : decode cX5_busiest 39 = .ok (.getfield 10, 3) := by decide +kernel
theorem dX5_busiest_42 : decode cX5_busiest 42 = .ok (.getfield 170, 3) := by decide +kernel
theorem dX5_busiest_45 : decode cX5_busiest 45 = .ok (.if_icmp .ge 43, 3) := by decide +kernel
theorem dX5_busiest_48 : decode cX5_busiest 48 = .ok (.iload_n 3, 1) := by decide +kernel
theorem dX5_busiest_49 : decode cX5_busiest 49 = .ok (.iload 6, 2) := by decide +kernel
theorem dX5_busiest_51 : decode cX5_busiest 51 = .ok (.aload_n 0, 1) := by decide +kernel
theorem dX5_busiest_52 : decode cX5_busiest 52 = .ok (.getfield 10, 3) := by decide +kernel
theorem dX5_busiest_55 : decode cX5_busiest 55 = .ok (.getfield 173, 3) := by decide +kernel
theorem dX5_busiest_58 : decode cX5_busiest 58 = .ok (.invokestatic 97, 3) := by decide +kernel
theorem dX5_busiest_61 : decode cX5_busiest 61 = .ok (.iand, 1) := by decide +kernel
theorem dX5_busiest_62 : decode cX5_busiest 62 = .ok (.invokestatic 86, 3) := by decide +kernel
theorem dX5_busiest_65 : decode cX5_busiest 65 = .ok (.istore 7, 2) := by decide +kernel
theorem dX5_busiest_67 : decode cX5_busiest 67 = .ok (.iload 7, 2) := by decide +kernel
theorem dX5_busiest_69 : decode cX5_busiest 69 = .ok (.iload 5, 2) := by decide +kernel
theorem dX5_busiest_71 : decode cX5_busiest 71 = .ok (.if_icmp .le 11, 3) := by decide +kernel
theorem dX5_busiest_74 : decode cX5_busiest 74 = .ok (.iload 7, 2) := by decide +kernel
theorem dX5_busiest_76 : decode cX5_busiest 76 = .ok (.istore 5, 2) := by decide +kernel
theorem dX5_busiest_78 : decode cX5_busiest 78 = .ok (.iload 6, 2) := by decide +kernel
theorem dX5_busiest_80 : decode cX5_busiest 80 = .ok (.istore 4, 2) := by decide +kernel
theorem dX5_busiest_82 : decode cX5_busiest 82 = .ok (.iinc 6 1, 3) := by decide +kernel
theorem dX5_busiest_85 : decode cX5_busiest 85 = .ok (.goto (-49), 3) := by decide +kernel
theorem dX5_busiest_88 : decode cX5_busiest 88 = .ok (.iload_n 2, 1) := by decide +kernel
theorem dX5_busiest_89 : decode cX5_busiest 89 = .ok (.ifCond .ne 8, 3) := by decide +kernel
theorem dX5_busiest_92 : decode cX5_busiest 92 = .ok (.iload 4, 2) := by decide +kernel
theorem dX5_busiest_94 : decode cX5_busiest 94 = .ok (.goto 5, 3) := by decide +kernel
theorem dX5_busiest_97 : decode cX5_busiest 97 = .ok (.iload 5, 2) := by decide +kernel
theorem dX5_busiest_99 : decode cX5_busiest 99 = .ok (.ireturn, 1) := by decide +kernel
set_option maxRecDepth 20000 in
theorem ggX5_tables_X5_askTables : GoodIn wsX5_tables wsX5_askTables := goodIn_r _ [5, 6, 7, 8, 9, 10, 11, 12, 13, 14, 15, 16, 17, 18, 19, 20, 21, 22, 23, 24, 25, 26, 27, 28, 29, 30, 31, 32, 33, 34, 35, 36, 37, 38, 39, 40, 41, 42, 43, 44, 45, 46, 47, 48, 49, 50, 51, 52, 53, 54, 55, 56, 57, 58, 59, 60, 61, 62, 63, 64, 65, 66, 67, 68, 69, 70, 71, 72, 73, 74, 75, 76, 77, 78, 79, 80, 81, 82, 83, 84, 85, 86, 87] (by decide +kernel) (by decide +kernel)
set_option maxRecDepth 20000 in
theorem gX5_tables_X5_askTables : GoodIn wsX5_tables (wsV RX5 176 RX5 yX5_askTables wsX5_askTables) := goodIn_app (goodIn_of _ (by decide +kernel)) ggX5_tables_X5_askTables
theorem dX5_tables_0 : decode cX5_tables 0 = .ok (.aload_n 0, 1) := by decide +kernel
theorem dX5_tables_1 : decode cX5_tables 1 = .ok (.iload_n 1, 1) := by decide +kernel
theorem dX5_tables_2 : decode cX5_tables 2 = .ok (.iconst 0, 1) := by decide +kernel
theorem dX5_tables_3 : decode cX5_tables 3 = .ok (.iconst 0, 1) := by decide +kernel
theorem dX5_tables_4 : decode cX5_tables 4 = .ok (.invokevirtual 176, 3) := by decide +kernel
theorem dX5_tables_7 : decode cX5_tables 7 = .ok (.ireturn, 1) := by decide +kernel
set_option maxRecDepth 20000 in
theorem ggX5_sees_X5_isHand : GoodIn wsX5_sees wsX5_isHand := goodIn_r _ [7] (by decide +kernel) (by decide +kernel)
set_option maxRecDepth 20000 in
theorem gX5_sees_X5_isHand : GoodIn wsX5_sees (va_wsS RX5 73 yX5_isHand wsX5_isHand) := goodIn_app (goodIn_of _ (by decide +kernel)) ggX5_sees_X5_isHand
theorem dX5_sees_0 : decode cX5_sees 0 = .ok (.iload_n 1, 1) := by decide +kernel
theorem dX5_sees_1 : decode cX5_sees 1 = .ok (.ifCond .lt 16, 3) := by decide +kernel
theorem dX5_sees_4 : decode cX5_sees 4 = .ok (.iload_n 1, 1) := by decide +kernel
theorem dX5_sees_5 : decode cX5_sees 5 = .ok (.bipush 12, 2) := by decide +kernel
theorem dX5_sees_7 : decode cX5_sees 7 = .ok (.if_icmp .ge 10, 3) := by decide +kernel
theorem dX5_sees_10 : decode cX5_sees 10 = .ok (.iload_n 2, 1) := by decide +kernel
theorem dX5_sees_11 : decode cX5_sees 11 = .ok (.invokestatic 73, 3) := by decide +kernel
theorem dX5_sees_14 : decode cX5_sees 14 = .ok (.ifCond .ne 5, 3) := by decide +kernel
theorem dX5_sees_17 : decode cX5_sees 17 = .ok (.iconst (-1), 1) := by decide +kernel
theorem dX5_sees_18 : decode cX5_sees 18 = .ok (.ireturn, 1) := by decide +kernel
theorem dX5_sees_19 : decode cX5_sees 19 = .ok (.aload_n 0, 1) := by decide +kernel
theorem dX5_sees_20 : decode cX5_sees 20 = .ok (.getfield 180, 3) := by decide +kernel
theorem dX5_sees_23 : decode cX5_sees 23 = .ok (.bipush 6, 2) := by decide +kernel
theorem dX5_sees_25 : decode cX5_sees 25 = .ok (.if_icmp .lt 6, 3) := by decide +kernel
theorem dX5_sees_28 : decode cX5_sees 28 = .ok (.bipush (-3), 2) := by decide +kernel
theorem dX5_sees_30 : decode cX5_sees 30 = .ok (.ireturn, 1) := by decide +kernel
theorem dX5_sees_31 : decode cX5_sees 31 = .ok (.iload_n 2, 1) := by decide +kernel
theorem dX5_sees_32 : decode cX5_sees 32 = .ok (.ifCond .ne 18, 3) := by decide +kernel
theorem dX5_sees_35 : decode cX5_sees 35 = .ok (.aload_n 0, 1) := by decide +kernel
theorem dX5_sees_36 : decode cX5_sees 36 = .ok (.dup, 1) := by decide +kernel
theorem dX5_sees_37 : decode cX5_sees 37 = .ok (.getfield 183, 3) := by decide +kernel
theorem dX5_sees_40 : decode cX5_sees 40 = .ok (.iconst 1, 1) := by decide +kernel
theorem dX5_sees_41 : decode cX5_sees 41 = .ok (.iload_n 1, 1) := by decide +kernel
theorem dX5_sees_42 : decode cX5_sees 42 = .ok (.ishl, 1) := by decide +kernel
theorem dX5_sees_43 : decode cX5_sees 43 = .ok (.ior, 1) := by decide +kernel
theorem dX5_sees_44 : decode cX5_sees 44 = .ok (.putfield 183, 3) := by decide +kernel
theorem dX5_sees_47 : decode cX5_sees 47 = .ok (.goto 15, 3) := by decide +kernel
theorem dX5_sees_50 : decode cX5_sees 50 = .ok (.aload_n 0, 1) := by decide +kernel
theorem dX5_sees_51 : decode cX5_sees 51 = .ok (.dup, 1) := by decide +kernel
theorem dX5_sees_52 : decode cX5_sees 52 = .ok (.getfield 186, 3) := by decide +kernel
theorem dX5_sees_55 : decode cX5_sees 55 = .ok (.iconst 1, 1) := by decide +kernel
theorem dX5_sees_56 : decode cX5_sees 56 = .ok (.iload_n 1, 1) := by decide +kernel
theorem dX5_sees_57 : decode cX5_sees 57 = .ok (.ishl, 1) := by decide +kernel
theorem dX5_sees_58 : decode cX5_sees 58 = .ok (.ior, 1) := by decide +kernel
theorem dX5_sees_59 : decode cX5_sees 59 = .ok (.putfield 186, 3) := by decide +kernel
theorem dX5_sees_62 : decode cX5_sees 62 = .ok (.aload_n 0, 1) := by decide +kernel
theorem dX5_sees_63 : decode cX5_sees 63 = .ok (.dup, 1) := by decide +kernel
theorem dX5_sees_64 : decode cX5_sees 64 = .ok (.getfield 180, 3) := by decide +kernel
theorem dX5_sees_67 : decode cX5_sees 67 = .ok (.iconst 1, 1) := by decide +kernel
theorem dX5_sees_68 : decode cX5_sees 68 = .ok (.iadd, 1) := by decide +kernel
theorem dX5_sees_69 : decode cX5_sees 69 = .ok (.putfield 180, 3) := by decide +kernel
theorem dX5_sees_72 : decode cX5_sees 72 = .ok (.aload_n 0, 1) := by decide +kernel
theorem dX5_sees_73 : decode cX5_sees 73 = .ok (.getfield 180, 3) := by decide +kernel
theorem dX5_sees_76 : decode cX5_sees 76 = .ok (.ireturn, 1) := by decide +kernel
theorem dX5_forget_0 : decode cX5_forget 0 = .ok (.aload_n 0, 1) := by decide +kernel
theorem dX5_forget_1 : decode cX5_forget 1 = .ok (.getfield 180, 3) := by decide +kernel
theorem dX5_forget_4 : decode cX5_forget 4 = .ok (.istore_n 1, 1) := by decide +kernel
theorem dX5_forget_5 : decode cX5_forget 5 = .ok (.aload_n 0, 1) := by decide +kernel
theorem dX5_forget_6 : decode cX5_forget 6 = .ok (.iconst 0, 1) := by decide +kernel
theorem dX5_forget_7 : decode cX5_forget 7 = .ok (.putfield 180, 3) := by decide +kernel
theorem dX5_forget_10 : decode cX5_forget 10 = .ok (.aload_n 0, 1) := by decide +kernel
theorem dX5_forget_11 : decode cX5_forget 11 = .ok (.iconst 0, 1) := by decide +kernel
theorem dX5_forget_12 : decode cX5_forget 12 = .ok (.putfield 183, 3) := by decide +kernel
theorem dX5_forget_15 : decode cX5_forget 15 = .ok (.aload_n 0, 1) := by decide +kernel
theorem dX5_forget_16 : decode cX5_forget 16 = .ok (.iconst 0, 1) := by decide +kernel
theorem dX5_forget_17 : decode cX5_forget 17 = .ok (.putfield 186, 3) := by decide +kernel
theorem dX5_forget_20 : decode cX5_forget 20 = .ok (.iload_n 1, 1) := by decide +kernel
theorem dX5_forget_21 : decode cX5_forget 21 = .ok (.ireturn, 1) := by decide +kernel
set_option maxRecDepth 20000 in
theorem ggX5_which_X5_askTables : GoodIn wsX5_which wsX5_askTables := goodIn_r _ [7, 8, 9, 10, 11, 12, 13, 14, 15, 16, 17, 18, 19, 20, 21, 22, 23, 24, 25, 26, 27, 28, 29, 30, 31, 32, 33, 34, 35, 36, 37, 38, 39, 40, 41, 42, 43, 44, 45, 46, 47, 48, 49, 50, 51, 52, 53, 54, 55, 56, 57, 58, 59, 60, 61, 62, 63, 64, 65, 66, 67, 68, 69, 70, 71, 72, 73, 74, 75, 76, 77, 78, 79, 80, 81, 82, 83, 84, 85, 86, 87, 88, 89] (by decide +kernel) (by decide +kernel)
set_option maxRecDepth 20000 in
theorem gX5_which_X5_askTables : GoodIn wsX5_which (wsV RX5 176 RX5 yX5_askTables wsX5_askTables) := goodIn_app (goodIn_of _ (by decide +kernel)) ggX5_which_X5_askTables
theorem dX5_which_0 : decode cX5_which 0 = .ok (.aload_n 0, 1) := by decide +kernel
theorem dX5_which_1 : decode cX5_which 1 = .ok (.iload_n 1, 1) := by decide +kernel
theorem dX5_which_2 : decode cX5_which 2 = .ok (.aload_n 0, 1) := by decide +kernel
theorem dX5_which_3 : decode cX5_which 3 = .ok (.getfield 183, 3) := by decide +kernel
theorem dX5_which_6 : decode cX5_which 6 = .ok (.aload_n 0, 1) := by decide +kernel
theorem dX5_which_7 : decode cX5_which 7 = .ok (.getfield 186, 3) := by decide +kernel
theorem dX5_which_10 : decode cX5_which 10 = .ok (.invokevirtual 176, 3) := by decide +kernel
theorem dX5_which_13 : decode cX5_which 13 = .ok (.ireturn, 1) := by decide +kernel
set_option maxRecDepth 20000 in
theorem ggX5_listen_X3_gather : GoodIn wsX5_listen wsX3_gather := goodIn_r _ [10, 11, 12, 13, 14, 15, 16, 17, 18, 19, 20, 21, 22, 23, 24, 25, 26, 27, 28, 29, 30, 31, 32, 33, 34, 35, 36, 37, 38, 39, 40, 41, 42, 43, 44, 45, 46, 47, 48, 49, 50, 51, 52, 53, 54, 55, 56, 57, 58, 59, 60, 61, 62, 63, 9, 64, 82, 83, 84, 85, 86, 87, 88, 89, 90, 91] (by decide +kernel) (by decide +kernel)
set_option maxRecDepth 20000 in
theorem gX5_listen_X3_gather : GoodIn wsX5_listen (wsV RX5 189 RX3 yX3_gather wsX3_gather) := goodIn_app (goodIn_of _ (by decide +kernel)) ggX5_listen_X3_gather
set_option maxRecDepth 20000 in
theorem ggX5_listen_X3_tickThatHalvesBest : GoodIn wsX5_listen wsX3_tickThatHalvesBest := goodIn_r _ [68, 11, 13, 69, 70, 58, 71, 72, 26, 27, 22, 28, 24, 29, 82, 83, 84, 85, 86, 87, 88, 89, 90, 91] (by decide +kernel) (by decide +kernel)
set_option maxRecDepth 20000 in
theorem gX5_listen_X3_tickThatHalvesBest : GoodIn wsX5_listen (wsV RX5 194 RX3 yX3_tickThatHalvesBest wsX3_tickThatHalvesBest) := goodIn_app (goodIn_of _ (by decide +kernel)) ggX5_listen_X3_tickThatHalvesBest
theorem dX5_listen_0 : decode cX5_listen 0 = .ok (.aload_n 0, 1) := by decide +kernel
theorem dX5_listen_1 : decode cX5_listen 1 = .ok (.getfield 40, 3) := by decide +kernel
theorem dX5_listen_4 : decode cX5_listen 4 = .ok (.aload_n 0, 1) := by decide +kernel
theorem dX5_listen_5 : decode cX5_listen 5 = .ok (.getfield 10, 3) := by decide +kernel
theorem dX5_listen_8 : decode cX5_listen 8 = .ok (.aload_n 0, 1) := by decide +kernel
theorem dX5_listen_9 : decode cX5_listen 9 = .ok (.getfield 183, 3) := by decide +kernel
theorem dX5_listen_12 : decode cX5_listen 12 = .ok (.aload_n 0, 1) := by decide +kernel
theorem dX5_listen_13 : decode cX5_listen 13 = .ok (.getfield 186, 3) := by decide +kernel
theorem dX5_listen_16 : decode cX5_listen 16 = .ok (.invokevirtual 189, 3) := by decide +kernel
theorem dX5_listen_19 : decode cX5_listen 19 = .ok (.aload_n 0, 1) := by decide +kernel
theorem dX5_listen_20 : decode cX5_listen 20 = .ok (.getfield 40, 3) := by decide +kernel
theorem dX5_listen_23 : decode cX5_listen 23 = .ok (.getfield 193, 3) := by decide +kernel
theorem dX5_listen_26 : decode cX5_listen 26 = .ok (.iconst 1, 1) := by decide +kernel
theorem dX5_listen_27 : decode cX5_listen 27 = .ok (.if_icmp .le 17, 3) := by decide +kernel
theorem dX5_listen_30 : decode cX5_listen 30 = .ok (.aload_n 0, 1) := by decide +kernel
theorem dX5_listen_31 : decode cX5_listen 31 = .ok (.getfield 40, 3) := by decide +kernel
theorem dX5_listen_34 : decode cX5_listen 34 = .ok (.aload_n 0, 1) := by decide +kernel
theorem dX5_listen_35 : decode cX5_listen 35 = .ok (.getfield 10, 3) := by decide +kernel
theorem dX5_listen_38 : decode cX5_listen 38 = .ok (.invokevirtual 194, 3) := by decide +kernel
theorem dX5_listen_41 : decode cX5_listen 41 = .ok (.goto 5, 3) := by decide +kernel
theorem dX5_listen_44 : decode cX5_listen 44 = .ok (.bipush (-9), 2) := by decide +kernel
theorem dX5_listen_46 : decode cX5_listen 46 = .ok (.ireturn, 1) := by decide +kernel
set_option maxRecDepth 20000 in
theorem ggX5_keep_X0_init : GoodIn wsX5_keep wsX0_init := goodIn_r _ [9, 10, 11, 12, 13, 14, 15, 16, 17, 4, 18, 19, 20, 21, 22, 23, 24, 25, 26, 27, 28, 46, 47, 48, 49, 50, 51, 52] (by decide +kernel) (by decide +kernel)
set_option maxRecDepth 20000 in
theorem gX5_keep_X0_init : GoodIn wsX5_keep (wsX0_init) := ggX5_keep_X0_init
set_option maxRecDepth 20000 in
theorem ggX5_keep_X0_copyFrom : GoodIn wsX5_keep wsX0_copyFrom := goodIn_r _ [32, 14, 33, 34, 35, 36, 19, 20, 21, 22, 23, 24, 46, 47, 48, 49, 50, 51, 52] (by decide +kernel) (by decide +kernel)
set_option maxRecDepth 20000 in
theorem gX5_keep_X0_copyFrom : GoodIn wsX5_keep (wsV RX5 67 RX0 yX0_copyFrom wsX0_copyFrom) := goodIn_app (goodIn_of _ (by decide +kernel)) ggX5_keep_X0_copyFrom
theorem dX5_keep_0 : decode cX5_keep 0 = .ok (.iload_n 1, 1) := by decide +kernel
theorem dX5_keep_1 : decode cX5_keep 1 = .ok (.ifCond .lt 8, 3) := by decide +kernel
theorem dX5_keep_4 : decode cX5_keep 4 = .ok (.iload_n 1, 1) := by decide +kernel
theorem dX5_keep_5 : decode cX5_keep 5 = .ok (.iconst 2, 1) := by decide +kernel
theorem dX5_keep_6 : decode cX5_keep 6 = .ok (.if_icmp .lt 5, 3) := by decide +kernel
theorem dX5_keep_9 : decode cX5_keep 9 = .ok (.iconst (-1), 1) := by decide +kernel
theorem dX5_keep_10 : decode cX5_keep 10 = .ok (.ireturn, 1) := by decide +kernel
theorem dX5_keep_11 : decode cX5_keep 11 = .ok (.aload_n 0, 1) := by decide +kernel
theorem dX5_keep_12 : decode cX5_keep 12 = .ok (.getfield 44, 3) := by decide +kernel
theorem dX5_keep_15 : decode cX5_keep 15 = .ok (.iload_n 1, 1) := by decide +kernel
theorem dX5_keep_16 : decode cX5_keep 16 = .ok (.aaload, 1) := by decide +kernel
theorem dX5_keep_17 : decode cX5_keep 17 = .ok (.astore_n 2, 1) := by decide +kernel
theorem dX5_keep_18 : decode cX5_keep 18 = .ok (.aload_n 2, 1) := by decide +kernel
theorem dX5_keep_19 : decode cX5_keep 19 = .ok (.ifnonnull 18, 3) := by decide +kernel
theorem dX5_keep_22 : decode cX5_keep 22 = .ok (.new 7, 3) := by decide +kernel
theorem dX5_keep_25 : decode cX5_keep 25 = .ok (.dup, 1) := by decide +kernel
theorem dX5_keep_26 : decode cX5_keep 26 = .ok (.invokespecial 9, 3) := by decide +kernel
theorem dX5_keep_29 : decode cX5_keep 29 = .ok (.astore_n 2, 1) := by decide +kernel
theorem dX5_keep_30 : decode cX5_keep 30 = .ok (.aload_n 0, 1) := by decide +kernel
theorem dX5_keep_31 : decode cX5_keep 31 = .ok (.getfield 44, 3) := by decide +kernel
theorem dX5_keep_34 : decode cX5_keep 34 = .ok (.iload_n 1, 1) := by decide +kernel
theorem dX5_keep_35 : decode cX5_keep 35 = .ok (.aload_n 2, 1) := by decide +kernel
theorem dX5_keep_36 : decode cX5_keep 36 = .ok (.aastore, 1) := by decide +kernel
theorem dX5_keep_37 : decode cX5_keep 37 = .ok (.aload_n 2, 1) := by decide +kernel
theorem dX5_keep_38 : decode cX5_keep 38 = .ok (.aload_n 0, 1) := by decide +kernel
theorem dX5_keep_39 : decode cX5_keep 39 = .ok (.getfield 10, 3) := by decide +kernel
theorem dX5_keep_42 : decode cX5_keep 42 = .ok (.invokevirtual 67, 3) := by decide +kernel
theorem dX5_keep_45 : decode cX5_keep 45 = .ok (.aload_n 0, 1) := by decide +kernel
theorem dX5_keep_46 : decode cX5_keep 46 = .ok (.getfield 10, 3) := by decide +kernel
theorem dX5_keep_49 : decode cX5_keep 49 = .ok (.getfield 170, 3) := by decide +kernel
theorem dX5_keep_52 : decode cX5_keep 52 = .ok (.ireturn, 1) := by decide +kernel
set_option maxRecDepth 20000 in
theorem ggX5_back_X0_copyFrom : GoodIn wsX5_back wsX0_copyFrom := goodIn_r _ [10, 11, 12, 13, 14, 15, 16, 17, 18, 19, 20, 21, 33, 34, 35, 36, 37, 38, 39] (by decide +kernel) (by decide +kernel)
set_option maxRecDepth 20000 in
theorem gX5_back_X0_copyFrom : GoodIn wsX5_back (wsV RX5 67 RX0 yX0_copyFrom wsX0_copyFrom) := goodIn_app (goodIn_of _ (by decide +kernel)) ggX5_back_X0_copyFrom
theorem dX5_back_0 : decode cX5_back 0 = .ok (.iload_n 1, 1) := by decide +kernel
theorem dX5_back_1 : decode cX5_back 1 = .ok (.ifCond .lt 8, 3) := by decide +kernel
theorem dX5_back_4 : decode cX5_back 4 = .ok (.iload_n 1, 1) := by decide +kernel
theorem dX5_back_5 : decode cX5_back 5 = .ok (.iconst 2, 1) := by decide +kernel
theorem dX5_back_6 : decode cX5_back 6 = .ok (.if_icmp .lt 5, 3) := by decide +kernel
theorem dX5_back_9 : decode cX5_back 9 = .ok (.iconst (-1), 1) := by decide +kernel
theorem dX5_back_10 : decode cX5_back 10 = .ok (.ireturn, 1) := by decide +kernel
theorem dX5_back_11 : decode cX5_back 11 = .ok (.aload_n 0, 1) := by decide +kernel
theorem dX5_back_12 : decode cX5_back 12 = .ok (.getfield 44, 3) := by decide +kernel
theorem dX5_back_15 : decode cX5_back 15 = .ok (.iload_n 1, 1) := by decide +kernel
theorem dX5_back_16 : decode cX5_back 16 = .ok (.aaload, 1) := by decide +kernel
theorem dX5_back_17 : decode cX5_back 17 = .ok (.astore_n 2, 1) := by decide +kernel
theorem dX5_back_18 : decode cX5_back 18 = .ok (.aload_n 2, 1) := by decide +kernel
theorem dX5_back_19 : decode cX5_back 19 = .ok (.ifnonnull 6, 3) := by decide +kernel
theorem dX5_back_22 : decode cX5_back 22 = .ok (.bipush (-2), 2) := by decide +kernel
theorem dX5_back_24 : decode cX5_back 24 = .ok (.ireturn, 1) := by decide +kernel
theorem dX5_back_25 : decode cX5_back 25 = .ok (.aload_n 0, 1) := by decide +kernel
theorem dX5_back_26 : decode cX5_back 26 = .ok (.getfield 10, 3) := by decide +kernel
theorem dX5_back_29 : decode cX5_back 29 = .ok (.aload_n 2, 1) := by decide +kernel
theorem dX5_back_30 : decode cX5_back 30 = .ok (.invokevirtual 67, 3) := by decide +kernel
theorem dX5_back_33 : decode cX5_back 33 = .ok (.aload_n 0, 1) := by decide +kernel
theorem dX5_back_34 : decode cX5_back 34 = .ok (.getfield 26, 3) := by decide +kernel
theorem dX5_back_37 : decode cX5_back 37 = .ok (.iconst 0, 1) := by decide +kernel
theorem dX5_back_38 : decode cX5_back 38 = .ok (.putfield 122, 3) := by decide +kernel
theorem dX5_back_41 : decode cX5_back 41 = .ok (.aload_n 0, 1) := by decide +kernel
theorem dX5_back_42 : decode cX5_back 42 = .ok (.getfield 10, 3) := by decide +kernel
theorem dX5_back_45 : decode cX5_back 45 = .ok (.getfield 170, 3) := by decide +kernel
theorem dX5_back_48 : decode cX5_back 48 = .ok (.ireturn, 1) := by decide +kernel
set_option maxRecDepth 20000 in
theorem ggX5_count_J6_bitCount_0f7a4 : GoodIn wsX5_count wsJ6_bitCount_0f7a4 := goodIn_r _ [15, 16, 17, 18] (by decide +kernel) (by decide +kernel)
set_option maxRecDepth 20000 in
theorem gX5_count_J6_bitCount_0f7a4 : GoodIn wsX5_count (va_wsS RX5 86 yJ6_bitCount_0f7a4 wsJ6_bitCount_0f7a4) := goodIn_app (goodIn_of _ (by decide +kernel)) ggX5_count_J6_bitCount_0f7a4
theorem dX5_count_0 : decode cX5_count 0 = .ok (.iload_n 1, 1) := by decide +kernel
theorem dX5_count_1 : decode cX5_count 1 = .ok (.tableswitch 111 0 7 #[47, 55, 66, 74, 82, 90, 95, 103], 47) := by decide +kernel
theorem dX5_count_48 : decode cX5_count 48 = .ok (.aload_n 0, 1) := by decide +kernel
theorem dX5_count_49 : decode cX5_count 49 = .ok (.getfield 10, 3) := by decide +kernel
theorem dX5_count_52 : decode cX5_count 52 = .ok (.getfield 170, 3) := by decide +kernel
theorem dX5_count_55 : decode cX5_count 55 = .ok (.ireturn, 1) := by decide +kernel
theorem dX5_count_56 : decode cX5_count 56 = .ok (.aload_n 0, 1) := by decide +kernel
theorem dX5_count_57 : decode cX5_count 57 = .ok (.getfield 10, 3) := by decide +kernel
theorem dX5_count_60 : decode cX5_count 60 = .ok (.getfield 94, 3) := by decide +kernel
theorem dX5_count_63 : decode cX5_count 63 = .ok (.invokestatic 86, 3) := by decide +kernel
theorem dX5_count_66 : decode cX5_count 66 = .ok (.ireturn, 1) := by decide +kernel
theorem dX5_count_67 : decode cX5_count 67 = .ok (.aload_n 0, 1) := by decide +kernel
theorem dX5_count_68 : decode cX5_count 68 = .ok (.getfield 10, 3) := by decide +kernel
theorem dX5_count_71 : decode cX5_count 71 = .ok (.getfield 167, 3) := by decide +kernel
theorem dX5_count_74 : decode cX5_count 74 = .ok (.ireturn, 1) := by decide +kernel
theorem dX5_count_75 : decode cX5_count 75 = .ok (.aload_n 0, 1) := by decide +kernel
theorem dX5_count_76 : decode cX5_count 76 = .ok (.getfield 10, 3) := by decide +kernel
theorem dX5_count_79 : decode cX5_count 79 = .ok (.getfield 198, 3) := by decide +kernel
theorem dX5_count_82 : decode cX5_count 82 = .ok (.ireturn, 1) := by decide +kernel
theorem dX5_count_83 : decode cX5_count 83 = .ok (.aload_n 0, 1) := by decide +kernel
theorem dX5_count_84 : decode cX5_count 84 = .ok (.getfield 10, 3) := by decide +kernel
theorem dX5_count_87 : decode cX5_count 87 = .ok (.getfield 173, 3) := by decide +kernel
theorem dX5_count_90 : decode cX5_count 90 = .ok (.ireturn, 1) := by decide +kernel
theorem dX5_count_91 : decode cX5_count 91 = .ok (.aload_n 0, 1) := by decide +kernel
theorem dX5_count_92 : decode cX5_count 92 = .ok (.getfield 180, 3) := by decide +kernel
theorem dX5_count_95 : decode cX5_count 95 = .ok (.ireturn, 1) := by decide +kernel
theorem dX5_count_96 : decode cX5_count 96 = .ok (.aload_n 0, 1) := by decide +kernel
theorem dX5_count_97 : decode cX5_count 97 = .ok (.getfield 19, 3) := by decide +kernel
theorem dX5_count_100 : decode cX5_count 100 = .ok (.getfield 52, 3) := by decide +kernel
theorem dX5_count_103 : decode cX5_count 103 = .ok (.ireturn, 1) := by decide +kernel
theorem dX5_count_104 : decode cX5_count 104 = .ok (.aload_n 0, 1) := by decide +kernel
theorem dX5_count_105 : decode cX5_count 105 = .ok (.getfield 26, 3) := by decide +kernel
theorem dX5_count_108 : decode cX5_count 108 = .ok (.getfield 122, 3) := by decide +kernel
theorem dX5_count_111 : decode cX5_count 111 = .ok (.ireturn, 1) := by decide +kernel
theorem dX5_count_112 : decode cX5_count 112 = .ok (.iconst (-1), 1) := by decide +kernel
theorem dX5_count_113 : decode cX5_count 113 = .ok (.ireturn, 1) := by decide +kernel
set_option maxRecDepth 20000 in
theorem ggX5_mendingChanges_X2_lookAt : GoodIn wsX5_mendingChanges wsX2_lookAt := goodIn_r _ [9, 10, 11, 12, 13, 14, 15, 16, 17, 18, 19, 20, 21, 22, 23, 24, 25, 26, 100, 101, 102, 103, 104, 105, 106, 107, 108, 109, 110] (by decide +kernel) (by decide +kernel)
set_option maxRecDepth 20000 in
theorem gX5_mendingChanges_X2_lookAt : GoodIn wsX5_mendingChanges (wsV RX5 150 RX2 yX2_lookAt wsX2_lookAt) := goodIn_app (goodIn_of _ (by decide +kernel)) ggX5_mendingChanges_X2_lookAt
set_option maxRecDepth 20000 in
theorem ggX5_mendingChanges_X2_find : GoodIn wsX5_mendingChanges wsX2_find := goodIn_r _ [30, 31, 32, 33, 34, 35, 36, 37, 8, 38, 10, 39, 40, 41, 42, 43, 44, 45, 46, 47, 48, 49, 50, 14, 51, 22, 52, 53, 54, 55, 56, 57, 58, 59, 60, 61, 62, 21, 63, 64, 65, 66, 67, 68, 69, 70, 24, 71, 72, 73, 74, 75, 25, 76, 77, 78, 79, 16, 80, 81, 82, 83, 84, 85, 86, 87, 88, 89, 100, 101, 102, 103, 104, 105, 106, 107, 108, 109, 110] (by decide +kernel) (by decide +kernel)
set_option maxRecDepth 20000 in
theorem gX5_mendingChanges_X2_find : GoodIn wsX5_mendingChanges (wsV RX5 153 RX2 yX2_find wsX2_find) := goodIn_app (goodIn_of _ (by decide +kernel)) ggX5_mendingChanges_X2_find
set_option maxRecDepth 20000 in
theorem ggX5_mendingChanges_J6_bitCount_0f7a4 : GoodIn wsX5_mendingChanges wsJ6_bitCount_0f7a4 := goodIn_r _ [55, 56, 57, 58] (by decide +kernel) (by decide +kernel)
set_option maxRecDepth 20000 in
theorem gX5_mendingChanges_J6_bitCount_0f7a4 : GoodIn wsX5_mendingChanges (va_wsS RX5 86 yJ6_bitCount_0f7a4 wsJ6_bitCount_0f7a4) := goodIn_app (goodIn_of _ (by decide +kernel)) ggX5_mendingChanges_J6_bitCount_0f7a4
theorem dX5_mendingChanges_0 : decode cX5_mendingChanges 0 = .ok (.aload_n 0, 1) := by decide +kernel
theorem dX5_mendingChanges_1 : decode cX5_mendingChanges 1 = .ok (.getfield 33, 3) := by decide +kernel
theorem dX5_mendingChanges_4 : decode cX5_mendingChanges 4 = .ok (.aload_n 0, 1) := by decide +kernel
theorem dX5_mendingChanges_5 : decode cX5_mendingChanges 5 = .ok (.getfield 10, 3) := by decide +kernel
theorem dX5_mendingChanges_8 : decode cX5_mendingChanges 8 = .ok (.invokevirtual 150, 3) := by decide +kernel
theorem dX5_mendingChanges_11 : decode cX5_mendingChanges 11 = .ok (.aload_n 0, 1) := by decide +kernel
theorem dX5_mendingChanges_12 : decode cX5_mendingChanges 12 = .ok (.getfield 33, 3) := by decide +kernel
theorem dX5_mendingChanges_15 : decode cX5_mendingChanges 15 = .ok (.iconst 2, 1) := by decide +kernel
theorem dX5_mendingChanges_16 : decode cX5_mendingChanges 16 = .ok (.invokevirtual 153, 3) := by decide +kernel
theorem dX5_mendingChanges_19 : decode cX5_mendingChanges 19 = .ok (.ifCond .eq 24, 3) := by decide +kernel
theorem dX5_mendingChanges_22 : decode cX5_mendingChanges 22 = .ok (.aload_n 0, 1) := by decide +kernel
theorem dX5_mendingChanges_23 : decode cX5_mendingChanges 23 = .ok (.getfield 33, 3) := by decide +kernel
theorem dX5_mendingChanges_26 : decode cX5_mendingChanges 26 = .ok (.getfield 104, 3) := by decide +kernel
theorem dX5_mendingChanges_29 : decode cX5_mendingChanges 29 = .ok (.aload_n 0, 1) := by decide +kernel
theorem dX5_mendingChanges_30 : decode cX5_mendingChanges 30 = .ok (.getfield 10, 3) := by decide +kernel
theorem dX5_mendingChanges_33 : decode cX5_mendingChanges 33 = .ok (.getfield 80, 3) := by decide +kernel
theorem dX5_mendingChanges_36 : decode cX5_mendingChanges 36 = .ok (.ixor, 1) := by decide +kernel
theorem dX5_mendingChanges_37 : decode cX5_mendingChanges 37 = .ok (.invokestatic 86, 3) := by decide +kernel
theorem dX5_mendingChanges_40 : decode cX5_mendingChanges 40 = .ok (.goto 5, 3) := by decide +kernel
theorem dX5_mendingChanges_43 : decode cX5_mendingChanges 43 = .ok (.bipush (-9), 2) := by decide +kernel
theorem dX5_mendingChanges_45 : decode cX5_mendingChanges 45 = .ok (.ireturn, 1) := by decide +kernel
set_option maxRecDepth 20000 in
theorem ggX5_askTables_X3_gather : GoodIn wsX5_askTables wsX3_gather := goodIn_r _ [9, 10, 11, 12, 13, 14, 15, 16, 17, 18, 19, 20, 21, 22, 23, 24, 25, 26, 27, 28, 29, 30, 31, 32, 33, 34, 35, 36, 37, 38, 39, 40, 41, 42, 43, 44, 45, 46, 47, 48, 49, 50, 51, 52, 53, 54, 55, 56, 57, 58, 59, 60, 61, 62, 8, 63, 73, 74, 75, 76, 77, 78, 79, 80, 81, 82] (by decide +kernel) (by decide +kernel)
set_option maxRecDepth 20000 in
theorem gX5_askTables_X3_gather : GoodIn wsX5_askTables (wsV RX5 189 RX3 yX3_gather wsX3_gather) := goodIn_app (goodIn_of _ (by decide +kernel)) ggX5_askTables_X3_gather
theorem dX5_askTables_0 : decode cX5_askTables 0 = .ok (.iload_n 1, 1) := by decide +kernel
theorem dX5_askTables_1 : decode cX5_askTables 1 = .ok (.ifCond .lt 8, 3) := by decide +kernel
theorem dX5_askTables_4 : decode cX5_askTables 4 = .ok (.iload_n 1, 1) := by decide +kernel
theorem dX5_askTables_5 : decode cX5_askTables 5 = .ok (.iconst 1, 1) := by decide +kernel
theorem dX5_askTables_6 : decode cX5_askTables 6 = .ok (.if_icmp .le 5, 3) := by decide +kernel
theorem dX5_askTables_9 : decode cX5_askTables 9 = .ok (.iconst (-1), 1) := by decide +kernel
theorem dX5_askTables_10 : decode cX5_askTables 10 = .ok (.ireturn, 1) := by decide +kernel
theorem dX5_askTables_11 : decode cX5_askTables 11 = .ok (.aload_n 0, 1) := by decide +kernel
theorem dX5_askTables_12 : decode cX5_askTables 12 = .ok (.getfield 40, 3) := by decide +kernel
theorem dX5_askTables_15 : decode cX5_askTables 15 = .ok (.aload_n 0, 1) := by decide +kernel
theorem dX5_askTables_16 : decode cX5_askTables 16 = .ok (.getfield 10, 3) := by decide +kernel
theorem dX5_askTables_19 : decode cX5_askTables 19 = .ok (.iload_n 2, 1) := by decide +kernel
theorem dX5_askTables_20 : decode cX5_askTables 20 = .ok (.iload_n 3, 1) := by decide +kernel
theorem dX5_askTables_21 : decode cX5_askTables 21 = .ok (.invokevirtual 189, 3) := by decide +kernel
theorem dX5_askTables_24 : decode cX5_askTables 24 = .ok (.iload_n 1, 1) := by decide +kernel
theorem dX5_askTables_25 : decode cX5_askTables 25 = .ok (.ifCond .ne 13, 3) := by decide +kernel
theorem dX5_askTables_28 : decode cX5_askTables 28 = .ok (.aload_n 0, 1) := by decide +kernel
theorem dX5_askTables_29 : decode cX5_askTables 29 = .ok (.getfield 40, 3) := by decide +kernel
theorem dX5_askTables_32 : decode cX5_askTables 32 = .ok (.getfield 193, 3) := by decide +kernel
theorem dX5_askTables_35 : decode cX5_askTables 35 = .ok (.goto 10, 3) := by decide +kernel
theorem dX5_askTables_38 : decode cX5_askTables 38 = .ok (.aload_n 0, 1) := by decide +kernel
theorem dX5_askTables_39 : decode cX5_askTables 39 = .ok (.getfield 40, 3) := by decide +kernel
theorem dX5_askTables_42 : decode cX5_askTables 42 = .ok (.getfield 201, 3) := by decide +kernel
theorem dX5_askTables_45 : decode cX5_askTables 45 = .ok (.ireturn, 1) := by decide +kernel
theorem dX5_isHand_0 : decode cX5_isHand 0 = .ok (.iload_n 0, 1) := by decide +kernel
theorem dX5_isHand_1 : decode cX5_isHand 1 = .ok (.ifCond .eq 8, 3) := by decide +kernel
theorem dX5_isHand_4 : decode cX5_isHand 4 = .ok (.iload_n 0, 1) := by decide +kernel
theorem dX5_isHand_5 : decode cX5_isHand 5 = .ok (.iconst 1, 1) := by decide +kernel
theorem dX5_isHand_6 : decode cX5_isHand 6 = .ok (.if_icmp .ne 7, 3) := by decide +kernel
theorem dX5_isHand_9 : decode cX5_isHand 9 = .ok (.iconst 1, 1) := by decide +kernel
theorem dX5_isHand_10 : decode cX5_isHand 10 = .ok (.goto 4, 3) := by decide +kernel
theorem dX5_isHand_13 : decode cX5_isHand 13 = .ok (.iconst 0, 1) := by decide +kernel
theorem dX5_isHand_14 : decode cX5_isHand 14 = .ok (.ireturn, 1) := by decide +kernel
theorem dX5_isNumber_0 : decode cX5_isNumber 0 = .ok (.iload_n 0, 1) := by decide +kernel
theorem dX5_isNumber_1 : decode cX5_isNumber 1 = .ok (.ifCond .lt 30, 3) := by decide +kernel
theorem dX5_isNumber_4 : decode cX5_isNumber 4 = .ok (.iload_n 0, 1) := by decide +kernel
theorem dX5_isNumber_5 : decode cX5_isNumber 5 = .ok (.iconst 2, 1) := by decide +kernel
theorem dX5_isNumber_6 : decode cX5_isNumber 6 = .ok (.if_icmp .gt 25, 3) := by decide +kernel
theorem dX5_isNumber_9 : decode cX5_isNumber 9 = .ok (.iload_n 1, 1) := by decide +kernel
theorem dX5_isNumber_10 : decode cX5_isNumber 10 = .ok (.getstatic 161, 3) := by decide +kernel
theorem dX5_isNumber_13 : decode cX5_isNumber 13 = .ok (.iload_n 0, 1) := by decide +kernel
theorem dX5_isNumber_14 : decode cX5_isNumber 14 = .ok (.iaload, 1) := by decide +kernel
theorem dX5_isNumber_15 : decode cX5_isNumber 15 = .ok (.if_icmp .lt 16, 3) := by decide +kernel
theorem dX5_isNumber_18 : decode cX5_isNumber 18 = .ok (.iload_n 1, 1) := by decide +kernel
theorem dX5_isNumber_19 : decode cX5_isNumber 19 = .ok (.getstatic 157, 3) := by decide +kernel
theorem dX5_isNumber_22 : decode cX5_isNumber 22 = .ok (.iload_n 0, 1) := by decide +kernel
theorem dX5_isNumber_23 : decode cX5_isNumber 23 = .ok (.iaload, 1) := by decide +kernel
theorem dX5_isNumber_24 : decode cX5_isNumber 24 = .ok (.if_icmp .gt 7, 3) := by decide +kernel
theorem dX5_isNumber_27 : decode cX5_isNumber 27 = .ok (.iconst 1, 1) := by decide +kernel
theorem dX5_isNumber_28 : decode cX5_isNumber 28 = .ok (.goto 4, 3) := by decide +kernel
theorem dX5_isNumber_31 : decode cX5_isNumber 31 = .ok (.iconst 0, 1) := by decide +kernel
theorem dX5_isNumber_32 : decode cX5_isNumber 32 = .ok (.ireturn, 1) := by decide +kernel
theorem dX5_ticksFrom_0 : decode cX5_ticksFrom 0 = .ok (.iconst 1, 1) := by decide +kernel
theorem dX5_ticksFrom_1 : decode cX5_ticksFrom 1 = .ok (.iload_n 1, 1) := by decide +kernel
theorem dX5_ticksFrom_2 : decode cX5_ticksFrom 2 = .ok (.ishl, 1) := by decide +kernel
theorem dX5_ticksFrom_3 : decode cX5_ticksFrom 3 = .ok (.iconst 1, 1) := by decide +kernel
theorem dX5_ticksFrom_4 : decode cX5_ticksFrom 4 = .ok (.isub, 1) := by decide +kernel
theorem dX5_ticksFrom_5 : decode cX5_ticksFrom 5 = .ok (.iload_n 0, 1) := by decide +kernel
theorem dX5_ticksFrom_6 : decode cX5_ticksFrom 6 = .ok (.ishl, 1) := by decide +kernel
theorem dX5_ticksFrom_7 : decode cX5_ticksFrom 7 = .ok (.ireturn, 1) := by decide +kernel
