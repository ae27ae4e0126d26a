set_option maxRecDepth 20000 in
theorem ggX0_init_X0_makeNew : GoodIn wsX0_init wsX0_makeNew := goodIn_r _ [10, 5, 11, 12, 13, 14, 15, 16, 17, 18, 19, 20, 21, 22, 23, 24, 25, 26, 27] (by decide +kernel) (by decide +kernel)
set_option maxRecDepth 20000 in
theorem gX0_init_X0_makeNew : GoodIn wsX0_init (wsV RX0 15 RX0 yX0_makeNew wsX0_makeNew) := goodIn_app (goodIn_of _ (by decide +kernel)) ggX0_init_X0_makeNew
theorem dX0_init_0 : decode cX0_init 0 = .ok (.aload_n 0, 1) := by decide +kernel
theorem dX0_init_1 : decode cX0_init 1 = .ok (.invokespecial 3, 3) := by decide +kernel
theorem dX0_init_4 : decode cX0_init 4 = .ok (.aload_n 0, 1) := by decide +kernel
theorem dX0_init_5 : decode cX0_init 5 = .ok (.bipush 12, 2) := by decide +kernel
theorem dX0_init_7 : decode cX0_init 7 = .ok (.newarray .int, 2) := by decide +kernel
theorem dX0_init_9 : decode cX0_init 9 = .ok (.putfield 9, 3) := by decide +kernel
theorem dX0_init_12 : decode cX0_init 12 = .ok (.aload_n 0, 1) := by decide +kernel
theorem dX0_init_13 : decode cX0_init 13 = .ok (.invokevirtual 15, 3) := by decide +kernel
theorem dX0_init_16 : decode cX0_init 16 = .ok (.return_, 1) := by decide +kernel
set_option maxRecDepth 20000 in
theorem ggX0_makeNew_J7_fill_53178 : GoodIn wsX0_makeNew wsJ7_fill_53178 := goodIn_r _ [11] (by decide +kernel) (by decide +kernel)
set_option maxRecDepth 20000 in
theorem gX0_makeNew_J7_fill_53178 : GoodIn wsX0_makeNew (va_wsS RX0 18 yJ7_fill_53178 wsJ7_fill_53178) := goodIn_app (goodIn_of _ (by decide +kernel)) ggX0_makeNew_J7_fill_53178
theorem dX0_makeNew_0 : decode cX0_makeNew 0 = .ok (.aload_n 0, 1) := by decide +kernel
theorem dX0_makeNew_1 : decode cX0_makeNew 1 = .ok (.getfield 9, 3) := by decide +kernel
theorem dX0_makeNew_4 : decode cX0_makeNew 4 = .ok (.iconst 0, 1) := by decide +kernel
theorem dX0_makeNew_5 : decode cX0_makeNew 5 = .ok (.invokestatic 18, 3) := by decide +kernel
theorem dX0_makeNew_8 : decode cX0_makeNew 8 = .ok (.aload_n 0, 1) := by decide +kernel
theorem dX0_makeNew_9 : decode cX0_makeNew 9 = .ok (.iconst 1, 1) := by decide +kernel
theorem dX0_makeNew_10 : decode cX0_makeNew 10 = .ok (.putfield 24, 3) := by decide +kernel
theorem dX0_makeNew_13 : decode cX0_makeNew 13 = .ok (.aload_n 0, 1) := by decide +kernel
theorem dX0_makeNew_14 : decode cX0_makeNew 14 = .ok (.iconst 0, 1) := by decide +kernel
theorem dX0_makeNew_15 : decode cX0_makeNew 15 = .ok (.putfield 28, 3) := by decide +kernel
theorem dX0_makeNew_18 : decode cX0_makeNew 18 = .ok (.aload_n 0, 1) := by decide +kernel
theorem dX0_makeNew_19 : decode cX0_makeNew 19 = .ok (.iconst 0, 1) := by decide +kernel
theorem dX0_makeNew_20 : decode cX0_makeNew 20 = .ok (.putfield 31, 3) := by decide +kernel
theorem dX0_makeNew_23 : decode cX0_makeNew 23 = .ok (.aload_n 0, 1) := by decide +kernel
theorem dX0_makeNew_24 : decode cX0_makeNew 24 = .ok (.getstatic 34, 3) := by decide +kernel
theorem dX0_makeNew_27 : decode cX0_makeNew 27 = .ok (.iconst 0, 1) := by decide +kernel
theorem dX0_makeNew_28 : decode cX0_makeNew 28 = .ok (.iaload, 1) := by decide +kernel
theorem dX0_makeNew_29 : decode cX0_makeNew 29 = .ok (.putfield 37, 3) := by decide +kernel
theorem dX0_makeNew_32 : decode cX0_makeNew 32 = .ok (.aload_n 0, 1) := by decide +kernel
theorem dX0_makeNew_33 : decode cX0_makeNew 33 = .ok (.getstatic 34, 3) := by decide +kernel
theorem dX0_makeNew_36 : decode cX0_makeNew 36 = .ok (.iconst 1, 1) := by decide +kernel
theorem dX0_makeNew_37 : decode cX0_makeNew 37 = .ok (.iaload, 1) := by decide +kernel
theorem dX0_makeNew_38 : decode cX0_makeNew 38 = .ok (.putfield 40, 3) := by decide +kernel
theorem dX0_makeNew_41 : decode cX0_makeNew 41 = .ok (.aload_n 0, 1) := by decide +kernel
theorem dX0_makeNew_42 : decode cX0_makeNew 42 = .ok (.getstatic 34, 3) := by decide +kernel
theorem dX0_makeNew_45 : decode cX0_makeNew 45 = .ok (.iconst 2, 1) := by decide +kernel
theorem dX0_makeNew_46 : decode cX0_makeNew 46 = .ok (.iaload, 1) := by decide +kernel
theorem dX0_makeNew_47 : decode cX0_makeNew 47 = .ok (.putfield 43, 3) := by decide +kernel
theorem dX0_makeNew_50 : decode cX0_makeNew 50 = .ok (.return_, 1) := by decide +kernel
theorem dX0_copyFrom_0 : decode cX0_copyFrom 0 = .ok (.aload_n 1, 1) := by decide +kernel
theorem dX0_copyFrom_1 : decode cX0_copyFrom 1 = .ok (.getfield 9, 3) := by decide +kernel
theorem dX0_copyFrom_4 : decode cX0_copyFrom 4 = .ok (.iconst 0, 1) := by decide +kernel
theorem dX0_copyFrom_5 : decode cX0_copyFrom 5 = .ok (.aload_n 0, 1) := by decide +kernel
theorem dX0_copyFrom_6 : decode cX0_copyFrom 6 = .ok (.getfield 9, 3) := by decide +kernel
theorem dX0_copyFrom_9 : decode cX0_copyFrom 9 = .ok (.iconst 0, 1) := by decide +kernel
theorem dX0_copyFrom_10 : decode cX0_copyFrom 10 = .ok (.bipush 12, 2) := by decide +kernel
theorem dX0_copyFrom_12 : decode cX0_copyFrom 12 = .ok (.invokestatic 46, 3) := by decide +kernel
theorem dX0_copyFrom_15 : decode cX0_copyFrom 15 = .ok (.aload_n 0, 1) := by decide +kernel
theorem dX0_copyFrom_16 : decode cX0_copyFrom 16 = .ok (.aload_n 1, 1) := by decide +kernel
theorem dX0_copyFrom_17 : decode cX0_copyFrom 17 = .ok (.getfield 24, 3) := by decide +kernel
theorem dX0_copyFrom_20 : decode cX0_copyFrom 20 = .ok (.putfield 24, 3) := by decide +kernel
theorem dX0_copyFrom_23 : decode cX0_copyFrom 23 = .ok (.aload_n 0, 1) := by decide +kernel
theorem dX0_copyFrom_24 : decode cX0_copyFrom 24 = .ok (.aload_n 1, 1) := by decide +kernel
theorem dX0_copyFrom_25 : decode cX0_copyFrom 25 = .ok (.getfield 28, 3) := by decide +kernel
theorem dX0_copyFrom_28 : decode cX0_copyFrom 28 = .ok (.putfield 28, 3) := by decide +kernel
theorem dX0_copyFrom_31 : decode cX0_copyFrom 31 = .ok (.aload_n 0, 1) := by decide +kernel
theorem dX0_copyFrom_32 : decode cX0_copyFrom 32 = .ok (.aload_n 1, 1) := by decide +kernel
theorem dX0_copyFrom_33 : decode cX0_copyFrom 33 = .ok (.getfield 31, 3) := by decide +kernel
theorem dX0_copyFrom_36 : decode cX0_copyFrom 36 = .ok (.putfield 31, 3) := by decide +kernel
theorem dX0_copyFrom_39 : decode cX0_copyFrom 39 = .ok (.aload_n 0, 1) := by decide +kernel
theorem dX0_copyFrom_40 : decode cX0_copyFrom 40 = .ok (.aload_n 1, 1) := by decide +kernel
theorem dX0_copyFrom_41 : decode cX0_copyFrom 41 = .ok (.getfield 37, 3) := by decide +kernel
theorem dX0_copyFrom_44 : decode cX0_copyFrom 44 = .ok (.putfield 37, 3) := by decide +kernel
theorem dX0_copyFrom_47 : decode cX0_copyFrom 47 = .ok (.aload_n 0, 1) := by decide +kernel
theorem dX0_copyFrom_48 : decode cX0_copyFrom 48 = .ok (.aload_n 1, 1) := by decide +kernel
theorem dX0_copyFrom_49 : decode cX0_copyFrom 49 = .ok (.getfield 40, 3) := by decide +kernel
theorem dX0_copyFrom_52 : decode cX0_copyFrom 52 = .ok (.putfield 40, 3) := by decide +kernel
theorem dX0_copyFrom_55 : decode cX0_copyFrom 55 = .ok (.aload_n 0, 1) := by decide +kernel
theorem dX0_copyFrom_56 : decode cX0_copyFrom 56 = .ok (.aload_n 1, 1) := by decide +kernel
theorem dX0_copyFrom_57 : decode cX0_copyFrom 57 = .ok (.getfield 43, 3) := by decide +kernel
theorem dX0_copyFrom_60 : decode cX0_copyFrom 60 = .ok (.putfield 43, 3) := by decide +kernel
theorem dX0_copyFrom_63 : decode cX0_copyFrom 63 = .ok (.return_, 1) := by decide +kernel
theorem dX0_setPitch_0 : decode cX0_setPitch 0 = .ok (.iload_n 1, 1) := by decide +kernel
theorem dX0_setPitch_1 : decode cX0_setPitch 1 = .ok (.ifCond .lt 9, 3) := by decide +kernel
theorem dX0_setPitch_4 : decode cX0_setPitch 4 = .ok (.iload_n 1, 1) := by decide +kernel
theorem dX0_setPitch_5 : decode cX0_setPitch 5 = .ok (.bipush 12, 2) := by decide +kernel
theorem dX0_setPitch_7 : decode cX0_setPitch 7 = .ok (.if_icmp .lt 4, 3) := by decide +kernel
theorem dX0_setPitch_10 : decode cX0_setPitch 10 = .ok (.return_, 1) := by decide +kernel
theorem dX0_setPitch_11 : decode cX0_setPitch 11 = .ok (.aload_n 0, 1) := by decide +kernel
theorem dX0_setPitch_12 : decode cX0_setPitch 12 = .ok (.getfield 9, 3) := by decide +kernel
theorem dX0_setPitch_15 : decode cX0_setPitch 15 = .ok (.iload_n 1, 1) := by decide +kernel
theorem dX0_setPitch_16 : decode cX0_setPitch 16 = .ok (.iload_n 2, 1) := by decide +kernel
theorem dX0_setPitch_17 : decode cX0_setPitch 17 = .ok (.iastore, 1) := by decide +kernel
theorem dX0_setPitch_18 : decode cX0_setPitch 18 = .ok (.iload_n 2, 1) := by decide +kernel
theorem dX0_setPitch_19 : decode cX0_setPitch 19 = .ok (.ifCond .eq 15, 3) := by decide +kernel
theorem dX0_setPitch_22 : decode cX0_setPitch 22 = .ok (.aload_n 0, 1) := by decide +kernel
theorem dX0_setPitch_23 : decode cX0_setPitch 23 = .ok (.dup, 1) := by decide +kernel
theorem dX0_setPitch_24 : decode cX0_setPitch 24 = .ok (.getfield 28, 3) := by decide +kernel
theorem dX0_setPitch_27 : decode cX0_setPitch 27 = .ok (.iconst 1, 1) := by decide +kernel
theorem dX0_setPitch_28 : decode cX0_setPitch 28 = .ok (.iload_n 1, 1) := by decide +kernel
theorem dX0_setPitch_29 : decode cX0_setPitch 29 = .ok (.ishl, 1) := by decide +kernel
theorem dX0_setPitch_30 : decode cX0_setPitch 30 = .ok (.ior, 1) := by decide +kernel
theorem dX0_setPitch_31 : decode cX0_setPitch 31 = .ok (.putfield 28, 3) := by decide +kernel
theorem dX0_setPitch_34 : decode cX0_setPitch 34 = .ok (.return_, 1) := by decide +kernel
theorem dX0_number_0 : decode cX0_number 0 = .ok (.iload_n 1, 1) := by decide +kernel
theorem dX0_number_1 : decode cX0_number 1 = .ok (.lookupswitch 37 #[(0, 27), (1, 32)], 27) := by decide +kernel
theorem dX0_number_28 : decode cX0_number 28 = .ok (.aload_n 0, 1) := by decide +kernel
theorem dX0_number_29 : decode cX0_number 29 = .ok (.getfield 37, 3) := by decide +kernel
theorem dX0_number_32 : decode cX0_number 32 = .ok (.ireturn, 1) := by decide +kernel
theorem dX0_number_33 : decode cX0_number 33 = .ok (.aload_n 0, 1) := by decide +kernel
theorem dX0_number_34 : decode cX0_number 34 = .ok (.getfield 40, 3) := by decide +kernel
theorem dX0_number_37 : decode cX0_number 37 = .ok (.ireturn, 1) := by decide +kernel
theorem dX0_number_38 : decode cX0_number 38 = .ok (.aload_n 0, 1) := by decide +kernel
theorem dX0_number_39 : decode cX0_number 39 = .ok (.getfield 43, 3) := by decide +kernel
theorem dX0_number_42 : decode cX0_number 42 = .ok (.ireturn, 1) := by decide +kernel
theorem dX0_setNumber_0 : decode cX0_setNumber 0 = .ok (.iload_n 1, 1) := by decide +kernel
theorem dX0_setNumber_1 : decode cX0_setNumber 1 = .ok (.lookupswitch 43 #[(0, 27), (1, 35)], 27) := by decide +kernel
theorem dX0_setNumber_28 : decode cX0_setNumber 28 = .ok (.aload_n 0, 1) := by decide +kernel
theorem dX0_setNumber_29 : decode cX0_setNumber 29 = .ok (.iload_n 2, 1) := by decide +kernel
theorem dX0_setNumber_30 : decode cX0_setNumber 30 = .ok (.putfield 37, 3) := by decide +kernel
theorem dX0_setNumber_33 : decode cX0_setNumber 33 = .ok (.goto 16, 3) := by decide +kernel
theorem dX0_setNumber_36 : decode cX0_setNumber 36 = .ok (.aload_n 0, 1) := by decide +kernel
theorem dX0_setNumber_37 : decode cX0_setNumber 37 = .ok (.iload_n 2, 1) := by decide +kernel
theorem dX0_setNumber_38 : decode cX0_setNumber 38 = .ok (.putfield 40, 3) := by decide +kernel
theorem dX0_setNumber_41 : decode cX0_setNumber 41 = .ok (.goto 8, 3) := by decide +kernel
theorem dX0_setNumber_44 : decode cX0_setNumber 44 = .ok (.aload_n 0, 1) := by decide +kernel
theorem dX0_setNumber_45 : decode cX0_setNumber 45 = .ok (.iload_n 2, 1) := by decide +kernel
theorem dX0_setNumber_46 : decode cX0_setNumber 46 = .ok (.putfield 43, 3) := by decide +kernel
theorem dX0_setNumber_49 : decode cX0_setNumber 49 = .ok (.return_, 1) := by decide +kernel
theorem dX0_hasTick_0 : decode cX0_hasTick 0 = .ok (.iload_n 1, 1) := by decide +kernel
theorem dX0_hasTick_1 : decode cX0_hasTick 1 = .ok (.ifCond .lt 15, 3) := by decide +kernel
theorem dX0_hasTick_4 : decode cX0_hasTick 4 = .ok (.iload_n 1, 1) := by decide +kernel
theorem dX0_hasTick_5 : decode cX0_hasTick 5 = .ok (.aload_n 0, 1) := by decide +kernel
theorem dX0_hasTick_6 : decode cX0_hasTick 6 = .ok (.getfield 24, 3) := by decide +kernel
theorem dX0_hasTick_9 : decode cX0_hasTick 9 = .ok (.if_icmp .ge 7, 3) := by decide +kernel
theorem dX0_hasTick_12 : decode cX0_hasTick 12 = .ok (.iconst 1, 1) := by decide +kernel
theorem dX0_hasTick_13 : decode cX0_hasTick 13 = .ok (.goto 4, 3) := by decide +kernel
theorem dX0_hasTick_16 : decode cX0_hasTick 16 = .ok (.iconst 0, 1) := by decide +kernel
theorem dX0_hasTick_17 : decode cX0_hasTick 17 = .ok (.ireturn, 1) := by decide +kernel
theorem dX0_hasNote_0 : decode cX0_hasNote 0 = .ok (.iload_n 1, 1) := by decide +kernel
theorem dX0_hasNote_1 : decode cX0_hasNote 1 = .ok (.ifCond .lt 27, 3) := by decide +kernel
theorem dX0_hasNote_4 : decode cX0_hasNote 4 = .ok (.iload_n 1, 1) := by decide +kernel
theorem dX0_hasNote_5 : decode cX0_hasNote 5 = .ok (.aload_n 0, 1) := by decide +kernel
theorem dX0_hasNote_6 : decode cX0_hasNote 6 = .ok (.getfield 24, 3) := by decide +kernel
theorem dX0_hasNote_9 : decode cX0_hasNote 9 = .ok (.if_icmp .ge 19, 3) := by decide +kernel
theorem dX0_hasNote_12 : decode cX0_hasNote 12 = .ok (.aload_n 0, 1) := by decide +kernel
theorem dX0_hasNote_13 : decode cX0_hasNote 13 = .ok (.getfield 28, 3) := by decide +kernel
theorem dX0_hasNote_16 : decode cX0_hasNote 16 = .ok (.iload_n 1, 1) := by decide +kernel
theorem dX0_hasNote_17 : decode cX0_hasNote 17 = .ok (.ishr, 1) := by decide +kernel
theorem dX0_hasNote_18 : decode cX0_hasNote 18 = .ok (.iconst 1, 1) := by decide +kernel
theorem dX0_hasNote_19 : decode cX0_hasNote 19 = .ok (.iand, 1) := by decide +kernel
theorem dX0_hasNote_20 : decode cX0_hasNote 20 = .ok (.iconst 1, 1) := by decide +kernel
theorem dX0_hasNote_21 : decode cX0_hasNote 21 = .ok (.if_icmp .ne 7, 3) := by decide +kernel
theorem dX0_hasNote_24 : decode cX0_hasNote 24 = .ok (.iconst 1, 1) := by decide +kernel
theorem dX0_hasNote_25 : decode cX0_hasNote 25 = .ok (.goto 4, 3) := by decide +kernel
theorem dX0_hasNote_28 : decode cX0_hasNote 28 = .ok (.iconst 0, 1) := by decide +kernel
theorem dX0_hasNote_29 : decode cX0_hasNote 29 = .ok (.ireturn, 1) := by decide +kernel
theorem dX0_pitchAt_0 : decode cX0_pitchAt 0 = .ok (.iload_n 1, 1) := by decide +kernel
theorem dX0_pitchAt_1 : decode cX0_pitchAt 1 = .ok (.ifCond .lt 18, 3) := by decide +kernel
theorem dX0_pitchAt_4 : decode cX0_pitchAt 4 = .ok (.iload_n 1, 1) := by decide +kernel
theorem dX0_pitchAt_5 : decode cX0_pitchAt 5 = .ok (.bipush 12, 2) := by decide +kernel
theorem dX0_pitchAt_7 : decode cX0_pitchAt 7 = .ok (.if_icmp .ge 12, 3) := by decide +kernel
theorem dX0_pitchAt_10 : decode cX0_pitchAt 10 = .ok (.aload_n 0, 1) := by decide +kernel
theorem dX0_pitchAt_11 : decode cX0_pitchAt 11 = .ok (.getfield 9, 3) := by decide +kernel
theorem dX0_pitchAt_14 : decode cX0_pitchAt 14 = .ok (.iload_n 1, 1) := by decide +kernel
theorem dX0_pitchAt_15 : decode cX0_pitchAt 15 = .ok (.iaload, 1) := by decide +kernel
theorem dX0_pitchAt_16 : decode cX0_pitchAt 16 = .ok (.goto 4, 3) := by decide +kernel
theorem dX0_pitchAt_19 : decode cX0_pitchAt 19 = .ok (.iconst 0, 1) := by decide +kernel
theorem dX0_pitchAt_20 : decode cX0_pitchAt 20 = .ok (.ireturn, 1) := by decide +kernel
theorem dX0_handAt_0 : decode cX0_handAt 0 = .ok (.aload_n 0, 1) := by decide +kernel
theorem dX0_handAt_1 : decode cX0_handAt 1 = .ok (.getfield 31, 3) := by decide +kernel
theorem dX0_handAt_4 : decode cX0_handAt 4 = .ok (.iload_n 1, 1) := by decide +kernel
theorem dX0_handAt_5 : decode cX0_handAt 5 = .ok (.ishr, 1) := by decide +kernel
theorem dX0_handAt_6 : decode cX0_handAt 6 = .ok (.iconst 1, 1) := by decide +kernel
theorem dX0_handAt_7 : decode cX0_handAt 7 = .ok (.iand, 1) := by decide +kernel
theorem dX0_handAt_8 : decode cX0_handAt 8 = .ok (.ireturn, 1) := by decide +kernel
theorem dX0_notesOf_0 : decode cX0_notesOf 0 = .ok (.iload_n 1, 1) := by decide +kernel
theorem dX0_notesOf_1 : decode cX0_notesOf 1 = .ok (.ifCond .ne 17, 3) := by decide +kernel
theorem dX0_notesOf_4 : decode cX0_notesOf 4 = .ok (.aload_n 0, 1) := by decide +kernel
theorem dX0_notesOf_5 : decode cX0_notesOf 5 = .ok (.getfield 28, 3) := by decide +kernel
theorem dX0_notesOf_8 : decode cX0_notesOf 8 = .ok (.aload_n 0, 1) := by decide +kernel
theorem dX0_notesOf_9 : decode cX0_notesOf 9 = .ok (.getfield 31, 3) := by decide +kernel
theorem dX0_notesOf_12 : decode cX0_notesOf 12 = .ok (.iconst (-1), 1) := by decide +kernel
theorem dX0_notesOf_13 : decode cX0_notesOf 13 = .ok (.ixor, 1) := by decide +kernel
theorem dX0_notesOf_14 : decode cX0_notesOf 14 = .ok (.iand, 1) := by decide +kernel
theorem dX0_notesOf_15 : decode cX0_notesOf 15 = .ok (.goto 7, 3) := by decide +kernel
theorem dX0_notesOf_18 : decode cX0_notesOf 18 = .ok (.aload_n 0, 1) := by decide +kernel
theorem dX0_notesOf_19 : decode cX0_notesOf 19 = .ok (.getfield 31, 3) := by decide +kernel
theorem dX0_notesOf_22 : decode cX0_notesOf 22 = .ok (.ireturn, 1) := by decide +kernel
theorem dX0_isTooSoon_0 : decode cX0_isTooSoon 0 = .ok (.iload_n 2, 1) := by decide +kernel
theorem dX0_isTooSoon_1 : decode cX0_isTooSoon 1 = .ok (.iload_n 1, 1) := by decide +kernel
theorem dX0_isTooSoon_2 : decode cX0_isTooSoon 2 = .ok (.isub, 1) := by decide +kernel
theorem dX0_isTooSoon_3 : decode cX0_isTooSoon 3 = .ok (.aload_n 0, 1) := by decide +kernel
theorem dX0_isTooSoon_4 : decode cX0_isTooSoon 4 = .ok (.getfield 37, 3) := by decide +kernel
theorem dX0_isTooSoon_7 : decode cX0_isTooSoon 7 = .ok (.if_icmp .ge 7, 3) := by decide +kernel
theorem dX0_isTooSoon_10 : decode cX0_isTooSoon 10 = .ok (.iconst 1, 1) := by decide +kernel
theorem dX0_isTooSoon_11 : decode cX0_isTooSoon 11 = .ok (.goto 4, 3) := by decide +kernel
theorem dX0_isTooSoon_14 : decode cX0_isTooSoon 14 = .ok (.iconst 0, 1) := by decide +kernel
theorem dX0_isTooSoon_15 : decode cX0_isTooSoon 15 = .ok (.ireturn, 1) := by decide +kernel
set_option maxRecDepth 20000 in
theorem ggX0_isTooFar_X0_pitchAt : GoodIn wsX0_isTooFar wsX0_pitchAt := goodIn_r _ [10, 11, 12, 13, 14, 15, 16, 17, 18] (by decide +kernel) (by decide +kernel)
set_option maxRecDepth 20000 in
theorem gX0_isTooFar_X0_pitchAt : GoodIn wsX0_isTooFar (wsV RX0 52 RX0 yX0_pitchAt wsX0_pitchAt) := goodIn_app (goodIn_of _ (by decide +kernel)) ggX0_isTooFar_X0_pitchAt
theorem dX0_isTooFar_0 : decode cX0_isTooFar 0 = .ok (.aload_n 0, 1) := by decide +kernel
theorem dX0_isTooFar_1 : decode cX0_isTooFar 1 = .ok (.iload_n 1, 1) := by decide +kernel
theorem dX0_isTooFar_2 : decode cX0_isTooFar 2 = .ok (.invokevirtual 52, 3) := by decide +kernel
theorem dX0_isTooFar_5 : decode cX0_isTooFar 5 = .ok (.aload_n 0, 1) := by decide +kernel
theorem dX0_isTooFar_6 : decode cX0_isTooFar 6 = .ok (.iload_n 2, 1) := by decide +kernel
theorem dX0_isTooFar_7 : decode cX0_isTooFar 7 = .ok (.invokevirtual 52, 3) := by decide +kernel
theorem dX0_isTooFar_10 : decode cX0_isTooFar 10 = .ok (.isub, 1) := by decide +kernel
theorem dX0_isTooFar_11 : decode cX0_isTooFar 11 = .ok (.invokestatic 56, 3) := by decide +kernel
theorem dX0_isTooFar_14 : decode cX0_isTooFar 14 = .ok (.aload_n 0, 1) := by decide +kernel
theorem dX0_isTooFar_15 : decode cX0_isTooFar 15 = .ok (.getfield 40, 3) := by decide +kernel
theorem dX0_isTooFar_18 : decode cX0_isTooFar 18 = .ok (.iload_n 2, 1) := by decide +kernel
theorem dX0_isTooFar_19 : decode cX0_isTooFar 19 = .ok (.iadd, 1) := by decide +kernel
theorem dX0_isTooFar_20 : decode cX0_isTooFar 20 = .ok (.iload_n 1, 1) := by decide +kernel
theorem dX0_isTooFar_21 : decode cX0_isTooFar 21 = .ok (.isub, 1) := by decide +kernel
theorem dX0_isTooFar_22 : decode cX0_isTooFar 22 = .ok (.if_icmp .le 7, 3) := by decide +kernel
theorem dX0_isTooFar_25 : decode cX0_isTooFar 25 = .ok (.iconst 1, 1) := by decide +kernel
theorem dX0_isTooFar_26 : decode cX0_isTooFar 26 = .ok (.goto 4, 3) := by decide +kernel
theorem dX0_isTooFar_29 : decode cX0_isTooFar 29 = .ok (.iconst 0, 1) := by decide +kernel
theorem dX0_isTooFar_30 : decode cX0_isTooFar 30 = .ok (.ireturn, 1) := by decide +kernel
set_option maxRecDepth 20000 in
theorem ggX0_mayStrike_X0_isTooSoon : GoodIn wsX0_mayStrike wsX0_isTooSoon := goodIn_r _ [5, 6, 21, 22, 23, 24, 25, 26, 27] (by decide +kernel) (by decide +kernel)
set_option maxRecDepth 20000 in
theorem gX0_mayStrike_X0_isTooSoon : GoodIn wsX0_mayStrike (wsV RX0 61 RX0 yX0_isTooSoon wsX0_isTooSoon) := goodIn_app (goodIn_of _ (by decide +kernel)) ggX0_mayStrike_X0_isTooSoon
set_option maxRecDepth 20000 in
theorem ggX0_mayStrike_X0_isTooFar : GoodIn wsX0_mayStrike wsX0_isTooFar := goodIn_r _ [10, 11, 12, 13, 14, 15, 16, 17, 18, 4, 19, 20, 21, 22, 23, 24, 25, 26, 27] (by decide +kernel) (by decide +kernel)
set_option maxRecDepth 20000 in
theorem gX0_mayStrike_X0_isTooFar : GoodIn wsX0_mayStrike (wsV RX0 65 RX0 yX0_isTooFar wsX0_isTooFar) := goodIn_app (goodIn_of _ (by decide +kernel)) ggX0_mayStrike_X0_isTooFar
theorem dX0_mayStrike_0 : decode cX0_mayStrike 0 = .ok (.iload_n 1, 1) := by decide +kernel
theorem dX0_mayStrike_1 : decode cX0_mayStrike 1 = .ok (.bipush (-9), 2) := by decide +kernel
theorem dX0_mayStrike_3 : decode cX0_mayStrike 3 = .ok (.if_icmp .eq 21, 3) := by decide +kernel
theorem dX0_mayStrike_6 : decode cX0_mayStrike 6 = .ok (.aload_n 0, 1) := by decide +kernel
theorem dX0_mayStrike_7 : decode cX0_mayStrike 7 = .ok (.iload_n 1, 1) := by decide +kernel
theorem dX0_mayStrike_8 : decode cX0_mayStrike 8 = .ok (.iload_n 2, 1) := by decide +kernel
theorem dX0_mayStrike_9 : decode cX0_mayStrike 9 = .ok (.invokevirtual 61, 3) := by decide +kernel
theorem dX0_mayStrike_12 : decode cX0_mayStrike 12 = .ok (.ifCond .ne 16, 3) := by decide +kernel
theorem dX0_mayStrike_15 : decode cX0_mayStrike 15 = .ok (.aload_n 0, 1) := by decide +kernel
theorem dX0_mayStrike_16 : decode cX0_mayStrike 16 = .ok (.iload_n 1, 1) := by decide +kernel
theorem dX0_mayStrike_17 : decode cX0_mayStrike 17 = .ok (.iload_n 2, 1) := by decide +kernel
theorem dX0_mayStrike_18 : decode cX0_mayStrike 18 = .ok (.invokevirtual 65, 3) := by decide +kernel
theorem dX0_mayStrike_21 : decode cX0_mayStrike 21 = .ok (.ifCond .ne 7, 3) := by decide +kernel
theorem dX0_mayStrike_24 : decode cX0_mayStrike 24 = .ok (.iconst 1, 1) := by decide +kernel
theorem dX0_mayStrike_25 : decode cX0_mayStrike 25 = .ok (.goto 4, 3) := by decide +kernel
theorem dX0_mayStrike_28 : decode cX0_mayStrike 28 = .ok (.iconst 0, 1) := by decide +kernel
theorem dX0_mayStrike_29 : decode cX0_mayStrike 29 = .ok (.ireturn, 1) := by decide +kernel
set_option maxRecDepth 20000 in
theorem ggX0_isSoonBehind_X0_nextOfHand : GoodIn wsX0_isSoonBehind wsX0_nextOfHand := goodIn_r _ [5, 6, 7, 8, 9, 4, 10, 11, 12, 13, 14, 15, 16, 22, 23, 24, 25, 26, 27, 28] (by decide +kernel) (by decide +kernel)
set_option maxRecDepth 20000 in
theorem gX0_isSoonBehind_X0_nextOfHand : GoodIn wsX0_isSoonBehind (wsV RX0 68 RX0 yX0_nextOfHand wsX0_nextOfHand) := goodIn_app (goodIn_of _ (by decide +kernel)) ggX0_isSoonBehind_X0_nextOfHand
set_option maxRecDepth 20000 in
theorem ggX0_isSoonBehind_X0_isTooSoon : GoodIn wsX0_isSoonBehind wsX0_isTooSoon := goodIn_r _ [20, 21, 22, 23, 24, 25, 26, 27, 28] (by decide +kernel) (by decide +kernel)
set_option maxRecDepth 20000 in
theorem gX0_isSoonBehind_X0_isTooSoon : GoodIn wsX0_isSoonBehind (wsV RX0 61 RX0 yX0_isTooSoon wsX0_isTooSoon) := goodIn_app (goodIn_of _ (by decide +kernel)) ggX0_isSoonBehind_X0_isTooSoon
theorem dX0_isSoonBehind_0 : decode cX0_isSoonBehind 0 = .ok (.aload_n 0, 1) := by decide +kernel
theorem dX0_isSoonBehind_1 : decode cX0_isSoonBehind 1 = .ok (.iload_n 1, 1) := by decide +kernel
theorem dX0_isSoonBehind_2 : decode cX0_isSoonBehind 2 = .ok (.invokevirtual 68, 3) := by decide +kernel
theorem dX0_isSoonBehind_5 : decode cX0_isSoonBehind 5 = .ok (.istore_n 2, 1) := by decide +kernel
theorem dX0_isSoonBehind_6 : decode cX0_isSoonBehind 6 = .ok (.iload_n 2, 1) := by decide +kernel
theorem dX0_isSoonBehind_7 : decode cX0_isSoonBehind 7 = .ok (.bipush (-9), 2) := by decide +kernel
theorem dX0_isSoonBehind_9 : decode cX0_isSoonBehind 9 = .ok (.if_icmp .eq 16, 3) := by decide +kernel
theorem dX0_isSoonBehind_12 : decode cX0_isSoonBehind 12 = .ok (.aload_n 0, 1) := by decide +kernel
theorem dX0_isSoonBehind_13 : decode cX0_isSoonBehind 13 = .ok (.iload_n 1, 1) := by decide +kernel
theorem dX0_isSoonBehind_14 : decode cX0_isSoonBehind 14 = .ok (.iload_n 2, 1) := by decide +kernel
theorem dX0_isSoonBehind_15 : decode cX0_isSoonBehind 15 = .ok (.invokevirtual 61, 3) := by decide +kernel
theorem dX0_isSoonBehind_18 : decode cX0_isSoonBehind 18 = .ok (.ifCond .eq 7, 3) := by decide +kernel
theorem dX0_isSoonBehind_21 : decode cX0_isSoonBehind 21 = .ok (.iconst 1, 1) := by decide +kernel
theorem dX0_isSoonBehind_22 : decode cX0_isSoonBehind 22 = .ok (.goto 4, 3) := by decide +kernel
theorem dX0_isSoonBehind_25 : decode cX0_isSoonBehind 25 = .ok (.iconst 0, 1) := by decide +kernel
theorem dX0_isSoonBehind_26 : decode cX0_isSoonBehind 26 = .ok (.ireturn, 1) := by decide +kernel
set_option maxRecDepth 20000 in
theorem ggX0_isFarBehind_X0_nextOfHand : GoodIn wsX0_isFarBehind wsX0_nextOfHand := goodIn_r _ [5, 6, 7, 8, 9, 4, 10, 11, 12, 13, 14, 15, 16, 31, 32, 33, 34, 35, 36, 37] (by decide +kernel) (by decide +kernel)
set_option maxRecDepth 20000 in
theorem gX0_isFarBehind_X0_nextOfHand : GoodIn wsX0_isFarBehind (wsV RX0 68 RX0 yX0_nextOfHand wsX0_nextOfHand) := goodIn_app (goodIn_of _ (by decide +kernel)) ggX0_isFarBehind_X0_nextOfHand
set_option maxRecDepth 20000 in
theorem ggX0_isFarBehind_X0_isTooFar : GoodIn wsX0_isFarBehind wsX0_isTooFar := goodIn_r _ [20, 21, 22, 23, 24, 25, 26, 27, 28, 4, 29, 30, 31, 32, 33, 34, 35, 36, 37] (by decide +kernel) (by decide +kernel)
set_option maxRecDepth 20000 in
theorem gX0_isFarBehind_X0_isTooFar : GoodIn wsX0_isFarBehind (wsV RX0 65 RX0 yX0_isTooFar wsX0_isTooFar) := goodIn_app (goodIn_of _ (by decide +kernel)) ggX0_isFarBehind_X0_isTooFar
theorem dX0_isFarBehind_0 : decode cX0_isFarBehind 0 = .ok (.aload_n 0, 1) := by decide +kernel
theorem dX0_isFarBehind_1 : decode cX0_isFarBehind 1 = .ok (.iload_n 1, 1) := by decide +kernel
theorem dX0_isFarBehind_2 : decode cX0_isFarBehind 2 = .ok (.invokevirtual 68, 3) := by decide +kernel
theorem dX0_isFarBehind_5 : decode cX0_isFarBehind 5 = .ok (.istore_n 2, 1) := by decide +kernel
theorem dX0_isFarBehind_6 : decode cX0_isFarBehind 6 = .ok (.iload_n 2, 1) := by decide +kernel
theorem dX0_isFarBehind_7 : decode cX0_isFarBehind 7 = .ok (.bipush (-9), 2) := by decide +kernel
theorem dX0_isFarBehind_9 : decode cX0_isFarBehind 9 = .ok (.if_icmp .eq 16, 3) := by decide +kernel
theorem dX0_isFarBehind_12 : decode cX0_isFarBehind 12 = .ok (.aload_n 0, 1) := by decide +kernel
theorem dX0_isFarBehind_13 : decode cX0_isFarBehind 13 = .ok (.iload_n 1, 1) := by decide +kernel
theorem dX0_isFarBehind_14 : decode cX0_isFarBehind 14 = .ok (.iload_n 2, 1) := by decide +kernel
theorem dX0_isFarBehind_15 : decode cX0_isFarBehind 15 = .ok (.invokevirtual 65, 3) := by decide +kernel
theorem dX0_isFarBehind_18 : decode cX0_isFarBehind 18 = .ok (.ifCond .eq 7, 3) := by decide +kernel
theorem dX0_isFarBehind_21 : decode cX0_isFarBehind 21 = .ok (.iconst 1, 1) := by decide +kernel
theorem dX0_isFarBehind_22 : decode cX0_isFarBehind 22 = .ok (.goto 4, 3) := by decide +kernel
theorem dX0_isFarBehind_25 : decode cX0_isFarBehind 25 = .ok (.iconst 0, 1) := by decide +kernel
theorem dX0_isFarBehind_26 : decode cX0_isFarBehind 26 = .ok (.ireturn, 1) := by decide +kernel
set_option maxRecDepth 20000 in
theorem ggX0_nextOfHand_X0_hasNote : GoodIn wsX0_nextOfHand wsX0_hasNote := goodIn_r _ [6, 1, 7, 13, 14, 15, 16, 17, 18, 19] (by decide +kernel) (by decide +kernel)
set_option maxRecDepth 20000 in
theorem gX0_nextOfHand_X0_hasNote : GoodIn wsX0_nextOfHand (wsV RX0 71 RX0 yX0_hasNote wsX0_hasNote) := goodIn_app (goodIn_of _ (by decide +kernel)) ggX0_nextOfHand_X0_hasNote
set_option maxRecDepth 20000 in
theorem ggX0_nextOfHand_X0_handAt : GoodIn wsX0_nextOfHand wsX0_handAt := goodIn_r _ [11, 12, 13, 14, 15, 16, 17, 18, 19] (by decide +kernel) (by decide +kernel)
set_option maxRecDepth 20000 in
theorem gX0_nextOfHand_X0_handAt : GoodIn wsX0_nextOfHand (wsV RX0 75 RX0 yX0_handAt wsX0_handAt) := goodIn_app (goodIn_of _ (by decide +kernel)) ggX0_nextOfHand_X0_handAt
theorem dX0_nextOfHand_0 : decode cX0_nextOfHand 0 = .ok (.aload_n 0, 1) := by decide +kernel
theorem dX0_nextOfHand_1 : decode cX0_nextOfHand 1 = .ok (.iload_n 1, 1) := by decide +kernel
theorem dX0_nextOfHand_2 : decode cX0_nextOfHand 2 = .ok (.invokevirtual 71, 3) := by decide +kernel
theorem dX0_nextOfHand_5 : decode cX0_nextOfHand 5 = .ok (.ifCond .ne 6, 3) := by decide +kernel
theorem dX0_nextOfHand_8 : decode cX0_nextOfHand 8 = .ok (.bipush (-9), 2) := by decide +kernel
theorem dX0_nextOfHand_10 : decode cX0_nextOfHand 10 = .ok (.ireturn, 1) := by decide +kernel
theorem dX0_nextOfHand_11 : decode cX0_nextOfHand 11 = .ok (.iload_n 1, 1) := by decide +kernel
theorem dX0_nextOfHand_12 : decode cX0_nextOfHand 12 = .ok (.iconst 1, 1) := by decide +kernel
theorem dX0_nextOfHand_13 : decode cX0_nextOfHand 13 = .ok (.iadd, 1) := by decide +kernel
theorem dX0_nextOfHand_14 : decode cX0_nextOfHand 14 = .ok (.istore_n 2, 1) := by decide +kernel
theorem dX0_nextOfHand_15 : decode cX0_nextOfHand 15 = .ok (.iload_n 2, 1) := by decide +kernel
theorem dX0_nextOfHand_16 : decode cX0_nextOfHand 16 = .ok (.aload_n 0, 1) := by decide +kernel
theorem dX0_nextOfHand_17 : decode cX0_nextOfHand 17 = .ok (.getfield 24, 3) := by decide +kernel
theorem dX0_nextOfHand_20 : decode cX0_nextOfHand 20 = .ok (.if_icmp .ge 32, 3) := by decide +kernel
theorem dX0_nextOfHand_23 : decode cX0_nextOfHand 23 = .ok (.aload_n 0, 1) := by decide +kernel
theorem dX0_nextOfHand_24 : decode cX0_nextOfHand 24 = .ok (.iload_n 2, 1) := by decide +kernel
theorem dX0_nextOfHand_25 : decode cX0_nextOfHand 25 = .ok (.invokevirtual 71, 3) := by decide +kernel
theorem dX0_nextOfHand_28 : decode cX0_nextOfHand 28 = .ok (.ifCond .eq 18, 3) := by decide +kernel
theorem dX0_nextOfHand_31 : decode cX0_nextOfHand 31 = .ok (.aload_n 0, 1) := by decide +kernel
theorem dX0_nextOfHand_32 : decode cX0_nextOfHand 32 = .ok (.iload_n 2, 1) := by decide +kernel
theorem dX0_nextOfHand_33 : decode cX0_nextOfHand 33 = .ok (.invokevirtual 75, 3) := by decide +kernel
theorem dX0_nextOfHand_36 : decode cX0_nextOfHand 36 = .ok (.aload_n 0, 1) := by decide +kernel
theorem dX0_nextOfHand_37 : decode cX0_nextOfHand 37 = .ok (.iload_n 1, 1) := by decide +kernel
theorem dX0_nextOfHand_38 : decode cX0_nextOfHand 38 = .ok (.invokevirtual 75, 3) := by decide +kernel
theorem dX0_nextOfHand_41 : decode cX0_nextOfHand 41 = .ok (.if_icmp .ne 5, 3) := by decide +kernel
theorem dX0_nextOfHand_44 : decode cX0_nextOfHand 44 = .ok (.iload_n 2, 1) := by decide +kernel
theorem dX0_nextOfHand_45 : decode cX0_nextOfHand 45 = .ok (.ireturn, 1) := by decide +kernel
theorem dX0_nextOfHand_46 : decode cX0_nextOfHand 46 = .ok (.iinc 2 1, 3) := by decide +kernel
theorem dX0_nextOfHand_49 : decode cX0_nextOfHand 49 = .ok (.goto (-34), 3) := by decide +kernel
theorem dX0_nextOfHand_52 : decode cX0_nextOfHand 52 = .ok (.bipush (-9), 2) := by decide +kernel
theorem dX0_nextOfHand_54 : decode cX0_nextOfHand 54 = .ok (.ireturn, 1) := by decide +kernel
set_option maxRecDepth 20000 in
theorem ggX0_countTooSoon_X0_isSoonBehind : GoodIn wsX0_countTooSoon wsX0_isSoonBehind := goodIn_r _ [6, 7, 8, 9, 5, 10, 1, 11, 12, 13, 14, 15, 16, 17, 18, 19, 20, 21, 22, 23, 24, 25, 26, 27, 28, 29, 30, 31, 32] (by decide +kernel) (by decide +kernel)
set_option maxRecDepth 20000 in
theorem gX0_countTooSoon_X0_isSoonBehind : GoodIn wsX0_countTooSoon (wsV RX0 78 RX0 yX0_isSoonBehind wsX0_isSoonBehind) := goodIn_app (goodIn_of _ (by decide +kernel)) ggX0_countTooSoon_X0_isSoonBehind
theorem dX0_countTooSoon_0 : decode cX0_countTooSoon 0 = .ok (.iconst 0, 1) := by decide +kernel
theorem dX0_countTooSoon_1 : decode cX0_countTooSoon 1 = .ok (.istore_n 1, 1) := by decide +kernel
theorem dX0_countTooSoon_2 : decode cX0_countTooSoon 2 = .ok (.iconst 0, 1) := by decide +kernel
theorem dX0_countTooSoon_3 : decode cX0_countTooSoon 3 = .ok (.istore_n 2, 1) := by decide +kernel
theorem dX0_countTooSoon_4 : decode cX0_countTooSoon 4 = .ok (.iload_n 2, 1) := by decide +kernel
theorem dX0_countTooSoon_5 : decode cX0_countTooSoon 5 = .ok (.aload_n 0, 1) := by decide +kernel
theorem dX0_countTooSoon_6 : decode cX0_countTooSoon 6 = .ok (.getfield 24, 3) := by decide +kernel
theorem dX0_countTooSoon_9 : decode cX0_countTooSoon 9 = .ok (.if_icmp .ge 20, 3) := by decide +kernel
theorem dX0_countTooSoon_12 : decode cX0_countTooSoon 12 = .ok (.aload_n 0, 1) := by decide +kernel
theorem dX0_countTooSoon_13 : decode cX0_countTooSoon 13 = .ok (.iload_n 2, 1) := by decide +kernel
theorem dX0_countTooSoon_14 : decode cX0_countTooSoon 14 = .ok (.invokevirtual 78, 3) := by decide +kernel
theorem dX0_countTooSoon_17 : decode cX0_countTooSoon 17 = .ok (.ifCond .eq 6, 3) := by decide +kernel
theorem dX0_countTooSoon_20 : decode cX0_countTooSoon 20 = .ok (.iinc 1 1, 3) := by decide +kernel
theorem dX0_countTooSoon_23 : decode cX0_countTooSoon 23 = .ok (.iinc 2 1, 3) := by decide +kernel
theorem dX0_countTooSoon_26 : decode cX0_countTooSoon 26 = .ok (.goto (-22), 3) := by decide +kernel
theorem dX0_countTooSoon_29 : decode cX0_countTooSoon 29 = .ok (.iload_n 1, 1) := by decide +kernel
theorem dX0_countTooSoon_30 : decode cX0_countTooSoon 30 = .ok (.ireturn, 1) := by decide +kernel
set_option maxRecDepth 20000 in
theorem ggX0_countTooFar_X0_isFarBehind : GoodIn wsX0_countTooFar wsX0_isFarBehind := goodIn_r _ [6, 7, 8, 9, 5, 10, 1, 11, 12, 13, 14, 15, 16, 17, 18, 19, 20, 21, 22, 23, 24, 25, 26, 27, 28, 29, 30, 31, 32, 33, 34, 35, 36, 37, 38, 39, 40, 41] (by decide +kernel) (by decide +kernel)
set_option maxRecDepth 20000 in
theorem gX0_countTooFar_X0_isFarBehind : GoodIn wsX0_countTooFar (wsV RX0 81 RX0 yX0_isFarBehind wsX0_isFarBehind) := goodIn_app (goodIn_of _ (by decide +kernel)) ggX0_countTooFar_X0_isFarBehind
theorem dX0_countTooFar_0 : decode cX0_countTooFar 0 = .ok (.iconst 0, 1) := by decide +kernel
theorem dX0_countTooFar_1 : decode cX0_countTooFar 1 = .ok (.istore_n 1, 1) := by decide +kernel
theorem dX0_countTooFar_2 : decode cX0_countTooFar 2 = .ok (.iconst 0, 1) := by decide +kernel
theorem dX0_countTooFar_3 : decode cX0_countTooFar 3 = .ok (.istore_n 2, 1) := by decide +kernel
theorem dX0_countTooFar_4 : decode cX0_countTooFar 4 = .ok (.iload_n 2, 1) := by decide +kernel
theorem dX0_countTooFar_5 : decode cX0_countTooFar 5 = .ok (.aload_n 0, 1) := by decide +kernel
theorem dX0_countTooFar_6 : decode cX0_countTooFar 6 = .ok (.getfield 24, 3) := by decide +kernel
theorem dX0_countTooFar_9 : decode cX0_countTooFar 9 = .ok (.if_icmp .ge 20, 3) := by decide +kernel
theorem dX0_countTooFar_12 : decode cX0_countTooFar 12 = .ok (.aload_n 0, 1) := by decide +kernel
theorem dX0_countTooFar_13 : decode cX0_countTooFar 13 = .ok (.iload_n 2, 1) := by decide +kernel
theorem dX0_countTooFar_14 : decode cX0_countTooFar 14 = .ok (.invokevirtual 81, 3) := by decide +kernel
theorem dX0_countTooFar_17 : decode cX0_countTooFar 17 = .ok (.ifCond .eq 6, 3) := by decide +kernel
theorem dX0_countTooFar_20 : decode cX0_countTooFar 20 = .ok (.iinc 1 1, 3) := by decide +kernel
theorem dX0_countTooFar_23 : decode cX0_countTooFar 23 = .ok (.iinc 2 1, 3) := by decide +kernel
theorem dX0_countTooFar_26 : decode cX0_countTooFar 26 = .ok (.goto (-22), 3) := by decide +kernel
theorem dX0_countTooFar_29 : decode cX0_countTooFar 29 = .ok (.iload_n 1, 1) := by decide +kernel
theorem dX0_countTooFar_30 : decode cX0_countTooFar 30 = .ok (.ireturn, 1) := by decide +kernel
set_option maxRecDepth 20000 in
theorem ggX0_isLawful_X0_hasNote : GoodIn wsX0_isLawful wsX0_hasNote := goodIn_r _ [6, 1, 7, 31, 32, 33, 34, 35, 36, 37] (by decide +kernel) (by decide +kernel)
set_option maxRecDepth 20000 in
theorem gX0_isLawful_X0_hasNote : GoodIn wsX0_isLawful (wsV RX0 71 RX0 yX0_hasNote wsX0_hasNote) := goodIn_app (goodIn_of _ (by decide +kernel)) ggX0_isLawful_X0_hasNote
set_option maxRecDepth 20000 in
theorem ggX0_isLawful_X0_mayStrike : GoodIn wsX0_isLawful wsX0_mayStrike := goodIn_r _ [11, 12, 13, 14, 5, 15, 16, 17, 18, 19, 20, 21, 22, 23, 24, 25, 26, 27, 28, 29, 30, 31, 32, 33, 34, 35, 36, 37] (by decide +kernel) (by decide +kernel)
set_option maxRecDepth 20000 in
theorem gX0_isLawful_X0_mayStrike : GoodIn wsX0_isLawful (wsV RX0 84 RX0 yX0_mayStrike wsX0_mayStrike) := goodIn_app (goodIn_of _ (by decide +kernel)) ggX0_isLawful_X0_mayStrike
theorem dX0_isLawful_0 : decode cX0_isLawful 0 = .ok (.bipush (-9), 2) := by decide +kernel
theorem dX0_isLawful_2 : decode cX0_isLawful 2 = .ok (.istore_n 2, 1) := by decide +kernel
theorem dX0_isLawful_3 : decode cX0_isLawful 3 = .ok (.bipush (-9), 2) := by decide +kernel
theorem dX0_isLawful_5 : decode cX0_isLawful 5 = .ok (.istore_n 3, 1) := by decide +kernel
theorem dX0_isLawful_6 : decode cX0_isLawful 6 = .ok (.iconst 0, 1) := by decide +kernel
theorem dX0_isLawful_7 : decode cX0_isLawful 7 = .ok (.istore 4, 2) := by decide +kernel
theorem dX0_isLawful_9 : decode cX0_isLawful 9 = .ok (.iload 4, 2) := by decide +kernel
theorem dX0_isLawful_11 : decode cX0_isLawful 11 = .ok (.aload_n 0, 1) := by decide +kernel
theorem dX0_isLawful_12 : decode cX0_isLawful 12 = .ok (.getfield 24, 3) := by decide +kernel
theorem dX0_isLawful_15 : decode cX0_isLawful 15 = .ok (.if_icmp .ge 73, 3) := by decide +kernel
theorem dX0_isLawful_18 : decode cX0_isLawful 18 = .ok (.aload_n 0, 1) := by decide +kernel
theorem dX0_isLawful_19 : decode cX0_isLawful 19 = .ok (.iload 4, 2) := by decide +kernel
theorem dX0_isLawful_21 : decode cX0_isLawful 21 = .ok (.invokevirtual 71, 3) := by decide +kernel
theorem dX0_isLawful_24 : decode cX0_isLawful 24 = .ok (.ifCond .ne 6, 3) := by decide +kernel
theorem dX0_isLawful_27 : decode cX0_isLawful 27 = .ok (.goto 55, 3) := by decide +kernel
theorem dX0_isLawful_30 : decode cX0_isLawful 30 = .ok (.iload_n 1, 1) := by decide +kernel
theorem dX0_isLawful_31 : decode cX0_isLawful 31 = .ok (.iload 4, 2) := by decide +kernel
theorem dX0_isLawful_33 : decode cX0_isLawful 33 = .ok (.ishr, 1) := by decide +kernel
theorem dX0_isLawful_34 : decode cX0_isLawful 34 = .ok (.iconst 1, 1) := by decide +kernel
theorem dX0_isLawful_35 : decode cX0_isLawful 35 = .ok (.iand, 1) := by decide +kernel
theorem dX0_isLawful_36 : decode cX0_isLawful 36 = .ok (.iconst 1, 1) := by decide +kernel
theorem dX0_isLawful_37 : decode cX0_isLawful 37 = .ok (.if_icmp .ne 7, 3) := by decide +kernel
theorem dX0_isLawful_40 : decode cX0_isLawful 40 = .ok (.iconst 1, 1) := by decide +kernel
theorem dX0_isLawful_41 : decode cX0_isLawful 41 = .ok (.goto 4, 3) := by decide +kernel
theorem dX0_isLawful_44 : decode cX0_isLawful 44 = .ok (.iconst 0, 1) := by decide +kernel
theorem dX0_isLawful_45 : decode cX0_isLawful 45 = .ok (.istore 5, 2) := by decide +kernel
theorem dX0_isLawful_47 : decode cX0_isLawful 47 = .ok (.aload_n 0, 1) := by decide +kernel
theorem dX0_isLawful_48 : decode cX0_isLawful 48 = .ok (.iload 5, 2) := by decide +kernel
theorem dX0_isLawful_50 : decode cX0_isLawful 50 = .ok (.ifCond .eq 7, 3) := by decide +kernel
theorem dX0_isLawful_53 : decode cX0_isLawful 53 = .ok (.iload_n 3, 1) := by decide +kernel
theorem dX0_isLawful_54 : decode cX0_isLawful 54 = .ok (.goto 4, 3) := by decide +kernel
theorem dX0_isLawful_57 : decode cX0_isLawful 57 = .ok (.iload_n 2, 1) := by decide +kernel
theorem dX0_isLawful_58 : decode cX0_isLawful 58 = .ok (.iload 4, 2) := by decide +kernel
theorem dX0_isLawful_60 : decode cX0_isLawful 60 = .ok (.invokevirtual 84, 3) := by decide +kernel
theorem dX0_isLawful_63 : decode cX0_isLawful 63 = .ok (.ifCond .ne 5, 3) := by decide +kernel
theorem dX0_isLawful_66 : decode cX0_isLawful 66 = .ok (.iconst 0, 1) := by decide +kernel
theorem dX0_isLawful_67 : decode cX0_isLawful 67 = .ok (.ireturn, 1) := by decide +kernel
theorem dX0_isLawful_68 : decode cX0_isLawful 68 = .ok (.iload 5, 2) := by decide +kernel
theorem dX0_isLawful_70 : decode cX0_isLawful 70 = .ok (.ifCond .eq 9, 3) := by decide +kernel
theorem dX0_isLawful_73 : decode cX0_isLawful 73 = .ok (.iload 4, 2) := by decide +kernel
theorem dX0_isLawful_75 : decode cX0_isLawful 75 = .ok (.istore_n 3, 1) := by decide +kernel
theorem dX0_isLawful_76 : decode cX0_isLawful 76 = .ok (.goto 6, 3) := by decide +kernel
theorem dX0_isLawful_79 : decode cX0_isLawful 79 = .ok (.iload 4, 2) := by decide +kernel
theorem dX0_isLawful_81 : decode cX0_isLawful 81 = .ok (.istore_n 2, 1) := by decide +kernel
theorem dX0_isLawful_82 : decode cX0_isLawful 82 = .ok (.iinc 4 1, 3) := by decide +kernel
theorem dX0_isLawful_85 : decode cX0_isLawful 85 = .ok (.goto (-76), 3) := by decide +kernel
theorem dX0_isLawful_88 : decode cX0_isLawful 88 = .ok (.iconst 1, 1) := by decide +kernel
theorem dX0_isLawful_89 : decode cX0_isLawful 89 = .ok (.ireturn, 1) := by decide +kernel
set_option maxRecDepth 20000 in
theorem ggX0_likeness_J6_bitCount_0f7a4 : GoodIn wsX0_likeness wsJ6_bitCount_0f7a4 := goodIn_r _ [6, 7, 8, 9] (by decide +kernel) (by decide +kernel)
set_option maxRecDepth 20000 in
theorem gX0_likeness_J6_bitCount_0f7a4 : GoodIn wsX0_likeness (va_wsS RX0 87 yJ6_bitCount_0f7a4 wsJ6_bitCount_0f7a4) := goodIn_app (goodIn_of _ (by decide +kernel)) ggX0_likeness_J6_bitCount_0f7a4
theorem dX0_likeness_0 : decode cX0_likeness 0 = .ok (.aload_n 0, 1) := by decide +kernel
theorem dX0_likeness_1 : decode cX0_likeness 1 = .ok (.getfield 28, 3) := by decide +kernel
theorem dX0_likeness_4 : decode cX0_likeness 4 = .ok (.aload_n 0, 1) := by decide +kernel
theorem dX0_likeness_5 : decode cX0_likeness 5 = .ok (.getfield 28, 3) := by decide +kernel
theorem dX0_likeness_8 : decode cX0_likeness 8 = .ok (.aload_n 0, 1) := by decide +kernel
theorem dX0_likeness_9 : decode cX0_likeness 9 = .ok (.getfield 43, 3) := by decide +kernel
theorem dX0_likeness_12 : decode cX0_likeness 12 = .ok (.ishr, 1) := by decide +kernel
theorem dX0_likeness_13 : decode cX0_likeness 13 = .ok (.iand, 1) := by decide +kernel
theorem dX0_likeness_14 : decode cX0_likeness 14 = .ok (.istore_n 2, 1) := by decide +kernel
theorem dX0_likeness_15 : decode cX0_likeness 15 = .ok (.iload_n 2, 1) := by decide +kernel
theorem dX0_likeness_16 : decode cX0_likeness 16 = .ok (.iload_n 1, 1) := by decide +kernel
theorem dX0_likeness_17 : decode cX0_likeness 17 = .ok (.iload_n 1, 1) := by decide +kernel
theorem dX0_likeness_18 : decode cX0_likeness 18 = .ok (.aload_n 0, 1) := by decide +kernel
theorem dX0_likeness_19 : decode cX0_likeness 19 = .ok (.getfield 43, 3) := by decide +kernel
theorem dX0_likeness_22 : decode cX0_likeness 22 = .ok (.ishr, 1) := by decide +kernel
theorem dX0_likeness_23 : decode cX0_likeness 23 = .ok (.ixor, 1) := by decide +kernel
theorem dX0_likeness_24 : decode cX0_likeness 24 = .ok (.iconst (-1), 1) := by decide +kernel
theorem dX0_likeness_25 : decode cX0_likeness 25 = .ok (.ixor, 1) := by decide +kernel
theorem dX0_likeness_26 : decode cX0_likeness 26 = .ok (.iand, 1) := by decide +kernel
theorem dX0_likeness_27 : decode cX0_likeness 27 = .ok (.invokestatic 87, 3) := by decide +kernel
theorem dX0_likeness_30 : decode cX0_likeness 30 = .ok (.ireturn, 1) := by decide +kernel
set_option maxRecDepth 20000 in
theorem ggX0_tilt_J6_bitCount_0f7a4 : GoodIn wsX0_tilt wsJ6_bitCount_0f7a4 := goodIn_r _ [5, 6, 7, 8] (by decide +kernel) (by decide +kernel)
set_option maxRecDepth 20000 in
theorem gX0_tilt_J6_bitCount_0f7a4 : GoodIn wsX0_tilt (va_wsS RX0 87 yJ6_bitCount_0f7a4 wsJ6_bitCount_0f7a4) := goodIn_app (goodIn_of _ (by decide +kernel)) ggX0_tilt_J6_bitCount_0f7a4
theorem dX0_tilt_0 : decode cX0_tilt 0 = .ok (.aload_n 0, 1) := by decide +kernel
theorem dX0_tilt_1 : decode cX0_tilt 1 = .ok (.getfield 28, 3) := by decide +kernel
theorem dX0_tilt_4 : decode cX0_tilt 4 = .ok (.invokestatic 87, 3) := by decide +kernel
theorem dX0_tilt_7 : decode cX0_tilt 7 = .ok (.iconst 2, 1) := by decide +kernel
theorem dX0_tilt_8 : decode cX0_tilt 8 = .ok (.iload_n 1, 1) := by decide +kernel
theorem dX0_tilt_9 : decode cX0_tilt 9 = .ok (.invokestatic 87, 3) := by decide +kernel
theorem dX0_tilt_12 : decode cX0_tilt 12 = .ok (.imul, 1) := by decide +kernel
theorem dX0_tilt_13 : decode cX0_tilt 13 = .ok (.isub, 1) := by decide +kernel
theorem dX0_tilt_14 : decode cX0_tilt 14 = .ok (.ireturn, 1) := by decide +kernel
set_option maxRecDepth 20000 in
theorem ggX0_pitchesUsed_X0_hasNote : GoodIn wsX0_pitchesUsed wsX0_hasNote := goodIn_r _ [6, 1, 7, 13, 14, 15, 16, 17, 18, 19] (by decide +kernel) (by decide +kernel)
set_option maxRecDepth 20000 in
theorem gX0_pitchesUsed_X0_hasNote : GoodIn wsX0_pitchesUsed (wsV RX0 71 RX0 yX0_hasNote wsX0_hasNote) := goodIn_app (goodIn_of _ (by decide +kernel)) ggX0_pitchesUsed_X0_hasNote
set_option maxRecDepth 20000 in
theorem ggX0_pitchesUsed_X0_pitchAt : GoodIn wsX0_pitchesUsed wsX0_pitchAt := goodIn_r _ [11, 12, 13, 14, 15, 16, 17, 18, 19] (by decide +kernel) (by decide +kernel)
set_option maxRecDepth 20000 in
theorem gX0_pitchesUsed_X0_pitchAt : GoodIn wsX0_pitchesUsed (wsV RX0 52 RX0 yX0_pitchAt wsX0_pitchAt) := goodIn_app (goodIn_of _ (by decide +kernel)) ggX0_pitchesUsed_X0_pitchAt
theorem dX0_pitchesUsed_0 : decode cX0_pitchesUsed 0 = .ok (.iconst 0, 1) := by decide +kernel
theorem dX0_pitchesUsed_1 : decode cX0_pitchesUsed 1 = .ok (.istore_n 1, 1) := by decide +kernel
theorem dX0_pitchesUsed_2 : decode cX0_pitchesUsed 2 = .ok (.iconst 0, 1) := by decide +kernel
theorem dX0_pitchesUsed_3 : decode cX0_pitchesUsed 3 = .ok (.istore_n 2, 1) := by decide +kernel
theorem dX0_pitchesUsed_4 : decode cX0_pitchesUsed 4 = .ok (.iload_n 2, 1) := by decide +kernel
theorem dX0_pitchesUsed_5 : decode cX0_pitchesUsed 5 = .ok (.aload_n 0, 1) := by decide +kernel
theorem dX0_pitchesUsed_6 : decode cX0_pitchesUsed 6 = .ok (.getfield 24, 3) := by decide +kernel
theorem dX0_pitchesUsed_9 : decode cX0_pitchesUsed 9 = .ok (.if_icmp .ge 29, 3) := by decide +kernel
theorem dX0_pitchesUsed_12 : decode cX0_pitchesUsed 12 = .ok (.aload_n 0, 1) := by decide +kernel
theorem dX0_pitchesUsed_13 : decode cX0_pitchesUsed 13 = .ok (.iload_n 2, 1) := by decide +kernel
theorem dX0_pitchesUsed_14 : decode cX0_pitchesUsed 14 = .ok (.invokevirtual 71, 3) := by decide +kernel
theorem dX0_pitchesUsed_17 : decode cX0_pitchesUsed 17 = .ok (.ifCond .eq 15, 3) := by decide +kernel
theorem dX0_pitchesUsed_20 : decode cX0_pitchesUsed 20 = .ok (.iload_n 1, 1) := by decide +kernel
theorem dX0_pitchesUsed_21 : decode cX0_pitchesUsed 21 = .ok (.iconst 1, 1) := by decide +kernel
theorem dX0_pitchesUsed_22 : decode cX0_pitchesUsed 22 = .ok (.aload_n 0, 1) := by decide +kernel
theorem dX0_pitchesUsed_23 : decode cX0_pitchesUsed 23 = .ok (.iload_n 2, 1) := by decide +kernel
theorem dX0_pitchesUsed_24 : decode cX0_pitchesUsed 24 = .ok (.invokevirtual 52, 3) := by decide +kernel
theorem dX0_pitchesUsed_27 : decode cX0_pitchesUsed 27 = .ok (.iconst 1, 1) := by decide +kernel
theorem dX0_pitchesUsed_28 : decode cX0_pitchesUsed 28 = .ok (.isub, 1) := by decide +kernel
theorem dX0_pitchesUsed_29 : decode cX0_pitchesUsed 29 = .ok (.ishl, 1) := by decide +kernel
theorem dX0_pitchesUsed_30 : decode cX0_pitchesUsed 30 = .ok (.ior, 1) := by decide +kernel
theorem dX0_pitchesUsed_31 : decode cX0_pitchesUsed 31 = .ok (.istore_n 1, 1) := by decide +kernel
theorem dX0_pitchesUsed_32 : decode cX0_pitchesUsed 32 = .ok (.iinc 2 1, 3) := by decide +kernel
theorem dX0_pitchesUsed_35 : decode cX0_pitchesUsed 35 = .ok (.goto (-31), 3) := by decide +kernel
theorem dX0_pitchesUsed_38 : decode cX0_pitchesUsed 38 = .ok (.iload_n 1, 1) := by decide +kernel
theorem dX0_pitchesUsed_39 : decode cX0_pitchesUsed 39 = .ok (.ireturn, 1) := by decide +kernel
set_option maxRecDepth 20000 in
theorem ggX0_shareByTable_X0_hasNote : GoodIn wsX0_shareByTable wsX0_hasNote := goodIn_r _ [6, 1, 7, 13, 14, 15, 16, 17, 18, 19] (by decide +kernel) (by decide +kernel)
set_option maxRecDepth 20000 in
theorem gX0_shareByTable_X0_hasNote : GoodIn wsX0_shareByTable (wsV RX0 71 RX0 yX0_hasNote wsX0_hasNote) := goodIn_app (goodIn_of _ (by decide +kernel)) ggX0_shareByTable_X0_hasNote
set_option maxRecDepth 20000 in
theorem ggX0_shareByTable_X0_pitchAt : GoodIn wsX0_shareByTable wsX0_pitchAt := goodIn_r _ [11, 12, 13, 14, 15, 16, 17, 18, 19] (by decide +kernel) (by decide +kernel)
set_option maxRecDepth 20000 in
theorem gX0_shareByTable_X0_pitchAt : GoodIn wsX0_shareByTable (wsV RX0 52 RX0 yX0_pitchAt wsX0_pitchAt) := goodIn_app (goodIn_of _ (by decide +kernel)) ggX0_shareByTable_X0_pitchAt
theorem dX0_shareByTable_0 : decode cX0_shareByTable 0 = .ok (.iconst 0, 1) := by decide +kernel
theorem dX0_shareByTable_1 : decode cX0_shareByTable 1 = .ok (.istore_n 2, 1) := by decide +kernel
theorem dX0_shareByTable_2 : decode cX0_shareByTable 2 = .ok (.iconst 0, 1) := by decide +kernel
theorem dX0_shareByTable_3 : decode cX0_shareByTable 3 = .ok (.istore_n 3, 1) := by decide +kernel
theorem dX0_shareByTable_4 : decode cX0_shareByTable 4 = .ok (.iload_n 3, 1) := by decide +kernel
theorem dX0_shareByTable_5 : decode cX0_shareByTable 5 = .ok (.aload_n 0, 1) := by decide +kernel
theorem dX0_shareByTable_6 : decode cX0_shareByTable 6 = .ok (.getfield 24, 3) := by decide +kernel
theorem dX0_shareByTable_9 : decode cX0_shareByTable 9 = .ok (.if_icmp .ge 38, 3) := by decide +kernel
theorem dX0_shareByTable_12 : decode cX0_shareByTable 12 = .ok (.aload_n 0, 1) := by decide +kernel
theorem dX0_shareByTable_13 : decode cX0_shareByTable 13 = .ok (.iload_n 3, 1) := by decide +kernel
theorem dX0_shareByTable_14 : decode cX0_shareByTable 14 = .ok (.invokevirtual 71, 3) := by decide +kernel
theorem dX0_shareByTable_17 : decode cX0_shareByTable 17 = .ok (.ifCond .eq 24, 3) := by decide +kernel
theorem dX0_shareByTable_20 : decode cX0_shareByTable 20 = .ok (.iload_n 1, 1) := by decide +kernel
theorem dX0_shareByTable_21 : decode cX0_shareByTable 21 = .ok (.aload_n 0, 1) := by decide +kernel
theorem dX0_shareByTable_22 : decode cX0_shareByTable 22 = .ok (.iload_n 3, 1) := by decide +kernel
theorem dX0_shareByTable_23 : decode cX0_shareByTable 23 = .ok (.invokevirtual 52, 3) := by decide +kernel
theorem dX0_shareByTable_26 : decode cX0_shareByTable 26 = .ok (.iconst 1, 1) := by decide +kernel
theorem dX0_shareByTable_27 : decode cX0_shareByTable 27 = .ok (.isub, 1) := by decide +kernel
theorem dX0_shareByTable_28 : decode cX0_shareByTable 28 = .ok (.ishr, 1) := by decide +kernel
theorem dX0_shareByTable_29 : decode cX0_shareByTable 29 = .ok (.iconst 1, 1) := by decide +kernel
theorem dX0_shareByTable_30 : decode cX0_shareByTable 30 = .ok (.iand, 1) := by decide +kernel
theorem dX0_shareByTable_31 : decode cX0_shareByTable 31 = .ok (.iconst 1, 1) := by decide +kernel
theorem dX0_shareByTable_32 : decode cX0_shareByTable 32 = .ok (.if_icmp .ne 9, 3) := by decide +kernel
theorem dX0_shareByTable_35 : decode cX0_shareByTable 35 = .ok (.iload_n 2, 1) := by decide +kernel
theorem dX0_shareByTable_36 : decode cX0_shareByTable 36 = .ok (.iconst 1, 1) := by decide +kernel
theorem dX0_shareByTable_37 : decode cX0_shareByTable 37 = .ok (.iload_n 3, 1) := by decide +kernel
theorem dX0_shareByTable_38 : decode cX0_shareByTable 38 = .ok (.ishl, 1) := by decide +kernel
theorem dX0_shareByTable_39 : decode cX0_shareByTable 39 = .ok (.ior, 1) := by decide +kernel
theorem dX0_shareByTable_40 : decode cX0_shareByTable 40 = .ok (.istore_n 2, 1) := by decide +kernel
theorem dX0_shareByTable_41 : decode cX0_shareByTable 41 = .ok (.iinc 3 1, 3) := by decide +kernel
theorem dX0_shareByTable_44 : decode cX0_shareByTable 44 = .ok (.goto (-40), 3) := by decide +kernel
theorem dX0_shareByTable_47 : decode cX0_shareByTable 47 = .ok (.iload_n 2, 1) := by decide +kernel
theorem dX0_shareByTable_48 : decode cX0_shareByTable 48 = .ok (.ireturn, 1) := by decide +kernel
set_option maxRecDepth 20000 in
theorem ggX1_init_X0_init : GoodIn wsX1_init wsX0_init := goodIn_r _ [10, 11, 2, 3, 12, 13, 14, 15, 16, 7, 17, 18, 19, 20, 21, 22, 23, 24, 25, 26, 27, 30, 31, 32, 33, 34, 35, 36] (by decide +kernel) (by decide +kernel)
set_option maxRecDepth 20000 in
theorem gX1_init_X0_init : GoodIn wsX1_init (wsX0_init) := ggX1_init_X0_init
theorem dX1_init_0 : decode cX1_init 0 = .ok (.aload_n 0, 1) := by decide +kernel
theorem dX1_init_1 : decode cX1_init 1 = .ok (.invokespecial 3, 3) := by decide +kernel
theorem dX1_init_4 : decode cX1_init 4 = .ok (.aload_n 0, 1) := by decide +kernel
theorem dX1_init_5 : decode cX1_init 5 = .ok (.bipush 6, 2) := by decide +kernel
theorem dX1_init_7 : decode cX1_init 7 = .ok (.anewarray 9, 3) := by decide +kernel
theorem dX1_init_10 : decode cX1_init 10 = .ok (.putfield 11, 3) := by decide +kernel
theorem dX1_init_13 : decode cX1_init 13 = .ok (.iconst 0, 1) := by decide +kernel
theorem dX1_init_14 : decode cX1_init 14 = .ok (.istore_n 1, 1) := by decide +kernel
theorem dX1_init_15 : decode cX1_init 15 = .ok (.iload_n 1, 1) := by decide +kernel
theorem dX1_init_16 : decode cX1_init 16 = .ok (.bipush 6, 2) := by decide +kernel
theorem dX1_init_18 : decode cX1_init 18 = .ok (.if_icmp .ge 22, 3) := by decide +kernel
theorem dX1_init_21 : decode cX1_init 21 = .ok (.aload_n 0, 1) := by decide +kernel
theorem dX1_init_22 : decode cX1_init 22 = .ok (.getfield 11, 3) := by decide +kernel
theorem dX1_init_25 : decode cX1_init 25 = .ok (.iload_n 1, 1) := by decide +kernel
theorem dX1_init_26 : decode cX1_init 26 = .ok (.new 9, 3) := by decide +kernel
theorem dX1_init_29 : decode cX1_init 29 = .ok (.dup, 1) := by decide +kernel
theorem dX1_init_30 : decode cX1_init 30 = .ok (.invokespecial 17, 3) := by decide +kernel
theorem dX1_init_33 : decode cX1_init 33 = .ok (.aastore, 1) := by decide +kernel
theorem dX1_init_34 : decode cX1_init 34 = .ok (.iinc 1 1, 3) := by decide +kernel
theorem dX1_init_37 : decode cX1_init 37 = .ok (.goto (-22), 3) := by decide +kernel
theorem dX1_init_40 : decode cX1_init 40 = .ok (.return_, 1) := by decide +kernel
set_option maxRecDepth 20000 in
theorem ggX1_remember_X1_loseOldest : GoodIn wsX1_remember wsX1_loseOldest := goodIn_r _ [7, 2, 1, 24, 25] (by decide +kernel) (by decide +kernel)
set_option maxRecDepth 20000 in
theorem gX1_remember_X1_loseOldest : GoodIn wsX1_remember (wsV RX1 22 RX1 yX1_loseOldest wsX1_loseOldest) := goodIn_app (goodIn_of _ (by decide +kernel)) ggX1_remember_X1_loseOldest
set_option maxRecDepth 20000 in
theorem ggX1_remember_X0_copyFrom : GoodIn wsX1_remember wsX0_copyFrom := goodIn_r _ [12, 13, 14, 15, 16, 17, 18, 19, 20, 21, 22, 23, 26, 27, 28, 29, 30, 31, 32] (by decide +kernel) (by decide +kernel)
set_option maxRecDepth 20000 in
theorem gX1_remember_X0_copyFrom : GoodIn wsX1_remember (wsV RX1 25 RX0 yX0_copyFrom wsX0_copyFrom) := goodIn_app (goodIn_of _ (by decide +kernel)) ggX1_remember_X0_copyFrom
theorem dX1_remember_0 : decode cX1_remember 0 = .ok (.aload_n 0, 1) := by decide +kernel
theorem dX1_remember_1 : decode cX1_remember 1 = .ok (.getfield 18, 3) := by decide +kernel
theorem dX1_remember_4 : decode cX1_remember 4 = .ok (.bipush 6, 2) := by decide +kernel
theorem dX1_remember_6 : decode cX1_remember 6 = .ok (.if_icmp .lt 7, 3) := by decide +kernel
theorem dX1_remember_9 : decode cX1_remember 9 = .ok (.aload_n 0, 1) := by decide +kernel
theorem dX1_remember_10 : decode cX1_remember 10 = .ok (.invokevirtual 22, 3) := by decide +kernel
theorem dX1_remember_13 : decode cX1_remember 13 = .ok (.aload_n 0, 1) := by decide +kernel
theorem dX1_remember_14 : decode cX1_remember 14 = .ok (.getfield 11, 3) := by decide +kernel
theorem dX1_remember_17 : decode cX1_remember 17 = .ok (.aload_n 0, 1) := by decide +kernel
theorem dX1_remember_18 : decode cX1_remember 18 = .ok (.getfield 18, 3) := by decide +kernel
theorem dX1_remember_21 : decode cX1_remember 21 = .ok (.aaload, 1) := by decide +kernel
theorem dX1_remember_22 : decode cX1_remember 22 = .ok (.aload_n 1, 1) := by decide +kernel
theorem dX1_remember_23 : decode cX1_remember 23 = .ok (.invokevirtual 25, 3) := by decide +kernel
theorem dX1_remember_26 : decode cX1_remember 26 = .ok (.aload_n 0, 1) := by decide +kernel
theorem dX1_remember_27 : decode cX1_remember 27 = .ok (.dup, 1) := by decide +kernel
theorem dX1_remember_28 : decode cX1_remember 28 = .ok (.getfield 18, 3) := by decide +kernel
theorem dX1_remember_31 : decode cX1_remember 31 = .ok (.iconst 1, 1) := by decide +kernel
theorem dX1_remember_32 : decode cX1_remember 32 = .ok (.iadd, 1) := by decide +kernel
theorem dX1_remember_33 : decode cX1_remember 33 = .ok (.putfield 18, 3) := by decide +kernel
theorem dX1_remember_36 : decode cX1_remember 36 = .ok (.return_, 1) := by decide +kernel
theorem dX1_loseOldest_0 : decode cX1_loseOldest 0 = .ok (.aload_n 0, 1) := by decide +kernel
theorem dX1_loseOldest_1 : decode cX1_loseOldest 1 = .ok (.getfield 11, 3) := by decide +kernel
theorem dX1_loseOldest_4 : decode cX1_loseOldest 4 = .ok (.iconst 0, 1) := by decide +kernel
theorem dX1_loseOldest_5 : decode cX1_loseOldest 5 = .ok (.aaload, 1) := by decide +kernel
theorem dX1_loseOldest_6 : decode cX1_loseOldest 6 = .ok (.astore_n 1, 1) := by decide +kernel
theorem dX1_loseOldest_7 : decode cX1_loseOldest 7 = .ok (.iconst 1, 1) := by decide +kernel
theorem dX1_loseOldest_8 : decode cX1_loseOldest 8 = .ok (.istore_n 2, 1) := by decide +kernel
theorem dX1_loseOldest_9 : decode cX1_loseOldest 9 = .ok (.iload_n 2, 1) := by decide +kernel
theorem dX1_loseOldest_10 : decode cX1_loseOldest 10 = .ok (.bipush 6, 2) := by decide +kernel
theorem dX1_loseOldest_12 : decode cX1_loseOldest 12 = .ok (.if_icmp .ge 23, 3) := by decide +kernel
theorem dX1_loseOldest_15 : decode cX1_loseOldest 15 = .ok (.aload_n 0, 1) := by decide +kernel
theorem dX1_loseOldest_16 : decode cX1_loseOldest 16 = .ok (.getfield 11, 3) := by decide +kernel
theorem dX1_loseOldest_19 : decode cX1_loseOldest 19 = .ok (.iload_n 2, 1) := by decide +kernel
theorem dX1_loseOldest_20 : decode cX1_loseOldest 20 = .ok (.iconst 1, 1) := by decide +kernel
theorem dX1_loseOldest_21 : decode cX1_loseOldest 21 = .ok (.isub, 1) := by decide +kernel
theorem dX1_loseOldest_22 : decode cX1_loseOldest 22 = .ok (.aload_n 0, 1) := by decide +kernel
theorem dX1_loseOldest_23 : decode cX1_loseOldest 23 = .ok (.getfield 11, 3) := by decide +kernel
theorem dX1_loseOldest_26 : decode cX1_loseOldest 26 = .ok (.iload_n 2, 1) := by decide +kernel
theorem dX1_loseOldest_27 : decode cX1_loseOldest 27 = .ok (.aaload, 1) := by decide +kernel
theorem dX1_loseOldest_28 : decode cX1_loseOldest 28 = .ok (.aastore, 1) := by decide +kernel
theorem dX1_loseOldest_29 : decode cX1_loseOldest 29 = .ok (.iinc 2 1, 3) := by decide +kernel
theorem dX1_loseOldest_32 : decode cX1_loseOldest 32 = .ok (.goto (-23), 3) := by decide +kernel
theorem dX1_loseOldest_35 : decode cX1_loseOldest 35 = .ok (.aload_n 0, 1) := by decide +kernel
theorem dX1_loseOldest_36 : decode cX1_loseOldest 36 = .ok (.getfield 11, 3) := by decide +kernel
theorem dX1_loseOldest_39 : decode cX1_loseOldest 39 = .ok (.iconst 5, 1) := by decide +kernel
theorem dX1_loseOldest_40 : decode cX1_loseOldest 40 = .ok (.aload_n 1, 1) := by decide +kernel
theorem dX1_loseOldest_41 : decode cX1_loseOldest 41 = .ok (.aastore, 1) := by decide +kernel
theorem dX1_loseOldest_42 : decode cX1_loseOldest 42 = .ok (.aload_n 0, 1) := by decide +kernel
theorem dX1_loseOldest_43 : decode cX1_loseOldest 43 = .ok (.iconst 5, 1) := by decide +kernel
theorem dX1_loseOldest_44 : decode cX1_loseOldest 44 = .ok (.putfield 18, 3) := by decide +kernel
theorem dX1_loseOldest_47 : decode cX1_loseOldest 47 = .ok (.return_, 1) := by decide +kernel
set_option maxRecDepth 20000 in
theorem ggX1_recall_X0_copyFrom : GoodIn wsX1_recall wsX0_copyFrom := goodIn_r _ [7, 8, 9, 10, 11, 12, 13, 14, 15, 16, 17, 18, 21, 22, 23, 24, 25, 26, 27] (by decide +kernel) (by decide +kernel)
set_option maxRecDepth 20000 in
theorem gX1_recall_X0_copyFrom : GoodIn wsX1_recall (wsV RX1 25 RX0 yX0_copyFrom wsX0_copyFrom) := goodIn_app (goodIn_of _ (by decide +kernel)) ggX1_recall_X0_copyFrom
theorem dX1_recall_0 : decode cX1_recall 0 = .ok (.aload_n 0, 1) := by decide +kernel
theorem dX1_recall_1 : decode cX1_recall 1 = .ok (.getfield 18, 3) := by decide +kernel
theorem dX1_recall_4 : decode cX1_recall 4 = .ok (.ifCond .gt 5, 3) := by decide +kernel
theorem dX1_recall_7 : decode cX1_recall 7 = .ok (.iconst 0, 1) := by decide +kernel
theorem dX1_recall_8 : decode cX1_recall 8 = .ok (.ireturn, 1) := by decide +kernel
theorem dX1_recall_9 : decode cX1_recall 9 = .ok (.aload_n 0, 1) := by decide +kernel
theorem dX1_recall_10 : decode cX1_recall 10 = .ok (.dup, 1) := by decide +kernel
theorem dX1_recall_11 : decode cX1_recall 11 = .ok (.getfield 18, 3) := by decide +kernel
theorem dX1_recall_14 : decode cX1_recall 14 = .ok (.iconst 1, 1) := by decide +kernel
theorem dX1_recall_15 : decode cX1_recall 15 = .ok (.isub, 1) := by decide +kernel
theorem dX1_recall_16 : decode cX1_recall 16 = .ok (.putfield 18, 3) := by decide +kernel
theorem dX1_recall_19 : decode cX1_recall 19 = .ok (.aload_n 1, 1) := by decide +kernel
theorem dX1_recall_20 : decode cX1_recall 20 = .ok (.aload_n 0, 1) := by decide +kernel
theorem dX1_recall_21 : decode cX1_recall 21 = .ok (.getfield 11, 3) := by decide +kernel
theorem dX1_recall_24 : decode cX1_recall 24 = .ok (.aload_n 0, 1) := by decide +kernel
theorem dX1_recall_25 : decode cX1_recall 25 = .ok (.getfield 18, 3) := by decide +kernel
theorem dX1_recall_28 : decode cX1_recall 28 = .ok (.aaload, 1) := by decide +kernel
theorem dX1_recall_29 : decode cX1_recall 29 = .ok (.invokevirtual 25, 3) := by decide +kernel
theorem dX1_recall_32 : decode cX1_recall 32 = .ok (.iconst 1, 1) := by decide +kernel
theorem dX1_recall_33 : decode cX1_recall 33 = .ok (.ireturn, 1) := by decide +kernel
set_option maxRecDepth 20000 in
theorem ggX2_init_X0_init : GoodIn wsX2_init wsX0_init := goodIn_r _ [10, 11, 2, 3, 12, 13, 14, 15, 16, 6, 17, 18, 19, 20, 21, 22, 23, 24, 25, 26, 27, 28, 29, 30, 31, 32, 33, 34] (by decide +kernel) (by decide +kernel)
set_option maxRecDepth 20000 in
theorem gX2_init_X0_init : GoodIn wsX2_init (wsX0_init) := ggX2_init_X0_init
theorem dX2_init_0 : decode cX2_init 0 = .ok (.aload_n 0, 1) := by decide +kernel
theorem dX2_init_1 : decode cX2_init 1 = .ok (.invokespecial 3, 3) := by decide +kernel
theorem dX2_init_4 : decode cX2_init 4 = .ok (.aload_n 0, 1) := by decide +kernel
theorem dX2_init_5 : decode cX2_init 5 = .ok (.new 9, 3) := by decide +kernel
theorem dX2_init_8 : decode cX2_init 8 = .ok (.dup, 1) := by decide +kernel
theorem dX2_init_9 : decode cX2_init 9 = .ok (.invokespecial 11, 3) := by decide +kernel
theorem dX2_init_12 : decode cX2_init 12 = .ok (.putfield 12, 3) := by decide +kernel
theorem dX2_init_15 : decode cX2_init 15 = .ok (.return_, 1) := by decide +kernel
set_option maxRecDepth 20000 in
theorem ggX2_lookAt_X0_copyFrom : GoodIn wsX2_lookAt wsX0_copyFrom := goodIn_r _ [6, 7, 8, 9, 10, 11, 12, 13, 14, 15, 16, 17, 22, 23, 24, 25, 26, 27, 28] (by decide +kernel) (by decide +kernel)
set_option maxRecDepth 20000 in
theorem gX2_lookAt_X0_copyFrom : GoodIn wsX2_lookAt (wsV RX2 18 RX0 yX0_copyFrom wsX0_copyFrom) := goodIn_app (goodIn_of _ (by decide +kernel)) ggX2_lookAt_X0_copyFrom
theorem dX2_lookAt_0 : decode cX2_lookAt 0 = .ok (.aload_n 0, 1) := by decide +kernel
theorem dX2_lookAt_1 : decode cX2_lookAt 1 = .ok (.getfield 12, 3) := by decide +kernel
theorem dX2_lookAt_4 : decode cX2_lookAt 4 = .ok (.aload_n 1, 1) := by decide +kernel
theorem dX2_lookAt_5 : decode cX2_lookAt 5 = .ok (.invokevirtual 18, 3) := by decide +kernel
theorem dX2_lookAt_8 : decode cX2_lookAt 8 = .ok (.return_, 1) := by decide +kernel
set_option maxRecDepth 20000 in
theorem ggX2_find_X2_goOn : GoodIn wsX2_find wsX2_goOn := goodIn_r _ [9, 4, 10, 11, 12, 13, 14, 8, 15, 1, 16, 17, 18, 19, 2, 20, 21, 22, 23, 24, 25, 26, 27, 28, 29, 30, 31, 32, 33, 34, 35, 36, 37, 5, 6, 7, 38, 39, 40, 41, 42, 43, 44, 45, 46, 47, 48, 49, 50, 51, 52, 53, 54, 55, 56, 57, 58, 59, 60, 61, 62, 63, 64, 65, 66, 67, 68, 69, 70, 71, 72, 73, 74, 75, 76, 77, 78] (by decide +kernel) (by decide +kernel)
set_option maxRecDepth 20000 in
theorem gX2_find_X2_goOn : GoodIn wsX2_find (wsV RX2 33 RX2 yX2_goOn wsX2_goOn) := goodIn_app (goodIn_of _ (by decide +kernel)) ggX2_find_X2_goOn
theorem dX2_find_0 : decode cX2_find 0 = .ok (.aload_n 0, 1) := by decide +kernel
theorem dX2_find_1 : decode cX2_find 1 = .ok (.iload_n 1, 1) := by decide +kernel
theorem dX2_find_2 : decode cX2_find 2 = .ok (.putfield 22, 3) := by decide +kernel
theorem dX2_find_5 : decode cX2_find 5 = .ok (.aload_n 0, 1) := by decide +kernel
theorem dX2_find_6 : decode cX2_find 6 = .ok (.iconst 0, 1) := by decide +kernel
theorem dX2_find_7 : decode cX2_find 7 = .ok (.putfield 26, 3) := by decide +kernel
theorem dX2_find_10 : decode cX2_find 10 = .ok (.aload_n 0, 1) := by decide +kernel
theorem dX2_find_11 : decode cX2_find 11 = .ok (.ldc 29, 2) := by decide +kernel
theorem dX2_find_13 : decode cX2_find 13 = .ok (.putfield 30, 3) := by decide +kernel
theorem dX2_find_16 : decode cX2_find 16 = .ok (.aload_n 0, 1) := by decide +kernel
theorem dX2_find_17 : decode cX2_find 17 = .ok (.iconst 0, 1) := by decide +kernel
theorem dX2_find_18 : decode cX2_find 18 = .ok (.iconst 0, 1) := by decide +kernel
theorem dX2_find_19 : decode cX2_find 19 = .ok (.bipush (-9), 2) := by decide +kernel
theorem dX2_find_21 : decode cX2_find 21 = .ok (.bipush (-9), 2) := by decide +kernel
theorem dX2_find_23 : decode cX2_find 23 = .ok (.iconst 0, 1) := by decide +kernel
theorem dX2_find_24 : decode cX2_find 24 = .ok (.invokevirtual 33, 3) := by decide +kernel
theorem dX2_find_27 : decode cX2_find 27 = .ok (.aload_n 0, 1) := by decide +kernel
theorem dX2_find_28 : decode cX2_find 28 = .ok (.getfield 30, 3) := by decide +kernel
theorem dX2_find_31 : decode cX2_find 31 = .ok (.ldc 29, 2) := by decide +kernel
theorem dX2_find_33 : decode cX2_find 33 = .ok (.if_icmp .ge 7, 3) := by decide +kernel
theorem dX2_find_36 : decode cX2_find 36 = .ok (.iconst 1, 1) := by decide +kernel
theorem dX2_find_37 : decode cX2_find 37 = .ok (.goto 4, 3) := by decide +kernel
theorem dX2_find_40 : decode cX2_find 40 = .ok (.iconst 0, 1) := by decide +kernel
theorem dX2_find_41 : decode cX2_find 41 = .ok (.ireturn, 1) := by decide +kernel
set_option maxRecDepth 20000 in
theorem ggX2_goOn_X2_weigh : GoodIn wsX2_goOn wsX2_weigh := goodIn_r _ [8, 9, 2, 10, 11, 12, 13, 1, 14, 15, 16, 17, 18, 19, 20, 21, 22, 23, 24, 25, 26, 27, 66, 67, 68, 69, 70, 71, 72, 73, 74, 75, 76] (by decide +kernel) (by decide +kernel)
set_option maxRecDepth 20000 in
theorem gX2_goOn_X2_weigh : GoodIn wsX2_goOn (wsV RX2 40 RX2 yX2_weigh wsX2_weigh) := goodIn_app (goodIn_of _ (by decide +kernel)) ggX2_goOn_X2_weigh
set_option maxRecDepth 20000 in
theorem ggX2_goOn_X0_hasNote : GoodIn wsX2_goOn wsX0_hasNote := goodIn_r _ [31, 32, 20, 70, 71, 72, 73, 74, 75, 76] (by decide +kernel) (by decide +kernel)
set_option maxRecDepth 20000 in
theorem gX2_goOn_X0_hasNote : GoodIn wsX2_goOn (wsV RX2 44 RX0 yX0_hasNote wsX0_hasNote) := goodIn_app (goodIn_of _ (by decide +kernel)) ggX2_goOn_X0_hasNote
set_option maxRecDepth 20000 in
theorem ggX2_goOn_X2_goOn : GoodIn wsX2_goOn wsX2_goOn := goodIn_r _ [0, 1, 2, 3, 4, 5, 6, 7, 8, 9, 10, 11, 12, 13, 14, 15, 16, 17, 18, 19, 20, 21, 22, 23, 24, 25, 26, 27, 28, 29, 30, 31, 32, 33, 34, 35, 36, 37, 38, 39, 40, 41, 42, 43, 44, 45, 46, 47, 48, 49, 50, 51, 52, 53, 54, 55, 56, 57, 58, 59, 60, 61, 62, 63, 64, 65, 66, 67, 68, 69, 70, 71, 72, 73, 74, 75, 76] (by decide +kernel) (by decide +kernel)
set_option maxRecDepth 20000 in
theorem gX2_goOn_X2_goOn : GoodIn wsX2_goOn (wsV RX2 33 RX2 yX2_goOn wsX2_goOn) := goodIn_app (goodIn_of _ (by decide +kernel)) ggX2_goOn_X2_goOn
set_option maxRecDepth 20000 in
theorem ggX2_goOn_X0_mayStrike : GoodIn wsX2_goOn wsX0_mayStrike := goodIn_r _ [39, 40, 41, 42, 18, 43, 44, 45, 46, 47, 48, 49, 11, 12, 13, 50, 51, 52, 53, 54, 55, 70, 71, 72, 73, 74, 75, 76] (by decide +kernel) (by decide +kernel)
set_option maxRecDepth 20000 in
theorem gX2_goOn_X0_mayStrike : GoodIn wsX2_goOn (wsV RX2 48 RX0 yX0_mayStrike wsX0_mayStrike) := goodIn_app (goodIn_of _ (by decide +kernel)) ggX2_goOn_X0_mayStrike
set_option maxRecDepth 20000 in
theorem ggX2_goOn_X2_costAt : GoodIn wsX2_goOn wsX2_costAt := goodIn_r _ [59, 9, 2, 60, 61, 62, 63, 7, 64, 65, 28, 29, 30, 18, 31, 32, 20, 66, 67, 68, 69, 70, 71, 72, 73, 74, 75, 76] (by decide +kernel) (by decide +kernel)
set_option maxRecDepth 20000 in
theorem gX2_goOn_X2_costAt : GoodIn wsX2_goOn (wsV RX2 52 RX2 yX2_costAt wsX2_costAt) := goodIn_app (goodIn_of _ (by decide +kernel)) ggX2_goOn_X2_costAt
theorem dX2_goOn_0 : decode cX2_goOn 0 = .ok (.iload 5, 2) := by decide +kernel
theorem dX2_goOn_2 : decode cX2_goOn 2 = .ok (.aload_n 0, 1) := by decide +kernel
theorem dX2_goOn_3 : decode cX2_goOn 3 = .ok (.getfield 30, 3) := by decide +kernel
theorem dX2_goOn_6 : decode cX2_goOn 6 = .ok (.if_icmp .lt 4, 3) := by decide +kernel
theorem dX2_goOn_9 : decode cX2_goOn 9 = .ok (.return_, 1) := by decide +kernel
theorem dX2_goOn_10 : decode cX2_goOn 10 = .ok (.iload_n 1, 1) := by decide +kernel
theorem dX2_goOn_11 : decode cX2_goOn 11 = .ok (.aload_n 0, 1) := by decide +kernel
theorem dX2_goOn_12 : decode cX2_goOn 12 = .ok (.getfield 12, 3) := by decide +kernel
theorem dX2_goOn_15 : decode cX2_goOn 15 = .ok (.getfield 37, 3) := by decide +kernel
theorem dX2_goOn_18 : decode cX2_goOn 18 = .ok (.if_icmp .lt 11, 3) := by decide +kernel
theorem dX2_goOn_21 : decode cX2_goOn 21 = .ok (.aload_n 0, 1) := by decide +kernel
theorem dX2_goOn_22 : decode cX2_goOn 22 = .ok (.iload_n 2, 1) := by decide +kernel
theorem dX2_goOn_23 : decode cX2_goOn 23 = .ok (.iload 5, 2) := by decide +kernel
theorem dX2_goOn_25 : decode cX2_goOn 25 = .ok (.invokevirtual 40, 3) := by decide +kernel
theorem dX2_goOn_28 : decode cX2_goOn 28 = .ok (.return_, 1) := by decide +kernel
theorem dX2_goOn_29 : decode cX2_goOn 29 = .ok (.aload_n 0, 1) := by decide +kernel
theorem dX2_goOn_30 : decode cX2_goOn 30 = .ok (.getfield 12, 3) := by decide +kernel
theorem dX2_goOn_33 : decode cX2_goOn 33 = .ok (.iload_n 1, 1) := by decide +kernel
theorem dX2_goOn_34 : decode cX2_goOn 34 = .ok (.invokevirtual 44, 3) := by decide +kernel
theorem dX2_goOn_37 : decode cX2_goOn 37 = .ok (.ifCond .ne 17, 3) := by decide +kernel
theorem dX2_goOn_40 : decode cX2_goOn 40 = .ok (.aload_n 0, 1) := by decide +kernel
theorem dX2_goOn_41 : decode cX2_goOn 41 = .ok (.iload_n 1, 1) := by decide +kernel
theorem dX2_goOn_42 : decode cX2_goOn 42 = .ok (.iconst 1, 1) := by decide +kernel
theorem dX2_goOn_43 : decode cX2_goOn 43 = .ok (.iadd, 1) := by decide +kernel
theorem dX2_goOn_44 : decode cX2_goOn 44 = .ok (.iload_n 2, 1) := by decide +kernel
theorem dX2_goOn_45 : decode cX2_goOn 45 = .ok (.iload_n 3, 1) := by decide +kernel
theorem dX2_goOn_46 : decode cX2_goOn 46 = .ok (.iload 4, 2) := by decide +kernel
theorem dX2_goOn_48 : decode cX2_goOn 48 = .ok (.iload 5, 2) := by decide +kernel
theorem dX2_goOn_50 : decode cX2_goOn 50 = .ok (.invokevirtual 33, 3) := by decide +kernel
theorem dX2_goOn_53 : decode cX2_goOn 53 = .ok (.return_, 1) := by decide +kernel
theorem dX2_goOn_54 : decode cX2_goOn 54 = .ok (.aload_n 0, 1) := by decide +kernel
theorem dX2_goOn_55 : decode cX2_goOn 55 = .ok (.getfield 12, 3) := by decide +kernel
theorem dX2_goOn_58 : decode cX2_goOn 58 = .ok (.iload_n 3, 1) := by decide +kernel
theorem dX2_goOn_59 : decode cX2_goOn 59 = .ok (.iload_n 1, 1) := by decide +kernel
theorem dX2_goOn_60 : decode cX2_goOn 60 = .ok (.invokevirtual 48, 3) := by decide +kernel
theorem dX2_goOn_63 : decode cX2_goOn 63 = .ok (.ifCond .eq 23, 3) := by decide +kernel
theorem dX2_goOn_66 : decode cX2_goOn 66 = .ok (.aload_n 0, 1) := by decide +kernel
theorem dX2_goOn_67 : decode cX2_goOn 67 = .ok (.iload_n 1, 1) := by decide +kernel
theorem dX2_goOn_68 : decode cX2_goOn 68 = .ok (.iconst 1, 1) := by decide +kernel
theorem dX2_goOn_69 : decode cX2_goOn 69 = .ok (.iadd, 1) := by decide +kernel
theorem dX2_goOn_70 : decode cX2_goOn 70 = .ok (.iload_n 2, 1) := by decide +kernel
theorem dX2_goOn_71 : decode cX2_goOn 71 = .ok (.iload_n 1, 1) := by decide +kernel
theorem dX2_goOn_72 : decode cX2_goOn 72 = .ok (.iload 4, 2) := by decide +kernel
theorem dX2_goOn_74 : decode cX2_goOn 74 = .ok (.iload 5, 2) := by decide +kernel
theorem dX2_goOn_76 : decode cX2_goOn 76 = .ok (.aload_n 0, 1) := by decide +kernel
theorem dX2_goOn_77 : decode cX2_goOn 77 = .ok (.iload_n 1, 1) := by decide +kernel
theorem dX2_goOn_78 : decode cX2_goOn 78 = .ok (.iload_n 2, 1) := by decide +kernel
theorem dX2_goOn_79 : decode cX2_goOn 79 = .ok (.invokevirtual 52, 3) := by decide +kernel
theorem dX2_goOn_82 : decode cX2_goOn 82 = .ok (.iadd, 1) := by decide +kernel
theorem dX2_goOn_83 : decode cX2_goOn 83 = .ok (.invokevirtual 33, 3) := by decide +kernel
theorem dX2_goOn_86 : decode cX2_goOn 86 = .ok (.aload_n 0, 1) := by decide +kernel
theorem dX2_goOn_87 : decode cX2_goOn 87 = .ok (.getfield 12, 3) := by decide +kernel
theorem dX2_goOn_90 : decode cX2_goOn 90 = .ok (.iload 4, 2) := by decide +kernel
theorem dX2_goOn_92 : decode cX2_goOn 92 = .ok (.iload_n 1, 1) := by decide +kernel
theorem dX2_goOn_93 : decode cX2_goOn 93 = .ok (.invokevirtual 48, 3) := by decide +kernel
theorem dX2_goOn_96 : decode cX2_goOn 96 = .ok (.ifCond .eq 31, 3) := by decide +kernel
theorem dX2_goOn_99 : decode cX2_goOn 99 = .ok (.iload_n 2, 1) := by decide +kernel
theorem dX2_goOn_100 : decode cX2_goOn 100 = .ok (.iconst 1, 1) := by decide +kernel
theorem dX2_goOn_101 : decode cX2_goOn 101 = .ok (.iload_n 1, 1) := by decide +kernel
theorem dX2_goOn_102 : decode cX2_goOn 102 = .ok (.ishl, 1) := by decide +kernel
theorem dX2_goOn_103 : decode cX2_goOn 103 = .ok (.ior, 1) := by decide +kernel
theorem dX2_goOn_104 : decode cX2_goOn 104 = .ok (.istore 6, 2) := by decide +kernel
theorem dX2_goOn_106 : decode cX2_goOn 106 = .ok (.aload_n 0, 1) := by decide +kernel
theorem dX2_goOn_107 : decode cX2_goOn 107 = .ok (.iload_n 1, 1) := by decide +kernel
theorem dX2_goOn_108 : decode cX2_goOn 108 = .ok (.iconst 1, 1) := by decide +kernel
theorem dX2_goOn_109 : decode cX2_goOn 109 = .ok (.iadd, 1) := by decide +kernel
theorem dX2_goOn_110 : decode cX2_goOn 110 = .ok (.iload 6, 2) := by decide +kernel
theorem dX2_goOn_112 : decode cX2_goOn 112 = .ok (.iload_n 3, 1) := by decide +kernel
theorem dX2_goOn_113 : decode cX2_goOn 113 = .ok (.iload_n 1, 1) := by decide +kernel
theorem dX2_goOn_114 : decode cX2_goOn 114 = .ok (.iload 5, 2) := by decide +kernel
theorem dX2_goOn_116 : decode cX2_goOn 116 = .ok (.aload_n 0, 1) := by decide +kernel
theorem dX2_goOn_117 : decode cX2_goOn 117 = .ok (.iload_n 1, 1) := by decide +kernel
theorem dX2_goOn_118 : decode cX2_goOn 118 = .ok (.iload 6, 2) := by decide +kernel
theorem dX2_goOn_120 : decode cX2_goOn 120 = .ok (.invokevirtual 52, 3) := by decide +kernel
theorem dX2_goOn_123 : decode cX2_goOn 123 = .ok (.iadd, 1) := by decide +kernel
theorem dX2_goOn_124 : decode cX2_goOn 124 = .ok (.invokevirtual 33, 3) := by decide +kernel
theorem dX2_goOn_127 : decode cX2_goOn 127 = .ok (.return_, 1) := by decide +kernel
set_option maxRecDepth 20000 in
theorem ggX2_costAt_X2_isUnlike : GoodIn wsX2_costAt wsX2_isUnlike := goodIn_r _ [8, 2, 9, 10, 11, 12, 13, 14, 15, 16, 17, 18, 19, 20, 21, 22, 23, 24, 25, 26, 27] (by decide +kernel) (by decide +kernel)
set_option maxRecDepth 20000 in
theorem gX2_costAt_X2_isUnlike : GoodIn wsX2_costAt (wsV RX2 56 RX2 yX2_isUnlike wsX2_isUnlike) := goodIn_app (goodIn_of _ (by decide +kernel)) ggX2_costAt_X2_isUnlike
theorem dX2_costAt_0 : decode cX2_costAt 0 = .ok (.aload_n 0, 1) := by decide +kernel
theorem dX2_costAt_1 : decode cX2_costAt 1 = .ok (.getfield 22, 3) := by decide +kernel
theorem dX2_costAt_4 : decode cX2_costAt 4 = .ok (.lookupswitch 58 #[(1, 28), (2, 44)], 28) := by decide +kernel
theorem dX2_costAt_32 : decode cX2_costAt 32 = .ok (.aload_n 0, 1) := by decide +kernel
theorem dX2_costAt_33 : decode cX2_costAt 33 = .ok (.iload_n 1, 1) := by decide +kernel
theorem dX2_costAt_34 : decode cX2_costAt 34 = .ok (.iload_n 2, 1) := by decide +kernel
theorem dX2_costAt_35 : decode cX2_costAt 35 = .ok (.invokevirtual 56, 3) := by decide +kernel
theorem dX2_costAt_38 : decode cX2_costAt 38 = .ok (.ifCond .eq 8, 3) := by decide +kernel
theorem dX2_costAt_41 : decode cX2_costAt 41 = .ok (.bipush 100, 2) := by decide +kernel
theorem dX2_costAt_43 : decode cX2_costAt 43 = .ok (.goto 4, 3) := by decide +kernel
theorem dX2_costAt_46 : decode cX2_costAt 46 = .ok (.iconst 0, 1) := by decide +kernel
theorem dX2_costAt_47 : decode cX2_costAt 47 = .ok (.ireturn, 1) := by decide +kernel
theorem dX2_costAt_48 : decode cX2_costAt 48 = .ok (.iload_n 2, 1) := by decide +kernel
theorem dX2_costAt_49 : decode cX2_costAt 49 = .ok (.aload_n 0, 1) := by decide +kernel
theorem dX2_costAt_50 : decode cX2_costAt 50 = .ok (.getfield 12, 3) := by decide +kernel
theorem dX2_costAt_53 : decode cX2_costAt 53 = .ok (.getfield 59, 3) := by decide +kernel
theorem dX2_costAt_56 : decode cX2_costAt 56 = .ok (.ixor, 1) := by decide +kernel
theorem dX2_costAt_57 : decode cX2_costAt 57 = .ok (.iload_n 1, 1) := by decide +kernel
theorem dX2_costAt_58 : decode cX2_costAt 58 = .ok (.ishr, 1) := by decide +kernel
theorem dX2_costAt_59 : decode cX2_costAt 59 = .ok (.iconst 1, 1) := by decide +kernel
theorem dX2_costAt_60 : decode cX2_costAt 60 = .ok (.iand, 1) := by decide +kernel
theorem dX2_costAt_61 : decode cX2_costAt 61 = .ok (.ireturn, 1) := by decide +kernel
theorem dX2_costAt_62 : decode cX2_costAt 62 = .ok (.iconst 0, 1) := by decide +kernel
theorem dX2_costAt_63 : decode cX2_costAt 63 = .ok (.ireturn, 1) := by decide +kernel
set_option maxRecDepth 20000 in
theorem ggX2_isUnlike_X0_hasNote : GoodIn wsX2_isUnlike wsX0_hasNote := goodIn_r _ [7, 8, 9, 14, 15, 16, 17, 18, 19, 20] (by decide +kernel) (by decide +kernel)
set_option maxRecDepth 20000 in
theorem gX2_isUnlike_X0_hasNote : GoodIn wsX2_isUnlike (wsV RX2 44 RX0 yX0_hasNote wsX0_hasNote) := goodIn_app (goodIn_of _ (by decide +kernel)) ggX2_isUnlike_X0_hasNote
theorem dX2_isUnlike_0 : decode cX2_isUnlike 0 = .ok (.iload_n 1, 1) := by decide +kernel
theorem dX2_isUnlike_1 : decode cX2_isUnlike 1 = .ok (.aload_n 0, 1) := by decide +kernel
theorem dX2_isUnlike_2 : decode cX2_isUnlike 2 = .ok (.getfield 12, 3) := by decide +kernel
theorem dX2_isUnlike_5 : decode cX2_isUnlike 5 = .ok (.getfield 62, 3) := by decide +kernel
theorem dX2_isUnlike_8 : decode cX2_isUnlike 8 = .ok (.isub, 1) := by decide +kernel
theorem dX2_isUnlike_9 : decode cX2_isUnlike 9 = .ok (.istore_n 3, 1) := by decide +kernel
theorem dX2_isUnlike_10 : decode cX2_isUnlike 10 = .ok (.aload_n 0, 1) := by decide +kernel
theorem dX2_isUnlike_11 : decode cX2_isUnlike 11 = .ok (.getfield 12, 3) := by decide +kernel
theorem dX2_isUnlike_14 : decode cX2_isUnlike 14 = .ok (.iload_n 3, 1) := by decide +kernel
theorem dX2_isUnlike_15 : decode cX2_isUnlike 15 = .ok (.invokevirtual 44, 3) := by decide +kernel
theorem dX2_isUnlike_18 : decode cX2_isUnlike 18 = .ok (.ifCond .eq 20, 3) := by decide +kernel
theorem dX2_isUnlike_21 : decode cX2_isUnlike 21 = .ok (.iload_n 2, 1) := by decide +kernel
theorem dX2_isUnlike_22 : decode cX2_isUnlike 22 = .ok (.iload_n 1, 1) := by decide +kernel
theorem dX2_isUnlike_23 : decode cX2_isUnlike 23 = .ok (.ishr, 1) := by decide +kernel
theorem dX2_isUnlike_24 : decode cX2_isUnlike 24 = .ok (.iconst 1, 1) := by decide +kernel
theorem dX2_isUnlike_25 : decode cX2_isUnlike 25 = .ok (.iand, 1) := by decide +kernel
theorem dX2_isUnlike_26 : decode cX2_isUnlike 26 = .ok (.iload_n 2, 1) := by decide +kernel
theorem dX2_isUnlike_27 : decode cX2_isUnlike 27 = .ok (.iload_n 3, 1) := by decide +kernel
theorem dX2_isUnlike_28 : decode cX2_isUnlike 28 = .ok (.ishr, 1) := by decide +kernel
theorem dX2_isUnlike_29 : decode cX2_isUnlike 29 = .ok (.iconst 1, 1) := by decide +kernel
theorem dX2_isUnlike_30 : decode cX2_isUnlike 30 = .ok (.iand, 1) := by decide +kernel
theorem dX2_isUnlike_31 : decode cX2_isUnlike 31 = .ok (.if_icmp .eq 7, 3) := by decide +kernel
theorem dX2_isUnlike_34 : decode cX2_isUnlike 34 = .ok (.iconst 1, 1) := by decide +kernel
theorem dX2_isUnlike_35 : decode cX2_isUnlike 35 = .ok (.goto 4, 3) := by decide +kernel
theorem dX2_isUnlike_38 : decode cX2_isUnlike 38 = .ok (.iconst 0, 1) := by decide +kernel
theorem dX2_isUnlike_39 : decode cX2_isUnlike 39 = .ok (.ireturn, 1) := by decide +kernel
set_option maxRecDepth 20000 in
theorem ggX2_weigh_X0_tilt : GoodIn wsX2_weigh wsX0_tilt := goodIn_r _ [13, 14, 15, 16, 17, 18, 19, 20, 21, 26, 27, 28, 29, 30, 31, 32] (by decide +kernel) (by decide +kernel)
set_option maxRecDepth 20000 in
theorem gX2_weigh_X0_tilt : GoodIn wsX2_weigh (wsV RX2 65 RX0 yX0_tilt wsX0_tilt) := goodIn_app (goodIn_of _ (by decide +kernel)) ggX2_weigh_X0_tilt
theorem dX2_weigh_0 : decode cX2_weigh 0 = .ok (.aload_n 0, 1) := by decide +kernel
theorem dX2_weigh_1 : decode cX2_weigh 1 = .ok (.getfield 22, 3) := by decide +kernel
theorem dX2_weigh_4 : decode cX2_weigh 4 = .ok (.iconst 1, 1) := by decide +kernel
theorem dX2_weigh_5 : decode cX2_weigh 5 = .ok (.if_icmp .ne 19, 3) := by decide +kernel
theorem dX2_weigh_8 : decode cX2_weigh 8 = .ok (.iload_n 2, 1) := by decide +kernel
theorem dX2_weigh_9 : decode cX2_weigh 9 = .ok (.aload_n 0, 1) := by decide +kernel
theorem dX2_weigh_10 : decode cX2_weigh 10 = .ok (.getfield 12, 3) := by decide +kernel
theorem dX2_weigh_13 : decode cX2_weigh 13 = .ok (.iload_n 1, 1) := by decide +kernel
theorem dX2_weigh_14 : decode cX2_weigh 14 = .ok (.invokevirtual 65, 3) := by decide +kernel
theorem dX2_weigh_17 : decode cX2_weigh 17 = .ok (.invokestatic 69, 3) := by decide +kernel
theorem dX2_weigh_20 : decode cX2_weigh 20 = .ok (.iadd, 1) := by decide +kernel
theorem dX2_weigh_21 : decode cX2_weigh 21 = .ok (.goto 4, 3) := by decide +kernel
theorem dX2_weigh_24 : decode cX2_weigh 24 = .ok (.iload_n 2, 1) := by decide +kernel
theorem dX2_weigh_25 : decode cX2_weigh 25 = .ok (.istore_n 3, 1) := by decide +kernel
theorem dX2_weigh_26 : decode cX2_weigh 26 = .ok (.iload_n 3, 1) := by decide +kernel
theorem dX2_weigh_27 : decode cX2_weigh 27 = .ok (.aload_n 0, 1) := by decide +kernel
theorem dX2_weigh_28 : decode cX2_weigh 28 = .ok (.getfield 30, 3) := by decide +kernel
theorem dX2_weigh_31 : decode cX2_weigh 31 = .ok (.if_icmp .ge 13, 3) := by decide +kernel
theorem dX2_weigh_34 : decode cX2_weigh 34 = .ok (.aload_n 0, 1) := by decide +kernel
theorem dX2_weigh_35 : decode cX2_weigh 35 = .ok (.iload_n 3, 1) := by decide +kernel
theorem dX2_weigh_36 : decode cX2_weigh 36 = .ok (.putfield 30, 3) := by decide +kernel
theorem dX2_weigh_39 : decode cX2_weigh 39 = .ok (.aload_n 0, 1) := by decide +kernel
theorem dX2_weigh_40 : decode cX2_weigh 40 = .ok (.iload_n 1, 1) := by decide +kernel
theorem dX2_weigh_41 : decode cX2_weigh 41 = .ok (.putfield 26, 3) := by decide +kernel
theorem dX2_weigh_44 : decode cX2_weigh 44 = .ok (.return_, 1) := by decide +kernel
theorem dX3_init_0 : decode cX3_init 0 = .ok (.aload_n 0, 1) := by decide +kernel
theorem dX3_init_1 : decode cX3_init 1 = .ok (.invokespecial 3, 3) := by decide +kernel
theorem dX3_init_4 : decode cX3_init 4 = .ok (.aload_n 0, 1) := by decide +kernel
theorem dX3_init_5 : decode cX3_init 5 = .ok (.bipush 12, 2) := by decide +kernel
theorem dX3_init_7 : decode cX3_init 7 = .ok (.newarray .int, 2) := by decide +kernel
theorem dX3_init_9 : decode cX3_init 9 = .ok (.putfield 9, 3) := by decide +kernel
theorem dX3_init_12 : decode cX3_init 12 = .ok (.return_, 1) := by decide +kernel
set_option maxRecDepth 20000 in
theorem ggX3_gather_J7_fill_53178 : GoodIn wsX3_gather wsJ7_fill_53178 := goodIn_r _ [8] (by decide +kernel) (by decide +kernel)
set_option maxRecDepth 20000 in
theorem gX3_gather_J7_fill_53178 : GoodIn wsX3_gather (va_wsS RX3 22 yJ7_fill_53178 wsJ7_fill_53178) := goodIn_app (goodIn_of _ (by decide +kernel)) ggX3_gather_J7_fill_53178
set_option maxRecDepth 20000 in
theorem ggX3_gather_X0_pitchesUsed : GoodIn wsX3_gather wsX0_pitchesUsed := goodIn_r _ [13, 14, 15, 16, 17, 12, 18, 19, 20, 21, 22, 23, 24, 59, 60, 61, 62, 63, 64, 65] (by decide +kernel) (by decide +kernel)
set_option maxRecDepth 20000 in
theorem gX3_gather_X0_pitchesUsed : GoodIn wsX3_gather (wsV RX3 28 RX0 yX0_pitchesUsed wsX0_pitchesUsed) := goodIn_app (goodIn_of _ (by decide +kernel)) ggX3_gather_X0_pitchesUsed
set_option maxRecDepth 20000 in
theorem ggX3_gather_X0_shareByTable : GoodIn wsX3_gather wsX0_shareByTable := goodIn_r _ [28, 14, 15, 16, 17, 12, 18, 19, 20, 21, 22, 23, 24, 59, 60, 61, 62, 63, 64, 65] (by decide +kernel) (by decide +kernel)
set_option maxRecDepth 20000 in
theorem gX3_gather_X0_shareByTable : GoodIn wsX3_gather (wsV RX3 34 RX0 yX0_shareByTable wsX0_shareByTable) := goodIn_app (goodIn_of _ (by decide +kernel)) ggX3_gather_X0_shareByTable
set_option maxRecDepth 20000 in
theorem ggX3_gather_X0_isLawful : GoodIn wsX3_gather wsX0_isLawful := goodIn_r _ [32, 14, 15, 16, 17, 12, 18, 19, 33, 34, 35, 36, 37, 38, 39, 40, 41, 42, 43, 44, 45, 46, 47, 48, 49, 50, 20, 21, 22, 23, 24, 59, 60, 61, 62, 63, 64, 65] (by decide +kernel) (by decide +kernel)
set_option maxRecDepth 20000 in
theorem gX3_gather_X0_isLawful : GoodIn wsX3_gather (wsV RX3 41 RX0 yX0_isLawful wsX0_isLawful) := goodIn_app (goodIn_of _ (by decide +kernel)) ggX3_gather_X0_isLawful
set_option maxRecDepth 20000 in
theorem ggX3_gather_X3_include : GoodIn wsX3_gather wsX3_include := goodIn_r _ [55, 1, 2, 3, 56, 57, 58] (by decide +kernel) (by decide +kernel)
set_option maxRecDepth 20000 in
theorem gX3_gather_X3_include : GoodIn wsX3_gather (wsV RX3 45 RX3 yX3_include wsX3_include) := goodIn_app (goodIn_of _ (by decide +kernel)) ggX3_gather_X3_include
theorem dX3_gather_0 : decode cX3_gather 0 = .ok (.aload_n 0, 1) := by decide +kernel
theorem dX3_gather_1 : decode cX3_gather 1 = .ok (.iconst 0, 1) := by decide +kernel
theorem dX3_gather_2 : decode cX3_gather 2 = .ok (.putfield 15, 3) := by decide +kernel
theorem dX3_gather_5 : decode cX3_gather 5 = .ok (.aload_n 0, 1) := by decide +kernel
theorem dX3_gather_6 : decode cX3_gather 6 = .ok (.bipush (-9), 2) := by decide +kernel
theorem dX3_gather_8 : decode cX3_gather 8 = .ok (.putfield 19, 3) := by decide +kernel
theorem dX3_gather_11 : decode cX3_gather 11 = .ok (.aload_n 0, 1) := by decide +kernel
theorem dX3_gather_12 : decode cX3_gather 12 = .ok (.getfield 9, 3) := by decide +kernel
theorem dX3_gather_15 : decode cX3_gather 15 = .ok (.iconst 0, 1) := by decide +kernel
theorem dX3_gather_16 : decode cX3_gather 16 = .ok (.invokestatic 22, 3) := by decide +kernel
theorem dX3_gather_19 : decode cX3_gather 19 = .ok (.aload_n 1, 1) := by decide +kernel
theorem dX3_gather_20 : decode cX3_gather 20 = .ok (.invokevirtual 28, 3) := by decide +kernel
theorem dX3_gather_23 : decode cX3_gather 23 = .ok (.iconst (-1), 1) := by decide +kernel
theorem dX3_gather_24 : decode cX3_gather 24 = .ok (.ixor, 1) := by decide +kernel
theorem dX3_gather_25 : decode cX3_gather 25 = .ok (.istore 4, 2) := by decide +kernel
theorem dX3_gather_27 : decode cX3_gather 27 = .ok (.iconst 0, 1) := by decide +kernel
theorem dX3_gather_28 : decode cX3_gather 28 = .ok (.istore 5, 2) := by decide +kernel
theorem dX3_gather_30 : decode cX3_gather 30 = .ok (.iload 5, 2) := by decide +kernel
theorem dX3_gather_32 : decode cX3_gather 32 = .ok (.sipush 128, 3) := by decide +kernel
theorem dX3_gather_35 : decode cX3_gather 35 = .ok (.if_icmp .ge 82, 3) := by decide +kernel
theorem dX3_gather_38 : decode cX3_gather 38 = .ok (.iload 5, 2) := by decide +kernel
theorem dX3_gather_40 : decode cX3_gather 40 = .ok (.iload 4, 2) := by decide +kernel
theorem dX3_gather_42 : decode cX3_gather 42 = .ok (.iand, 1) := by decide +kernel
theorem dX3_gather_43 : decode cX3_gather 43 = .ok (.ifCond .eq 6, 3) := by decide +kernel
theorem dX3_gather_46 : decode cX3_gather 46 = .ok (.goto 65, 3) := by decide +kernel
theorem dX3_gather_49 : decode cX3_gather 49 = .ok (.aload_n 1, 1) := by decide +kernel
theorem dX3_gather_50 : decode cX3_gather 50 = .ok (.iload 5, 2) := by decide +kernel
theorem dX3_gather_52 : decode cX3_gather 52 = .ok (.invokevirtual 34, 3) := by decide +kernel
theorem dX3_gather_55 : decode cX3_gather 55 = .ok (.istore 6, 2) := by decide +kernel
theorem dX3_gather_57 : decode cX3_gather 57 = .ok (.iload_n 2, 1) := by decide +kernel
theorem dX3_gather_58 : decode cX3_gather 58 = .ok (.aload_n 1, 1) := by decide +kernel
theorem dX3_gather_59 : decode cX3_gather 59 = .ok (.getfield 38, 3) := by decide +kernel
theorem dX3_gather_62 : decode cX3_gather 62 = .ok (.iload 6, 2) := by decide +kernel
theorem dX3_gather_64 : decode cX3_gather 64 = .ok (.iconst (-1), 1) := by decide +kernel
theorem dX3_gather_65 : decode cX3_gather 65 = .ok (.ixor, 1) := by decide +kernel
theorem dX3_gather_66 : decode cX3_gather 66 = .ok (.iand, 1) := by decide +kernel
theorem dX3_gather_67 : decode cX3_gather 67 = .ok (.iconst (-1), 1) := by decide +kernel
theorem dX3_gather_68 : decode cX3_gather 68 = .ok (.ixor, 1) := by decide +kernel
theorem dX3_gather_69 : decode cX3_gather 69 = .ok (.iand, 1) := by decide +kernel
theorem dX3_gather_70 : decode cX3_gather 70 = .ok (.ifCond .ne 16, 3) := by decide +kernel
theorem dX3_gather_73 : decode cX3_gather 73 = .ok (.iload_n 3, 1) := by decide +kernel
theorem dX3_gather_74 : decode cX3_gather 74 = .ok (.iload 6, 2) := by decide +kernel
theorem dX3_gather_76 : decode cX3_gather 76 = .ok (.iconst (-1), 1) := by decide +kernel
theorem dX3_gather_77 : decode cX3_gather 77 = .ok (.ixor, 1) := by decide +kernel
theorem dX3_gather_78 : decode cX3_gather 78 = .ok (.iand, 1) := by decide +kernel
theorem dX3_gather_79 : decode cX3_gather 79 = .ok (.ifCond .ne 7, 3) := by decide +kernel
theorem dX3_gather_82 : decode cX3_gather 82 = .ok (.iconst 1, 1) := by decide +kernel
theorem dX3_gather_83 : decode cX3_gather 83 = .ok (.goto 4, 3) := by decide +kernel
theorem dX3_gather_86 : decode cX3_gather 86 = .ok (.iconst 0, 1) := by decide +kernel
theorem dX3_gather_87 : decode cX3_gather 87 = .ok (.istore 7, 2) := by decide +kernel
theorem dX3_gather_89 : decode cX3_gather 89 = .ok (.iload 7, 2) := by decide +kernel
theorem dX3_gather_91 : decode cX3_gather 91 = .ok (.ifCond .eq 20, 3) := by decide +kernel
theorem dX3_gather_94 : decode cX3_gather 94 = .ok (.aload_n 1, 1) := by decide +kernel
theorem dX3_gather_95 : decode cX3_gather 95 = .ok (.iload 6, 2) := by decide +kernel
theorem dX3_gather_97 : decode cX3_gather 97 = .ok (.invokevirtual 41, 3) := by decide +kernel
theorem dX3_gather_100 : decode cX3_gather 100 = .ok (.ifCond .eq 11, 3) := by decide +kernel
theorem dX3_gather_103 : decode cX3_gather 103 = .ok (.aload_n 0, 1) := by decide +kernel
theorem dX3_gather_104 : decode cX3_gather 104 = .ok (.iload 5, 2) := by decide +kernel
theorem dX3_gather_106 : decode cX3_gather 106 = .ok (.iload 6, 2) := by decide +kernel
theorem dX3_gather_108 : decode cX3_gather 108 = .ok (.invokevirtual 45, 3) := by decide +kernel
theorem dX3_gather_111 : decode cX3_gather 111 = .ok (.iinc 5 1, 3) := by decide +kernel
theorem dX3_gather_114 : decode cX3_gather 114 = .ok (.goto (-84), 3) := by decide +kernel
theorem dX3_gather_117 : decode cX3_gather 117 = .ok (.return_, 1) := by decide +kernel
theorem dX3_include_0 : decode cX3_include 0 = .ok (.aload_n 0, 1) := by decide +kernel
theorem dX3_include_1 : decode cX3_include 1 = .ok (.getfield 15, 3) := by decide +kernel
theorem dX3_include_4 : decode cX3_include 4 = .ok (.ifCond .ne 8, 3) := by decide +kernel
theorem dX3_include_7 : decode cX3_include 7 = .ok (.aload_n 0, 1) := by decide +kernel
theorem dX3_include_8 : decode cX3_include 8 = .ok (.iload_n 1, 1) := by decide +kernel
theorem dX3_include_9 : decode cX3_include 9 = .ok (.putfield 19, 3) := by decide +kernel
theorem dX3_include_12 : decode cX3_include 12 = .ok (.aload_n 0, 1) := by decide +kernel
theorem dX3_include_13 : decode cX3_include 13 = .ok (.dup, 1) := by decide +kernel
theorem dX3_include_14 : decode cX3_include 14 = .ok (.getfield 15, 3) := by decide +kernel
theorem dX3_include_17 : decode cX3_include 17 = .ok (.iconst 1, 1) := by decide +kernel
theorem dX3_include_18 : decode cX3_include 18 = .ok (.iadd, 1) := by decide +kernel
theorem dX3_include_19 : decode cX3_include 19 = .ok (.putfield 15, 3) := by decide +kernel
theorem dX3_include_22 : decode cX3_include 22 = .ok (.iconst 0, 1) := by decide +kernel
theorem dX3_include_23 : decode cX3_include 23 = .ok (.istore_n 3, 1) := by decide +kernel
theorem dX3_include_24 : decode cX3_include 24 = .ok (.iload_n 3, 1) := by decide +kernel
theorem dX3_include_25 : decode cX3_include 25 = .ok (.bipush 12, 2) := by decide +kernel
theorem dX3_include_27 : decode cX3_include 27 = .ok (.if_icmp .ge 23, 3) := by decide +kernel
theorem dX3_include_30 : decode cX3_include 30 = .ok (.aload_n 0, 1) := by decide +kernel
theorem dX3_include_31 : decode cX3_include 31 = .ok (.getfield 9, 3) := by decide +kernel
theorem dX3_include_34 : decode cX3_include 34 = .ok (.iload_n 3, 1) := by decide +kernel
theorem dX3_include_35 : decode cX3_include 35 = .ok (.dup2, 1) := by decide +kernel
theorem dX3_include_36 : decode cX3_include 36 = .ok (.iaload, 1) := by decide +kernel
theorem dX3_include_37 : decode cX3_include 37 = .ok (.iload_n 2, 1) := by decide +kernel
theorem dX3_include_38 : decode cX3_include 38 = .ok (.iload_n 3, 1) := by decide +kernel
theorem dX3_include_39 : decode cX3_include 39 = .ok (.ishr, 1) := by decide +kernel
theorem dX3_include_40 : decode cX3_include 40 = .ok (.iconst 1, 1) := by decide +kernel
theorem dX3_include_41 : decode cX3_include 41 = .ok (.iand, 1) := by decide +kernel
theorem dX3_include_42 : decode cX3_include 42 = .ok (.iadd, 1) := by decide +kernel
theorem dX3_include_43 : decode cX3_include 43 = .ok (.iastore, 1) := by decide +kernel
theorem dX3_include_44 : decode cX3_include 44 = .ok (.iinc 3 1, 3) := by decide +kernel
theorem dX3_include_47 : decode cX3_include 47 = .ok (.goto (-23), 3) := by decide +kernel
theorem dX3_include_50 : decode cX3_include 50 = .ok (.return_, 1) := by decide +kernel
set_option maxRecDepth 20000 in
theorem ggX3_tickThatHalvesBest_X0_hasNote : GoodIn wsX3_tickThatHalvesBest wsX0_hasNote := goodIn_r _ [11, 12, 13, 17, 18, 19, 20, 21, 22, 23] (by decide +kernel) (by decide +kernel)
set_option maxRecDepth 20000 in
theorem gX3_tickThatHalvesBest_X0_hasNote : GoodIn wsX3_tickThatHalvesBest (wsV RX3 55 RX0 yX0_hasNote wsX0_hasNote) := goodIn_app (goodIn_of _ (by decide +kernel)) ggX3_tickThatHalvesBest_X0_hasNote
theorem dX3_tickThatHalvesBest_0 : decode cX3_tickThatHalvesBest 0 = .ok (.bipush (-9), 2) := by decide +kernel
theorem dX3_tickThatHalvesBest_2 : decode cX3_tickThatHalvesBest 2 = .ok (.istore_n 2, 1) := by decide +kernel
theorem dX3_tickThatHalvesBest_3 : decode cX3_tickThatHalvesBest 3 = .ok (.aload_n 0, 1) := by decide +kernel
theorem dX3_tickThatHalvesBest_4 : decode cX3_tickThatHalvesBest 4 = .ok (.getfield 15, 3) := by decide +kernel
theorem dX3_tickThatHalvesBest_7 : decode cX3_tickThatHalvesBest 7 = .ok (.iconst 1, 1) := by decide +kernel
theorem dX3_tickThatHalvesBest_8 : decode cX3_tickThatHalvesBest 8 = .ok (.iadd, 1) := by decide +kernel
theorem dX3_tickThatHalvesBest_9 : decode cX3_tickThatHalvesBest 9 = .ok (.istore_n 3, 1) := by decide +kernel
theorem dX3_tickThatHalvesBest_10 : decode cX3_tickThatHalvesBest 10 = .ok (.iconst 0, 1) := by decide +kernel
theorem dX3_tickThatHalvesBest_11 : decode cX3_tickThatHalvesBest 11 = .ok (.istore 4, 2) := by decide +kernel
theorem dX3_tickThatHalvesBest_13 : decode cX3_tickThatHalvesBest 13 = .ok (.iload 4, 2) := by decide +kernel
theorem dX3_tickThatHalvesBest_15 : decode cX3_tickThatHalvesBest 15 = .ok (.bipush 12, 2) := by decide +kernel
theorem dX3_tickThatHalvesBest_17 : decode cX3_tickThatHalvesBest 17 = .ok (.if_icmp .ge 54, 3) := by decide +kernel
theorem dX3_tickThatHalvesBest_20 : decode cX3_tickThatHalvesBest 20 = .ok (.aload_n 0, 1) := by decide +kernel
theorem dX3_tickThatHalvesBest_21 : decode cX3_tickThatHalvesBest 21 = .ok (.getfield 9, 3) := by decide +kernel
theorem dX3_tickThatHalvesBest_24 : decode cX3_tickThatHalvesBest 24 = .ok (.iload 4, 2) := by decide +kernel
theorem dX3_tickThatHalvesBest_26 : decode cX3_tickThatHalvesBest 26 = .ok (.iaload, 1) := by decide +kernel
theorem dX3_tickThatHalvesBest_27 : decode cX3_tickThatHalvesBest 27 = .ok (.aload_n 0, 1) := by decide +kernel
theorem dX3_tickThatHalvesBest_28 : decode cX3_tickThatHalvesBest 28 = .ok (.getfield 15, 3) := by decide +kernel
theorem dX3_tickThatHalvesBest_31 : decode cX3_tickThatHalvesBest 31 = .ok (.aload_n 0, 1) := by decide +kernel
theorem dX3_tickThatHalvesBest_32 : decode cX3_tickThatHalvesBest 32 = .ok (.getfield 9, 3) := by decide +kernel
theorem dX3_tickThatHalvesBest_35 : decode cX3_tickThatHalvesBest 35 = .ok (.iload 4, 2) := by decide +kernel
theorem dX3_tickThatHalvesBest_37 : decode cX3_tickThatHalvesBest 37 = .ok (.iaload, 1) := by decide +kernel
theorem dX3_tickThatHalvesBest_38 : decode cX3_tickThatHalvesBest 38 = .ok (.isub, 1) := by decide +kernel
theorem dX3_tickThatHalvesBest_39 : decode cX3_tickThatHalvesBest 39 = .ok (.invokestatic 49, 3) := by decide +kernel
theorem dX3_tickThatHalvesBest_42 : decode cX3_tickThatHalvesBest 42 = .ok (.istore 5, 2) := by decide +kernel
theorem dX3_tickThatHalvesBest_44 : decode cX3_tickThatHalvesBest 44 = .ok (.aload_n 1, 1) := by decide +kernel
theorem dX3_tickThatHalvesBest_45 : decode cX3_tickThatHalvesBest 45 = .ok (.iload 4, 2) := by decide +kernel
theorem dX3_tickThatHalvesBest_47 : decode cX3_tickThatHalvesBest 47 = .ok (.invokevirtual 55, 3) := by decide +kernel
theorem dX3_tickThatHalvesBest_50 : decode cX3_tickThatHalvesBest 50 = .ok (.ifCond .eq 15, 3) := by decide +kernel
theorem dX3_tickThatHalvesBest_53 : decode cX3_tickThatHalvesBest 53 = .ok (.iload 5, 2) := by decide +kernel
theorem dX3_tickThatHalvesBest_55 : decode cX3_tickThatHalvesBest 55 = .ok (.iload_n 3, 1) := by decide +kernel
theorem dX3_tickThatHalvesBest_56 : decode cX3_tickThatHalvesBest 56 = .ok (.if_icmp .ge 9, 3) := by decide +kernel
theorem dX3_tickThatHalvesBest_59 : decode cX3_tickThatHalvesBest 59 = .ok (.iload 5, 2) := by decide +kernel
theorem dX3_tickThatHalvesBest_61 : decode cX3_tickThatHalvesBest 61 = .ok (.istore_n 3, 1) := by decide +kernel
theorem dX3_tickThatHalvesBest_62 : decode cX3_tickThatHalvesBest 62 = .ok (.iload 4, 2) := by decide +kernel
theorem dX3_tickThatHalvesBest_64 : decode cX3_tickThatHalvesBest 64 = .ok (.istore_n 2, 1) := by decide +kernel
theorem dX3_tickThatHalvesBest_65 : decode cX3_tickThatHalvesBest 65 = .ok (.iinc 4 1, 3) := by decide +kernel
theorem dX3_tickThatHalvesBest_68 : decode cX3_tickThatHalvesBest 68 = .ok (.goto (-55), 3) := by decide +kernel
theorem dX3_tickThatHalvesBest_71 : decode cX3_tickThatHalvesBest 71 = .ok (.iload_n 2, 1) := by decide +kernel
theorem dX3_tickThatHalvesBest_72 : decode cX3_tickThatHalvesBest 72 = .ok (.ireturn, 1) := by decide +kernel
