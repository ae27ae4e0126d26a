theorem hdX5_gives : yX5_gives.cls = RX5 ∧ yX5_gives.cls ≠ "java/lang/invoke/MethodHandle" ∧ yX5_gives.cls ≠ "java/lang/invoke/VarHandle" ∧ (parseMethodDescriptor yX5_gives.desc).map (fun d => d.parameters.length) = some 2 := by decide +kernel
set_option maxHeartbeats 4000000 in
set_option maxRecDepth 100000 in
theorem cX5_gives_c (l : Launch) (ev : Nat → Nat) (dC : Nat → ClassId) (dI : Nat → Nat → Nat) (cI cZ cO : ClassId) (h : Nat) (h1 : Nat) (zx : Nat) (h2 : Nat) (zs : Nat) (zt : Nat) (zi : Nat) (S : SSt) (hp1 : Nat) (S1 : LSt) (hr2 : Nat) (S2 : HSt) (p1 : Int32) (p2 : Int32) (hH : HOK S2) : MetI l ev (dC, dI) (tyC cI cZ cO) yX5_gives wsX5_gives (rmF 3 121) [.ref h, .int p1, .int p2] (wZ h h1 zx h2 zs zt zi S ++ wL cI h1 hp1 S1 ++ wH cI cO h2 hr2 S2) (sX5_gives S S1 S2 p1 p2).1 (wZ h h1 zx h2 zs zt zi S ++ wL cI h1 hp1 (sX5_gives S S1 S2 p1 p2).2.1 ++ wH cI cO h2 hr2 (sX5_gives S S1 S2 p1 p2).2.2) := by
  refine MetI_of (cc := cX5_gives) (maxL := 3) (ret := (some .int)) (by decide) rfl (Nat.le_of_ble_eq_true rfl) ?_
  intro p e s m below meth c A ls hx hb hr hml hts hown hlocks hin hK hP hD hA hE hl
  have hown : s.vm.findClass RX5 = some m.cls := hown
  have hl : lv_has ls 3 [(0, .ref h), (1, .int p1), (2, .int p2)] := hl
  have hS : va_S A s.heap s.heap [] := va_S.rf
  obtain ⟨σ, hσ⟩ : ∃ σ, (sX5_gives S S1 S2 p1 p2) = σ := ⟨_, rfl⟩
  rw [hσ]
  rw [sX5_gives] at hσ
  refine lv_aload_n hx hb dX5_gives_0 rfl (lv_at hl 0 rfl) ?_
  refine va_get (D := (dC, dI)) (ci := 5) (v := .ref h1) (C := RX5) (T := TX5) (N := 9) hx hb hts (fun _ h => List.mem_cons_of_mem _ (List.mem_append_left _ (List.mem_append_left _ (List.mem_append_right _ h)))) hown hK hP 0 rfl rfl 0 (by decide) (hts (.fieldLink RX5 10 "SharedLine" "now" "LSharedLine$Line;") (List.mem_of_getElem? (i := 1) rfl)) (fun _ h9 => h9) rfl dX5_gives_1 ?_
  refine lv_iload_n hx hb dX5_gives_4 rfl (lv_at hl 1 rfl) ?_
  refine vq_Vi (As := [.int p1]) (rest := []) (W2 := (wZ h h1 zx h2 zs zt zi S ++ wL cI h1 hp1 S1 ++ wH cI cO h2 hr2 S2)) (f := (bI (sX0_hasNote S1 p1))) hx hb hml hown hts hK hP hD hS hA hE hl.1 (cX0_hasNote_c l ev dC dI cI cZ cO h1 hp1 S1 p1) gX5_gives_X0_hasNote rfl hdX0_hasNote (Nat.le_of_ble_eq_true rfl) (Nat.le_of_ble_eq_true rfl) rfl rfl (ci := 0) (qr := 1) rfl rfl rfl [1, 2] [0, 3, 4, 5, 6, 7, 8, 9, 10, 11, 12, 13, 14, 15, 16] [0, 15, 16, 1, 2, 3, 4, 5, 6, 7, 8, 9, 10, 11, 12, 13, 14] rfl rfl (by decide) (by decide) (by decide) rfl rfl rfl (Nat.le_of_ble_eq_true rfl) dX5_gives_5 ⟨Nat.zero_le _, Nat.zero_le _⟩ (fun H locs hP hD hS => ?_)
  refine lv_if_eqB (tgt := 18) hx hb dX5_gives_8 (by decide) (fun c8 => ?_) (fun c8 => ?_)
  · rw [if_neg (Bool.eq_false_iff.mp c8)] at hσ
    refine lv_iconst (v := (-1)) hx hb dX5_gives_18 (by decide) ?_
    subst hσ
    try dsimp only
    exact vq_iret hx hb hr hlocks hK hP hD hS rfl dX5_gives_19
  · rw [if_pos c8] at hσ
    refine lv_iload_n hx hb dX5_gives_11 rfl (lv_at hl 2 rfl) ?_
    refine vq_Si (As := [.int p2]) (rest := []) (W2 := (wZ h h1 zx h2 zs zt zi S ++ wL cI h1 hp1 S1 ++ wH cI cO h2 hr2 S2)) (f := (bI (sX5_isHand p2))) hx hb hml hown hts hK hP hD hS hA hE hl.1 (cX5_isHand_c l ev dC dI cI cZ cO p2) gX5_gives_X5_isHand rfl hdX5_isHand (Nat.le_of_ble_eq_true rfl) (Nat.le_of_ble_eq_true rfl) rfl rfl [] [0, 1, 2, 3, 4, 5, 6, 7, 8, 9, 10, 11, 12, 13, 14, 15, 16] [0, 1, 2, 3, 4, 5, 6, 7, 8, 9, 10, 11, 12, 13, 14, 15, 16] rfl rfl (by decide) (by decide) (by decide) rfl rfl rfl (Nat.le_of_ble_eq_true rfl) dX5_gives_12 ⟨Nat.zero_le _, Nat.zero_le _⟩ (fun H locs hP hD hS => ?_)
    refine lv_if_neB (tgt := 20) hx hb dX5_gives_15 (by decide) (fun c15 => ?_) (fun c15 => ?_)
    · rw [if_pos c15] at hσ
      refine lv_aload_n hx hb dX5_gives_20 rfl (lv_at hl 0 rfl) ?_
      refine va_get (D := (dC, dI)) (ci := 5) (v := .ref h1) (C := RX5) (T := TX5) (N := 9) hx hb hts (fun _ h => List.mem_cons_of_mem _ (List.mem_append_left _ (List.mem_append_left _ (List.mem_append_right _ h)))) hown hK hP 0 rfl rfl 0 (by decide) (hts (.fieldLink RX5 10 "SharedLine" "now" "LSharedLine$Line;") (List.mem_of_getElem? (i := 1) rfl)) (fun _ h9 => h9) rfl dX5_gives_21 ?_
      refine lv_iload_n hx hb dX5_gives_24 rfl (lv_at hl 1 rfl) ?_
      refine vq_Vi (As := [.int p1]) (rest := []) (W2 := (wZ h h1 zx h2 zs zt zi S ++ wL cI h1 hp1 S1 ++ wH cI cO h2 hr2 S2)) (f := (sX0_handAt S1 p1)) hx hb hml hown hts hK hP hD hS hA hE hl.1 (cX0_handAt_c l ev dC dI cI cZ cO h1 hp1 S1 p1) gX5_gives_X0_handAt rfl hdX0_handAt (Nat.le_of_ble_eq_true rfl) (Nat.le_of_ble_eq_true rfl) rfl rfl (ci := 0) (qr := 1) rfl rfl rfl [1, 2] [0, 3, 4, 5, 6, 7, 8, 9, 10, 11, 12, 13, 14, 15, 16] [0, 15, 16, 1, 2, 3, 4, 5, 6, 7, 8, 9, 10, 11, 12, 13, 14] rfl rfl (by decide) (by decide) (by decide) rfl rfl rfl (Nat.le_of_ble_eq_true rfl) dX5_gives_25 ⟨Nat.zero_le _, Nat.zero_le _⟩ (fun H locs hP hD hS => ?_)
      refine lv_iload_n hx hb dX5_gives_28 rfl (lv_at hl 2 rfl) ?_
      refine lv_icmp_ne (tgt := 35) hx hb dX5_gives_29 (by decide) (fun c29 => ?_) (fun c29 => ?_)
      · rw [if_neg c29] at hσ
        refine lv_aload_n hx hb dX5_gives_35 rfl (lv_at hl 0 rfl) ?_
        refine va_get (D := (dC, dI)) (ci := 5) (v := .ref h2) (C := RX5) (T := TX5) (N := 9) hx hb hts (fun _ h => List.mem_cons_of_mem _ (List.mem_append_left _ (List.mem_append_left _ (List.mem_append_right _ h)))) hown hK hP 0 rfl rfl 2 (by decide) (hts (.fieldLink RX5 26 "SharedLine" "past" "LSharedLine$Past;") (List.mem_of_getElem? (i := 2) rfl)) (fun _ h9 => h9) rfl dX5_gives_36 ?_
        refine lv_aload_n hx hb dX5_gives_39 rfl (lv_at hl 0 rfl) ?_
        refine va_get (D := (dC, dI)) (ci := 5) (v := .ref h1) (C := RX5) (T := TX5) (N := 9) hx hb hts (fun _ h => List.mem_cons_of_mem _ (List.mem_append_left _ (List.mem_append_left _ (List.mem_append_right _ h)))) hown hK hP 0 rfl rfl 0 (by decide) (hts (.fieldLink RX5 10 "SharedLine" "now" "LSharedLine$Line;") (List.mem_of_getElem? (i := 1) rfl)) (fun _ h9 => h9) rfl dX5_gives_40 ?_
        refine vq_Vv (As := [.ref h1]) (rest := []) (W2 := (wZ h h1 zx h2 zs zt zi S ++ wL cI h1 hp1 S1 ++ wH cI cO h2 hr2 (sX1_remember S2 S1))) hx hb hml hown hts hK hP hD hS hA hE hl.1 (cX1_rem_c l ev dC dI cI cZ cO h2 hr2 S2 h1 hp1 S1 hH) gX5_gives_X1_remember rfl hdX1_remember (Nat.le_of_ble_eq_true rfl) (Nat.le_of_ble_eq_true rfl) rfl rfl (ci := 1) (qr := 3) rfl rfl rfl [3, 4, 5, 6, 7, 8, 9, 10, 11, 12, 13, 14, 15, 16, 1, 2] [0] [0, 15, 16, 1, 2, 3, 4, 5, 6, 7, 8, 9, 10, 11, 12, 13, 14] rfl rfl (by decide) (by decide) (by decide) rfl rfl rfl (Nat.le_of_ble_eq_true rfl) dX5_gives_43 ⟨Nat.zero_le _, Nat.zero_le _⟩ (fun H locs hP hD hS => ?_)
        refine lv_aload_n hx hb dX5_gives_46 rfl (lv_at hl 0 rfl) ?_
        refine va_get (D := (dC, dI)) (ci := 5) (v := .ref h1) (C := RX5) (T := TX5) (N := 9) hx hb hts (fun _ h => List.mem_cons_of_mem _ (List.mem_append_left _ (List.mem_append_left _ (List.mem_append_right _ h)))) hown hK hP 0 rfl rfl 0 (by decide) (hts (.fieldLink RX5 10 "SharedLine" "now" "LSharedLine$Line;") (List.mem_of_getElem? (i := 1) rfl)) (fun _ h9 => h9) rfl dX5_gives_47 ?_
        refine lv_dup hx hb dX5_gives_50 rfl ?_
        refine va_get (D := (dC, dI)) (ci := 0) (v := .int (S1.1 2)) (C := RX0) (T := TX0) (N := 7) hx hb hts (fun _ h => List.mem_cons_of_mem _ (List.mem_append_left _ (List.mem_append_right _ h))) hown hK hP 1 rfl rfl 3 (by decide) (hts (.fieldLink RX5 80 "SharedLine$Line" "hands" "I") (List.mem_of_getElem? (i := 3) rfl)) (fun _ h9 => h9) rfl dX5_gives_51 ?_
        refine lv_iconst (v := 1) hx hb dX5_gives_54 (by decide) ?_
        refine lv_iload_n hx hb dX5_gives_55 rfl (lv_at hl 1 rfl) ?_
        refine lv_ishl hx hb dX5_gives_56 ?_
        refine lv_ixor hx hb dX5_gives_57 ?_
        refine va_put (D := (dC, dI)) (ci := 0) (v := .int ((S1.1 2) ^^^ ((1 : Int32) <<< (p1 &&& 31)))) (ty := .int) (C := RX0) (T := TX0) (N := 7) hx hb hts (fun _ h => List.mem_cons_of_mem _ (List.mem_append_left _ (List.mem_append_right _ h))) tyX0 tyX0_ok nmX0 hown hK hP hD hS 1 rfl rfl 3 (by decide) (hts (.fieldLink RX5 80 "SharedLine$Line" "hands" "I") (List.mem_of_getElem? (i := 3) rfl)) (fun _ h9 => h9) rfl (tyX0_ok 3 (by decide)) rfl rfl (Nat.le_of_ble_eq_true rfl) dX5_gives_58 (fun H locs hP hD hS => ?_)
        have hP : va_P (dC, dI) vwCl (wZ h h1 zx h2 zs zt zi S ++ wL cI h1 hp1 ((upd S1.1 2 ((S1.1 2) ^^^ ((1 : Int32) <<< (p1 &&& 31)))), S1.2) ++ wH cI cO h2 hr2 (sX1_remember S2 S1)) H := hP
        have hD : va_D A (wZ h h1 zx h2 zs zt zi S ++ wL cI h1 hp1 ((upd S1.1 2 ((S1.1 2) ^^^ ((1 : Int32) <<< (p1 &&& 31)))), S1.2) ++ wH cI cO h2 hr2 (sX1_remember S2 S1)) := hD
        refine lv_aload_n hx hb dX5_gives_61 rfl (lv_at hl 0 rfl) ?_
        refine va_get (D := (dC, dI)) (ci := 5) (v := .ref h1) (C := RX5) (T := TX5) (N := 9) hx hb hts (fun _ h => List.mem_cons_of_mem _ (List.mem_append_left _ (List.mem_append_left _ (List.mem_append_right _ h)))) hown hK hP 0 rfl rfl 0 (by decide) (hts (.fieldLink RX5 10 "SharedLine" "now" "LSharedLine$Line;") (List.mem_of_getElem? (i := 1) rfl)) (fun _ h9 => h9) rfl dX5_gives_62 ?_
        refine lv_iload_n hx hb dX5_gives_65 rfl (lv_at hl 2 rfl) ?_
        refine vq_Vi (As := [.int p2]) (rest := []) (W2 := (wZ h h1 zx h2 zs zt zi S ++ wL cI h1 hp1 ((upd S1.1 2 ((S1.1 2) ^^^ ((1 : Int32) <<< (p1 &&& 31)))), S1.2) ++ wH cI cO h2 hr2 (sX1_remember S2 S1))) (f := (sX0_notesOf ((upd S1.1 2 ((S1.1 2) ^^^ ((1 : Int32) <<< (p1 &&& 31)))), S1.2) p2)) hx hb hml hown hts hK hP hD hS hA hE hl.1 (cX0_notesOf_c l ev dC dI cI cZ cO h1 hp1 ((upd S1.1 2 ((S1.1 2) ^^^ ((1 : Int32) <<< (p1 &&& 31)))), S1.2) p2) gX5_gives_X0_notesOf rfl hdX0_notesOf (Nat.le_of_ble_eq_true rfl) (Nat.le_of_ble_eq_true rfl) rfl rfl (ci := 0) (qr := 1) rfl rfl rfl [1, 2] [0, 3, 4, 5, 6, 7, 8, 9, 10, 11, 12, 13, 14, 15, 16] [0, 15, 16, 1, 2, 3, 4, 5, 6, 7, 8, 9, 10, 11, 12, 13, 14] rfl rfl (by decide) (by decide) (by decide) rfl rfl rfl (Nat.le_of_ble_eq_true rfl) dX5_gives_66 ⟨Nat.zero_le _, Nat.zero_le _⟩ (fun H locs hP hD hS => ?_)
        refine vq_Si (As := [.int (sX0_notesOf ((upd S1.1 2 ((S1.1 2) ^^^ ((1 : Int32) <<< (p1 &&& 31)))), S1.2) p2)]) (rest := []) (W2 := (wZ h h1 zx h2 zs zt zi S ++ wL cI h1 hp1 ((upd S1.1 2 ((S1.1 2) ^^^ ((1 : Int32) <<< (p1 &&& 31)))), S1.2) ++ wH cI cO h2 hr2 (sX1_remember S2 S1))) (f := (sJ6_bitCount_0f7a4 (sX0_notesOf ((upd S1.1 2 ((S1.1 2) ^^^ ((1 : Int32) <<< (p1 &&& 31)))), S1.2) p2))) hx hb hml hown hts hK hP hD hS hA hE hl.1 (cJ6_bitCount_0f7a4_c l ev dC dI cI cZ cO (sX0_notesOf ((upd S1.1 2 ((S1.1 2) ^^^ ((1 : Int32) <<< (p1 &&& 31)))), S1.2) p2)) gX5_gives_J6_bitCount_0f7a4 rfl hdJ6_bitCount_0f7a4 (Nat.le_of_ble_eq_true rfl) (Nat.le_of_ble_eq_true rfl) rfl rfl [] [0, 1, 2, 3, 4, 5, 6, 7, 8, 9, 10, 11, 12, 13, 14, 15, 16] [0, 1, 2, 3, 4, 5, 6, 7, 8, 9, 10, 11, 12, 13, 14, 15, 16] rfl rfl (by decide) (by decide) (by decide) rfl rfl rfl (Nat.le_of_ble_eq_true rfl) dX5_gives_69 ⟨Nat.zero_le _, Nat.zero_le _⟩ (fun H locs hP hD hS => ?_)
        subst hσ
        try dsimp only
        exact vq_iret hx hb hr hlocks hK hP hD hS rfl dX5_gives_72
      · rw [if_pos c29] at hσ
        refine lv_bipush (v := (-2)) hx hb dX5_gives_32 (by decide) ?_
        subst hσ
        try dsimp only
        exact vq_iret hx hb hr hlocks hK hP hD hS rfl dX5_gives_34
    · rw [if_neg (Bool.eq_false_iff.mp c15)] at hσ
      refine lv_iconst (v := (-1)) hx hb dX5_gives_18 (by decide) ?_
      subst hσ
      try dsimp only
      exact vq_iret hx hb hr hlocks hK hP hD hS rfl dX5_gives_19
theorem hdX5_flips : yX5_flips.cls = RX5 ∧ yX5_flips.cls ≠ "java/lang/invoke/MethodHandle" ∧ yX5_flips.cls ≠ "java/lang/invoke/VarHandle" ∧ (parseMethodDescriptor yX5_flips.desc).map (fun d => d.parameters.length) = some 2 := by decide +kernel
set_option maxHeartbeats 4000000 in
set_option maxRecDepth 100000 in
theorem cX5_flips_c (l : Launch) (ev : Nat → Nat) (dC : Nat → ClassId) (dI : Nat → Nat → Nat) (cI cZ cO : ClassId) (h : Nat) (h1 : Nat) (zx : Nat) (h2 : Nat) (zs : Nat) (zt : Nat) (zi : Nat) (S : SSt) (hp1 : Nat) (S1 : LSt) (hr2 : Nat) (S2 : HSt) (p1 : Int32) (p2 : Int32) (hH : HOK S2) : MetI l ev (dC, dI) (tyC cI cZ cO) yX5_flips wsX5_flips (rmF 3 121) [.ref h, .int p1, .int p2] (wZ h h1 zx h2 zs zt zi S ++ wL cI h1 hp1 S1 ++ wH cI cO h2 hr2 S2) (sX5_flips S S1 S2 p1 p2).1 (wZ h h1 zx h2 zs zt zi S ++ wL cI h1 hp1 (sX5_flips S S1 S2 p1 p2).2.1 ++ wH cI cO h2 hr2 (sX5_flips S S1 S2 p1 p2).2.2) := by
  refine MetI_of (cc := cX5_flips) (maxL := 4) (ret := (some .int)) (by decide) rfl (Nat.le_of_ble_eq_true rfl) ?_
  intro p e s m below meth c A ls hx hb hr hml hts hown hlocks hin hK hP hD hA hE hl
  have hown : s.vm.findClass RX5 = some m.cls := hown
  have hl : lv_has ls 4 [(0, .ref h), (1, .int p1), (2, .int p2)] := hl
  have hS : va_S A s.heap s.heap [] := va_S.rf
  obtain ⟨σ, hσ⟩ : ∃ σ, (sX5_flips S S1 S2 p1 p2) = σ := ⟨_, rfl⟩
  rw [hσ]
  rw [sX5_flips] at hσ
  refine lv_aload_n hx hb dX5_flips_0 rfl (lv_at hl 0 rfl) ?_
  refine va_get (D := (dC, dI)) (ci := 5) (v := .ref h1) (C := RX5) (T := TX5) (N := 9) hx hb hts (fun _ h => List.mem_cons_of_mem _ (List.mem_append_left _ (List.mem_append_left _ (List.mem_append_right _ h)))) hown hK hP 0 rfl rfl 0 (by decide) (hts (.fieldLink RX5 10 "SharedLine" "now" "LSharedLine$Line;") (List.mem_of_getElem? (i := 1) rfl)) (fun _ h9 => h9) rfl dX5_flips_1 ?_
  refine lv_iload_n hx hb dX5_flips_4 rfl (lv_at hl 1 rfl) ?_
  refine vq_Vi (As := [.int p1]) (rest := []) (W2 := (wZ h h1 zx h2 zs zt zi S ++ wL cI h1 hp1 S1 ++ wH cI cO h2 hr2 S2)) (f := (bI (sX0_hasTick S1 p1))) hx hb hml hown hts hK hP hD hS hA hE hl.1 (cX0_hasTick_c l ev dC dI cI cZ cO h1 hp1 S1 p1) gX5_flips_X0_hasTick rfl hdX0_hasTick (Nat.le_of_ble_eq_true rfl) (Nat.le_of_ble_eq_true rfl) rfl rfl (ci := 0) (qr := 1) rfl rfl rfl [1, 2] [0, 3, 4, 5, 6, 7, 8, 9, 10, 11, 12, 13, 14, 15, 16] [0, 15, 16, 1, 2, 3, 4, 5, 6, 7, 8, 9, 10, 11, 12, 13, 14] rfl rfl (by decide) (by decide) (by decide) rfl rfl rfl (Nat.le_of_ble_eq_true rfl) dX5_flips_5 ⟨Nat.zero_le _, Nat.zero_le _⟩ (fun H locs hP hD hS => ?_)
  refine lv_if_eqB (tgt := 27) hx hb dX5_flips_8 (by decide) (fun c8 => ?_) (fun c8 => ?_)
  · rw [if_neg (Bool.eq_false_iff.mp c8)] at hσ
    refine lv_iconst (v := (-1)) hx hb dX5_flips_27 (by decide) ?_
    subst hσ
    try dsimp only
    exact vq_iret hx hb hr hlocks hK hP hD hS rfl dX5_flips_28
  · rw [if_pos c8] at hσ
    refine lv_aload_n hx hb dX5_flips_11 rfl (lv_at hl 0 rfl) ?_
    refine va_get (D := (dC, dI)) (ci := 5) (v := .ref h1) (C := RX5) (T := TX5) (N := 9) hx hb hts (fun _ h => List.mem_cons_of_mem _ (List.mem_append_left _ (List.mem_append_left _ (List.mem_append_right _ h)))) hown hK hP 0 rfl rfl 0 (by decide) (hts (.fieldLink RX5 10 "SharedLine" "now" "LSharedLine$Line;") (List.mem_of_getElem? (i := 1) rfl)) (fun _ h9 => h9) rfl dX5_flips_12 ?_
    refine lv_iload_n hx hb dX5_flips_15 rfl (lv_at hl 2 rfl) ?_
    refine vq_Vi (As := [.int p2]) (rest := []) (W2 := (wZ h h1 zx h2 zs zt zi S ++ wL cI h1 hp1 S1 ++ wH cI cO h2 hr2 S2)) (f := (bI (sX0_hasTick S1 p2))) hx hb hml hown hts hK hP hD hS hA hE hl.1 (cX0_hasTick_c l ev dC dI cI cZ cO h1 hp1 S1 p2) gX5_flips_X0_hasTick rfl hdX0_hasTick (Nat.le_of_ble_eq_true rfl) (Nat.le_of_ble_eq_true rfl) rfl rfl (ci := 0) (qr := 1) rfl rfl rfl [1, 2] [0, 3, 4, 5, 6, 7, 8, 9, 10, 11, 12, 13, 14, 15, 16] [0, 15, 16, 1, 2, 3, 4, 5, 6, 7, 8, 9, 10, 11, 12, 13, 14] rfl rfl (by decide) (by decide) (by decide) rfl rfl rfl (Nat.le_of_ble_eq_true rfl) dX5_flips_16 ⟨Nat.zero_le _, Nat.zero_le _⟩ (fun H locs hP hD hS => ?_)
    refine lv_if_eqB (tgt := 27) hx hb dX5_flips_19 (by decide) (fun c19 => ?_) (fun c19 => ?_)
    · rw [if_neg (Bool.eq_false_iff.mp c19)] at hσ
      refine lv_iconst (v := (-1)) hx hb dX5_flips_27 (by decide) ?_
      subst hσ
      try dsimp only
      exact vq_iret hx hb hr hlocks hK hP hD hS rfl dX5_flips_28
    · rw [if_pos c19] at hσ
      refine lv_iload_n hx hb dX5_flips_22 rfl (lv_at hl 2 rfl) ?_
      refine lv_iload_n hx hb dX5_flips_23 rfl (lv_at hl 1 rfl) ?_
      refine lv_icmp_ge (tgt := 29) hx hb dX5_flips_24 (by decide) (fun c24 => ?_) (fun c24 => ?_)
      · rw [if_pos c24] at hσ
        refine lv_aload_n hx hb dX5_flips_29 rfl (lv_at hl 0 rfl) ?_
        refine va_get (D := (dC, dI)) (ci := 5) (v := .ref h1) (C := RX5) (T := TX5) (N := 9) hx hb hts (fun _ h => List.mem_cons_of_mem _ (List.mem_append_left _ (List.mem_append_left _ (List.mem_append_right _ h)))) hown hK hP 0 rfl rfl 0 (by decide) (hts (.fieldLink RX5 10 "SharedLine" "now" "LSharedLine$Line;") (List.mem_of_getElem? (i := 1) rfl)) (fun _ h9 => h9) rfl dX5_flips_30 ?_
        refine va_get (D := (dC, dI)) (ci := 0) (v := .int (S1.1 1)) (C := RX0) (T := TX0) (N := 7) hx hb hts (fun _ h => List.mem_cons_of_mem _ (List.mem_append_left _ (List.mem_append_right _ h))) hown hK hP 1 rfl rfl 2 (by decide) (hts (.fieldLink RX5 94 "SharedLine$Line" "notes" "I") (List.mem_of_getElem? (i := 2) rfl)) (fun _ h9 => h9) rfl dX5_flips_33 ?_
        refine lv_iload_n hx hb dX5_flips_36 rfl (lv_at hl 1 rfl) ?_
        refine lv_iload_n hx hb dX5_flips_37 rfl (lv_at hl 2 rfl) ?_
        refine lv_iconst (v := 1) hx hb dX5_flips_38 (by decide) ?_
        refine lv_iadd hx hb dX5_flips_39 ?_
        refine lv_iload_n hx hb dX5_flips_40 rfl (lv_at hl 1 rfl) ?_
        refine lv_isub hx hb dX5_flips_41 ?_
        refine vq_Si (As := [.int p1, .int ((p2 + 1) - p1)]) (rest := [.int (S1.1 1)]) (W2 := (wZ h h1 zx h2 zs zt zi S ++ wL cI h1 hp1 S1 ++ wH cI cO h2 hr2 S2)) (f := (sX5_ticksFrom p1 ((p2 + 1) - p1))) hx hb hml hown hts hK hP hD hS hA hE hl.1 (cX5_ticksFrom_c l ev dC dI cI cZ cO p1 ((p2 + 1) - p1)) gX5_flips_X5_ticksFrom rfl hdX5_ticksFrom (Nat.le_of_ble_eq_true rfl) (Nat.le_of_ble_eq_true rfl) rfl rfl [] [0, 1, 2, 3, 4, 5, 6, 7, 8, 9, 10, 11, 12, 13, 14, 15, 16] [0, 1, 2, 3, 4, 5, 6, 7, 8, 9, 10, 11, 12, 13, 14, 15, 16] rfl rfl (by decide) (by decide) (by decide) rfl rfl rfl (Nat.le_of_ble_eq_true rfl) dX5_flips_42 ⟨Nat.zero_le _, Nat.zero_le _⟩ (fun H locs hP hD hS => ?_)
        refine lv_iand hx hb dX5_flips_45 ?_
        refine lv_istore_n (lv' := [(3, .int ((S1.1 1) &&& (sX5_ticksFrom p1 ((p2 + 1) - p1)))), (0, .ref h), (1, .int p1), (2, .int p2)]) hx hb dX5_flips_46 rfl hl (by decide) rfl (fun ls hl => ?_)
        refine lv_iload_n hx hb dX5_flips_47 rfl (lv_at hl 0 rfl) ?_
        refine lv_if_ne (tgt := 54) hx hb dX5_flips_48 (by decide) (fun c48 => ?_) (fun c48 => ?_)
        · rw [if_neg c48] at hσ
          refine lv_aload_n hx hb dX5_flips_54 rfl (lv_at hl 1 rfl) ?_
          refine va_get (D := (dC, dI)) (ci := 5) (v := .ref h2) (C := RX5) (T := TX5) (N := 9) hx hb hts (fun _ h => List.mem_cons_of_mem _ (List.mem_append_left _ (List.mem_append_left _ (List.mem_append_right _ h)))) hown hK hP 0 rfl rfl 2 (by decide) (hts (.fieldLink RX5 26 "SharedLine" "past" "LSharedLine$Past;") (List.mem_of_getElem? (i := 3) rfl)) (fun _ h9 => h9) rfl dX5_flips_55 ?_
          refine lv_aload_n hx hb dX5_flips_58 rfl (lv_at hl 1 rfl) ?_
          refine va_get (D := (dC, dI)) (ci := 5) (v := .ref h1) (C := RX5) (T := TX5) (N := 9) hx hb hts (fun _ h => List.mem_cons_of_mem _ (List.mem_append_left _ (List.mem_append_left _ (List.mem_append_right _ h)))) hown hK hP 0 rfl rfl 0 (by decide) (hts (.fieldLink RX5 10 "SharedLine" "now" "LSharedLine$Line;") (List.mem_of_getElem? (i := 1) rfl)) (fun _ h9 => h9) rfl dX5_flips_59 ?_
          refine vq_Vv (As := [.ref h1]) (rest := []) (W2 := (wZ h h1 zx h2 zs zt zi S ++ wL cI h1 hp1 S1 ++ wH cI cO h2 hr2 (sX1_remember S2 S1))) hx hb hml hown hts hK hP hD hS hA hE hl.1 (cX1_rem_c l ev dC dI cI cZ cO h2 hr2 S2 h1 hp1 S1 hH) gX5_flips_X1_remember rfl hdX1_remember (Nat.le_of_ble_eq_true rfl) (Nat.le_of_ble_eq_true rfl) rfl rfl (ci := 1) (qr := 3) rfl rfl rfl [3, 4, 5, 6, 7, 8, 9, 10, 11, 12, 13, 14, 15, 16, 1, 2] [0] [0, 15, 16, 1, 2, 3, 4, 5, 6, 7, 8, 9, 10, 11, 12, 13, 14] rfl rfl (by decide) (by decide) (by decide) rfl rfl rfl (Nat.le_of_ble_eq_true rfl) dX5_flips_62 ⟨Nat.zero_le _, Nat.zero_le _⟩ (fun H locs hP hD hS => ?_)
          refine lv_aload_n hx hb dX5_flips_65 rfl (lv_at hl 1 rfl) ?_
          refine va_get (D := (dC, dI)) (ci := 5) (v := .ref h1) (C := RX5) (T := TX5) (N := 9) hx hb hts (fun _ h => List.mem_cons_of_mem _ (List.mem_append_left _ (List.mem_append_left _ (List.mem_append_right _ h)))) hown hK hP 0 rfl rfl 0 (by decide) (hts (.fieldLink RX5 10 "SharedLine" "now" "LSharedLine$Line;") (List.mem_of_getElem? (i := 1) rfl)) (fun _ h9 => h9) rfl dX5_flips_66 ?_
          refine lv_dup hx hb dX5_flips_69 rfl ?_
          refine va_get (D := (dC, dI)) (ci := 0) (v := .int (S1.1 2)) (C := RX0) (T := TX0) (N := 7) hx hb hts (fun _ h => List.mem_cons_of_mem _ (List.mem_append_left _ (List.mem_append_right _ h))) hown hK hP 1 rfl rfl 3 (by decide) (hts (.fieldLink RX5 80 "SharedLine$Line" "hands" "I") (List.mem_of_getElem? (i := 4) rfl)) (fun _ h9 => h9) rfl dX5_flips_70 ?_
          refine lv_iload_n hx hb dX5_flips_73 rfl (lv_at hl 0 rfl) ?_
          refine lv_ixor hx hb dX5_flips_74 ?_
          refine va_put (D := (dC, dI)) (ci := 0) (v := .int ((S1.1 2) ^^^ ((S1.1 1) &&& (sX5_ticksFrom p1 ((p2 + 1) - p1))))) (ty := .int) (C := RX0) (T := TX0) (N := 7) hx hb hts (fun _ h => List.mem_cons_of_mem _ (List.mem_append_left _ (List.mem_append_right _ h))) tyX0 tyX0_ok nmX0 hown hK hP hD hS 1 rfl rfl 3 (by decide) (hts (.fieldLink RX5 80 "SharedLine$Line" "hands" "I") (List.mem_of_getElem? (i := 4) rfl)) (fun _ h9 => h9) rfl (tyX0_ok 3 (by decide)) rfl rfl (Nat.le_of_ble_eq_true rfl) dX5_flips_75 (fun H locs hP hD hS => ?_)
          have hP : va_P (dC, dI) vwCl (wZ h h1 zx h2 zs zt zi S ++ wL cI h1 hp1 ((upd S1.1 2 ((S1.1 2) ^^^ ((S1.1 1) &&& (sX5_ticksFrom p1 ((p2 + 1) - p1))))), S1.2) ++ wH cI cO h2 hr2 (sX1_remember S2 S1)) H := hP
          have hD : va_D A (wZ h h1 zx h2 zs zt zi S ++ wL cI h1 hp1 ((upd S1.1 2 ((S1.1 2) ^^^ ((S1.1 1) &&& (sX5_ticksFrom p1 ((p2 + 1) - p1))))), S1.2) ++ wH cI cO h2 hr2 (sX1_remember S2 S1)) := hD
          refine lv_iload_n hx hb dX5_flips_78 rfl (lv_at hl 0 rfl) ?_
          refine vq_Si (As := [.int ((S1.1 1) &&& (sX5_ticksFrom p1 ((p2 + 1) - p1)))]) (rest := []) (W2 := (wZ h h1 zx h2 zs zt zi S ++ wL cI h1 hp1 ((upd S1.1 2 ((S1.1 2) ^^^ ((S1.1 1) &&& (sX5_ticksFrom p1 ((p2 + 1) - p1))))), S1.2) ++ wH cI cO h2 hr2 (sX1_remember S2 S1))) (f := (sJ6_bitCount_0f7a4 ((S1.1 1) &&& (sX5_ticksFrom p1 ((p2 + 1) - p1))))) hx hb hml hown hts hK hP hD hS hA hE hl.1 (cJ6_bitCount_0f7a4_c l ev dC dI cI cZ cO ((S1.1 1) &&& (sX5_ticksFrom p1 ((p2 + 1) - p1)))) gX5_flips_J6_bitCount_0f7a4 rfl hdJ6_bitCount_0f7a4 (Nat.le_of_ble_eq_true rfl) (Nat.le_of_ble_eq_true rfl) rfl rfl [] [0, 1, 2, 3, 4, 5, 6, 7, 8, 9, 10, 11, 12, 13, 14, 15, 16] [0, 1, 2, 3, 4, 5, 6, 7, 8, 9, 10, 11, 12, 13, 14, 15, 16] rfl rfl (by decide) (by decide) (by decide) rfl rfl rfl (Nat.le_of_ble_eq_true rfl) dX5_flips_79 ⟨Nat.zero_le _, Nat.zero_le _⟩ (fun H locs hP hD hS => ?_)
          subst hσ
          try dsimp only
          exact vq_iret hx hb hr hlocks hK hP hD hS rfl dX5_flips_82
        · rw [if_pos c48] at hσ
          refine lv_bipush (v := (-2)) hx hb dX5_flips_51 (by decide) ?_
          subst hσ
          try dsimp only
          exact vq_iret hx hb hr hlocks hK hP hD hS rfl dX5_flips_53
      · rw [if_neg c24] at hσ
        refine lv_iconst (v := (-1)) hx hb dX5_flips_27 (by decide) ?_
        subst hσ
        try dsimp only
        exact vq_iret hx hb hr hlocks hK hP hD hS rfl dX5_flips_28
theorem hdX5_sets : yX5_sets.cls = RX5 ∧ yX5_sets.cls ≠ "java/lang/invoke/MethodHandle" ∧ yX5_sets.cls ≠ "java/lang/invoke/VarHandle" ∧ (parseMethodDescriptor yX5_sets.desc).map (fun d => d.parameters.length) = some 2 := by decide +kernel
set_option maxHeartbeats 4000000 in
set_option maxRecDepth 100000 in
theorem cX5_sets_c (l : Launch) (ev : Nat → Nat) (dC : Nat → ClassId) (dI : Nat → Nat → Nat) (cI cZ cO : ClassId) (h : Nat) (h1 : Nat) (zx : Nat) (h2 : Nat) (zs : Nat) (zt : Nat) (zi : Nat) (S : SSt) (hp1 : Nat) (S1 : LSt) (hr2 : Nat) (S2 : HSt) (p1 : Int32) (p2 : Int32) (hH : HOK S2) : MetI l ev (dC, dI) (tyC cI cZ cO) yX5_sets wsX5_sets (rmF 3 121) [.ref h, .int p1, .int p2] (wZ h h1 zx h2 zs zt zi S ++ wL cI h1 hp1 S1 ++ wH cI cO h2 hr2 S2) (sX5_sets S S1 S2 p1 p2).1 (wZ h h1 zx h2 zs zt zi S ++ wL cI h1 hp1 (sX5_sets S S1 S2 p1 p2).2.1 ++ wH cI cO h2 hr2 (sX5_sets S S1 S2 p1 p2).2.2) := by
  refine MetI_of (cc := cX5_sets) (maxL := 4) (ret := (some .int)) (by decide) rfl (Nat.le_of_ble_eq_true rfl) ?_
  intro p e s m below meth c A ls hx hb hr hml hts hown hlocks hin hK hP hD hA hE hl
  have hown : s.vm.findClass RX5 = some m.cls := hown
  have hl : lv_has ls 4 [(0, .ref h), (1, .int p1), (2, .int p2)] := hl
  have hS : va_S A s.heap s.heap [] := va_S.rf
  obtain ⟨σ, hσ⟩ : ∃ σ, (sX5_sets S S1 S2 p1 p2) = σ := ⟨_, rfl⟩
  rw [hσ]
  rw [sX5_sets] at hσ
  refine lv_iload_n hx hb dX5_sets_0 rfl (lv_at hl 1 rfl) ?_
  refine lv_iload_n hx hb dX5_sets_1 rfl (lv_at hl 2 rfl) ?_
  refine vq_Si (As := [.int p1, .int p2]) (rest := []) (W2 := (wZ h h1 zx h2 zs zt zi S ++ wL cI h1 hp1 S1 ++ wH cI cO h2 hr2 S2)) (f := (bI (sX5_isNumber p1 p2))) hx hb hml hown hts hK hP hD hS hA hE hl.1 (cX5_isNumber_c l ev dC dI cI cZ cO p1 p2) gX5_sets_X5_isNumber rfl hdX5_isNumber (Nat.le_of_ble_eq_true rfl) (Nat.le_of_ble_eq_true rfl) rfl rfl [] [0, 1, 2, 3, 4, 5, 6, 7, 8, 9, 10, 11, 12, 13, 14, 15, 16] [0, 1, 2, 3, 4, 5, 6, 7, 8, 9, 10, 11, 12, 13, 14, 15, 16] rfl rfl (by decide) (by decide) (by decide) rfl rfl rfl (Nat.le_of_ble_eq_true rfl) dX5_sets_2 ⟨Nat.zero_le _, Nat.zero_le _⟩ (fun H locs hP hD hS => ?_)
  refine lv_if_neB (tgt := 10) hx hb dX5_sets_5 (by decide) (fun c5 => ?_) (fun c5 => ?_)
  · rw [if_pos c5] at hσ
    refine lv_aload_n hx hb dX5_sets_10 rfl (lv_at hl 0 rfl) ?_
    refine va_get (D := (dC, dI)) (ci := 5) (v := .ref h1) (C := RX5) (T := TX5) (N := 9) hx hb hts (fun _ h => List.mem_cons_of_mem _ (List.mem_append_left _ (List.mem_append_left _ (List.mem_append_right _ h)))) hown hK hP 0 rfl rfl 0 (by decide) (hts (.fieldLink RX5 10 "SharedLine" "now" "LSharedLine$Line;") (List.mem_of_getElem? (i := 1) rfl)) (fun _ h9 => h9) rfl dX5_sets_11 ?_
    refine lv_iload_n hx hb dX5_sets_14 rfl (lv_at hl 1 rfl) ?_
    refine vq_Vi (As := [.int p1]) (rest := []) (W2 := (wZ h h1 zx h2 zs zt zi S ++ wL cI h1 hp1 S1 ++ wH cI cO h2 hr2 S2)) (f := (sX0_number S1 p1)) hx hb hml hown hts hK hP hD hS hA hE hl.1 (cX0_number_c l ev dC dI cI cZ cO h1 hp1 S1 p1) gX5_sets_X0_number rfl hdX0_number (Nat.le_of_ble_eq_true rfl) (Nat.le_of_ble_eq_true rfl) rfl rfl (ci := 0) (qr := 1) rfl rfl rfl [1, 2] [0, 3, 4, 5, 6, 7, 8, 9, 10, 11, 12, 13, 14, 15, 16] [0, 15, 16, 1, 2, 3, 4, 5, 6, 7, 8, 9, 10, 11, 12, 13, 14] rfl rfl (by decide) (by decide) (by decide) rfl rfl rfl (Nat.le_of_ble_eq_true rfl) dX5_sets_15 ⟨Nat.zero_le _, Nat.zero_le _⟩ (fun H locs hP hD hS => ?_)
    refine lv_istore_n (lv' := [(3, .int (sX0_number S1 p1)), (0, .ref h), (1, .int p1), (2, .int p2)]) hx hb dX5_sets_18 rfl hl (by decide) rfl (fun ls hl => ?_)
    refine lv_iload_n hx hb dX5_sets_19 rfl (lv_at hl 0 rfl) ?_
    refine lv_iload_n hx hb dX5_sets_20 rfl (lv_at hl 3 rfl) ?_
    refine lv_icmp_ne (tgt := 27) hx hb dX5_sets_21 (by decide) (fun c21 => ?_) (fun c21 => ?_)
    · rw [if_neg c21] at hσ
      refine lv_aload_n hx hb dX5_sets_27 rfl (lv_at hl 1 rfl) ?_
      refine va_get (D := (dC, dI)) (ci := 5) (v := .ref h2) (C := RX5) (T := TX5) (N := 9) hx hb hts (fun _ h => List.mem_cons_of_mem _ (List.mem_append_left _ (List.mem_append_left _ (List.mem_append_right _ h)))) hown hK hP 0 rfl rfl 2 (by decide) (hts (.fieldLink RX5 26 "SharedLine" "past" "LSharedLine$Past;") (List.mem_of_getElem? (i := 2) rfl)) (fun _ h9 => h9) rfl dX5_sets_28 ?_
      refine lv_aload_n hx hb dX5_sets_31 rfl (lv_at hl 1 rfl) ?_
      refine va_get (D := (dC, dI)) (ci := 5) (v := .ref h1) (C := RX5) (T := TX5) (N := 9) hx hb hts (fun _ h => List.mem_cons_of_mem _ (List.mem_append_left _ (List.mem_append_left _ (List.mem_append_right _ h)))) hown hK hP 0 rfl rfl 0 (by decide) (hts (.fieldLink RX5 10 "SharedLine" "now" "LSharedLine$Line;") (List.mem_of_getElem? (i := 1) rfl)) (fun _ h9 => h9) rfl dX5_sets_32 ?_
      refine vq_Vv (As := [.ref h1]) (rest := []) (W2 := (wZ h h1 zx h2 zs zt zi S ++ wL cI h1 hp1 S1 ++ wH cI cO h2 hr2 (sX1_remember S2 S1))) hx hb hml hown hts hK hP hD hS hA hE hl.1 (cX1_rem_c l ev dC dI cI cZ cO h2 hr2 S2 h1 hp1 S1 hH) gX5_sets_X1_remember rfl hdX1_remember (Nat.le_of_ble_eq_true rfl) (Nat.le_of_ble_eq_true rfl) rfl rfl (ci := 1) (qr := 3) rfl rfl rfl [3, 4, 5, 6, 7, 8, 9, 10, 11, 12, 13, 14, 15, 16, 1, 2] [0] [0, 15, 16, 1, 2, 3, 4, 5, 6, 7, 8, 9, 10, 11, 12, 13, 14] rfl rfl (by decide) (by decide) (by decide) rfl rfl rfl (Nat.le_of_ble_eq_true rfl) dX5_sets_35 ⟨Nat.zero_le _, Nat.zero_le _⟩ (fun H locs hP hD hS => ?_)
      refine lv_aload_n hx hb dX5_sets_38 rfl (lv_at hl 1 rfl) ?_
      refine va_get (D := (dC, dI)) (ci := 5) (v := .ref h1) (C := RX5) (T := TX5) (N := 9) hx hb hts (fun _ h => List.mem_cons_of_mem _ (List.mem_append_left _ (List.mem_append_left _ (List.mem_append_right _ h)))) hown hK hP 0 rfl rfl 0 (by decide) (hts (.fieldLink RX5 10 "SharedLine" "now" "LSharedLine$Line;") (List.mem_of_getElem? (i := 1) rfl)) (fun _ h9 => h9) rfl dX5_sets_39 ?_
      refine lv_iload_n hx hb dX5_sets_42 rfl (lv_at hl 2 rfl) ?_
      refine lv_iload_n hx hb dX5_sets_43 rfl (lv_at hl 3 rfl) ?_
      refine vq_Vv (As := [.int p1, .int p2]) (rest := []) (W2 := (wZ h h1 zx h2 zs zt zi S ++ wL cI h1 hp1 (sX0_setNumber S1 p1 p2) ++ wH cI cO h2 hr2 (sX1_remember S2 S1))) hx hb hml hown hts hK hP hD hS hA hE hl.1 (cX0_setNumber_c l ev dC dI cI cZ cO h1 hp1 S1 p1 p2) gX5_sets_X0_setNumber rfl hdX0_setNumber (Nat.le_of_ble_eq_true rfl) (Nat.le_of_ble_eq_true rfl) rfl rfl (ci := 0) (qr := 1) rfl rfl rfl [1, 2] [0, 3, 4, 5, 6, 7, 8, 9, 10, 11, 12, 13, 14, 15, 16] [0, 15, 16, 1, 2, 3, 4, 5, 6, 7, 8, 9, 10, 11, 12, 13, 14] rfl rfl (by decide) (by decide) (by decide) rfl rfl rfl (Nat.le_of_ble_eq_true rfl) dX5_sets_44 ⟨Nat.zero_le _, Nat.zero_le _⟩ (fun H locs hP hD hS => ?_)
      refine lv_iload_n hx hb dX5_sets_47 rfl (lv_at hl 0 rfl) ?_
      subst hσ
      try dsimp only
      exact vq_iret hx hb hr hlocks hK hP hD hS rfl dX5_sets_48
    · rw [if_pos c21] at hσ
      refine lv_bipush (v := (-2)) hx hb dX5_sets_24 (by decide) ?_
      subst hσ
      try dsimp only
      exact vq_iret hx hb hr hlocks hK hP hD hS rfl dX5_sets_26
  · rw [if_neg (Bool.eq_false_iff.mp c5)] at hσ
    refine lv_iconst (v := (-1)) hx hb dX5_sets_8 (by decide) ?_
    subst hσ
    try dsimp only
    exact vq_iret hx hb hr hlocks hK hP hD hS rfl dX5_sets_9
theorem hdX5_undo : yX5_undo.cls = RX5 ∧ yX5_undo.cls ≠ "java/lang/invoke/MethodHandle" ∧ yX5_undo.cls ≠ "java/lang/invoke/VarHandle" ∧ (parseMethodDescriptor yX5_undo.desc).map (fun d => d.parameters.length) = some 0 := by decide +kernel
set_option maxHeartbeats 4000000 in
set_option maxRecDepth 100000 in
theorem cX5_undo_c (l : Launch) (ev : Nat → Nat) (dC : Nat → ClassId) (dI : Nat → Nat → Nat) (cI cZ cO : ClassId) (h : Nat) (h1 : Nat) (zx : Nat) (h2 : Nat) (zs : Nat) (zt : Nat) (zi : Nat) (S : SSt) (hp1 : Nat) (S1 : LSt) (hr2 : Nat) (S2 : HSt) (hH : HOK S2) : MetI l ev (dC, dI) (tyC cI cZ cO) yX5_undo wsX5_undo (rmF 3 121) [.ref h] (wZ h h1 zx h2 zs zt zi S ++ wL cI h1 hp1 S1 ++ wH cI cO h2 hr2 S2) (sX5_undo S S1 S2).1 (wZ h h1 zx h2 zs zt zi S ++ wL cI h1 hp1 (sX5_undo S S1 S2).2.1 ++ wH cI cO h2 hr2 (sX5_undo S S1 S2).2.2) := by
  refine MetI_of (cc := cX5_undo) (maxL := 1) (ret := (some .int)) (by decide) rfl (Nat.le_of_ble_eq_true rfl) ?_
  intro p e s m below meth c A ls hx hb hr hml hts hown hlocks hin hK hP hD hA hE hl
  have hown : s.vm.findClass RX5 = some m.cls := hown
  have hl : lv_has ls 1 [(0, .ref h)] := hl
  have hS : va_S A s.heap s.heap [] := va_S.rf
  obtain ⟨σ, hσ⟩ : ∃ σ, (sX5_undo S S1 S2) = σ := ⟨_, rfl⟩
  rw [hσ]
  rw [sX5_undo] at hσ
  refine lv_aload_n hx hb dX5_undo_0 rfl (lv_at hl 0 rfl) ?_
  refine va_get (D := (dC, dI)) (ci := 5) (v := .ref h2) (C := RX5) (T := TX5) (N := 9) hx hb hts (fun _ h => List.mem_cons_of_mem _ (List.mem_append_left _ (List.mem_append_left _ (List.mem_append_right _ h)))) hown hK hP 0 rfl rfl 2 (by decide) (hts (.fieldLink RX5 26 "SharedLine" "past" "LSharedLine$Past;") (List.mem_of_getElem? (i := 1) rfl)) (fun _ h9 => h9) rfl dX5_undo_1 ?_
  refine lv_aload_n hx hb dX5_undo_4 rfl (lv_at hl 0 rfl) ?_
  refine va_get (D := (dC, dI)) (ci := 5) (v := .ref h1) (C := RX5) (T := TX5) (N := 9) hx hb hts (fun _ h => List.mem_cons_of_mem _ (List.mem_append_left _ (List.mem_append_left _ (List.mem_append_right _ h)))) hown hK hP 0 rfl rfl 0 (by decide) (hts (.fieldLink RX5 10 "SharedLine" "now" "LSharedLine$Line;") (List.mem_of_getElem? (i := 2) rfl)) (fun _ h9 => h9) rfl dX5_undo_5 ?_
  refine vq_Vi (As := [.ref h1]) (rest := []) (W2 := (wZ h h1 zx h2 zs zt zi S ++ wL cI h1 hp1 (sX1_recall S2 S1).2.2 ++ wH cI cO h2 hr2 (sX1_recall S2 S1).2.1)) (f := (bI (sX1_recall S2 S1).1)) hx hb hml hown hts hK hP hD hS hA hE hl.1 (cX1_rec_c l ev dC dI cI cZ cO h2 hr2 S2 h1 hp1 S1 hH) gX5_undo_X1_recall rfl hdX1_recall (Nat.le_of_ble_eq_true rfl) (Nat.le_of_ble_eq_true rfl) rfl rfl (ci := 1) (qr := 3) rfl rfl rfl [3, 4, 5, 6, 7, 8, 9, 10, 11, 12, 13, 14, 15, 16, 1, 2] [0] [0, 15, 16, 1, 2, 3, 4, 5, 6, 7, 8, 9, 10, 11, 12, 13, 14] rfl rfl (by decide) (by decide) (by decide) rfl rfl rfl (Nat.le_of_ble_eq_true rfl) dX5_undo_8 ⟨Nat.zero_le _, Nat.zero_le _⟩ (fun H locs hP hD hS => ?_)
  refine lv_if_eqB (tgt := 24) hx hb dX5_undo_11 (by decide) (fun c11 => ?_) (fun c11 => ?_)
  · rw [if_neg (Bool.eq_false_iff.mp c11)] at hσ
    refine lv_bipush (v := (-2)) hx hb dX5_undo_24 (by decide) ?_
    subst hσ
    try dsimp only
    exact vq_iret hx hb hr hlocks hK hP hD hS rfl dX5_undo_26
  · rw [if_pos c11] at hσ
    refine lv_aload_n hx hb dX5_undo_14 rfl (lv_at hl 0 rfl) ?_
    refine va_get (D := (dC, dI)) (ci := 5) (v := .ref h2) (C := RX5) (T := TX5) (N := 9) hx hb hts (fun _ h => List.mem_cons_of_mem _ (List.mem_append_left _ (List.mem_append_left _ (List.mem_append_right _ h)))) hown hK hP 0 rfl rfl 2 (by decide) (hts (.fieldLink RX5 26 "SharedLine" "past" "LSharedLine$Past;") (List.mem_of_getElem? (i := 1) rfl)) (fun _ h9 => h9) rfl dX5_undo_15 ?_
    refine va_get (D := (dC, dI)) (ci := 1) (v := .int (sX1_recall S2 S1).2.1.1) (C := RX1) (T := TX1) (N := 2) hx hb hts (fun _ h => List.mem_cons_of_mem _ (List.mem_append_left _ (List.mem_append_right _ h))) hown hK hP 3 rfl rfl 1 (by decide) (hts (.fieldLink RX5 122 "SharedLine$Past" "size" "I") (List.mem_of_getElem? (i := 3) rfl)) (fun _ h9 => h9) rfl dX5_undo_18 ?_
    refine lv_goto (tgt := 26) hx hb dX5_undo_21 (by decide) ?_
    subst hσ
    try dsimp only
    exact vq_iret hx hb hr hlocks hK hP hD hS rfl dX5_undo_26
theorem hdX5_mends : yX5_mends.cls = RX5 ∧ yX5_mends.cls ≠ "java/lang/invoke/MethodHandle" ∧ yX5_mends.cls ≠ "java/lang/invoke/VarHandle" ∧ (parseMethodDescriptor yX5_mends.desc).map (fun d => d.parameters.length) = some 0 := by decide +kernel
set_option maxHeartbeats 4000000 in
set_option maxRecDepth 100000 in
theorem cX5_mends_c (l : Launch) (ev : Nat → Nat) (dC : Nat → ClassId) (dI : Nat → Nat → Nat) (cI cZ cO : ClassId) (h : Nat) (h1 : Nat) (zx : Nat) (h4 : Nat) (h2 : Nat) (zt : Nat) (zi : Nat) (S : SSt) (hp1 : Nat) (S1 : LSt) (h3 : Nat) (S2 : SSt) (hp3 : Nat) (S3 : LSt) (hr4 : Nat) (S4 : HSt) (hT : XOK S1) (hH : HOK S4) : MetI l ev (dC, dI) (tyC cI cZ cO) yX5_mends wsX5_mends (rmF 21 601) [.ref h] (wZ h h1 zx h4 h2 zt zi S ++ wL cI h1 hp1 S1 ++ wS h2 h3 S2 ++ wL cI h3 hp3 S3 ++ wH cI cO h4 hr4 S4) (sX5_mends S S1 S2 S3 S4).1 (wZ h h1 zx h4 h2 zt zi S ++ wL cI h1 hp1 (sX5_mends S S1 S2 S3 S4).2.1 ++ wS h2 h3 (sX5_mends S S1 S2 S3 S4).2.2.1 ++ wL cI h3 hp3 (sX5_mends S S1 S2 S3 S4).2.2.2.1 ++ wH cI cO h4 hr4 (sX5_mends S S1 S2 S3 S4).2.2.2.2) := by
  refine MetI_of (cc := cX5_mends) (maxL := 2) (ret := (some .int)) (by decide) rfl (Nat.le_of_ble_eq_true rfl) ?_
  intro p e s m below meth c A ls hx hb hr hml hts hown hlocks hin hK hP hD hA hE hl
  have hown : s.vm.findClass RX5 = some m.cls := hown
  have hl : lv_has ls 2 [(0, .ref h)] := hl
  have hS : va_S A s.heap s.heap [] := va_S.rf
  obtain ⟨σ, hσ⟩ : ∃ σ, (sX5_mends S S1 S2 S3 S4) = σ := ⟨_, rfl⟩
  rw [hσ]
  rw [sX5_mends] at hσ
  refine lv_aload_n hx hb dX5_mends_0 rfl (lv_at hl 0 rfl) ?_
  refine vq_Vi (As := []) (rest := []) (W2 := (wZ h h1 zx h4 h2 zt zi S ++ wL cI h1 hp1 S1 ++ wS h2 h3 (sX5_mendingChanges S S1 S2 S3).2.1 ++ wL cI h3 hp3 (sX5_mendingChanges S S1 S2 S3).2.2 ++ wH cI cO h4 hr4 S4)) (f := (sX5_mendingChanges S S1 S2 S3).1) hx hb hml hown hts hK hP hD hS hA hE hl.1 (cX5_mendingChanges_c l ev dC dI cI cZ cO h h1 zx h4 h2 zt zi S hp1 S1 h3 S2 hp3 S3 hT) gX5_mends_X5_mendingChanges rfl hdX5_mendingChanges (Nat.le_of_ble_eq_true rfl) (Nat.le_of_ble_eq_true rfl) rfl rfl (ci := 5) (qr := 0) rfl rfl rfl [0, 1, 2, 3, 4, 5] [6, 7, 8, 9, 10, 11, 12, 13, 14, 15, 16, 17, 18, 19] [14, 15, 16, 17, 18, 19, 0, 1, 2, 3, 4, 5, 6, 7, 8, 9, 10, 11, 12, 13] rfl rfl (by decide) (by decide) (by decide) rfl rfl rfl (Nat.le_of_ble_eq_true rfl) dX5_mends_1 ⟨Nat.zero_le _, Nat.zero_le _⟩ (fun H locs hP hD hS => ?_)
  refine lv_istore_n (lv' := [(1, .int (sX5_mendingChanges S S1 S2 S3).1), (0, .ref h)]) hx hb dX5_mends_4 rfl hl (by decide) rfl (fun ls hl => ?_)
  refine lv_iload_n hx hb dX5_mends_5 rfl (lv_at hl 0 rfl) ?_
  refine lv_if_gt (tgt := 12) hx hb dX5_mends_6 (by decide) (fun c6 => ?_) (fun c6 => ?_)
  · rw [if_pos c6] at hσ
    refine lv_aload_n hx hb dX5_mends_12 rfl (lv_at hl 1 rfl) ?_
    refine va_get (D := (dC, dI)) (ci := 5) (v := .ref h4) (C := RX5) (T := TX5) (N := 9) hx hb hts (fun _ h => List.mem_cons_of_mem _ (List.mem_append_left _ (List.mem_append_left _ (List.mem_append_left _ (List.mem_append_right _ h))))) hown hK hP 0 rfl rfl 2 (by decide) (hts (.fieldLink RX5 26 "SharedLine" "past" "LSharedLine$Past;") (List.mem_of_getElem? (i := 1) rfl)) (fun _ h9 => h9) rfl dX5_mends_13 ?_
    refine lv_aload_n hx hb dX5_mends_16 rfl (lv_at hl 1 rfl) ?_
    refine va_get (D := (dC, dI)) (ci := 5) (v := .ref h1) (C := RX5) (T := TX5) (N := 9) hx hb hts (fun _ h => List.mem_cons_of_mem _ (List.mem_append_left _ (List.mem_append_left _ (List.mem_append_left _ (List.mem_append_right _ h))))) hown hK hP 0 rfl rfl 0 (by decide) (hts (.fieldLink RX5 10 "SharedLine" "now" "LSharedLine$Line;") (List.mem_of_getElem? (i := 2) rfl)) (fun _ h9 => h9) rfl dX5_mends_17 ?_
    refine vq_Vv (As := [.ref h1]) (rest := []) (W2 := (wZ h h1 zx h4 h2 zt zi S ++ wL cI h1 hp1 S1 ++ wS h2 h3 (sX5_mendingChanges S S1 S2 S3).2.1 ++ wL cI h3 hp3 (sX5_mendingChanges S S1 S2 S3).2.2 ++ wH cI cO h4 hr4 (sX1_remember S4 S1))) hx hb hml hown hts hK hP hD hS hA hE hl.1 (cX1_rem_c l ev dC dI cI cZ cO h4 hr4 S4 h1 hp1 S1 hH) gX5_mends_X1_remember rfl hdX1_remember (Nat.le_of_ble_eq_true rfl) (Nat.le_of_ble_eq_true rfl) rfl rfl (ci := 1) (qr := 6) rfl rfl rfl [6, 7, 8, 9, 10, 11, 12, 13, 14, 15, 16, 17, 18, 19, 1, 2] [0, 3, 4, 5] [0, 18, 19, 1, 2, 3, 4, 5, 6, 7, 8, 9, 10, 11, 12, 13, 14, 15, 16, 17] rfl rfl (by decide) (by decide) (by decide) rfl rfl rfl (Nat.le_of_ble_eq_true rfl) dX5_mends_20 ⟨Nat.zero_le _, Nat.zero_le _⟩ (fun H locs hP hD hS => ?_)
    refine lv_aload_n hx hb dX5_mends_23 rfl (lv_at hl 1 rfl) ?_
    refine va_get (D := (dC, dI)) (ci := 5) (v := .ref h1) (C := RX5) (T := TX5) (N := 9) hx hb hts (fun _ h => List.mem_cons_of_mem _ (List.mem_append_left _ (List.mem_append_left _ (List.mem_append_left _ (List.mem_append_right _ h))))) hown hK hP 0 rfl rfl 0 (by decide) (hts (.fieldLink RX5 10 "SharedLine" "now" "LSharedLine$Line;") (List.mem_of_getElem? (i := 2) rfl)) (fun _ h9 => h9) rfl dX5_mends_24 ?_
    refine lv_aload_n hx hb dX5_mends_27 rfl (lv_at hl 1 rfl) ?_
    refine va_get (D := (dC, dI)) (ci := 5) (v := .ref h2) (C := RX5) (T := TX5) (N := 9) hx hb hts (fun _ h => List.mem_cons_of_mem _ (List.mem_append_left _ (List.mem_append_left _ (List.mem_append_left _ (List.mem_append_right _ h))))) hown hK hP 0 rfl rfl 3 (by decide) (hts (.fieldLink RX5 33 "SharedLine" "search" "LSharedLine$Search;") (List.mem_of_getElem? (i := 3) rfl)) (fun _ h9 => h9) rfl dX5_mends_28 ?_
    refine va_get (D := (dC, dI)) (ci := 2) (v := .int ((sX5_mendingChanges S S1 S2 S3).2.1 0)) (C := RX2) (T := TX2) (N := 4) hx hb hts (fun _ h => List.mem_cons_of_mem _ (List.mem_append_left _ (List.mem_append_left _ (List.mem_append_right _ h)))) hown hK hP 3 rfl rfl 1 (by decide) (hts (.fieldLink RX5 104 "SharedLine$Search" "found" "I") (List.mem_of_getElem? (i := 4) rfl)) (fun _ h9 => h9) rfl dX5_mends_31 ?_
    refine va_put (D := (dC, dI)) (ci := 0) (v := .int ((sX5_mendingChanges S S1 S2 S3).2.1 0)) (ty := .int) (C := RX0) (T := TX0) (N := 7) hx hb hts (fun _ h => List.mem_cons_of_mem _ (List.mem_append_left _ (List.mem_append_right _ h))) tyX0 tyX0_ok nmX0 hown hK hP hD hS 1 rfl rfl 3 (by decide) (hts (.fieldLink RX5 80 "SharedLine$Line" "hands" "I") (List.mem_of_getElem? (i := 5) rfl)) (fun _ h9 => h9) rfl (tyX0_ok 3 (by decide)) rfl rfl (Nat.le_of_ble_eq_true rfl) dX5_mends_34 (fun H locs hP hD hS => ?_)
    have hP : va_P (dC, dI) vwCl (wZ h h1 zx h4 h2 zt zi S ++ wL cI h1 hp1 ((upd S1.1 2 ((sX5_mendingChanges S S1 S2 S3).2.1 0)), S1.2) ++ wS h2 h3 (sX5_mendingChanges S S1 S2 S3).2.1 ++ wL cI h3 hp3 (sX5_mendingChanges S S1 S2 S3).2.2 ++ wH cI cO h4 hr4 (sX1_remember S4 S1)) H := hP
    have hD : va_D A (wZ h h1 zx h4 h2 zt zi S ++ wL cI h1 hp1 ((upd S1.1 2 ((sX5_mendingChanges S S1 S2 S3).2.1 0)), S1.2) ++ wS h2 h3 (sX5_mendingChanges S S1 S2 S3).2.1 ++ wL cI h3 hp3 (sX5_mendingChanges S S1 S2 S3).2.2 ++ wH cI cO h4 hr4 (sX1_remember S4 S1)) := hD
    refine lv_iload_n hx hb dX5_mends_37 rfl (lv_at hl 0 rfl) ?_
    subst hσ
    try dsimp only
    exact vq_iret hx hb hr hlocks hK hP hD hS rfl dX5_mends_38
  · rw [if_neg c6] at hσ
    refine lv_bipush (v := (-2)) hx hb dX5_mends_9 (by decide) ?_
    subst hσ
    try dsimp only
    exact vq_iret hx hb hr hlocks hK hP hD hS rfl dX5_mends_11
theorem hdX5_tells : yX5_tells.cls = RX5 ∧ yX5_tells.cls ≠ "java/lang/invoke/MethodHandle" ∧ yX5_tells.cls ≠ "java/lang/invoke/VarHandle" ∧ (parseMethodDescriptor yX5_tells.desc).map (fun d => d.parameters.length) = some 0 := by decide +kernel
set_option maxHeartbeats 4000000 in
set_option maxRecDepth 100000 in
theorem cX5_tells_c (l : Launch) (ev : Nat → Nat) (dC : Nat → ClassId) (dI : Nat → Nat → Nat) (cI cZ cO : ClassId) (h : Nat) (h1 : Nat) (h2 : Nat) (h4 : Nat) (zs : Nat) (zt : Nat) (zi : Nat) (S : SSt) (hp1 : Nat) (S1 : LSt) (hp2 : Nat) (h3 : Nat) (S2 : LSt) (hp3 : Nat) (S3 : LSt) (hr4 : Nat) (S4 : HSt) (hN : ∃ n : Nat, S2.1 0 = nI n ∧ n ≤ 120) (hH : HOK S4) : MetI l ev (dC, dI) (tyC cI cZ cO) yX5_tells wsX5_tells (rmF 8 169) [.ref h] (wZ h h1 h2 h4 zs zt zi S ++ wL cI h1 hp1 S1 ++ wX cI h2 hp2 h3 S2 ++ wL cI h3 hp3 S3 ++ wH cI cO h4 hr4 S4) (sX5_tells S S1 S2 S3 S4).1 (wZ h h1 h2 h4 zs zt zi S ++ wL cI h1 hp1 (sX5_tells S S1 S2 S3 S4).2.1 ++ wX cI h2 hp2 h3 (sX5_tells S S1 S2 S3 S4).2.2.1 ++ wL cI h3 hp3 (sX5_tells S S1 S2 S3 S4).2.2.2.1 ++ wH cI cO h4 hr4 (sX5_tells S S1 S2 S3 S4).2.2.2.2) := by
  refine MetI_of (cc := cX5_tells) (maxL := 2) (ret := (some .int)) (by decide) rfl (Nat.le_of_ble_eq_true rfl) ?_
  intro p e s m below meth c A ls hx hb hr hml hts hown hlocks hin hK hP hD hA hE hl
  have hown : s.vm.findClass RX5 = some m.cls := hown
  have hl : lv_has ls 2 [(0, .ref h)] := hl
  have hS : va_S A s.heap s.heap [] := va_S.rf
  obtain ⟨σ, hσ⟩ : ∃ σ, (sX5_tells S S1 S2 S3 S4) = σ := ⟨_, rfl⟩
  rw [hσ]
  rw [sX5_tells] at hσ
  refine lv_aload_n hx hb dX5_tells_0 rfl (lv_at hl 0 rfl) ?_
  refine va_get (D := (dC, dI)) (ci := 5) (v := .ref h2) (C := RX5) (T := TX5) (N := 9) hx hb hts (fun _ h => List.mem_cons_of_mem _ (List.mem_append_left _ (List.mem_append_left _ (List.mem_append_left _ (List.mem_append_right _ h))))) hown hK hP 0 rfl rfl 1 (by decide) (hts (.fieldLink RX5 19 "SharedLine" "text" "LSharedLine$Text;") (List.mem_of_getElem? (i := 1) rfl)) (fun _ h9 => h9) rfl dX5_tells_1 ?_
  refine vq_Vi (As := []) (rest := []) (W2 := (wZ h h1 h2 h4 zs zt zi S ++ wL cI h1 hp1 S1 ++ wX cI h2 hp2 h3 (sX4_read S2 S3).2.1 ++ wL cI h3 hp3 (sX4_read S2 S3).2.2 ++ wH cI cO h4 hr4 S4)) (f := (sX4_read S2 S3).1) hx hb hml hown hts hK hP hD hS hA hE hl.1 (cX4_read_c l ev dC dI cI cZ cO h2 hp2 h3 S2 hp3 S3 hN) gX5_tells_X4_read rfl hdX4_read (Nat.le_of_ble_eq_true rfl) (Nat.le_of_ble_eq_true rfl) rfl rfl (ci := 4) (qr := 3) rfl rfl rfl [3, 4, 5, 6] [0, 1, 2, 7, 8, 9, 10, 11, 12, 13, 14, 15, 16, 17, 18, 19, 20] [0, 1, 2, 17, 18, 19, 20, 3, 4, 5, 6, 7, 8, 9, 10, 11, 12, 13, 14, 15, 16] rfl rfl (by decide) (by decide) (by decide) rfl rfl rfl (Nat.le_of_ble_eq_true rfl) dX5_tells_4 ⟨Nat.zero_le _, Nat.zero_le _⟩ (fun H locs hP hD hS => ?_)
  refine lv_istore_n (lv' := [(1, .int (sX4_read S2 S3).1), (0, .ref h)]) hx hb dX5_tells_7 rfl hl (by decide) rfl (fun ls hl => ?_)
  refine lv_iload_n hx hb dX5_tells_8 rfl (lv_at hl 0 rfl) ?_
  refine lv_if_ge (tgt := 14) hx hb dX5_tells_9 (by decide) (fun c9 => ?_) (fun c9 => ?_)
  · rw [if_pos c9] at hσ
    refine lv_aload_n hx hb dX5_tells_14 rfl (lv_at hl 1 rfl) ?_
    refine va_get (D := (dC, dI)) (ci := 5) (v := .ref h4) (C := RX5) (T := TX5) (N := 9) hx hb hts (fun _ h => List.mem_cons_of_mem _ (List.mem_append_left _ (List.mem_append_left _ (List.mem_append_left _ (List.mem_append_right _ h))))) hown hK hP 0 rfl rfl 2 (by decide) (hts (.fieldLink RX5 26 "SharedLine" "past" "LSharedLine$Past;") (List.mem_of_getElem? (i := 2) rfl)) (fun _ h9 => h9) rfl dX5_tells_15 ?_
    refine lv_aload_n hx hb dX5_tells_18 rfl (lv_at hl 1 rfl) ?_
    refine va_get (D := (dC, dI)) (ci := 5) (v := .ref h1) (C := RX5) (T := TX5) (N := 9) hx hb hts (fun _ h => List.mem_cons_of_mem _ (List.mem_append_left _ (List.mem_append_left _ (List.mem_append_left _ (List.mem_append_right _ h))))) hown hK hP 0 rfl rfl 0 (by decide) (hts (.fieldLink RX5 10 "SharedLine" "now" "LSharedLine$Line;") (List.mem_of_getElem? (i := 3) rfl)) (fun _ h9 => h9) rfl dX5_tells_19 ?_
    refine vq_Vv (As := [.ref h1]) (rest := []) (W2 := (wZ h h1 h2 h4 zs zt zi S ++ wL cI h1 hp1 S1 ++ wX cI h2 hp2 h3 (sX4_read S2 S3).2.1 ++ wL cI h3 hp3 (sX4_read S2 S3).2.2 ++ wH cI cO h4 hr4 (sX1_remember S4 S1))) hx hb hml hown hts hK hP hD hS hA hE hl.1 (cX1_rem_c l ev dC dI cI cZ cO h4 hr4 S4 h1 hp1 S1 hH) gX5_tells_X1_remember rfl hdX1_remember (Nat.le_of_ble_eq_true rfl) (Nat.le_of_ble_eq_true rfl) rfl rfl (ci := 1) (qr := 7) rfl rfl rfl [7, 8, 9, 10, 11, 12, 13, 14, 15, 16, 17, 18, 19, 20, 1, 2] [0, 3, 4, 5, 6] [0, 19, 20, 1, 2, 3, 4, 5, 6, 7, 8, 9, 10, 11, 12, 13, 14, 15, 16, 17, 18] rfl rfl (by decide) (by decide) (by decide) rfl rfl rfl (Nat.le_of_ble_eq_true rfl) dX5_tells_22 ⟨Nat.zero_le _, Nat.zero_le _⟩ (fun H locs hP hD hS => ?_)
    refine lv_aload_n hx hb dX5_tells_25 rfl (lv_at hl 1 rfl) ?_
    refine va_get (D := (dC, dI)) (ci := 5) (v := .ref h1) (C := RX5) (T := TX5) (N := 9) hx hb hts (fun _ h => List.mem_cons_of_mem _ (List.mem_append_left _ (List.mem_append_left _ (List.mem_append_left _ (List.mem_append_right _ h))))) hown hK hP 0 rfl rfl 0 (by decide) (hts (.fieldLink RX5 10 "SharedLine" "now" "LSharedLine$Line;") (List.mem_of_getElem? (i := 3) rfl)) (fun _ h9 => h9) rfl dX5_tells_26 ?_
    refine lv_aload_n hx hb dX5_tells_29 rfl (lv_at hl 1 rfl) ?_
    refine va_get (D := (dC, dI)) (ci := 5) (v := .ref h2) (C := RX5) (T := TX5) (N := 9) hx hb hts (fun _ h => List.mem_cons_of_mem _ (List.mem_append_left _ (List.mem_append_left _ (List.mem_append_left _ (List.mem_append_right _ h))))) hown hK hP 0 rfl rfl 1 (by decide) (hts (.fieldLink RX5 19 "SharedLine" "text" "LSharedLine$Text;") (List.mem_of_getElem? (i := 1) rfl)) (fun _ h9 => h9) rfl dX5_tells_30 ?_
    refine va_get (D := (dC, dI)) (ci := 4) (v := .ref h3) (C := RX4) (T := TX4) (N := 8) hx hb hts (fun _ h => List.mem_cons_of_mem _ (List.mem_append_left _ (List.mem_append_left _ (List.mem_append_right _ h)))) hown hK hP 3 rfl rfl 0 (by decide) (hts (.fieldLink RX5 64 "SharedLine$Text" "draft" "LSharedLine$Line;") (List.mem_of_getElem? (i := 4) rfl)) (fun _ h9 => h9) rfl dX5_tells_33 ?_
    refine vq_Vv (As := [.ref h3]) (rest := []) (W2 := (wZ h h1 h2 h4 zs zt zi S ++ wL cI h1 hp1 (sX0_copyFrom S1 (sX4_read S2 S3).2.2) ++ wX cI h2 hp2 h3 (sX4_read S2 S3).2.1 ++ wL cI h3 hp3 (sX4_read S2 S3).2.2 ++ wH cI cO h4 hr4 (sX1_remember S4 S1))) hx hb hml hown hts hK hP hD hS hA hE hl.1 (cX0_copyFrom_c l ev dC dI cI cZ cO h1 hp1 S1 h3 hp3 (sX4_read S2 S3).2.2) gX5_tells_X0_copyFrom rfl hdX0_copyFrom (Nat.le_of_ble_eq_true rfl) (Nat.le_of_ble_eq_true rfl) rfl rfl (ci := 0) (qr := 1) rfl rfl rfl [1, 2, 5, 6] [0, 3, 4, 7, 8, 9, 10, 11, 12, 13, 14, 15, 16, 17, 18, 19, 20] [0, 17, 18, 1, 2, 19, 20, 3, 4, 5, 6, 7, 8, 9, 10, 11, 12, 13, 14, 15, 16] rfl rfl (by decide) (by decide) (by decide) rfl rfl rfl (Nat.le_of_ble_eq_true rfl) dX5_tells_36 ⟨Nat.zero_le _, Nat.zero_le _⟩ (fun H locs hP hD hS => ?_)
    refine lv_aload_n hx hb dX5_tells_39 rfl (lv_at hl 1 rfl) ?_
    refine va_get (D := (dC, dI)) (ci := 5) (v := .ref h2) (C := RX5) (T := TX5) (N := 9) hx hb hts (fun _ h => List.mem_cons_of_mem _ (List.mem_append_left _ (List.mem_append_left _ (List.mem_append_left _ (List.mem_append_right _ h))))) hown hK hP 0 rfl rfl 1 (by decide) (hts (.fieldLink RX5 19 "SharedLine" "text" "LSharedLine$Text;") (List.mem_of_getElem? (i := 1) rfl)) (fun _ h9 => h9) rfl dX5_tells_40 ?_
    refine lv_iconst (v := 0) hx hb dX5_tells_43 (by decide) ?_
    refine va_put (D := (dC, dI)) (ci := 4) (v := .int 0) (ty := .int) (C := RX4) (T := TX4) (N := 8) hx hb hts (fun _ h => List.mem_cons_of_mem _ (List.mem_append_left _ (List.mem_append_left _ (List.mem_append_right _ h)))) tyX4 tyX4_ok nmX4 hown hK hP hD hS 3 rfl rfl 1 (by decide) (hts (.fieldLink RX5 52 "SharedLine$Text" "length" "I") (List.mem_of_getElem? (i := 5) rfl)) (fun _ h9 => h9) rfl (tyX4_ok 1 (by decide)) rfl rfl (Nat.le_of_ble_eq_true rfl) dX5_tells_44 (fun H locs hP hD hS => ?_)
    have hP : va_P (dC, dI) vwCl (wZ h h1 h2 h4 zs zt zi S ++ wL cI h1 hp1 (sX0_copyFrom S1 (sX4_read S2 S3).2.2) ++ wX cI h2 hp2 h3 ((upd (sX4_read S2 S3).2.1.1 0 0), (sX4_read S2 S3).2.1.2) ++ wL cI h3 hp3 (sX4_read S2 S3).2.2 ++ wH cI cO h4 hr4 (sX1_remember S4 S1)) H := hP
    have hD : va_D A (wZ h h1 h2 h4 zs zt zi S ++ wL cI h1 hp1 (sX0_copyFrom S1 (sX4_read S2 S3).2.2) ++ wX cI h2 hp2 h3 ((upd (sX4_read S2 S3).2.1.1 0 0), (sX4_read S2 S3).2.1.2) ++ wL cI h3 hp3 (sX4_read S2 S3).2.2 ++ wH cI cO h4 hr4 (sX1_remember S4 S1)) := hD
    refine lv_iload_n hx hb dX5_tells_47 rfl (lv_at hl 0 rfl) ?_
    subst hσ
    try dsimp only
    exact vq_iret hx hb hr hlocks hK hP hD hS rfl dX5_tells_48
  · rw [if_neg c9] at hσ
    refine lv_iload_n hx hb dX5_tells_12 rfl (lv_at hl 0 rfl) ?_
    subst hσ
    try dsimp only
    exact vq_iret hx hb hr hlocks hK hP hD hS rfl dX5_tells_13
