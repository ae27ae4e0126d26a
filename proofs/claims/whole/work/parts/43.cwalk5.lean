theorem hdX5_type : yX5_type.cls = RX5 ∧ yX5_type.cls ≠ "java/lang/invoke/MethodHandle" ∧ yX5_type.cls ≠ "java/lang/invoke/VarHandle" ∧ (parseMethodDescriptor yX5_type.desc).map (fun d => d.parameters.length) = some 1 := by decide +kernel
set_option maxHeartbeats 4000000 in
set_option maxRecDepth 100000 in
theorem cX5_type_c (l : Launch) (ev : Nat → Nat) (dC : Nat → ClassId) (dI : Nat → Nat → Nat) (cI cZ cO : ClassId) (h : Nat) (zn : Nat) (h1 : Nat) (zp : Nat) (zs : Nat) (zt : Nat) (zi : Nat) (S : SSt) (hp1 : Nat) (hq1 : Nat) (S1 : LSt) (p1 : Int32) (hN : ∃ n : Nat, S1.1 0 = nI n ∧ n ≤ 120) : MetI l ev (dC, dI) (tyC cI cZ cO) yX5_type wsX5_type (rmF 1 21) [.ref h, .int p1] (wZ h zn h1 zp zs zt zi S ++ wX cI h1 hp1 hq1 S1) (sX5_type S S1 p1).1 (wZ h zn h1 zp zs zt zi S ++ wX cI h1 hp1 hq1 (sX5_type S S1 p1).2) := by
  refine MetI_of (cc := cX5_type) (maxL := 2) (ret := (some .int)) (by decide) rfl (Nat.le_of_ble_eq_true rfl) ?_
  intro p e s m below meth c A ls hx hb hr hml hts hown hlocks hin hK hP hD hA hE hl
  have hown : s.vm.findClass RX5 = some m.cls := hown
  have hl : lv_has ls 2 [(0, .ref h), (1, .int p1)] := hl
  have hS : va_S A s.heap s.heap [] := va_S.rf
  obtain ⟨σ, hσ⟩ : ∃ σ, (sX5_type S S1 p1) = σ := ⟨_, rfl⟩
  rw [hσ]
  rw [sX5_type] at hσ
  refine lv_iload_n hx hb dX5_type_0 rfl (lv_at hl 1 rfl) ?_
  refine lv_if_lt (tgt := 11) hx hb dX5_type_1 (by decide) (fun c1 => ?_) (fun c1 => ?_)
  · rw [if_pos c1] at hσ
    refine lv_iconst (v := (-1)) hx hb dX5_type_11 (by decide) ?_
    subst hσ
    try dsimp only
    exact vq_iret hx hb hr hlocks hK hP hD hS rfl dX5_type_12
  · rw [if_neg c1] at hσ
    refine lv_iload_n hx hb dX5_type_4 rfl (lv_at hl 1 rfl) ?_
    refine lv_sipush (v := 255) hx hb dX5_type_5 (by decide) ?_
    refine lv_icmp_le (tgt := 13) hx hb dX5_type_8 (by decide) (fun c8 => ?_) (fun c8 => ?_)
    · rw [if_pos c8] at hσ
      refine lv_aload_n hx hb dX5_type_13 rfl (lv_at hl 0 rfl) ?_
      refine va_get (D := (dC, dI)) (ci := 5) (v := .ref h1) (C := RX5) (T := TX5) (N := 9) hx hb hts (fun _ h => List.mem_cons_of_mem _ (List.mem_append_left _ (List.mem_append_right _ h))) hown hK hP 0 rfl rfl 1 (by decide) (hts (.fieldLink RX5 19 "SharedLine" "text" "LSharedLine$Text;") (List.mem_of_getElem? (i := 1) rfl)) (fun _ h9 => h9) rfl dX5_type_14 ?_
      refine lv_iload_n hx hb dX5_type_17 rfl (lv_at hl 1 rfl) ?_
      refine vq_Vi (As := [.int p1]) (rest := []) (W2 := (wZ h zn h1 zp zs zt zi S ++ wX cI h1 hp1 hq1 (sX4_add S1 p1).2)) (f := (bI (sX4_add S1 p1).1)) hx hb hml hown hts hK hP hD hS hA hE hl.1 (cX4_add_c l ev dC dI cI cZ cO h1 hp1 hq1 S1 p1 hN) gX5_type_X4_add rfl hdX4_add (Nat.le_of_ble_eq_true rfl) (Nat.le_of_ble_eq_true rfl) rfl rfl (ci := 4) (qr := 1) rfl rfl rfl [1, 2] [0] [0, 1, 2] rfl rfl (by decide) (by decide) (by decide) rfl rfl rfl (Nat.le_of_ble_eq_true rfl) dX5_type_18 ⟨Nat.zero_le _, Nat.zero_le _⟩ (fun H locs hP hD hS => ?_)
      refine lv_if_eqB (tgt := 34) hx hb dX5_type_21 (by decide) (fun c21 => ?_) (fun c21 => ?_)
      · rw [if_neg (Bool.eq_false_iff.mp c21)] at hσ
        refine lv_bipush (v := (-3)) hx hb dX5_type_34 (by decide) ?_
        subst hσ
        try dsimp only
        exact vq_iret hx hb hr hlocks hK hP hD hS rfl dX5_type_36
      · rw [if_pos c21] at hσ
        refine lv_aload_n hx hb dX5_type_24 rfl (lv_at hl 0 rfl) ?_
        refine va_get (D := (dC, dI)) (ci := 5) (v := .ref h1) (C := RX5) (T := TX5) (N := 9) hx hb hts (fun _ h => List.mem_cons_of_mem _ (List.mem_append_left _ (List.mem_append_right _ h))) hown hK hP 0 rfl rfl 1 (by decide) (hts (.fieldLink RX5 19 "SharedLine" "text" "LSharedLine$Text;") (List.mem_of_getElem? (i := 1) rfl)) (fun _ h9 => h9) rfl dX5_type_25 ?_
        refine va_get (D := (dC, dI)) (ci := 4) (v := .int ((sX4_add S1 p1).2.1 0)) (C := RX4) (T := TX4) (N := 8) hx hb hts (fun _ h => List.mem_cons_of_mem _ (List.mem_append_right _ h)) hown hK hP 1 rfl rfl 1 (by decide) (hts (.fieldLink RX5 52 "SharedLine$Text" "length" "I") (List.mem_of_getElem? (i := 2) rfl)) (fun _ h9 => h9) rfl dX5_type_28 ?_
        refine lv_goto (tgt := 36) hx hb dX5_type_31 (by decide) ?_
        subst hσ
        try dsimp only
        exact vq_iret hx hb hr hlocks hK hP hD hS rfl dX5_type_36
    · rw [if_neg c8] at hσ
      refine lv_iconst (v := (-1)) hx hb dX5_type_11 (by decide) ?_
      subst hσ
      try dsimp only
      exact vq_iret hx hb hr hlocks hK hP hD hS rfl dX5_type_12
theorem hdX5_clear : yX5_clear.cls = RX5 ∧ yX5_clear.cls ≠ "java/lang/invoke/MethodHandle" ∧ yX5_clear.cls ≠ "java/lang/invoke/VarHandle" ∧ (parseMethodDescriptor yX5_clear.desc).map (fun d => d.parameters.length) = some 0 := by decide +kernel
set_option maxHeartbeats 4000000 in
set_option maxRecDepth 100000 in
theorem cX5_clear_c (l : Launch) (ev : Nat → Nat) (dC : Nat → ClassId) (dI : Nat → Nat → Nat) (cI cZ cO : ClassId) (h : Nat) (zn : Nat) (h1 : Nat) (zp : Nat) (zs : Nat) (zt : Nat) (zi : Nat) (S : SSt) (hp1 : Nat) (hq1 : Nat) (S1 : LSt) : MetI l ev (dC, dI) (tyC cI cZ cO) yX5_clear wsX5_clear (rmF 0 0) [.ref h] (wZ h zn h1 zp zs zt zi S ++ wX cI h1 hp1 hq1 S1) (sX5_clear S S1).1 (wZ h zn h1 zp zs zt zi S ++ wX cI h1 hp1 hq1 (sX5_clear S S1).2) := by
  refine MetI_of (cc := cX5_clear) (maxL := 2) (ret := (some .int)) (by decide) rfl (Nat.le_of_ble_eq_true rfl) ?_
  intro p e s m below meth c A ls hx hb hr hml hts hown hlocks hin hK hP hD hA hE hl
  have hown : s.vm.findClass RX5 = some m.cls := hown
  have hl : lv_has ls 2 [(0, .ref h)] := hl
  have hS : va_S A s.heap s.heap [] := va_S.rf
  obtain ⟨σ, hσ⟩ : ∃ σ, (sX5_clear S S1) = σ := ⟨_, rfl⟩
  rw [hσ]
  rw [sX5_clear] at hσ
  refine lv_aload_n hx hb dX5_clear_0 rfl (lv_at hl 0 rfl) ?_
  refine va_get (D := (dC, dI)) (ci := 5) (v := .ref h1) (C := RX5) (T := TX5) (N := 9) hx hb hts (fun _ h => List.mem_cons_of_mem _ (List.mem_append_left _ (List.mem_append_right _ h))) hown hK hP 0 rfl rfl 1 (by decide) (hts (.fieldLink RX5 19 "SharedLine" "text" "LSharedLine$Text;") (List.mem_of_getElem? (i := 1) rfl)) (fun _ h9 => h9) rfl dX5_clear_1 ?_
  refine va_get (D := (dC, dI)) (ci := 4) (v := .int (S1.1 0)) (C := RX4) (T := TX4) (N := 8) hx hb hts (fun _ h => List.mem_cons_of_mem _ (List.mem_append_right _ h)) hown hK hP 1 rfl rfl 1 (by decide) (hts (.fieldLink RX5 52 "SharedLine$Text" "length" "I") (List.mem_of_getElem? (i := 2) rfl)) (fun _ h9 => h9) rfl dX5_clear_4 ?_
  refine lv_istore_n (lv' := [(1, .int (S1.1 0)), (0, .ref h)]) hx hb dX5_clear_7 rfl hl (by decide) rfl (fun ls hl => ?_)
  refine lv_aload_n hx hb dX5_clear_8 rfl (lv_at hl 1 rfl) ?_
  refine va_get (D := (dC, dI)) (ci := 5) (v := .ref h1) (C := RX5) (T := TX5) (N := 9) hx hb hts (fun _ h => List.mem_cons_of_mem _ (List.mem_append_left _ (List.mem_append_right _ h))) hown hK hP 0 rfl rfl 1 (by decide) (hts (.fieldLink RX5 19 "SharedLine" "text" "LSharedLine$Text;") (List.mem_of_getElem? (i := 1) rfl)) (fun _ h9 => h9) rfl dX5_clear_9 ?_
  refine lv_iconst (v := 0) hx hb dX5_clear_12 (by decide) ?_
  refine va_put (D := (dC, dI)) (ci := 4) (v := .int 0) (ty := .int) (C := RX4) (T := TX4) (N := 8) hx hb hts (fun _ h => List.mem_cons_of_mem _ (List.mem_append_right _ h)) tyX4 tyX4_ok nmX4 hown hK hP hD hS 1 rfl rfl 1 (by decide) (hts (.fieldLink RX5 52 "SharedLine$Text" "length" "I") (List.mem_of_getElem? (i := 2) rfl)) (fun _ h9 => h9) rfl (tyX4_ok 1 (by decide)) rfl rfl (Nat.le_of_ble_eq_true rfl) dX5_clear_13 (fun H locs hP hD hS => ?_)
  have hP : va_P (dC, dI) vwCl (wZ h zn h1 zp zs zt zi S ++ wX cI h1 hp1 hq1 ((upd S1.1 0 0), S1.2)) H := hP
  have hD : va_D A (wZ h zn h1 zp zs zt zi S ++ wX cI h1 hp1 hq1 ((upd S1.1 0 0), S1.2)) := hD
  refine lv_iload_n hx hb dX5_clear_16 rfl (lv_at hl 0 rfl) ?_
  subst hσ
  try dsimp only
  exact vq_iret hx hb hr hlocks hK hP hD hS rfl dX5_clear_17
theorem hdX5_tick : yX5_tick.cls = RX5 ∧ yX5_tick.cls ≠ "java/lang/invoke/MethodHandle" ∧ yX5_tick.cls ≠ "java/lang/invoke/VarHandle" ∧ (parseMethodDescriptor yX5_tick.desc).map (fun d => d.parameters.length) = some 2 := by decide +kernel
set_option maxHeartbeats 4000000 in
set_option maxRecDepth 100000 in
theorem cX5_tick_c (l : Launch) (ev : Nat → Nat) (dC : Nat → ClassId) (dI : Nat → Nat → Nat) (cI cZ cO : ClassId) (h : Nat) (h1 : Nat) (zx : Nat) (zp : Nat) (zs : Nat) (zt : Nat) (zi : Nat) (S : SSt) (hp1 : Nat) (S1 : LSt) (p1 : Int32) (p2 : Int32) (hT : XOK S1) : MetI l ev (dC, dI) (tyC cI cZ cO) yX5_tick wsX5_tick (rmF 3 65) [.ref h, .int p1, .int p2] (wZ h h1 zx zp zs zt zi S ++ wL cI h1 hp1 S1) (sX5_tick S S1 p1 p2) (wZ h h1 zx zp zs zt zi S ++ wL cI h1 hp1 S1) := by
  refine MetI_of (cc := cX5_tick) (maxL := 3) (ret := (some .int)) (by decide) rfl (Nat.le_of_ble_eq_true rfl) ?_
  intro p e s m below meth c A ls hx hb hr hml hts hown hlocks hin hK hP hD hA hE hl
  have hown : s.vm.findClass RX5 = some m.cls := hown
  have hl : lv_has ls 3 [(0, .ref h), (1, .int p1), (2, .int p2)] := hl
  have hS : va_S A s.heap s.heap [] := va_S.rf
  obtain ⟨σ, hσ⟩ : ∃ σ, (sX5_tick S S1 p1 p2) = σ := ⟨_, rfl⟩
  rw [hσ]
  rw [sX5_tick] at hσ
  refine lv_aload_n hx hb dX5_tick_0 rfl (lv_at hl 0 rfl) ?_
  refine va_get (D := (dC, dI)) (ci := 5) (v := .ref h1) (C := RX5) (T := TX5) (N := 9) hx hb hts (fun _ h => List.mem_cons_of_mem _ (List.mem_append_left _ (List.mem_append_right _ h))) hown hK hP 0 rfl rfl 0 (by decide) (hts (.fieldLink RX5 10 "SharedLine" "now" "LSharedLine$Line;") (List.mem_of_getElem? (i := 1) rfl)) (fun _ h9 => h9) rfl dX5_tick_1 ?_
  refine lv_iload_n hx hb dX5_tick_4 rfl (lv_at hl 1 rfl) ?_
  refine vq_Vi (As := [.int p1]) (rest := []) (W2 := (wZ h h1 zx zp zs zt zi S ++ wL cI h1 hp1 S1)) (f := (bI (sX0_hasTick S1 p1))) hx hb hml hown hts hK hP hD hS hA hE hl.1 (cX0_hasTick_c l ev dC dI cI cZ cO h1 hp1 S1 p1) gX5_tick_X0_hasTick rfl hdX0_hasTick (Nat.le_of_ble_eq_true rfl) (Nat.le_of_ble_eq_true rfl) rfl rfl (ci := 0) (qr := 1) rfl rfl rfl [1, 2] [0] [0, 1, 2] rfl rfl (by decide) (by decide) (by decide) rfl rfl rfl (Nat.le_of_ble_eq_true rfl) dX5_tick_5 ⟨Nat.zero_le _, Nat.zero_le _⟩ (fun H locs hP hD hS => ?_)
  refine lv_if_neB (tgt := 13) hx hb dX5_tick_8 (by decide) (fun c8 => ?_) (fun c8 => ?_)
  · rw [if_pos c8] at hσ
    refine lv_iload_n hx hb dX5_tick_13 rfl (lv_at hl 2 rfl) ?_
    by_cases c14_0 : p2 = 0
    · rw [if_pos c14_0] at hσ
      refine lv_tableIn (x := p2) (off := 30) (tgt := 44) hx hb dX5_tick_14 (by rw [c14_0]; decide) (by rw [c14_0]; decide) (by rw [c14_0]; rfl) (by decide) ?_
      refine lv_aload_n hx hb dX5_tick_44 rfl (lv_at hl 0 rfl) ?_
      refine va_get (D := (dC, dI)) (ci := 5) (v := .ref h1) (C := RX5) (T := TX5) (N := 9) hx hb hts (fun _ h => List.mem_cons_of_mem _ (List.mem_append_left _ (List.mem_append_right _ h))) hown hK hP 0 rfl rfl 0 (by decide) (hts (.fieldLink RX5 10 "SharedLine" "now" "LSharedLine$Line;") (List.mem_of_getElem? (i := 1) rfl)) (fun _ h9 => h9) rfl dX5_tick_45 ?_
      refine lv_iload_n hx hb dX5_tick_48 rfl (lv_at hl 1 rfl) ?_
      refine vq_Vi (As := [.int p1]) (rest := []) (W2 := (wZ h h1 zx zp zs zt zi S ++ wL cI h1 hp1 S1)) (f := (sX0_pitchAt S1 p1)) hx hb hml hown hts hK hP hD hS hA hE hl.1 (cX0_pitchAt_c l ev dC dI cI cZ cO h1 hp1 S1 p1) gX5_tick_X0_pitchAt rfl hdX0_pitchAt (Nat.le_of_ble_eq_true rfl) (Nat.le_of_ble_eq_true rfl) rfl rfl (ci := 0) (qr := 1) rfl rfl rfl [1, 2] [0] [0, 1, 2] rfl rfl (by decide) (by decide) (by decide) rfl rfl rfl (Nat.le_of_ble_eq_true rfl) dX5_tick_49 ⟨Nat.zero_le _, Nat.zero_le _⟩ (fun H locs hP hD hS => ?_)
      subst hσ
      exact vq_iret hx hb hr hlocks hK hP hD hS rfl dX5_tick_52
    · rw [if_neg c14_0] at hσ
      by_cases c14_1 : p2 = 1
      · rw [if_pos c14_1] at hσ
        refine lv_tableIn (x := p2) (off := 39) (tgt := 53) hx hb dX5_tick_14 (by rw [c14_1]; decide) (by rw [c14_1]; decide) (by rw [c14_1]; rfl) (by decide) ?_
        refine lv_aload_n hx hb dX5_tick_53 rfl (lv_at hl 0 rfl) ?_
        refine va_get (D := (dC, dI)) (ci := 5) (v := .ref h1) (C := RX5) (T := TX5) (N := 9) hx hb hts (fun _ h => List.mem_cons_of_mem _ (List.mem_append_left _ (List.mem_append_right _ h))) hown hK hP 0 rfl rfl 0 (by decide) (hts (.fieldLink RX5 10 "SharedLine" "now" "LSharedLine$Line;") (List.mem_of_getElem? (i := 1) rfl)) (fun _ h9 => h9) rfl dX5_tick_54 ?_
        refine lv_iload_n hx hb dX5_tick_57 rfl (lv_at hl 1 rfl) ?_
        refine vq_Vi (As := [.int p1]) (rest := []) (W2 := (wZ h h1 zx zp zs zt zi S ++ wL cI h1 hp1 S1)) (f := (bI (sX0_hasNote S1 p1))) hx hb hml hown hts hK hP hD hS hA hE hl.1 (cX0_hasNote_c l ev dC dI cI cZ cO h1 hp1 S1 p1) gX5_tick_X0_hasNote rfl hdX0_hasNote (Nat.le_of_ble_eq_true rfl) (Nat.le_of_ble_eq_true rfl) rfl rfl (ci := 0) (qr := 1) rfl rfl rfl [1, 2] [0] [0, 1, 2] rfl rfl (by decide) (by decide) (by decide) rfl rfl rfl (Nat.le_of_ble_eq_true rfl) dX5_tick_58 ⟨Nat.zero_le _, Nat.zero_le _⟩ (fun H locs hP hD hS => ?_)
        refine lv_if_eqB (tgt := 75) hx hb dX5_tick_61 (by decide) (fun c61 => ?_) (fun c61 => ?_)
        · rw [if_neg (Bool.eq_false_iff.mp c61)] at hσ
          refine lv_bipush (v := (-9)) hx hb dX5_tick_75 (by decide) ?_
          subst hσ
          exact vq_iret hx hb hr hlocks hK hP hD hS rfl dX5_tick_77
        · rw [if_pos c61] at hσ
          refine lv_aload_n hx hb dX5_tick_64 rfl (lv_at hl 0 rfl) ?_
          refine va_get (D := (dC, dI)) (ci := 5) (v := .ref h1) (C := RX5) (T := TX5) (N := 9) hx hb hts (fun _ h => List.mem_cons_of_mem _ (List.mem_append_left _ (List.mem_append_right _ h))) hown hK hP 0 rfl rfl 0 (by decide) (hts (.fieldLink RX5 10 "SharedLine" "now" "LSharedLine$Line;") (List.mem_of_getElem? (i := 1) rfl)) (fun _ h9 => h9) rfl dX5_tick_65 ?_
          refine lv_iload_n hx hb dX5_tick_68 rfl (lv_at hl 1 rfl) ?_
          refine vq_Vi (As := [.int p1]) (rest := []) (W2 := (wZ h h1 zx zp zs zt zi S ++ wL cI h1 hp1 S1)) (f := (sX0_handAt S1 p1)) hx hb hml hown hts hK hP hD hS hA hE hl.1 (cX0_handAt_c l ev dC dI cI cZ cO h1 hp1 S1 p1) gX5_tick_X0_handAt rfl hdX0_handAt (Nat.le_of_ble_eq_true rfl) (Nat.le_of_ble_eq_true rfl) rfl rfl (ci := 0) (qr := 1) rfl rfl rfl [1, 2] [0] [0, 1, 2] rfl rfl (by decide) (by decide) (by decide) rfl rfl rfl (Nat.le_of_ble_eq_true rfl) dX5_tick_69 ⟨Nat.zero_le _, Nat.zero_le _⟩ (fun H locs hP hD hS => ?_)
          refine lv_goto (tgt := 77) hx hb dX5_tick_72 (by decide) ?_
          subst hσ
          exact vq_iret hx hb hr hlocks hK hP hD hS rfl dX5_tick_77
      · rw [if_neg c14_1] at hσ
        by_cases c14_2 : p2 = 2
        · rw [if_pos c14_2] at hσ
          refine lv_tableIn (x := p2) (off := 64) (tgt := 78) hx hb dX5_tick_14 (by rw [c14_2]; decide) (by rw [c14_2]; decide) (by rw [c14_2]; rfl) (by decide) ?_
          refine lv_aload_n hx hb dX5_tick_78 rfl (lv_at hl 0 rfl) ?_
          refine va_get (D := (dC, dI)) (ci := 5) (v := .ref h1) (C := RX5) (T := TX5) (N := 9) hx hb hts (fun _ h => List.mem_cons_of_mem _ (List.mem_append_left _ (List.mem_append_right _ h))) hown hK hP 0 rfl rfl 0 (by decide) (hts (.fieldLink RX5 10 "SharedLine" "now" "LSharedLine$Line;") (List.mem_of_getElem? (i := 1) rfl)) (fun _ h9 => h9) rfl dX5_tick_79 ?_
          refine lv_iload_n hx hb dX5_tick_82 rfl (lv_at hl 1 rfl) ?_
          refine vq_Vi (As := [.int p1]) (rest := []) (W2 := (wZ h h1 zx zp zs zt zi S ++ wL cI h1 hp1 S1)) (f := (bI (sX0_isSoonBehind S1 p1))) hx hb hml hown hts hK hP hD hS hA hE hl.1 (cX0_isSoonBehind_c l ev dC dI cI cZ cO h1 hp1 S1 p1 hT) gX5_tick_X0_isSoonBehind rfl hdX0_isSoonBehind (Nat.le_of_ble_eq_true rfl) (Nat.le_of_ble_eq_true rfl) rfl rfl (ci := 0) (qr := 1) rfl rfl rfl [1, 2] [0] [0, 1, 2] rfl rfl (by decide) (by decide) (by decide) rfl rfl rfl (Nat.le_of_ble_eq_true rfl) dX5_tick_83 ⟨Nat.zero_le _, Nat.zero_le _⟩ (fun H locs hP hD hS => ?_)
          refine lv_if_eqB (tgt := 93) hx hb dX5_tick_86 (by decide) (fun c86 => ?_) (fun c86 => ?_)
          · rw [if_neg (Bool.eq_false_iff.mp c86)] at hσ
            refine lv_iconst (v := 0) hx hb dX5_tick_93 (by decide) ?_
            subst hσ
            exact vq_iret hx hb hr hlocks hK hP hD hS rfl dX5_tick_94
          · rw [if_pos c86] at hσ
            refine lv_iconst (v := 1) hx hb dX5_tick_89 (by decide) ?_
            refine lv_goto (tgt := 94) hx hb dX5_tick_90 (by decide) ?_
            subst hσ
            exact vq_iret hx hb hr hlocks hK hP hD hS rfl dX5_tick_94
        · rw [if_neg c14_2] at hσ
          by_cases c14_3 : p2 = 3
          · rw [if_pos c14_3] at hσ
            refine lv_tableIn (x := p2) (off := 81) (tgt := 95) hx hb dX5_tick_14 (by rw [c14_3]; decide) (by rw [c14_3]; decide) (by rw [c14_3]; rfl) (by decide) ?_
            refine lv_aload_n hx hb dX5_tick_95 rfl (lv_at hl 0 rfl) ?_
            refine va_get (D := (dC, dI)) (ci := 5) (v := .ref h1) (C := RX5) (T := TX5) (N := 9) hx hb hts (fun _ h => List.mem_cons_of_mem _ (List.mem_append_left _ (List.mem_append_right _ h))) hown hK hP 0 rfl rfl 0 (by decide) (hts (.fieldLink RX5 10 "SharedLine" "now" "LSharedLine$Line;") (List.mem_of_getElem? (i := 1) rfl)) (fun _ h9 => h9) rfl dX5_tick_96 ?_
            refine lv_iload_n hx hb dX5_tick_99 rfl (lv_at hl 1 rfl) ?_
            refine vq_Vi (As := [.int p1]) (rest := []) (W2 := (wZ h h1 zx zp zs zt zi S ++ wL cI h1 hp1 S1)) (f := (bI (sX0_isFarBehind S1 p1))) hx hb hml hown hts hK hP hD hS hA hE hl.1 (cX0_isFarBehind_c l ev dC dI cI cZ cO h1 hp1 S1 p1 hT) gX5_tick_X0_isFarBehind rfl hdX0_isFarBehind (Nat.le_of_ble_eq_true rfl) (Nat.le_of_ble_eq_true rfl) rfl rfl (ci := 0) (qr := 1) rfl rfl rfl [1, 2] [0] [0, 1, 2] rfl rfl (by decide) (by decide) (by decide) rfl rfl rfl (Nat.le_of_ble_eq_true rfl) dX5_tick_100 ⟨Nat.zero_le _, Nat.zero_le _⟩ (fun H locs hP hD hS => ?_)
            refine lv_if_eqB (tgt := 110) hx hb dX5_tick_103 (by decide) (fun c103 => ?_) (fun c103 => ?_)
            · rw [if_neg (Bool.eq_false_iff.mp c103)] at hσ
              refine lv_iconst (v := 0) hx hb dX5_tick_110 (by decide) ?_
              subst hσ
              exact vq_iret hx hb hr hlocks hK hP hD hS rfl dX5_tick_111
            · rw [if_pos c103] at hσ
              refine lv_iconst (v := 1) hx hb dX5_tick_106 (by decide) ?_
              refine lv_goto (tgt := 111) hx hb dX5_tick_107 (by decide) ?_
              subst hσ
              exact vq_iret hx hb hr hlocks hK hP hD hS rfl dX5_tick_111
          · rw [if_neg c14_3] at hσ
            refine lv_tableOut (x := p2) (tgt := 112) hx hb dX5_tick_14 (by have := lv_neT c14_0 (a := 0) (by decide); have := lv_neT c14_1 (a := 1) (by decide); have := lv_neT c14_2 (a := 2) (by decide); have := lv_neT c14_3 (a := 3) (by decide); omega) (by decide) ?_
            refine lv_iconst (v := (-1)) hx hb dX5_tick_112 (by decide) ?_
            subst hσ
            exact vq_iret hx hb hr hlocks hK hP hD hS rfl dX5_tick_113
  · rw [if_neg (Bool.eq_false_iff.mp c8)] at hσ
    refine lv_iconst (v := (-1)) hx hb dX5_tick_11 (by decide) ?_
    subst hσ
    exact vq_iret hx hb hr hlocks hK hP hD hS rfl dX5_tick_12
theorem hdX5_share : yX5_share.cls = RX5 ∧ yX5_share.cls ≠ "java/lang/invoke/MethodHandle" ∧ yX5_share.cls ≠ "java/lang/invoke/VarHandle" ∧ (parseMethodDescriptor yX5_share.desc).map (fun d => d.parameters.length) = some 1 := by decide +kernel
set_option maxHeartbeats 4000000 in
set_option maxRecDepth 100000 in
theorem cX5_share_c (l : Launch) (ev : Nat → Nat) (dC : Nat → ClassId) (dI : Nat → Nat → Nat) (cI cZ cO : ClassId) (h : Nat) (h1 : Nat) (zx : Nat) (zp : Nat) (zs : Nat) (zt : Nat) (zi : Nat) (S : SSt) (hp1 : Nat) (S1 : LSt) (p1 : Int32) (hT : XOK S1) : MetI l ev (dC, dI) (tyC cI cZ cO) yX5_share wsX5_share (rmF 4 90) [.ref h, .int p1] (wZ h h1 zx zp zs zt zi S ++ wL cI h1 hp1 S1) (sX5_share S S1 p1) (wZ h h1 zx zp zs zt zi S ++ wL cI h1 hp1 S1) := by
  refine MetI_of (cc := cX5_share) (maxL := 2) (ret := (some .int)) (by decide) rfl (Nat.le_of_ble_eq_true rfl) ?_
  intro p e s m below meth c A ls hx hb hr hml hts hown hlocks hin hK hP hD hA hE hl
  have hown : s.vm.findClass RX5 = some m.cls := hown
  have hl : lv_has ls 2 [(0, .ref h), (1, .int p1)] := hl
  have hS : va_S A s.heap s.heap [] := va_S.rf
  obtain ⟨σ, hσ⟩ : ∃ σ, (sX5_share S S1 p1) = σ := ⟨_, rfl⟩
  rw [hσ]
  rw [sX5_share] at hσ
  refine lv_iload_n hx hb dX5_share_0 rfl (lv_at hl 1 rfl) ?_
  by_cases c1_0 : p1 = 0
  · rw [if_pos c1_0] at hσ
    refine lv_tableIn (x := p1) (off := 35) (tgt := 36) hx hb dX5_share_1 (by rw [c1_0]; decide) (by rw [c1_0]; decide) (by rw [c1_0]; rfl) (by decide) ?_
    refine lv_aload_n hx hb dX5_share_36 rfl (lv_at hl 0 rfl) ?_
    refine va_get (D := (dC, dI)) (ci := 5) (v := .ref h1) (C := RX5) (T := TX5) (N := 9) hx hb hts (fun _ h => List.mem_cons_of_mem _ (List.mem_append_left _ (List.mem_append_right _ h))) hown hK hP 0 rfl rfl 0 (by decide) (hts (.fieldLink RX5 10 "SharedLine" "now" "LSharedLine$Line;") (List.mem_of_getElem? (i := 1) rfl)) (fun _ h9 => h9) rfl dX5_share_37 ?_
    refine vq_Vi (As := []) (rest := []) (W2 := (wZ h h1 zx zp zs zt zi S ++ wL cI h1 hp1 S1)) (f := (sX0_countTooSoon S1)) hx hb hml hown hts hK hP hD hS hA hE hl.1 (cX0_countTooSoon_c l ev dC dI cI cZ cO h1 hp1 S1 hT) gX5_share_X0_countTooSoon rfl hdX0_countTooSoon (Nat.le_of_ble_eq_true rfl) (Nat.le_of_ble_eq_true rfl) rfl rfl (ci := 0) (qr := 1) rfl rfl rfl [1, 2] [0] [0, 1, 2] rfl rfl (by decide) (by decide) (by decide) rfl rfl rfl (Nat.le_of_ble_eq_true rfl) dX5_share_40 ⟨Nat.zero_le _, Nat.zero_le _⟩ (fun H locs hP hD hS => ?_)
    subst hσ
    exact vq_iret hx hb hr hlocks hK hP hD hS rfl dX5_share_43
  · rw [if_neg c1_0] at hσ
    by_cases c1_1 : p1 = 1
    · rw [if_pos c1_1] at hσ
      refine lv_tableIn (x := p1) (off := 43) (tgt := 44) hx hb dX5_share_1 (by rw [c1_1]; decide) (by rw [c1_1]; decide) (by rw [c1_1]; rfl) (by decide) ?_
      refine lv_aload_n hx hb dX5_share_44 rfl (lv_at hl 0 rfl) ?_
      refine va_get (D := (dC, dI)) (ci := 5) (v := .ref h1) (C := RX5) (T := TX5) (N := 9) hx hb hts (fun _ h => List.mem_cons_of_mem _ (List.mem_append_left _ (List.mem_append_right _ h))) hown hK hP 0 rfl rfl 0 (by decide) (hts (.fieldLink RX5 10 "SharedLine" "now" "LSharedLine$Line;") (List.mem_of_getElem? (i := 1) rfl)) (fun _ h9 => h9) rfl dX5_share_45 ?_
      refine vq_Vi (As := []) (rest := []) (W2 := (wZ h h1 zx zp zs zt zi S ++ wL cI h1 hp1 S1)) (f := (sX0_countTooFar S1)) hx hb hml hown hts hK hP hD hS hA hE hl.1 (cX0_countTooFar_c l ev dC dI cI cZ cO h1 hp1 S1 hT) gX5_share_X0_countTooFar rfl hdX0_countTooFar (Nat.le_of_ble_eq_true rfl) (Nat.le_of_ble_eq_true rfl) rfl rfl (ci := 0) (qr := 1) rfl rfl rfl [1, 2] [0] [0, 1, 2] rfl rfl (by decide) (by decide) (by decide) rfl rfl rfl (Nat.le_of_ble_eq_true rfl) dX5_share_48 ⟨Nat.zero_le _, Nat.zero_le _⟩ (fun H locs hP hD hS => ?_)
      subst hσ
      exact vq_iret hx hb hr hlocks hK hP hD hS rfl dX5_share_51
    · rw [if_neg c1_1] at hσ
      by_cases c1_2 : p1 = 2
      · rw [if_pos c1_2] at hσ
        refine lv_tableIn (x := p1) (off := 51) (tgt := 52) hx hb dX5_share_1 (by rw [c1_2]; decide) (by rw [c1_2]; decide) (by rw [c1_2]; rfl) (by decide) ?_
        refine lv_aload_n hx hb dX5_share_52 rfl (lv_at hl 0 rfl) ?_
        refine va_get (D := (dC, dI)) (ci := 5) (v := .ref h1) (C := RX5) (T := TX5) (N := 9) hx hb hts (fun _ h => List.mem_cons_of_mem _ (List.mem_append_left _ (List.mem_append_right _ h))) hown hK hP 0 rfl rfl 0 (by decide) (hts (.fieldLink RX5 10 "SharedLine" "now" "LSharedLine$Line;") (List.mem_of_getElem? (i := 1) rfl)) (fun _ h9 => h9) rfl dX5_share_53 ?_
        refine lv_aload_n hx hb dX5_share_56 rfl (lv_at hl 0 rfl) ?_
        refine va_get (D := (dC, dI)) (ci := 5) (v := .ref h1) (C := RX5) (T := TX5) (N := 9) hx hb hts (fun _ h => List.mem_cons_of_mem _ (List.mem_append_left _ (List.mem_append_right _ h))) hown hK hP 0 rfl rfl 0 (by decide) (hts (.fieldLink RX5 10 "SharedLine" "now" "LSharedLine$Line;") (List.mem_of_getElem? (i := 1) rfl)) (fun _ h9 => h9) rfl dX5_share_57 ?_
        refine va_get (D := (dC, dI)) (ci := 0) (v := .int (S1.1 2)) (C := RX0) (T := TX0) (N := 7) hx hb hts (fun _ h => List.mem_cons_of_mem _ (List.mem_append_right _ h)) hown hK hP 1 rfl rfl 3 (by decide) (hts (.fieldLink RX5 80 "SharedLine$Line" "hands" "I") (List.mem_of_getElem? (i := 2) rfl)) (fun _ h9 => h9) rfl dX5_share_60 ?_
        refine vq_Vi (As := [.int (S1.1 2)]) (rest := []) (W2 := (wZ h h1 zx zp zs zt zi S ++ wL cI h1 hp1 S1)) (f := (sX0_likeness S1 (S1.1 2))) hx hb hml hown hts hK hP hD hS hA hE hl.1 (cX0_likeness_c l ev dC dI cI cZ cO h1 hp1 S1 (S1.1 2)) gX5_share_X0_likeness rfl hdX0_likeness (Nat.le_of_ble_eq_true rfl) (Nat.le_of_ble_eq_true rfl) rfl rfl (ci := 0) (qr := 1) rfl rfl rfl [1, 2] [0] [0, 1, 2] rfl rfl (by decide) (by decide) (by decide) rfl rfl rfl (Nat.le_of_ble_eq_true rfl) dX5_share_63 ⟨Nat.zero_le _, Nat.zero_le _⟩ (fun H locs hP hD hS => ?_)
        subst hσ
        exact vq_iret hx hb hr hlocks hK hP hD hS rfl dX5_share_66
      · rw [if_neg c1_2] at hσ
        by_cases c1_3 : p1 = 3
        · rw [if_pos c1_3] at hσ
          refine lv_tableIn (x := p1) (off := 66) (tgt := 67) hx hb dX5_share_1 (by rw [c1_3]; decide) (by rw [c1_3]; decide) (by rw [c1_3]; rfl) (by decide) ?_
          refine lv_aload_n hx hb dX5_share_67 rfl (lv_at hl 0 rfl) ?_
          refine va_get (D := (dC, dI)) (ci := 5) (v := .ref h1) (C := RX5) (T := TX5) (N := 9) hx hb hts (fun _ h => List.mem_cons_of_mem _ (List.mem_append_left _ (List.mem_append_right _ h))) hown hK hP 0 rfl rfl 0 (by decide) (hts (.fieldLink RX5 10 "SharedLine" "now" "LSharedLine$Line;") (List.mem_of_getElem? (i := 1) rfl)) (fun _ h9 => h9) rfl dX5_share_68 ?_
          refine lv_aload_n hx hb dX5_share_71 rfl (lv_at hl 0 rfl) ?_
          refine va_get (D := (dC, dI)) (ci := 5) (v := .ref h1) (C := RX5) (T := TX5) (N := 9) hx hb hts (fun _ h => List.mem_cons_of_mem _ (List.mem_append_left _ (List.mem_append_right _ h))) hown hK hP 0 rfl rfl 0 (by decide) (hts (.fieldLink RX5 10 "SharedLine" "now" "LSharedLine$Line;") (List.mem_of_getElem? (i := 1) rfl)) (fun _ h9 => h9) rfl dX5_share_72 ?_
          refine va_get (D := (dC, dI)) (ci := 0) (v := .int (S1.1 2)) (C := RX0) (T := TX0) (N := 7) hx hb hts (fun _ h => List.mem_cons_of_mem _ (List.mem_append_right _ h)) hown hK hP 1 rfl rfl 3 (by decide) (hts (.fieldLink RX5 80 "SharedLine$Line" "hands" "I") (List.mem_of_getElem? (i := 2) rfl)) (fun _ h9 => h9) rfl dX5_share_75 ?_
          refine vq_Vi (As := [.int (S1.1 2)]) (rest := []) (W2 := (wZ h h1 zx zp zs zt zi S ++ wL cI h1 hp1 S1)) (f := (sX0_tilt S1 (S1.1 2))) hx hb hml hown hts hK hP hD hS hA hE hl.1 (cX0_tilt_c l ev dC dI cI cZ cO h1 hp1 S1 (S1.1 2)) gX5_share_X0_tilt rfl hdX0_tilt (Nat.le_of_ble_eq_true rfl) (Nat.le_of_ble_eq_true rfl) rfl rfl (ci := 0) (qr := 1) rfl rfl rfl [1, 2] [0] [0, 1, 2] rfl rfl (by decide) (by decide) (by decide) rfl rfl rfl (Nat.le_of_ble_eq_true rfl) dX5_share_78 ⟨Nat.zero_le _, Nat.zero_le _⟩ (fun H locs hP hD hS => ?_)
          subst hσ
          exact vq_iret hx hb hr hlocks hK hP hD hS rfl dX5_share_81
        · rw [if_neg c1_3] at hσ
          by_cases c1_4 : p1 = 4
          · rw [if_pos c1_4] at hσ
            refine lv_tableIn (x := p1) (off := 81) (tgt := 82) hx hb dX5_share_1 (by rw [c1_4]; decide) (by rw [c1_4]; decide) (by rw [c1_4]; rfl) (by decide) ?_
            refine lv_aload_n hx hb dX5_share_82 rfl (lv_at hl 0 rfl) ?_
            refine va_get (D := (dC, dI)) (ci := 5) (v := .ref h1) (C := RX5) (T := TX5) (N := 9) hx hb hts (fun _ h => List.mem_cons_of_mem _ (List.mem_append_left _ (List.mem_append_right _ h))) hown hK hP 0 rfl rfl 0 (by decide) (hts (.fieldLink RX5 10 "SharedLine" "now" "LSharedLine$Line;") (List.mem_of_getElem? (i := 1) rfl)) (fun _ h9 => h9) rfl dX5_share_83 ?_
            refine lv_aload_n hx hb dX5_share_86 rfl (lv_at hl 0 rfl) ?_
            refine va_get (D := (dC, dI)) (ci := 5) (v := .ref h1) (C := RX5) (T := TX5) (N := 9) hx hb hts (fun _ h => List.mem_cons_of_mem _ (List.mem_append_left _ (List.mem_append_right _ h))) hown hK hP 0 rfl rfl 0 (by decide) (hts (.fieldLink RX5 10 "SharedLine" "now" "LSharedLine$Line;") (List.mem_of_getElem? (i := 1) rfl)) (fun _ h9 => h9) rfl dX5_share_87 ?_
            refine va_get (D := (dC, dI)) (ci := 0) (v := .int (S1.1 2)) (C := RX0) (T := TX0) (N := 7) hx hb hts (fun _ h => List.mem_cons_of_mem _ (List.mem_append_right _ h)) hown hK hP 1 rfl rfl 3 (by decide) (hts (.fieldLink RX5 80 "SharedLine$Line" "hands" "I") (List.mem_of_getElem? (i := 2) rfl)) (fun _ h9 => h9) rfl dX5_share_90 ?_
            refine vq_Vi (As := [.int (S1.1 2)]) (rest := []) (W2 := (wZ h h1 zx zp zs zt zi S ++ wL cI h1 hp1 S1)) (f := (bI (sX0_isLawful S1 (S1.1 2)))) hx hb hml hown hts hK hP hD hS hA hE hl.1 (cX0_isLawful_c l ev dC dI cI cZ cO h1 hp1 S1 (S1.1 2) hT) gX5_share_X0_isLawful rfl hdX0_isLawful (Nat.le_of_ble_eq_true rfl) (Nat.le_of_ble_eq_true rfl) rfl rfl (ci := 0) (qr := 1) rfl rfl rfl [1, 2] [0] [0, 1, 2] rfl rfl (by decide) (by decide) (by decide) rfl rfl rfl (Nat.le_of_ble_eq_true rfl) dX5_share_93 ⟨Nat.zero_le _, Nat.zero_le _⟩ (fun H locs hP hD hS => ?_)
            refine lv_if_eqB (tgt := 103) hx hb dX5_share_96 (by decide) (fun c96 => ?_) (fun c96 => ?_)
            · rw [if_neg (Bool.eq_false_iff.mp c96)] at hσ
              refine lv_iconst (v := 0) hx hb dX5_share_103 (by decide) ?_
              subst hσ
              exact vq_iret hx hb hr hlocks hK hP hD hS rfl dX5_share_104
            · rw [if_pos c96] at hσ
              refine lv_iconst (v := 1) hx hb dX5_share_99 (by decide) ?_
              refine lv_goto (tgt := 104) hx hb dX5_share_100 (by decide) ?_
              subst hσ
              exact vq_iret hx hb hr hlocks hK hP hD hS rfl dX5_share_104
          · rw [if_neg c1_4] at hσ
            refine lv_tableOut (x := p1) (tgt := 105) hx hb dX5_share_1 (by have := lv_neT c1_0 (a := 0) (by decide); have := lv_neT c1_1 (a := 1) (by decide); have := lv_neT c1_2 (a := 2) (by decide); have := lv_neT c1_3 (a := 3) (by decide); have := lv_neT c1_4 (a := 4) (by decide); omega) (by decide) ?_
            refine lv_ldc (v := (-1000000)) hx hb hown (hts (.constant RX5 149 (-1000000)) (List.mem_of_getElem? (i := 3) rfl)) dX5_share_105 ?_
            subst hσ
            exact vq_iret hx hb hr hlocks hK hP hD hS rfl dX5_share_107
theorem hdX5_mendingChanges : yX5_mendingChanges.cls = RX5 ∧ yX5_mendingChanges.cls ≠ "java/lang/invoke/MethodHandle" ∧ yX5_mendingChanges.cls ≠ "java/lang/invoke/VarHandle" ∧ (parseMethodDescriptor yX5_mendingChanges.desc).map (fun d => d.parameters.length) = some 0 := by decide +kernel
set_option maxHeartbeats 4000000 in
set_option maxRecDepth 100000 in
theorem cX5_mendingChanges_c (l : Launch) (ev : Nat → Nat) (dC : Nat → ClassId) (dI : Nat → Nat → Nat) (cI cZ cO : ClassId) (h : Nat) (h1 : Nat) (zx : Nat) (zp : Nat) (h2 : Nat) (zt : Nat) (zi : Nat) (S : SSt) (hp1 : Nat) (S1 : LSt) (h3 : Nat) (S2 : SSt) (hp3 : Nat) (S3 : LSt) (hT : XOK S1) : MetI l ev (dC, dI) (tyC cI cZ cO) yX5_mendingChanges wsX5_mendingChanges (rmF 20 581) [.ref h] (wZ h h1 zx zp h2 zt zi S ++ wL cI h1 hp1 S1 ++ wS h2 h3 S2 ++ wL cI h3 hp3 S3) (sX5_mendingChanges S S1 S2 S3).1 (wZ h h1 zx zp h2 zt zi S ++ wL cI h1 hp1 S1 ++ wS h2 h3 (sX5_mendingChanges S S1 S2 S3).2.1 ++ wL cI h3 hp3 (sX5_mendingChanges S S1 S2 S3).2.2) := by
  refine MetI_of (cc := cX5_mendingChanges) (maxL := 1) (ret := (some .int)) (by decide) rfl (Nat.le_of_ble_eq_true rfl) ?_
  intro p e s m below meth c A ls hx hb hr hml hts hown hlocks hin hK hP hD hA hE hl
  have hown : s.vm.findClass RX5 = some m.cls := hown
  have hl : lv_has ls 1 [(0, .ref h)] := hl
  have hS : va_S A s.heap s.heap [] := va_S.rf
  obtain ⟨σ, hσ⟩ : ∃ σ, (sX5_mendingChanges S S1 S2 S3) = σ := ⟨_, rfl⟩
  rw [hσ]
  rw [sX5_mendingChanges] at hσ
  refine lv_aload_n hx hb dX5_mendingChanges_0 rfl (lv_at hl 0 rfl) ?_
  refine va_get (D := (dC, dI)) (ci := 5) (v := .ref h2) (C := RX5) (T := TX5) (N := 9) hx hb hts (fun _ h => List.mem_cons_of_mem _ (List.mem_append_left _ (List.mem_append_left _ (List.mem_append_right _ h)))) hown hK hP 0 rfl rfl 3 (by decide) (hts (.fieldLink RX5 33 "SharedLine" "search" "LSharedLine$Search;") (List.mem_of_getElem? (i := 1) rfl)) (fun _ h9 => h9) rfl dX5_mendingChanges_1 ?_
  refine lv_aload_n hx hb dX5_mendingChanges_4 rfl (lv_at hl 0 rfl) ?_
  refine va_get (D := (dC, dI)) (ci := 5) (v := .ref h1) (C := RX5) (T := TX5) (N := 9) hx hb hts (fun _ h => List.mem_cons_of_mem _ (List.mem_append_left _ (List.mem_append_left _ (List.mem_append_right _ h)))) hown hK hP 0 rfl rfl 0 (by decide) (hts (.fieldLink RX5 10 "SharedLine" "now" "LSharedLine$Line;") (List.mem_of_getElem? (i := 2) rfl)) (fun _ h9 => h9) rfl dX5_mendingChanges_5 ?_
  refine vq_Vv (As := [.ref h1]) (rest := []) (W2 := (wZ h h1 zx zp h2 zt zi S ++ wL cI h1 hp1 S1 ++ wS h2 h3 S2 ++ wL cI h3 hp3 (sX2_lookAt S2 S3 S1))) hx hb hml hown hts hK hP hD hS hA hE hl.1 (cX2_lookAt_c l ev dC dI cI cZ cO h2 h3 S2 hp3 S3 h1 hp1 S1) gX5_mendingChanges_X2_lookAt rfl hdX2_lookAt (Nat.le_of_ble_eq_true rfl) (Nat.le_of_ble_eq_true rfl) rfl rfl (ci := 2) (qr := 3) rfl rfl rfl [3, 4, 5, 1, 2] [0] [0, 4, 5, 1, 2, 3] rfl rfl (by decide) (by decide) (by decide) rfl rfl rfl (Nat.le_of_ble_eq_true rfl) dX5_mendingChanges_8 ⟨Nat.zero_le _, Nat.zero_le _⟩ (fun H locs hP hD hS => ?_)
  refine lv_aload_n hx hb dX5_mendingChanges_11 rfl (lv_at hl 0 rfl) ?_
  refine va_get (D := (dC, dI)) (ci := 5) (v := .ref h2) (C := RX5) (T := TX5) (N := 9) hx hb hts (fun _ h => List.mem_cons_of_mem _ (List.mem_append_left _ (List.mem_append_left _ (List.mem_append_right _ h)))) hown hK hP 0 rfl rfl 3 (by decide) (hts (.fieldLink RX5 33 "SharedLine" "search" "LSharedLine$Search;") (List.mem_of_getElem? (i := 1) rfl)) (fun _ h9 => h9) rfl dX5_mendingChanges_12 ?_
  refine lv_iconst (v := 2) hx hb dX5_mendingChanges_15 (by decide) ?_
  refine vq_Vi (As := [.int 2]) (rest := []) (W2 := (wZ h h1 zx zp h2 zt zi S ++ wL cI h1 hp1 S1 ++ wS h2 h3 (sX2_find S2 (sX2_lookAt S2 S3 S1) (2 : Int32)).2 ++ wL cI h3 hp3 (sX2_lookAt S2 S3 S1))) (f := (bI (sX2_find S2 (sX2_lookAt S2 S3 S1) (2 : Int32)).1)) hx hb hml hown hts hK hP hD hS hA hE hl.1 (cX2_find_c l ev dC dI cI cZ cO h2 h3 S2 hp3 (sX2_lookAt S2 S3 S1) (2 : Int32) (cp_T hT)) gX5_mendingChanges_X2_find rfl hdX2_find (Nat.le_of_ble_eq_true rfl) (Nat.le_of_ble_eq_true rfl) rfl rfl (ci := 2) (qr := 3) rfl rfl rfl [3, 4, 5] [0, 1, 2] [0, 1, 2, 3, 4, 5] rfl rfl (by decide) (by decide) (by decide) rfl rfl rfl (Nat.le_of_ble_eq_true rfl) dX5_mendingChanges_16 ⟨Nat.zero_le _, Nat.zero_le _⟩ (fun H locs hP hD hS => ?_)
  refine lv_if_eqB (tgt := 43) hx hb dX5_mendingChanges_19 (by decide) (fun c19 => ?_) (fun c19 => ?_)
  · rw [if_neg (Bool.eq_false_iff.mp c19)] at hσ
    refine lv_bipush (v := (-9)) hx hb dX5_mendingChanges_43 (by decide) ?_
    subst hσ
    try dsimp only
    exact vq_iret hx hb hr hlocks hK hP hD hS rfl dX5_mendingChanges_45
  · rw [if_pos c19] at hσ
    refine lv_aload_n hx hb dX5_mendingChanges_22 rfl (lv_at hl 0 rfl) ?_
    refine va_get (D := (dC, dI)) (ci := 5) (v := .ref h2) (C := RX5) (T := TX5) (N := 9) hx hb hts (fun _ h => List.mem_cons_of_mem _ (List.mem_append_left _ (List.mem_append_left _ (List.mem_append_right _ h)))) hown hK hP 0 rfl rfl 3 (by decide) (hts (.fieldLink RX5 33 "SharedLine" "search" "LSharedLine$Search;") (List.mem_of_getElem? (i := 1) rfl)) (fun _ h9 => h9) rfl dX5_mendingChanges_23 ?_
    refine va_get (D := (dC, dI)) (ci := 2) (v := .int ((sX2_find S2 (sX2_lookAt S2 S3 S1) (2 : Int32)).2 0)) (C := RX2) (T := TX2) (N := 4) hx hb hts (fun _ h => List.mem_cons_of_mem _ (List.mem_append_left _ (List.mem_append_right _ h))) hown hK hP 3 rfl rfl 1 (by decide) (hts (.fieldLink RX5 104 "SharedLine$Search" "found" "I") (List.mem_of_getElem? (i := 3) rfl)) (fun _ h9 => h9) rfl dX5_mendingChanges_26 ?_
    refine lv_aload_n hx hb dX5_mendingChanges_29 rfl (lv_at hl 0 rfl) ?_
    refine va_get (D := (dC, dI)) (ci := 5) (v := .ref h1) (C := RX5) (T := TX5) (N := 9) hx hb hts (fun _ h => List.mem_cons_of_mem _ (List.mem_append_left _ (List.mem_append_left _ (List.mem_append_right _ h)))) hown hK hP 0 rfl rfl 0 (by decide) (hts (.fieldLink RX5 10 "SharedLine" "now" "LSharedLine$Line;") (List.mem_of_getElem? (i := 2) rfl)) (fun _ h9 => h9) rfl dX5_mendingChanges_30 ?_
    refine va_get (D := (dC, dI)) (ci := 0) (v := .int (S1.1 2)) (C := RX0) (T := TX0) (N := 7) hx hb hts (fun _ h => List.mem_cons_of_mem _ (List.mem_append_right _ h)) hown hK hP 1 rfl rfl 3 (by decide) (hts (.fieldLink RX5 80 "SharedLine$Line" "hands" "I") (List.mem_of_getElem? (i := 4) rfl)) (fun _ h9 => h9) rfl dX5_mendingChanges_33 ?_
    refine lv_ixor hx hb dX5_mendingChanges_36 ?_
    refine vq_Si (As := [.int (((sX2_find S2 (sX2_lookAt S2 S3 S1) (2 : Int32)).2 0) ^^^ (S1.1 2))]) (rest := []) (W2 := (wZ h h1 zx zp h2 zt zi S ++ wL cI h1 hp1 S1 ++ wS h2 h3 (sX2_find S2 (sX2_lookAt S2 S3 S1) (2 : Int32)).2 ++ wL cI h3 hp3 (sX2_lookAt S2 S3 S1))) (f := (sJ6_bitCount_0f7a4 (((sX2_find S2 (sX2_lookAt S2 S3 S1) (2 : Int32)).2 0) ^^^ (S1.1 2)))) hx hb hml hown hts hK hP hD hS hA hE hl.1 (cJ6_bitCount_0f7a4_c l ev dC dI cI cZ cO (((sX2_find S2 (sX2_lookAt S2 S3 S1) (2 : Int32)).2 0) ^^^ (S1.1 2))) gX5_mendingChanges_J6_bitCount_0f7a4 rfl hdJ6_bitCount_0f7a4 (Nat.le_of_ble_eq_true rfl) (Nat.le_of_ble_eq_true rfl) rfl rfl [] [0, 1, 2, 3, 4, 5] [0, 1, 2, 3, 4, 5] rfl rfl (by decide) (by decide) (by decide) rfl rfl rfl (Nat.le_of_ble_eq_true rfl) dX5_mendingChanges_37 ⟨Nat.zero_le _, Nat.zero_le _⟩ (fun H locs hP hD hS => ?_)
    refine lv_goto (tgt := 45) hx hb dX5_mendingChanges_40 (by decide) ?_
    subst hσ
    try dsimp only
    exact vq_iret hx hb hr hlocks hK hP hD hS rfl dX5_mendingChanges_45
theorem hdX5_change : yX5_change.cls = RX5 ∧ yX5_change.cls ≠ "java/lang/invoke/MethodHandle" ∧ yX5_change.cls ≠ "java/lang/invoke/VarHandle" ∧ (parseMethodDescriptor yX5_change.desc).map (fun d => d.parameters.length) = some 0 := by decide +kernel
set_option maxHeartbeats 4000000 in
set_option maxRecDepth 100000 in
theorem cX5_change_c (l : Launch) (ev : Nat → Nat) (dC : Nat → ClassId) (dI : Nat → Nat → Nat) (cI cZ cO : ClassId) (h : Nat) (h1 : Nat) (zx : Nat) (zp : Nat) (h2 : Nat) (zt : Nat) (zi : Nat) (S : SSt) (hp1 : Nat) (S1 : LSt) (h3 : Nat) (S2 : SSt) (hp3 : Nat) (S3 : LSt) (hT : XOK S1) : MetI l ev (dC, dI) (tyC cI cZ cO) yX5_change wsX5_change (rmF 21 601) [.ref h] (wZ h h1 zx zp h2 zt zi S ++ wL cI h1 hp1 S1 ++ wS h2 h3 S2 ++ wL cI h3 hp3 S3) (sX5_change S S1 S2 S3).1 (wZ h h1 zx zp h2 zt zi S ++ wL cI h1 hp1 S1 ++ wS h2 h3 (sX5_change S S1 S2 S3).2.1 ++ wL cI h3 hp3 (sX5_change S S1 S2 S3).2.2) := by
  refine MetI_of (cc := cX5_change) (maxL := 1) (ret := (some .int)) (by decide) rfl (Nat.le_of_ble_eq_true rfl) ?_
  intro p e s m below meth c A ls hx hb hr hml hts hown hlocks hin hK hP hD hA hE hl
  have hown : s.vm.findClass RX5 = some m.cls := hown
  have hl : lv_has ls 1 [(0, .ref h)] := hl
  have hS : va_S A s.heap s.heap [] := va_S.rf
  obtain ⟨σ, hσ⟩ : ∃ σ, (sX5_change S S1 S2 S3) = σ := ⟨_, rfl⟩
  rw [hσ]
  rw [sX5_change] at hσ
  refine lv_aload_n hx hb dX5_change_0 rfl (lv_at hl 0 rfl) ?_
  refine vq_Vi (As := []) (rest := []) (W2 := (wZ h h1 zx zp h2 zt zi S ++ wL cI h1 hp1 S1 ++ wS h2 h3 (sX5_mendingChanges S S1 S2 S3).2.1 ++ wL cI h3 hp3 (sX5_mendingChanges S S1 S2 S3).2.2)) (f := (sX5_mendingChanges S S1 S2 S3).1) hx hb hml hown hts hK hP hD hS hA hE hl.1 (cX5_mendingChanges_c l ev dC dI cI cZ cO h h1 zx zp h2 zt zi S hp1 S1 h3 S2 hp3 S3 hT) gX5_change_X5_mendingChanges rfl hdX5_mendingChanges (Nat.le_of_ble_eq_true rfl) (Nat.le_of_ble_eq_true rfl) rfl rfl (ci := 5) (qr := 0) rfl rfl rfl [0, 1, 2, 3, 4, 5] [] [0, 1, 2, 3, 4, 5] rfl rfl (by decide) (by decide) (by decide) rfl rfl rfl (Nat.le_of_ble_eq_true rfl) dX5_change_1 ⟨Nat.zero_le _, Nat.zero_le _⟩ (fun H locs hP hD hS => ?_)
  subst hσ
  try dsimp only
  exact vq_iret hx hb hr hlocks hK hP hD hS rfl dX5_change_4
theorem hdX5_best : yX5_best.cls = RX5 ∧ yX5_best.cls ≠ "java/lang/invoke/MethodHandle" ∧ yX5_best.cls ≠ "java/lang/invoke/VarHandle" ∧ (parseMethodDescriptor yX5_best.desc).map (fun d => d.parameters.length) = some 1 := by decide +kernel
set_option maxHeartbeats 4000000 in
set_option maxRecDepth 100000 in
theorem cX5_best_c (l : Launch) (ev : Nat → Nat) (dC : Nat → ClassId) (dI : Nat → Nat → Nat) (cI cZ cO : ClassId) (h : Nat) (h1 : Nat) (zx : Nat) (zp : Nat) (h2 : Nat) (zt : Nat) (zi : Nat) (S : SSt) (hp1 : Nat) (S1 : LSt) (h3 : Nat) (S2 : SSt) (hp3 : Nat) (S3 : LSt) (p1 : Int32) (hT : XOK S1) : MetI l ev (dC, dI) (tyC cI cZ cO) yX5_best wsX5_best (rmF 20 581) [.ref h, .int p1] (wZ h h1 zx zp h2 zt zi S ++ wL cI h1 hp1 S1 ++ wS h2 h3 S2 ++ wL cI h3 hp3 S3) (sX5_best S S1 S2 S3 p1).1 (wZ h h1 zx zp h2 zt zi S ++ wL cI h1 hp1 S1 ++ wS h2 h3 (sX5_best S S1 S2 S3 p1).2.1 ++ wL cI h3 hp3 (sX5_best S S1 S2 S3 p1).2.2) := by
  refine MetI_of (cc := cX5_best) (maxL := 2) (ret := (some .int)) (by decide) rfl (Nat.le_of_ble_eq_true rfl) ?_
  intro p e s m below meth c A ls hx hb hr hml hts hown hlocks hin hK hP hD hA hE hl
  have hown : s.vm.findClass RX5 = some m.cls := hown
  have hl : lv_has ls 2 [(0, .ref h), (1, .int p1)] := hl
  have hS : va_S A s.heap s.heap [] := va_S.rf
  obtain ⟨σ, hσ⟩ : ∃ σ, (sX5_best S S1 S2 S3 p1) = σ := ⟨_, rfl⟩
  rw [hσ]
  rw [sX5_best] at hσ
  refine lv_iload_n hx hb dX5_best_0 rfl (lv_at hl 1 rfl) ?_
  refine lv_if_lt (tgt := 9) hx hb dX5_best_1 (by decide) (fun c1 => ?_) (fun c1 => ?_)
  · rw [if_pos c1] at hσ
    refine lv_ldc (v := (-1000000)) hx hb hown (hts (.constant RX5 149 (-1000000)) (List.mem_of_getElem? (i := 1) rfl)) dX5_best_9 ?_
    subst hσ
    try dsimp only
    exact vq_iret hx hb hr hlocks hK hP hD hS rfl dX5_best_11
  · rw [if_neg c1] at hσ
    refine lv_iload_n hx hb dX5_best_4 rfl (lv_at hl 1 rfl) ?_
    refine lv_iconst (v := 2) hx hb dX5_best_5 (by decide) ?_
    refine lv_icmp_le (tgt := 12) hx hb dX5_best_6 (by decide) (fun c6 => ?_) (fun c6 => ?_)
    · rw [if_pos c6] at hσ
      refine lv_aload_n hx hb dX5_best_12 rfl (lv_at hl 0 rfl) ?_
      refine va_get (D := (dC, dI)) (ci := 5) (v := .ref h2) (C := RX5) (T := TX5) (N := 9) hx hb hts (fun _ h => List.mem_cons_of_mem _ (List.mem_append_left _ (List.mem_append_left _ (List.mem_append_right _ h)))) hown hK hP 0 rfl rfl 3 (by decide) (hts (.fieldLink RX5 33 "SharedLine" "search" "LSharedLine$Search;") (List.mem_of_getElem? (i := 2) rfl)) (fun _ h9 => h9) rfl dX5_best_13 ?_
      refine lv_aload_n hx hb dX5_best_16 rfl (lv_at hl 0 rfl) ?_
      refine va_get (D := (dC, dI)) (ci := 5) (v := .ref h1) (C := RX5) (T := TX5) (N := 9) hx hb hts (fun _ h => List.mem_cons_of_mem _ (List.mem_append_left _ (List.mem_append_left _ (List.mem_append_right _ h)))) hown hK hP 0 rfl rfl 0 (by decide) (hts (.fieldLink RX5 10 "SharedLine" "now" "LSharedLine$Line;") (List.mem_of_getElem? (i := 3) rfl)) (fun _ h9 => h9) rfl dX5_best_17 ?_
      refine vq_Vv (As := [.ref h1]) (rest := []) (W2 := (wZ h h1 zx zp h2 zt zi S ++ wL cI h1 hp1 S1 ++ wS h2 h3 S2 ++ wL cI h3 hp3 (sX2_lookAt S2 S3 S1))) hx hb hml hown hts hK hP hD hS hA hE hl.1 (cX2_lookAt_c l ev dC dI cI cZ cO h2 h3 S2 hp3 S3 h1 hp1 S1) gX5_best_X2_lookAt rfl hdX2_lookAt (Nat.le_of_ble_eq_true rfl) (Nat.le_of_ble_eq_true rfl) rfl rfl (ci := 2) (qr := 3) rfl rfl rfl [3, 4, 5, 1, 2] [0] [0, 4, 5, 1, 2, 3] rfl rfl (by decide) (by decide) (by decide) rfl rfl rfl (Nat.le_of_ble_eq_true rfl) dX5_best_20 ⟨Nat.zero_le _, Nat.zero_le _⟩ (fun H locs hP hD hS => ?_)
      refine lv_aload_n hx hb dX5_best_23 rfl (lv_at hl 0 rfl) ?_
      refine va_get (D := (dC, dI)) (ci := 5) (v := .ref h2) (C := RX5) (T := TX5) (N := 9) hx hb hts (fun _ h => List.mem_cons_of_mem _ (List.mem_append_left _ (List.mem_append_left _ (List.mem_append_right _ h)))) hown hK hP 0 rfl rfl 3 (by decide) (hts (.fieldLink RX5 33 "SharedLine" "search" "LSharedLine$Search;") (List.mem_of_getElem? (i := 2) rfl)) (fun _ h9 => h9) rfl dX5_best_24 ?_
      refine lv_iconst (v := 1) hx hb dX5_best_27 (by decide) ?_
      refine vq_Vi (As := [.int 1]) (rest := []) (W2 := (wZ h h1 zx zp h2 zt zi S ++ wL cI h1 hp1 S1 ++ wS h2 h3 (sX2_find S2 (sX2_lookAt S2 S3 S1) (1 : Int32)).2 ++ wL cI h3 hp3 (sX2_lookAt S2 S3 S1))) (f := (bI (sX2_find S2 (sX2_lookAt S2 S3 S1) (1 : Int32)).1)) hx hb hml hown hts hK hP hD hS hA hE hl.1 (cX2_find_c l ev dC dI cI cZ cO h2 h3 S2 hp3 (sX2_lookAt S2 S3 S1) (1 : Int32) (cp_T hT)) gX5_best_X2_find rfl hdX2_find (Nat.le_of_ble_eq_true rfl) (Nat.le_of_ble_eq_true rfl) rfl rfl (ci := 2) (qr := 3) rfl rfl rfl [3, 4, 5] [0, 1, 2] [0, 1, 2, 3, 4, 5] rfl rfl (by decide) (by decide) (by decide) rfl rfl rfl (Nat.le_of_ble_eq_true rfl) dX5_best_28 ⟨Nat.zero_le _, Nat.zero_le _⟩ (fun H locs hP hD hS => ?_)
      refine lv_if_neB (tgt := 37) hx hb dX5_best_31 (by decide) (fun c31 => ?_) (fun c31 => ?_)
      · rw [if_pos c31] at hσ
        refine lv_iload_n hx hb dX5_best_37 rfl (lv_at hl 1 rfl) ?_
        by_cases c38_0 : p1 = 0
        · rw [if_pos c38_0] at hσ
          refine lv_lookup (x := p1) (off := 26) (tgt := 64) hx hb dX5_best_38 (by decide) (by rw [c38_0]; decide) (by decide) ?_
          refine lv_aload_n hx hb dX5_best_64 rfl (lv_at hl 0 rfl) ?_
          refine va_get (D := (dC, dI)) (ci := 5) (v := .ref h1) (C := RX5) (T := TX5) (N := 9) hx hb hts (fun _ h => List.mem_cons_of_mem _ (List.mem_append_left _ (List.mem_append_left _ (List.mem_append_right _ h)))) hown hK hP 0 rfl rfl 0 (by decide) (hts (.fieldLink RX5 10 "SharedLine" "now" "LSharedLine$Line;") (List.mem_of_getElem? (i := 3) rfl)) (fun _ h9 => h9) rfl dX5_best_65 ?_
          refine lv_aload_n hx hb dX5_best_68 rfl (lv_at hl 0 rfl) ?_
          refine va_get (D := (dC, dI)) (ci := 5) (v := .ref h2) (C := RX5) (T := TX5) (N := 9) hx hb hts (fun _ h => List.mem_cons_of_mem _ (List.mem_append_left _ (List.mem_append_left _ (List.mem_append_right _ h)))) hown hK hP 0 rfl rfl 3 (by decide) (hts (.fieldLink RX5 33 "SharedLine" "search" "LSharedLine$Search;") (List.mem_of_getElem? (i := 2) rfl)) (fun _ h9 => h9) rfl dX5_best_69 ?_
          refine va_get (D := (dC, dI)) (ci := 2) (v := .int ((sX2_find S2 (sX2_lookAt S2 S3 S1) (1 : Int32)).2 0)) (C := RX2) (T := TX2) (N := 4) hx hb hts (fun _ h => List.mem_cons_of_mem _ (List.mem_append_left _ (List.mem_append_right _ h))) hown hK hP 3 rfl rfl 1 (by decide) (hts (.fieldLink RX5 104 "SharedLine$Search" "found" "I") (List.mem_of_getElem? (i := 5) rfl)) (fun _ h9 => h9) rfl dX5_best_72 ?_
          refine vq_Vi (As := [.int ((sX2_find S2 (sX2_lookAt S2 S3 S1) (1 : Int32)).2 0)]) (rest := []) (W2 := (wZ h h1 zx zp h2 zt zi S ++ wL cI h1 hp1 S1 ++ wS h2 h3 (sX2_find S2 (sX2_lookAt S2 S3 S1) (1 : Int32)).2 ++ wL cI h3 hp3 (sX2_lookAt S2 S3 S1))) (f := (sX0_likeness S1 ((sX2_find S2 (sX2_lookAt S2 S3 S1) (1 : Int32)).2 0))) hx hb hml hown hts hK hP hD hS hA hE hl.1 (cX0_likeness_c l ev dC dI cI cZ cO h1 hp1 S1 ((sX2_find S2 (sX2_lookAt S2 S3 S1) (1 : Int32)).2 0)) gX5_best_X0_likeness rfl hdX0_likeness (Nat.le_of_ble_eq_true rfl) (Nat.le_of_ble_eq_true rfl) rfl rfl (ci := 0) (qr := 1) rfl rfl rfl [1, 2] [0, 3, 4, 5] [0, 4, 5, 1, 2, 3] rfl rfl (by decide) (by decide) (by decide) rfl rfl rfl (Nat.le_of_ble_eq_true rfl) dX5_best_75 ⟨Nat.zero_le _, Nat.zero_le _⟩ (fun H locs hP hD hS => ?_)
          subst hσ
          try dsimp only
          exact vq_iret hx hb hr hlocks hK hP hD hS rfl dX5_best_78
        · rw [if_neg c38_0] at hσ
          by_cases c38_1 : p1 = 1
          · rw [if_pos c38_1] at hσ
            refine lv_lookup (x := p1) (off := 41) (tgt := 79) hx hb dX5_best_38 (by decide) (by rw [c38_1]; decide) (by decide) ?_
            refine lv_aload_n hx hb dX5_best_79 rfl (lv_at hl 0 rfl) ?_
            refine va_get (D := (dC, dI)) (ci := 5) (v := .ref h1) (C := RX5) (T := TX5) (N := 9) hx hb hts (fun _ h => List.mem_cons_of_mem _ (List.mem_append_left _ (List.mem_append_left _ (List.mem_append_right _ h)))) hown hK hP 0 rfl rfl 0 (by decide) (hts (.fieldLink RX5 10 "SharedLine" "now" "LSharedLine$Line;") (List.mem_of_getElem? (i := 3) rfl)) (fun _ h9 => h9) rfl dX5_best_80 ?_
            refine lv_aload_n hx hb dX5_best_83 rfl (lv_at hl 0 rfl) ?_
            refine va_get (D := (dC, dI)) (ci := 5) (v := .ref h2) (C := RX5) (T := TX5) (N := 9) hx hb hts (fun _ h => List.mem_cons_of_mem _ (List.mem_append_left _ (List.mem_append_left _ (List.mem_append_right _ h)))) hown hK hP 0 rfl rfl 3 (by decide) (hts (.fieldLink RX5 33 "SharedLine" "search" "LSharedLine$Search;") (List.mem_of_getElem? (i := 2) rfl)) (fun _ h9 => h9) rfl dX5_best_84 ?_
            refine va_get (D := (dC, dI)) (ci := 2) (v := .int ((sX2_find S2 (sX2_lookAt S2 S3 S1) (1 : Int32)).2 0)) (C := RX2) (T := TX2) (N := 4) hx hb hts (fun _ h => List.mem_cons_of_mem _ (List.mem_append_left _ (List.mem_append_right _ h))) hown hK hP 3 rfl rfl 1 (by decide) (hts (.fieldLink RX5 104 "SharedLine$Search" "found" "I") (List.mem_of_getElem? (i := 5) rfl)) (fun _ h9 => h9) rfl dX5_best_87 ?_
            refine vq_Vi (As := [.int ((sX2_find S2 (sX2_lookAt S2 S3 S1) (1 : Int32)).2 0)]) (rest := []) (W2 := (wZ h h1 zx zp h2 zt zi S ++ wL cI h1 hp1 S1 ++ wS h2 h3 (sX2_find S2 (sX2_lookAt S2 S3 S1) (1 : Int32)).2 ++ wL cI h3 hp3 (sX2_lookAt S2 S3 S1))) (f := (sX0_tilt S1 ((sX2_find S2 (sX2_lookAt S2 S3 S1) (1 : Int32)).2 0))) hx hb hml hown hts hK hP hD hS hA hE hl.1 (cX0_tilt_c l ev dC dI cI cZ cO h1 hp1 S1 ((sX2_find S2 (sX2_lookAt S2 S3 S1) (1 : Int32)).2 0)) gX5_best_X0_tilt rfl hdX0_tilt (Nat.le_of_ble_eq_true rfl) (Nat.le_of_ble_eq_true rfl) rfl rfl (ci := 0) (qr := 1) rfl rfl rfl [1, 2] [0, 3, 4, 5] [0, 4, 5, 1, 2, 3] rfl rfl (by decide) (by decide) (by decide) rfl rfl rfl (Nat.le_of_ble_eq_true rfl) dX5_best_90 ⟨Nat.zero_le _, Nat.zero_le _⟩ (fun H locs hP hD hS => ?_)
            subst hσ
            try dsimp only
            exact vq_iret hx hb hr hlocks hK hP hD hS rfl dX5_best_93
          · rw [if_neg c38_1] at hσ
            refine lv_lookup (x := p1) (off := 56) (tgt := 94) hx hb dX5_best_38 (by decide) (by rw [show (#[(0, 26), (1, 41)] : Array (Int × Int)).toList = [(0, 26), (1, 41)] from rfl, lv_osw c38_0 (by decide), lv_osw c38_1 (by decide)]; rfl) (by decide) ?_
            refine lv_aload_n hx hb dX5_best_94 rfl (lv_at hl 0 rfl) ?_
            refine va_get (D := (dC, dI)) (ci := 5) (v := .ref h2) (C := RX5) (T := TX5) (N := 9) hx hb hts (fun _ h => List.mem_cons_of_mem _ (List.mem_append_left _ (List.mem_append_left _ (List.mem_append_right _ h)))) hown hK hP 0 rfl rfl 3 (by decide) (hts (.fieldLink RX5 33 "SharedLine" "search" "LSharedLine$Search;") (List.mem_of_getElem? (i := 2) rfl)) (fun _ h9 => h9) rfl dX5_best_95 ?_
            refine va_get (D := (dC, dI)) (ci := 2) (v := .int ((sX2_find S2 (sX2_lookAt S2 S3 S1) (1 : Int32)).2 0)) (C := RX2) (T := TX2) (N := 4) hx hb hts (fun _ h => List.mem_cons_of_mem _ (List.mem_append_left _ (List.mem_append_right _ h))) hown hK hP 3 rfl rfl 1 (by decide) (hts (.fieldLink RX5 104 "SharedLine$Search" "found" "I") (List.mem_of_getElem? (i := 5) rfl)) (fun _ h9 => h9) rfl dX5_best_98 ?_
            subst hσ
            try dsimp only
            exact vq_iret hx hb hr hlocks hK hP hD hS rfl dX5_best_101
      · rw [if_neg (Bool.eq_false_iff.mp c31)] at hσ
        refine lv_ldc (v := (-2000000)) hx hb hown (hts (.constant RX5 156 (-2000000)) (List.mem_of_getElem? (i := 4) rfl)) dX5_best_34 ?_
        subst hσ
        try dsimp only
        exact vq_iret hx hb hr hlocks hK hP hD hS rfl dX5_best_36
    · rw [if_neg c6] at hσ
      refine lv_ldc (v := (-1000000)) hx hb hown (hts (.constant RX5 149 (-1000000)) (List.mem_of_getElem? (i := 1) rfl)) dX5_best_9 ?_
      subst hσ
      try dsimp only
      exact vq_iret hx hb hr hlocks hK hP hD hS rfl dX5_best_11
theorem hdX5_slowest : yX5_slowest.cls = RX5 ∧ yX5_slowest.cls ≠ "java/lang/invoke/MethodHandle" ∧ yX5_slowest.cls ≠ "java/lang/invoke/VarHandle" ∧ (parseMethodDescriptor yX5_slowest.desc).map (fun d => d.parameters.length) = some 0 := by decide +kernel
set_option maxHeartbeats 4000000 in
set_option maxRecDepth 100000 in
theorem cX5_slowest_c (l : Launch) (ev : Nat → Nat) (dC : Nat → ClassId) (dI : Nat → Nat → Nat) (cI cZ cO : ClassId) (h : Nat) (h1 : Nat) (zx : Nat) (zp : Nat) (h2 : Nat) (zt : Nat) (zi : Nat) (S : SSt) (hp1 : Nat) (S1 : LSt) (h3 : Nat) (S2 : SSt) (hp3 : Nat) (S3 : LSt) (hT : XOK S1) : MetI l ev (dC, dI) (tyC cI cZ cO) yX5_slowest wsX5_slowest (rmF 20 581) [.ref h] (wZ h h1 zx zp h2 zt zi S ++ wL cI h1 hp1 S1 ++ wS h2 h3 S2 ++ wL cI h3 hp3 S3) (sX5_slowest S S1 S2 S3).1 (wZ h h1 zx zp h2 zt zi S ++ wL cI h1 hp1 S1 ++ wS h2 h3 (sX5_slowest S S1 S2 S3).2.1 ++ wL cI h3 hp3 (sX5_slowest S S1 S2 S3).2.2) := by
  refine MetI_of (cc := cX5_slowest) (maxL := 2) (ret := (some .int)) (by decide) rfl (Nat.le_of_ble_eq_true rfl) ?_
  intro p e s m below meth c A ls hx hb hr hml hts hown hlocks hin hK hP hD hA hE hl
  have hown : s.vm.findClass RX5 = some m.cls := hown
  have hl : lv_has ls 2 [(0, .ref h)] := hl
  have hS : va_S A s.heap s.heap [] := va_S.rf
  obtain ⟨σ, hσ⟩ : ∃ σ, (sX5_slowest S S1 S2 S3) = σ := ⟨_, rfl⟩
  rw [hσ]
  rw [sX5_slowest] at hσ
  refine lv_aload_n hx hb dX5_slowest_0 rfl (lv_at hl 0 rfl) ?_
  refine va_get (D := (dC, dI)) (ci := 5) (v := .ref h2) (C := RX5) (T := TX5) (N := 9) hx hb hts (fun _ h => List.mem_cons_of_mem _ (List.mem_append_left _ (List.mem_append_left _ (List.mem_append_right _ h)))) hown hK hP 0 rfl rfl 3 (by decide) (hts (.fieldLink RX5 33 "SharedLine" "search" "LSharedLine$Search;") (List.mem_of_getElem? (i := 1) rfl)) (fun _ h9 => h9) rfl dX5_slowest_1 ?_
  refine lv_aload_n hx hb dX5_slowest_4 rfl (lv_at hl 0 rfl) ?_
  refine va_get (D := (dC, dI)) (ci := 5) (v := .ref h1) (C := RX5) (T := TX5) (N := 9) hx hb hts (fun _ h => List.mem_cons_of_mem _ (List.mem_append_left _ (List.mem_append_left _ (List.mem_append_right _ h)))) hown hK hP 0 rfl rfl 0 (by decide) (hts (.fieldLink RX5 10 "SharedLine" "now" "LSharedLine$Line;") (List.mem_of_getElem? (i := 2) rfl)) (fun _ h9 => h9) rfl dX5_slowest_5 ?_
  refine vq_Vv (As := [.ref h1]) (rest := []) (W2 := (wZ h h1 zx zp h2 zt zi S ++ wL cI h1 hp1 S1 ++ wS h2 h3 S2 ++ wL cI h3 hp3 (sX2_lookAt S2 S3 S1))) hx hb hml hown hts hK hP hD hS hA hE hl.1 (cX2_lookAt_c l ev dC dI cI cZ cO h2 h3 S2 hp3 S3 h1 hp1 S1) gX5_slowest_X2_lookAt rfl hdX2_lookAt (Nat.le_of_ble_eq_true rfl) (Nat.le_of_ble_eq_true rfl) rfl rfl (ci := 2) (qr := 3) rfl rfl rfl [3, 4, 5, 1, 2] [0] [0, 4, 5, 1, 2, 3] rfl rfl (by decide) (by decide) (by decide) rfl rfl rfl (Nat.le_of_ble_eq_true rfl) dX5_slowest_8 ⟨Nat.zero_le _, Nat.zero_le _⟩ (fun H locs hP hD hS => ?_)
  refine va_gets (v := .ref (ev 1)) hx hb hE.1.2.2.1 hS hown (hts (.fieldLink RX5 157 "SharedLine" "NUMBER_MOST" "[I") (List.mem_of_getElem? (i := 3) rfl)) (fun _ h9 => h9) dX5_slowest_11 ?_
  refine lv_iconst (v := 0) hx hb dX5_slowest_14 (by decide) ?_
  refine va_ti (v := .int 5) hx hb hE.1.2.2.2.1 hS (i := 0) (by unfold vp_in; decide) rfl dX5_slowest_15 ?_
  refine lv_istore_n (lv' := [(1, .int 5), (0, .ref h)]) hx hb dX5_slowest_16 rfl hl (by decide) rfl (fun ls hl => ?_)
  have key17 : ∀ (n17 : Nat) (x1_17 : Int32) (Y2_17 : SSt) (Y3_17 : LSt) (k17 : Nat), (x1_17 = nI k17) → (k17 ≤ 5) → (k17 < n17) → (XOK Y3_17) → (sX5_slowest_L17  n17 x1_17 Y2_17 Y3_17) = σ → ∀ (H : Heap) (locs : List Loc) (ls : Array Slot), va_P (dC, dI) vwCl (wZ h h1 zx zp h2 zt zi S ++ wL cI h1 hp1 S1 ++ wS h2 h3 Y2_17 ++ wL cI h3 hp3 Y3_17) H → va_D A (wZ h h1 zx zp h2 zt zi S ++ wL cI h1 hp1 S1 ++ wS h2 h3 Y2_17 ++ wL cI h3 hp3 Y3_17) → va_S A s.heap H locs → lv_has ls 2 [(0, .ref h), (1, .int x1_17)] → W p l e (headSpec wsX5_slowest (rmF 20 581)).room s m ([.ref h] : List Value).toArray below meth c H locs 0 0 (MQ below (va_Qi (fun (x : Int32) (_ : Unit) => x = σ.1) (fun _ t => PoW (dC, dI) (tyC cI cZ cO) A (wZ h h1 zx zp h2 zt zi S ++ wL cI h1 hp1 S1 ++ wS h2 h3 σ.2.1 ++ wL cI h3 hp3 σ.2.2) t) A) ([.ref h] : List Value).toArray s 0 0 A) (F0 m 17 ls []) := by
    intro n17
    induction n17 with
    | zero =>
      intro x1_17 Y2_17 Y3_17 k17 e17 hk17 hn17 T17
      exact absurd hn17 (Nat.not_lt_zero _)
    | succ n17 ih17 =>
      intro x1_17 Y2_17 Y3_17 k17 e17 hk17 hn17 T17 hσ H locs ls hP hD hS hl
      rw [sX5_slowest_L17_s] at hσ
      refine lv_iload_n hx hb dX5_slowest_17 rfl (lv_at hl 1 rfl) ?_
      refine va_gets (v := .ref (ev 0)) hx hb hE.1.1 hS hown (hts (.fieldLink RX5 161 "SharedLine" "NUMBER_LEAST" "[I") (List.mem_of_getElem? (i := 4) rfl)) (fun _ h9 => h9) dX5_slowest_18 ?_
      refine lv_iconst (v := 0) hx hb dX5_slowest_21 (by decide) ?_
      refine va_ti (v := .int 1) hx hb hE.1.2.1 hS (i := 0) (by unfold vp_in; decide) rfl dX5_slowest_22 ?_
      refine lv_icmp_lt (tgt := 56) hx hb dX5_slowest_23 (by decide) (fun c23 => ?_) (fun c23 => ?_)
      · rw [if_pos c23] at hσ
        refine lv_bipush (v := (-9)) hx hb dX5_slowest_56 (by decide) ?_
        subst hσ
        try dsimp only
        exact vq_iret hx hb hr hlocks hK hP hD hS rfl dX5_slowest_58
      · rw [if_neg c23] at hσ
        refine lv_aload_n hx hb dX5_slowest_26 rfl (lv_at hl 0 rfl) ?_
        refine va_get (D := (dC, dI)) (ci := 5) (v := .ref h2) (C := RX5) (T := TX5) (N := 9) hx hb hts (fun _ h => List.mem_cons_of_mem _ (List.mem_append_left _ (List.mem_append_left _ (List.mem_append_right _ h)))) hown hK hP 0 rfl rfl 3 (by decide) (hts (.fieldLink RX5 33 "SharedLine" "search" "LSharedLine$Search;") (List.mem_of_getElem? (i := 1) rfl)) (fun _ h9 => h9) rfl dX5_slowest_27 ?_
        refine va_get (D := (dC, dI)) (ci := 2) (v := .ref h3) (C := RX2) (T := TX2) (N := 4) hx hb hts (fun _ h => List.mem_cons_of_mem _ (List.mem_append_left _ (List.mem_append_right _ h))) hown hK hP 3 rfl rfl 0 (by decide) (hts (.fieldLink RX5 164 "SharedLine$Search" "line" "LSharedLine$Line;") (List.mem_of_getElem? (i := 5) rfl)) (fun _ h9 => h9) rfl dX5_slowest_30 ?_
        refine lv_iload_n hx hb dX5_slowest_33 rfl (lv_at hl 1 rfl) ?_
        refine va_put (D := (dC, dI)) (ci := 0) (v := .int x1_17) (ty := .int) (C := RX0) (T := TX0) (N := 7) hx hb hts (fun _ h => List.mem_cons_of_mem _ (List.mem_append_right _ h)) tyX0 tyX0_ok nmX0 hown hK hP hD hS 4 rfl rfl 4 (by decide) (hts (.fieldLink RX5 167 "SharedLine$Line" "wait" "I") (List.mem_of_getElem? (i := 6) rfl)) (fun _ h9 => h9) rfl (tyX0_ok 4 (by decide)) rfl rfl (Nat.le_of_ble_eq_true rfl) dX5_slowest_34 (fun H locs hP hD hS => ?_)
        have hP : va_P (dC, dI) vwCl (wZ h h1 zx zp h2 zt zi S ++ wL cI h1 hp1 S1 ++ wS h2 h3 Y2_17 ++ wL cI h3 hp3 ((upd Y3_17.1 3 x1_17), Y3_17.2)) H := hP
        have hD : va_D A (wZ h h1 zx zp h2 zt zi S ++ wL cI h1 hp1 S1 ++ wS h2 h3 Y2_17 ++ wL cI h3 hp3 ((upd Y3_17.1 3 x1_17), Y3_17.2)) := hD
        refine lv_aload_n hx hb dX5_slowest_37 rfl (lv_at hl 0 rfl) ?_
        refine va_get (D := (dC, dI)) (ci := 5) (v := .ref h2) (C := RX5) (T := TX5) (N := 9) hx hb hts (fun _ h => List.mem_cons_of_mem _ (List.mem_append_left _ (List.mem_append_left _ (List.mem_append_right _ h)))) hown hK hP 0 rfl rfl 3 (by decide) (hts (.fieldLink RX5 33 "SharedLine" "search" "LSharedLine$Search;") (List.mem_of_getElem? (i := 1) rfl)) (fun _ h9 => h9) rfl dX5_slowest_38 ?_
        refine lv_iconst (v := 0) hx hb dX5_slowest_41 (by decide) ?_
        refine vq_Vi (As := [.int 0]) (rest := []) (W2 := (wZ h h1 zx zp h2 zt zi S ++ wL cI h1 hp1 S1 ++ wS h2 h3 (sX2_find Y2_17 ((upd Y3_17.1 3 x1_17), Y3_17.2) (0 : Int32)).2 ++ wL cI h3 hp3 ((upd Y3_17.1 3 x1_17), Y3_17.2))) (f := (bI (sX2_find Y2_17 ((upd Y3_17.1 3 x1_17), Y3_17.2) (0 : Int32)).1)) hx hb hml hown hts hK hP hD hS hA hE hl.1 (cX2_find_c l ev dC dI cI cZ cO h2 h3 Y2_17 hp3 ((upd Y3_17.1 3 x1_17), Y3_17.2) (0 : Int32) T17) gX5_slowest_X2_find rfl hdX2_find (Nat.le_of_ble_eq_true rfl) (Nat.le_of_ble_eq_true rfl) rfl rfl (ci := 2) (qr := 3) rfl rfl rfl [3, 4, 5] [0, 1, 2] [0, 1, 2, 3, 4, 5] rfl rfl (by decide) (by decide) (by decide) rfl rfl rfl (Nat.le_of_ble_eq_true rfl) dX5_slowest_42 ⟨Nat.zero_le _, Nat.zero_le _⟩ (fun H locs hP hD hS => ?_)
        refine lv_if_eqB (tgt := 50) hx hb dX5_slowest_45 (by decide) (fun c45 => ?_) (fun c45 => ?_)
        · rw [if_neg (Bool.eq_false_iff.mp c45)] at hσ
          refine lv_iinc (v := (x1_17 + (-1))) (lv' := [(1, .int (x1_17 + (-1))), (0, .ref h)]) hx hb dX5_slowest_50 hl (k := 1) rfl rfl (by decide) rfl (fun ls hl => ?_)
          refine lv_goto (tgt := 17) hx hb dX5_slowest_53 (by decide) ?_
          exact ih17 (x1_17 + (-1)) (sX2_find Y2_17 ((upd Y3_17.1 3 x1_17), Y3_17.2) (0 : Int32)).2 ((upd Y3_17.1 3 x1_17), Y3_17.2) (k17 - 1) (sl_k e17 (by omega) c23).2 (by omega) (by have := (sl_k e17 (by omega) c23).1; omega) T17 hσ _ _ _ hP hD hS (lv_sub hl [1, 0] rfl)
        · rw [if_pos c45] at hσ
          refine lv_iload_n hx hb dX5_slowest_48 rfl (lv_at hl 1 rfl) ?_
          subst hσ
          try dsimp only
          exact vq_iret hx hb hr hlocks hK hP hD hS rfl dX5_slowest_49
  exact key17 6 (5 : Int32) S2 (sX2_lookAt S2 S3 S1) 5 rfl (by decide) (by decide) (cp_T hT) hσ _ _ _ hP hD hS (lv_sub hl [1, 0] rfl)
theorem hdX5_busiest : yX5_busiest.cls = RX5 ∧ yX5_busiest.cls ≠ "java/lang/invoke/MethodHandle" ∧ yX5_busiest.cls ≠ "java/lang/invoke/VarHandle" ∧ (parseMethodDescriptor yX5_busiest.desc).map (fun d => d.parameters.length) = some 2 := by decide +kernel
set_option maxHeartbeats 4000000 in
set_option maxRecDepth 100000 in
theorem cX5_busiest_c (l : Launch) (ev : Nat → Nat) (dC : Nat → ClassId) (dI : Nat → Nat → Nat) (cI cZ cO : ClassId) (h : Nat) (h1 : Nat) (zx : Nat) (zp : Nat) (zs : Nat) (zt : Nat) (zi : Nat) (S : SSt) (hp1 : Nat) (S1 : LSt) (p1 : Int32) (p2 : Int32) (hT : XOK S1) : MetI l ev (dC, dI) (tyC cI cZ cO) yX5_busiest wsX5_busiest (rmF 1 21) [.ref h, .int p1, .int p2] (wZ h h1 zx zp zs zt zi S ++ wL cI h1 hp1 S1) (sX5_busiest S S1 p1 p2) (wZ h h1 zx zp zs zt zi S ++ wL cI h1 hp1 S1) := by
  refine MetI_of (cc := cX5_busiest) (maxL := 8) (ret := (some .int)) (by decide) rfl (Nat.le_of_ble_eq_true rfl) ?_
  intro p e s m below meth c A ls hx hb hr hml hts hown hlocks hin hK hP hD hA hE hl
  have hown : s.vm.findClass RX5 = some m.cls := hown
  have hl : lv_has ls 8 [(0, .ref h), (1, .int p1), (2, .int p2)] := hl
  have hS : va_S A s.heap s.heap [] := va_S.rf
  obtain ⟨σ, hσ⟩ : ∃ σ, (sX5_busiest S S1 p1 p2) = σ := ⟨_, rfl⟩
  rw [hσ]
  rw [sX5_busiest] at hσ
  obtain ⟨T, eT, hT1, hT2⟩ := id hT
  refine lv_iload_n hx hb dX5_busiest_0 rfl (lv_at hl 1 rfl) ?_
  refine vq_Si (As := [.int p1]) (rest := []) (W2 := (wZ h h1 zx zp zs zt zi S ++ wL cI h1 hp1 S1)) (f := (bI (sX5_isHand p1))) hx hb hml hown hts hK hP hD hS hA hE hl.1 (cX5_isHand_c l ev dC dI cI cZ cO p1) gX5_busiest_X5_isHand rfl hdX5_isHand (Nat.le_of_ble_eq_true rfl) (Nat.le_of_ble_eq_true rfl) rfl rfl [] [0, 1, 2] [0, 1, 2] rfl rfl (by decide) (by decide) (by decide) rfl rfl rfl (Nat.le_of_ble_eq_true rfl) dX5_busiest_1 ⟨Nat.zero_le _, Nat.zero_le _⟩ (fun H locs hP hD hS => ?_)
  refine lv_if_eqB (tgt := 16) hx hb dX5_busiest_4 (by decide) (fun c4 => ?_) (fun c4 => ?_)
  · rw [if_neg (Bool.eq_false_iff.mp c4)] at hσ
    refine lv_iconst (v := (-1)) hx hb dX5_busiest_16 (by decide) ?_
    subst hσ
    exact vq_iret hx hb hr hlocks hK hP hD hS rfl dX5_busiest_17
  · rw [if_pos c4] at hσ
    refine lv_iload_n hx hb dX5_busiest_7 rfl (lv_at hl 2 rfl) ?_
    refine lv_if_lt (tgt := 16) hx hb dX5_busiest_8 (by decide) (fun c8 => ?_) (fun c8 => ?_)
    · rw [if_pos c8] at hσ
      refine lv_iconst (v := (-1)) hx hb dX5_busiest_16 (by decide) ?_
      subst hσ
      exact vq_iret hx hb hr hlocks hK hP hD hS rfl dX5_busiest_17
    · rw [if_neg c8] at hσ
      refine lv_iload_n hx hb dX5_busiest_11 rfl (lv_at hl 2 rfl) ?_
      refine lv_iconst (v := 1) hx hb dX5_busiest_12 (by decide) ?_
      refine lv_icmp_le (tgt := 18) hx hb dX5_busiest_13 (by decide) (fun c13 => ?_) (fun c13 => ?_)
      · rw [if_pos c13] at hσ
        refine lv_aload_n hx hb dX5_busiest_18 rfl (lv_at hl 0 rfl) ?_
        refine va_get (D := (dC, dI)) (ci := 5) (v := .ref h1) (C := RX5) (T := TX5) (N := 9) hx hb hts (fun _ h => List.mem_cons_of_mem _ (List.mem_append_left _ (List.mem_append_right _ h))) hown hK hP 0 rfl rfl 0 (by decide) (hts (.fieldLink RX5 10 "SharedLine" "now" "LSharedLine$Line;") (List.mem_of_getElem? (i := 1) rfl)) (fun _ h9 => h9) rfl dX5_busiest_19 ?_
        refine lv_iload_n hx hb dX5_busiest_22 rfl (lv_at hl 1 rfl) ?_
        refine vq_Vi (As := [.int p1]) (rest := []) (W2 := (wZ h h1 zx zp zs zt zi S ++ wL cI h1 hp1 S1)) (f := (sX0_notesOf S1 p1)) hx hb hml hown hts hK hP hD hS hA hE hl.1 (cX0_notesOf_c l ev dC dI cI cZ cO h1 hp1 S1 p1) gX5_busiest_X0_notesOf rfl hdX0_notesOf (Nat.le_of_ble_eq_true rfl) (Nat.le_of_ble_eq_true rfl) rfl rfl (ci := 0) (qr := 1) rfl rfl rfl [1, 2] [0] [0, 1, 2] rfl rfl (by decide) (by decide) (by decide) rfl rfl rfl (Nat.le_of_ble_eq_true rfl) dX5_busiest_23 ⟨Nat.zero_le _, Nat.zero_le _⟩ (fun H locs hP hD hS => ?_)
        refine lv_istore_n (lv' := [(3, .int (sX0_notesOf S1 p1)), (0, .ref h), (1, .int p1), (2, .int p2)]) hx hb dX5_busiest_26 rfl hl (by decide) rfl (fun ls hl => ?_)
        refine lv_iconst (v := 0) hx hb dX5_busiest_27 (by decide) ?_
        refine lv_istore (lv' := [(4, .int 0), (3, .int (sX0_notesOf S1 p1)), (0, .ref h), (1, .int p1), (2, .int p2)]) hx hb dX5_busiest_28 hl (by decide) rfl (fun ls hl => ?_)
        refine lv_iconst (v := 0) hx hb dX5_busiest_30 (by decide) ?_
        refine lv_istore (lv' := [(5, .int 0), (4, .int 0), (3, .int (sX0_notesOf S1 p1)), (0, .ref h), (1, .int p1), (2, .int p2)]) hx hb dX5_busiest_31 hl (by decide) rfl (fun ls hl => ?_)
        refine lv_iconst (v := 0) hx hb dX5_busiest_33 (by decide) ?_
        refine lv_istore (lv' := [(6, .int 0), (5, .int 0), (4, .int 0), (3, .int (sX0_notesOf S1 p1)), (0, .ref h), (1, .int p1), (2, .int p2)]) hx hb dX5_busiest_34 hl (by decide) rfl (fun ls hl => ?_)
        have key36 : ∀ (n36 : Nat) (x3_36 : Int32) (x4_36 : Int32) (x5_36 : Int32) (x6_36 : Int32)  (k36 : Nat), (x6_36 = nI k36) → (k36 ≤ 12) → (12 + 1 ≤ n36 + k36) → (sX5_busiest_L36 S1 p2 n36 x3_36 x4_36 x5_36 x6_36) = σ → ∀ (H : Heap) (locs : List Loc) (ls : Array Slot), va_P (dC, dI) vwCl (wZ h h1 zx zp zs zt zi S ++ wL cI h1 hp1 S1) H → va_D A (wZ h h1 zx zp zs zt zi S ++ wL cI h1 hp1 S1) → va_S A s.heap H locs → lv_has ls 8 [(0, .ref h), (1, .int p1), (2, .int p2), (3, .int x3_36), (4, .int x4_36), (5, .int x5_36), (6, .int x6_36)] → W p l e (headSpec wsX5_busiest (rmF 1 21)).room s m ([.ref h, .int p1, .int p2] : List Value).toArray below meth c H locs 0 0 (MQ below (va_Qi (fun (x : Int32) (_ : Unit) => x = σ) (fun _ t => PoW (dC, dI) (tyC cI cZ cO) A (wZ h h1 zx zp zs zt zi S ++ wL cI h1 hp1 S1) t) A) ([.ref h, .int p1, .int p2] : List Value).toArray s 0 0 A) (F0 m 36 ls []) := by
          intro n36
          induction n36 with
          | zero =>
            intro x3_36 x4_36 x5_36 x6_36 k36 e36 hk36 hn36
            exact absurd hn36 (by omega)
          | succ n36 ih36 =>
            intro x3_36 x4_36 x5_36 x6_36 k36 e36 hk36 hn36 hσ H locs ls hP hD hS hl
            rw [sX5_busiest_L36_s] at hσ
            refine lv_iload hx hb dX5_busiest_36 (lv_at hl 6 rfl) ?_
            refine lv_aload_n hx hb dX5_busiest_38 rfl (lv_at hl 0 rfl) ?_
            refine va_get (D := (dC, dI)) (ci := 5) (v := .ref h1) (C := RX5) (T := TX5) (N := 9) hx hb hts (fun _ h => List.mem_cons_of_mem _ (List.mem_append_left _ (List.mem_append_right _ h))) hown hK hP 0 rfl rfl 0 (by decide) (hts (.fieldLink RX5 10 "SharedLine" "now" "LSharedLine$Line;") (List.mem_of_getElem? (i := 1) rfl)) (fun _ h9 => h9) rfl dX5_busiest_39 ?_
            refine va_get (D := (dC, dI)) (ci := 0) (v := .int (S1.1 0)) (C := RX0) (T := TX0) (N := 7) hx hb hts (fun _ h => List.mem_cons_of_mem _ (List.mem_append_right _ h)) hown hK hP 1 rfl rfl 1 (by decide) (hts (.fieldLink RX5 170 "SharedLine$Line" "ticks" "I") (List.mem_of_getElem? (i := 2) rfl)) (fun _ h9 => h9) rfl dX5_busiest_42 ?_
            refine lv_icmp_ge (tgt := 88) hx hb dX5_busiest_45 (by decide) (fun c45 => ?_) (fun c45 => ?_)
            · rw [if_pos c45] at hσ
              refine lv_iload_n hx hb dX5_busiest_88 rfl (lv_at hl 2 rfl) ?_
              refine lv_if_ne (tgt := 97) hx hb dX5_busiest_89 (by decide) (fun c89 => ?_) (fun c89 => ?_)
              · rw [if_neg c89] at hσ
                refine lv_iload hx hb dX5_busiest_97 (lv_at hl 5 rfl) ?_
                subst hσ
                exact vq_iret hx hb hr hlocks hK hP hD hS rfl dX5_busiest_99
              · rw [if_pos c89] at hσ
                refine lv_iload hx hb dX5_busiest_92 (lv_at hl 4 rfl) ?_
                refine lv_goto (tgt := 99) hx hb dX5_busiest_94 (by decide) ?_
                subst hσ
                exact vq_iret hx hb hr hlocks hK hP hD hS rfl dX5_busiest_99
            · rw [if_neg c45] at hσ
              refine lv_iload_n hx hb dX5_busiest_48 rfl (lv_at hl 3 rfl) ?_
              refine lv_iload hx hb dX5_busiest_49 (lv_at hl 6 rfl) ?_
              refine lv_aload_n hx hb dX5_busiest_51 rfl (lv_at hl 0 rfl) ?_
              refine va_get (D := (dC, dI)) (ci := 5) (v := .ref h1) (C := RX5) (T := TX5) (N := 9) hx hb hts (fun _ h => List.mem_cons_of_mem _ (List.mem_append_left _ (List.mem_append_right _ h))) hown hK hP 0 rfl rfl 0 (by decide) (hts (.fieldLink RX5 10 "SharedLine" "now" "LSharedLine$Line;") (List.mem_of_getElem? (i := 1) rfl)) (fun _ h9 => h9) rfl dX5_busiest_52 ?_
              refine va_get (D := (dC, dI)) (ci := 0) (v := .int (S1.1 5)) (C := RX0) (T := TX0) (N := 7) hx hb hts (fun _ h => List.mem_cons_of_mem _ (List.mem_append_right _ h)) hown hK hP 1 rfl rfl 6 (by decide) (hts (.fieldLink RX5 173 "SharedLine$Line" "bar" "I") (List.mem_of_getElem? (i := 3) rfl)) (fun _ h9 => h9) rfl dX5_busiest_55 ?_
              refine vq_Si (As := [.int x6_36, .int (S1.1 5)]) (rest := [.int x3_36]) (W2 := (wZ h h1 zx zp zs zt zi S ++ wL cI h1 hp1 S1)) (f := (sX5_ticksFrom x6_36 (S1.1 5))) hx hb hml hown hts hK hP hD hS hA hE hl.1 (cX5_ticksFrom_c l ev dC dI cI cZ cO x6_36 (S1.1 5)) gX5_busiest_X5_ticksFrom rfl hdX5_ticksFrom (Nat.le_of_ble_eq_true rfl) (Nat.le_of_ble_eq_true rfl) rfl rfl [] [0, 1, 2] [0, 1, 2] rfl rfl (by decide) (by decide) (by decide) rfl rfl rfl (Nat.le_of_ble_eq_true rfl) dX5_busiest_58 ⟨Nat.zero_le _, Nat.zero_le _⟩ (fun H locs hP hD hS => ?_)
              refine lv_iand hx hb dX5_busiest_61 ?_
              refine vq_Si (As := [.int (x3_36 &&& (sX5_ticksFrom x6_36 (S1.1 5)))]) (rest := []) (W2 := (wZ h h1 zx zp zs zt zi S ++ wL cI h1 hp1 S1)) (f := (sJ6_bitCount_0f7a4 (x3_36 &&& (sX5_ticksFrom x6_36 (S1.1 5))))) hx hb hml hown hts hK hP hD hS hA hE hl.1 (cJ6_bitCount_0f7a4_c l ev dC dI cI cZ cO (x3_36 &&& (sX5_ticksFrom x6_36 (S1.1 5)))) gX5_busiest_J6_bitCount_0f7a4 rfl hdJ6_bitCount_0f7a4 (Nat.le_of_ble_eq_true rfl) (Nat.le_of_ble_eq_true rfl) rfl rfl [] [0, 1, 2] [0, 1, 2] rfl rfl (by decide) (by decide) (by decide) rfl rfl rfl (Nat.le_of_ble_eq_true rfl) dX5_busiest_62 ⟨Nat.zero_le _, Nat.zero_le _⟩ (fun H locs hP hD hS => ?_)
              refine lv_istore (lv' := [(7, .int (sJ6_bitCount_0f7a4 (x3_36 &&& (sX5_ticksFrom x6_36 (S1.1 5))))), (0, .ref h), (1, .int p1), (2, .int p2), (3, .int x3_36), (4, .int x4_36), (5, .int x5_36), (6, .int x6_36)]) hx hb dX5_busiest_65 hl (by decide) rfl (fun ls hl => ?_)
              refine lv_iload hx hb dX5_busiest_67 (lv_at hl 0 rfl) ?_
              refine lv_iload hx hb dX5_busiest_69 (lv_at hl 6 rfl) ?_
              refine lv_icmp_le (tgt := 82) hx hb dX5_busiest_71 (by decide) (fun c71 => ?_) (fun c71 => ?_)
              · rw [if_pos c71] at hσ
                refine lv_iinc (v := (x6_36 + 1)) (lv' := [(6, .int (x6_36 + 1)), (7, .int (sJ6_bitCount_0f7a4 (x3_36 &&& (sX5_ticksFrom x6_36 (S1.1 5))))), (0, .ref h), (1, .int p1), (2, .int p2), (3, .int x3_36), (4, .int x4_36), (5, .int x5_36)]) hx hb dX5_busiest_82 hl (k := 7) rfl rfl (by decide) rfl (fun ls hl => ?_)
                refine lv_goto (tgt := 36) hx hb dX5_busiest_85 (by decide) ?_
                exact ih36 x3_36 x4_36 x5_36 (x6_36 + 1) (k36 + 1) (up_s e36) (by have := up_lt e36 eT (by omega) c45; omega) (by omega) hσ _ _ _ hP hD hS (lv_sub hl [2, 3, 4, 5, 6, 7, 0] rfl)
              · rw [if_neg c71] at hσ
                refine lv_iload hx hb dX5_busiest_74 (lv_at hl 0 rfl) ?_
                refine lv_istore (lv' := [(5, .int (sJ6_bitCount_0f7a4 (x3_36 &&& (sX5_ticksFrom x6_36 (S1.1 5))))), (7, .int (sJ6_bitCount_0f7a4 (x3_36 &&& (sX5_ticksFrom x6_36 (S1.1 5))))), (0, .ref h), (1, .int p1), (2, .int p2), (3, .int x3_36), (4, .int x4_36), (6, .int x6_36)]) hx hb dX5_busiest_76 hl (by decide) rfl (fun ls hl => ?_)
                refine lv_iload hx hb dX5_busiest_78 (lv_at hl 7 rfl) ?_
                refine lv_istore (lv' := [(4, .int x6_36), (5, .int (sJ6_bitCount_0f7a4 (x3_36 &&& (sX5_ticksFrom x6_36 (S1.1 5))))), (7, .int (sJ6_bitCount_0f7a4 (x3_36 &&& (sX5_ticksFrom x6_36 (S1.1 5))))), (0, .ref h), (1, .int p1), (2, .int p2), (3, .int x3_36), (6, .int x6_36)]) hx hb dX5_busiest_80 hl (by decide) rfl (fun ls hl => ?_)
                refine lv_iinc (v := (x6_36 + 1)) (lv' := [(6, .int (x6_36 + 1)), (4, .int x6_36), (5, .int (sJ6_bitCount_0f7a4 (x3_36 &&& (sX5_ticksFrom x6_36 (S1.1 5))))), (7, .int (sJ6_bitCount_0f7a4 (x3_36 &&& (sX5_ticksFrom x6_36 (S1.1 5))))), (0, .ref h), (1, .int p1), (2, .int p2), (3, .int x3_36)]) hx hb dX5_busiest_82 hl (k := 7) rfl rfl (by decide) rfl (fun ls hl => ?_)
                refine lv_goto (tgt := 36) hx hb dX5_busiest_85 (by decide) ?_
                exact ih36 x3_36 x6_36 (sJ6_bitCount_0f7a4 (x3_36 &&& (sX5_ticksFrom x6_36 (S1.1 5)))) (x6_36 + 1) (k36 + 1) (up_s e36) (by have := up_lt e36 eT (by omega) c45; omega) (by omega) hσ _ _ _ hP hD hS (lv_sub hl [4, 5, 6, 7, 1, 2, 0] rfl)
        exact key36 13 (sX0_notesOf S1 p1) (0 : Int32) (0 : Int32) (0 : Int32) 0 nI_0.symm (Nat.zero_le _) (Nat.le_refl _) hσ _ _ _ hP hD hS (lv_sub hl [4, 5, 6, 3, 2, 1, 0] rfl)
      · rw [if_neg c13] at hσ
        refine lv_iconst (v := (-1)) hx hb dX5_busiest_16 (by decide) ?_
        subst hσ
        exact vq_iret hx hb hr hlocks hK hP hD hS rfl dX5_busiest_17
theorem hdX5_askTables : yX5_askTables.cls = RX5 ∧ yX5_askTables.cls ≠ "java/lang/invoke/MethodHandle" ∧ yX5_askTables.cls ≠ "java/lang/invoke/VarHandle" ∧ (parseMethodDescriptor yX5_askTables.desc).map (fun d => d.parameters.length) = some 3 := by decide +kernel
set_option maxHeartbeats 4000000 in
set_option maxRecDepth 100000 in
theorem cX5_askTables_c (l : Launch) (ev : Nat → Nat) (dC : Nat → ClassId) (dI : Nat → Nat → Nat) (cI cZ cO : ClassId) (h : Nat) (h1 : Nat) (zx : Nat) (zp : Nat) (zs : Nat) (h2 : Nat) (zi : Nat) (S : SSt) (hp1 : Nat) (S1 : LSt) (hp2 : Nat) (S2 : LSt) (p1 : Int32) (p2 : Int32) (p3 : Int32) (hT : XOK S1) : MetI l ev (dC, dI) (tyC cI cZ cO) yX5_askTables wsX5_askTables (rmF 5 117) [.ref h, .int p1, .int p2, .int p3] (wZ h h1 zx zp zs h2 zi S ++ wL cI h1 hp1 S1 ++ wT cI h2 hp2 S2) (sX5_askTables S S1 S2 p1 p2 p3).1 (wZ h h1 zx zp zs h2 zi S ++ wL cI h1 hp1 S1 ++ wT cI h2 hp2 (sX5_askTables S S1 S2 p1 p2 p3).2) := by
  refine MetI_of (cc := cX5_askTables) (maxL := 4) (ret := (some .int)) (by decide) rfl (Nat.le_of_ble_eq_true rfl) ?_
  intro p e s m below meth c A ls hx hb hr hml hts hown hlocks hin hK hP hD hA hE hl
  have hown : s.vm.findClass RX5 = some m.cls := hown
  have hl : lv_has ls 4 [(0, .ref h), (1, .int p1), (2, .int p2), (3, .int p3)] := hl
  have hS : va_S A s.heap s.heap [] := va_S.rf
  obtain ⟨σ, hσ⟩ : ∃ σ, (sX5_askTables S S1 S2 p1 p2 p3) = σ := ⟨_, rfl⟩
  rw [hσ]
  rw [sX5_askTables] at hσ
  refine lv_iload_n hx hb dX5_askTables_0 rfl (lv_at hl 1 rfl) ?_
  refine lv_if_lt (tgt := 9) hx hb dX5_askTables_1 (by decide) (fun c1 => ?_) (fun c1 => ?_)
  · rw [if_pos c1] at hσ
    refine lv_iconst (v := (-1)) hx hb dX5_askTables_9 (by decide) ?_
    subst hσ
    try dsimp only
    exact vq_iret hx hb hr hlocks hK hP hD hS rfl dX5_askTables_10
  · rw [if_neg c1] at hσ
    refine lv_iload_n hx hb dX5_askTables_4 rfl (lv_at hl 1 rfl) ?_
    refine lv_iconst (v := 1) hx hb dX5_askTables_5 (by decide) ?_
    refine lv_icmp_le (tgt := 11) hx hb dX5_askTables_6 (by decide) (fun c6 => ?_) (fun c6 => ?_)
    · rw [if_pos c6] at hσ
      refine lv_aload_n hx hb dX5_askTables_11 rfl (lv_at hl 0 rfl) ?_
      refine va_get (D := (dC, dI)) (ci := 5) (v := .ref h2) (C := RX5) (T := TX5) (N := 9) hx hb hts (fun _ h => List.mem_cons_of_mem _ (List.mem_append_left _ (List.mem_append_left _ (List.mem_append_right _ h)))) hown hK hP 0 rfl rfl 4 (by decide) (hts (.fieldLink RX5 40 "SharedLine" "tableSet" "LSharedLine$TableSet;") (List.mem_of_getElem? (i := 1) rfl)) (fun _ h9 => h9) rfl dX5_askTables_12 ?_
      refine lv_aload_n hx hb dX5_askTables_15 rfl (lv_at hl 0 rfl) ?_
      refine va_get (D := (dC, dI)) (ci := 5) (v := .ref h1) (C := RX5) (T := TX5) (N := 9) hx hb hts (fun _ h => List.mem_cons_of_mem _ (List.mem_append_left _ (List.mem_append_left _ (List.mem_append_right _ h)))) hown hK hP 0 rfl rfl 0 (by decide) (hts (.fieldLink RX5 10 "SharedLine" "now" "LSharedLine$Line;") (List.mem_of_getElem? (i := 2) rfl)) (fun _ h9 => h9) rfl dX5_askTables_16 ?_
      refine lv_iload_n hx hb dX5_askTables_19 rfl (lv_at hl 2 rfl) ?_
      refine lv_iload_n hx hb dX5_askTables_20 rfl (lv_at hl 3 rfl) ?_
      refine vq_Vv (As := [.ref h1, .int p2, .int p3]) (rest := []) (W2 := (wZ h h1 zx zp zs h2 zi S ++ wL cI h1 hp1 S1 ++ wT cI h2 hp2 (sX3_gather S2 S1 p2 p3))) hx hb hml hown hts hK hP hD hS hA hE hl.1 (cX3_gather_c l ev dC dI cI cZ cO h2 hp2 S2 h1 hp1 S1 p2 p3 hT) gX5_askTables_X3_gather rfl hdX3_gather (Nat.le_of_ble_eq_true rfl) (Nat.le_of_ble_eq_true rfl) rfl rfl (ci := 3) (qr := 3) rfl rfl rfl [3, 4, 1, 2] [0] [0, 3, 4, 1, 2] rfl rfl (by decide) (by decide) (by decide) rfl rfl rfl (Nat.le_of_ble_eq_true rfl) dX5_askTables_21 ⟨Nat.zero_le _, Nat.zero_le _⟩ (fun H locs hP hD hS => ?_)
      refine lv_iload_n hx hb dX5_askTables_24 rfl (lv_at hl 1 rfl) ?_
      refine lv_if_ne (tgt := 38) hx hb dX5_askTables_25 (by decide) (fun c25 => ?_) (fun c25 => ?_)
      · rw [if_neg c25] at hσ
        refine lv_aload_n hx hb dX5_askTables_38 rfl (lv_at hl 0 rfl) ?_
        refine va_get (D := (dC, dI)) (ci := 5) (v := .ref h2) (C := RX5) (T := TX5) (N := 9) hx hb hts (fun _ h => List.mem_cons_of_mem _ (List.mem_append_left _ (List.mem_append_left _ (List.mem_append_right _ h)))) hown hK hP 0 rfl rfl 4 (by decide) (hts (.fieldLink RX5 40 "SharedLine" "tableSet" "LSharedLine$TableSet;") (List.mem_of_getElem? (i := 1) rfl)) (fun _ h9 => h9) rfl dX5_askTables_39 ?_
        refine va_get (D := (dC, dI)) (ci := 3) (v := .int ((sX3_gather S2 S1 p2 p3).1 1)) (C := RX3) (T := TX3) (N := 3) hx hb hts (fun _ h => List.mem_cons_of_mem _ (List.mem_append_left _ (List.mem_append_right _ h))) hown hK hP 3 rfl rfl 1 (by decide) (hts (.fieldLink RX5 201 "SharedLine$TableSet" "least" "I") (List.mem_of_getElem? (i := 4) rfl)) (fun _ h9 => h9) rfl dX5_askTables_42 ?_
        subst hσ
        try dsimp only
        exact vq_iret hx hb hr hlocks hK hP hD hS rfl dX5_askTables_45
      · rw [if_pos c25] at hσ
        refine lv_aload_n hx hb dX5_askTables_28 rfl (lv_at hl 0 rfl) ?_
        refine va_get (D := (dC, dI)) (ci := 5) (v := .ref h2) (C := RX5) (T := TX5) (N := 9) hx hb hts (fun _ h => List.mem_cons_of_mem _ (List.mem_append_left _ (List.mem_append_left _ (List.mem_append_right _ h)))) hown hK hP 0 rfl rfl 4 (by decide) (hts (.fieldLink RX5 40 "SharedLine" "tableSet" "LSharedLine$TableSet;") (List.mem_of_getElem? (i := 1) rfl)) (fun _ h9 => h9) rfl dX5_askTables_29 ?_
        refine va_get (D := (dC, dI)) (ci := 3) (v := .int ((sX3_gather S2 S1 p2 p3).1 0)) (C := RX3) (T := TX3) (N := 3) hx hb hts (fun _ h => List.mem_cons_of_mem _ (List.mem_append_left _ (List.mem_append_right _ h))) hown hK hP 3 rfl rfl 0 (by decide) (hts (.fieldLink RX5 193 "SharedLine$TableSet" "size" "I") (List.mem_of_getElem? (i := 3) rfl)) (fun _ h9 => h9) rfl dX5_askTables_32 ?_
        refine lv_goto (tgt := 45) hx hb dX5_askTables_35 (by decide) ?_
        subst hσ
        try dsimp only
        exact vq_iret hx hb hr hlocks hK hP hD hS rfl dX5_askTables_45
    · rw [if_neg c6] at hσ
      refine lv_iconst (v := (-1)) hx hb dX5_askTables_9 (by decide) ?_
      subst hσ
      try dsimp only
      exact vq_iret hx hb hr hlocks hK hP hD hS rfl dX5_askTables_10
theorem hdX5_tables : yX5_tables.cls = RX5 ∧ yX5_tables.cls ≠ "java/lang/invoke/MethodHandle" ∧ yX5_tables.cls ≠ "java/lang/invoke/VarHandle" ∧ (parseMethodDescriptor yX5_tables.desc).map (fun d => d.parameters.length) = some 1 := by decide +kernel
set_option maxHeartbeats 4000000 in
set_option maxRecDepth 100000 in
theorem cX5_tables_c (l : Launch) (ev : Nat → Nat) (dC : Nat → ClassId) (dI : Nat → Nat → Nat) (cI cZ cO : ClassId) (h : Nat) (h1 : Nat) (zx : Nat) (zp : Nat) (zs : Nat) (h2 : Nat) (zi : Nat) (S : SSt) (hp1 : Nat) (S1 : LSt) (hp2 : Nat) (S2 : LSt) (p1 : Int32) (hT : XOK S1) : MetI l ev (dC, dI) (tyC cI cZ cO) yX5_tables wsX5_tables (rmF 6 140) [.ref h, .int p1] (wZ h h1 zx zp zs h2 zi S ++ wL cI h1 hp1 S1 ++ wT cI h2 hp2 S2) (sX5_tables S S1 S2 p1).1 (wZ h h1 zx zp zs h2 zi S ++ wL cI h1 hp1 S1 ++ wT cI h2 hp2 (sX5_tables S S1 S2 p1).2) := by
  refine MetI_of (cc := cX5_tables) (maxL := 2) (ret := (some .int)) (by decide) rfl (Nat.le_of_ble_eq_true rfl) ?_
  intro p e s m below meth c A ls hx hb hr hml hts hown hlocks hin hK hP hD hA hE hl
  have hown : s.vm.findClass RX5 = some m.cls := hown
  have hl : lv_has ls 2 [(0, .ref h), (1, .int p1)] := hl
  have hS : va_S A s.heap s.heap [] := va_S.rf
  obtain ⟨σ, hσ⟩ : ∃ σ, (sX5_tables S S1 S2 p1) = σ := ⟨_, rfl⟩
  rw [hσ]
  rw [sX5_tables] at hσ
  refine lv_aload_n hx hb dX5_tables_0 rfl (lv_at hl 0 rfl) ?_
  refine lv_iload_n hx hb dX5_tables_1 rfl (lv_at hl 1 rfl) ?_
  refine lv_iconst (v := 0) hx hb dX5_tables_2 (by decide) ?_
  refine lv_iconst (v := 0) hx hb dX5_tables_3 (by decide) ?_
  refine vq_Vi (As := [.int p1, .int 0, .int 0]) (rest := []) (W2 := (wZ h h1 zx zp zs h2 zi S ++ wL cI h1 hp1 S1 ++ wT cI h2 hp2 (sX5_askTables S S1 S2 p1 (0 : Int32) (0 : Int32)).2)) (f := (sX5_askTables S S1 S2 p1 (0 : Int32) (0 : Int32)).1) hx hb hml hown hts hK hP hD hS hA hE hl.1 (cX5_askTables_c l ev dC dI cI cZ cO h h1 zx zp zs h2 zi S hp1 S1 hp2 S2 p1 (0 : Int32) (0 : Int32) hT) gX5_tables_X5_askTables rfl hdX5_askTables (Nat.le_of_ble_eq_true rfl) (Nat.le_of_ble_eq_true rfl) rfl rfl (ci := 5) (qr := 0) rfl rfl rfl [0, 1, 2, 3, 4] [] [0, 1, 2, 3, 4] rfl rfl (by decide) (by decide) (by decide) rfl rfl rfl (Nat.le_of_ble_eq_true rfl) dX5_tables_4 ⟨Nat.zero_le _, Nat.zero_le _⟩ (fun H locs hP hD hS => ?_)
  subst hσ
  try dsimp only
  exact vq_iret hx hb hr hlocks hK hP hD hS rfl dX5_tables_7
theorem hdX5_which : yX5_which.cls = RX5 ∧ yX5_which.cls ≠ "java/lang/invoke/MethodHandle" ∧ yX5_which.cls ≠ "java/lang/invoke/VarHandle" ∧ (parseMethodDescriptor yX5_which.desc).map (fun d => d.parameters.length) = some 1 := by decide +kernel
set_option maxHeartbeats 4000000 in
set_option maxRecDepth 100000 in
theorem cX5_which_c (l : Launch) (ev : Nat → Nat) (dC : Nat → ClassId) (dI : Nat → Nat → Nat) (cI cZ cO : ClassId) (h : Nat) (h1 : Nat) (zx : Nat) (zp : Nat) (zs : Nat) (h2 : Nat) (zi : Nat) (S : SSt) (hp1 : Nat) (S1 : LSt) (hp2 : Nat) (S2 : LSt) (p1 : Int32) (hT : XOK S1) : MetI l ev (dC, dI) (tyC cI cZ cO) yX5_which wsX5_which (rmF 6 140) [.ref h, .int p1] (wZ h h1 zx zp zs h2 zi S ++ wL cI h1 hp1 S1 ++ wT cI h2 hp2 S2) (sX5_which S S1 S2 p1).1 (wZ h h1 zx zp zs h2 zi S ++ wL cI h1 hp1 S1 ++ wT cI h2 hp2 (sX5_which S S1 S2 p1).2) := by
  refine MetI_of (cc := cX5_which) (maxL := 2) (ret := (some .int)) (by decide) rfl (Nat.le_of_ble_eq_true rfl) ?_
  intro p e s m below meth c A ls hx hb hr hml hts hown hlocks hin hK hP hD hA hE hl
  have hown : s.vm.findClass RX5 = some m.cls := hown
  have hl : lv_has ls 2 [(0, .ref h), (1, .int p1)] := hl
  have hS : va_S A s.heap s.heap [] := va_S.rf
  obtain ⟨σ, hσ⟩ : ∃ σ, (sX5_which S S1 S2 p1) = σ := ⟨_, rfl⟩
  rw [hσ]
  rw [sX5_which] at hσ
  refine lv_aload_n hx hb dX5_which_0 rfl (lv_at hl 0 rfl) ?_
  refine lv_iload_n hx hb dX5_which_1 rfl (lv_at hl 1 rfl) ?_
  refine lv_aload_n hx hb dX5_which_2 rfl (lv_at hl 0 rfl) ?_
  refine va_get (D := (dC, dI)) (ci := 5) (v := .int (S 1)) (C := RX5) (T := TX5) (N := 9) hx hb hts (fun _ h => List.mem_cons_of_mem _ (List.mem_append_left _ (List.mem_append_left _ (List.mem_append_right _ h)))) hown hK hP 0 rfl rfl 7 (by decide) (hts (.fieldLink RX5 183 "SharedLine" "seenOfHand0" "I") (List.mem_of_getElem? (i := 1) rfl)) (fun _ h9 => h9) rfl dX5_which_3 ?_
  refine lv_aload_n hx hb dX5_which_6 rfl (lv_at hl 0 rfl) ?_
  refine va_get (D := (dC, dI)) (ci := 5) (v := .int (S 2)) (C := RX5) (T := TX5) (N := 9) hx hb hts (fun _ h => List.mem_cons_of_mem _ (List.mem_append_left _ (List.mem_append_left _ (List.mem_append_right _ h)))) hown hK hP 0 rfl rfl 8 (by decide) (hts (.fieldLink RX5 186 "SharedLine" "seenOfHand1" "I") (List.mem_of_getElem? (i := 2) rfl)) (fun _ h9 => h9) rfl dX5_which_7 ?_
  refine vq_Vi (As := [.int p1, .int (S 1), .int (S 2)]) (rest := []) (W2 := (wZ h h1 zx zp zs h2 zi S ++ wL cI h1 hp1 S1 ++ wT cI h2 hp2 (sX5_askTables S S1 S2 p1 (S 1) (S 2)).2)) (f := (sX5_askTables S S1 S2 p1 (S 1) (S 2)).1) hx hb hml hown hts hK hP hD hS hA hE hl.1 (cX5_askTables_c l ev dC dI cI cZ cO h h1 zx zp zs h2 zi S hp1 S1 hp2 S2 p1 (S 1) (S 2) hT) gX5_which_X5_askTables rfl hdX5_askTables (Nat.le_of_ble_eq_true rfl) (Nat.le_of_ble_eq_true rfl) rfl rfl (ci := 5) (qr := 0) rfl rfl rfl [0, 1, 2, 3, 4] [] [0, 1, 2, 3, 4] rfl rfl (by decide) (by decide) (by decide) rfl rfl rfl (Nat.le_of_ble_eq_true rfl) dX5_which_10 ⟨Nat.zero_le _, Nat.zero_le _⟩ (fun H locs hP hD hS => ?_)
  subst hσ
  try dsimp only
  exact vq_iret hx hb hr hlocks hK hP hD hS rfl dX5_which_13
theorem hdX5_listen : yX5_listen.cls = RX5 ∧ yX5_listen.cls ≠ "java/lang/invoke/MethodHandle" ∧ yX5_listen.cls ≠ "java/lang/invoke/VarHandle" ∧ (parseMethodDescriptor yX5_listen.desc).map (fun d => d.parameters.length) = some 0 := by decide +kernel
set_option maxHeartbeats 4000000 in
set_option maxRecDepth 100000 in
theorem cX5_listen_c (l : Launch) (ev : Nat → Nat) (dC : Nat → ClassId) (dI : Nat → Nat → Nat) (cI cZ cO : ClassId) (h : Nat) (h1 : Nat) (zx : Nat) (zp : Nat) (zs : Nat) (h2 : Nat) (zi : Nat) (S : SSt) (hp1 : Nat) (S1 : LSt) (hp2 : Nat) (S2 : LSt) (hT : XOK S1) : MetI l ev (dC, dI) (tyC cI cZ cO) yX5_listen wsX5_listen (rmF 5 117) [.ref h] (wZ h h1 zx zp zs h2 zi S ++ wL cI h1 hp1 S1 ++ wT cI h2 hp2 S2) (sX5_listen S S1 S2).1 (wZ h h1 zx zp zs h2 zi S ++ wL cI h1 hp1 S1 ++ wT cI h2 hp2 (sX5_listen S S1 S2).2) := by
  refine MetI_of (cc := cX5_listen) (maxL := 1) (ret := (some .int)) (by decide) rfl (Nat.le_of_ble_eq_true rfl) ?_
  intro p e s m below meth c A ls hx hb hr hml hts hown hlocks hin hK hP hD hA hE hl
  have hown : s.vm.findClass RX5 = some m.cls := hown
  have hl : lv_has ls 1 [(0, .ref h)] := hl
  have hS : va_S A s.heap s.heap [] := va_S.rf
  obtain ⟨σ, hσ⟩ : ∃ σ, (sX5_listen S S1 S2) = σ := ⟨_, rfl⟩
  rw [hσ]
  rw [sX5_listen] at hσ
  refine lv_aload_n hx hb dX5_listen_0 rfl (lv_at hl 0 rfl) ?_
  refine va_get (D := (dC, dI)) (ci := 5) (v := .ref h2) (C := RX5) (T := TX5) (N := 9) hx hb hts (fun _ h => List.mem_cons_of_mem _ (List.mem_append_left _ (List.mem_append_left _ (List.mem_append_right _ h)))) hown hK hP 0 rfl rfl 4 (by decide) (hts (.fieldLink RX5 40 "SharedLine" "tableSet" "LSharedLine$TableSet;") (List.mem_of_getElem? (i := 1) rfl)) (fun _ h9 => h9) rfl dX5_listen_1 ?_
  refine lv_aload_n hx hb dX5_listen_4 rfl (lv_at hl 0 rfl) ?_
  refine va_get (D := (dC, dI)) (ci := 5) (v := .ref h1) (C := RX5) (T := TX5) (N := 9) hx hb hts (fun _ h => List.mem_cons_of_mem _ (List.mem_append_left _ (List.mem_append_left _ (List.mem_append_right _ h)))) hown hK hP 0 rfl rfl 0 (by decide) (hts (.fieldLink RX5 10 "SharedLine" "now" "LSharedLine$Line;") (List.mem_of_getElem? (i := 2) rfl)) (fun _ h9 => h9) rfl dX5_listen_5 ?_
  refine lv_aload_n hx hb dX5_listen_8 rfl (lv_at hl 0 rfl) ?_
  refine va_get (D := (dC, dI)) (ci := 5) (v := .int (S 1)) (C := RX5) (T := TX5) (N := 9) hx hb hts (fun _ h => List.mem_cons_of_mem _ (List.mem_append_left _ (List.mem_append_left _ (List.mem_append_right _ h)))) hown hK hP 0 rfl rfl 7 (by decide) (hts (.fieldLink RX5 183 "SharedLine" "seenOfHand0" "I") (List.mem_of_getElem? (i := 3) rfl)) (fun _ h9 => h9) rfl dX5_listen_9 ?_
  refine lv_aload_n hx hb dX5_listen_12 rfl (lv_at hl 0 rfl) ?_
  refine va_get (D := (dC, dI)) (ci := 5) (v := .int (S 2)) (C := RX5) (T := TX5) (N := 9) hx hb hts (fun _ h => List.mem_cons_of_mem _ (List.mem_append_left _ (List.mem_append_left _ (List.mem_append_right _ h)))) hown hK hP 0 rfl rfl 8 (by decide) (hts (.fieldLink RX5 186 "SharedLine" "seenOfHand1" "I") (List.mem_of_getElem? (i := 4) rfl)) (fun _ h9 => h9) rfl dX5_listen_13 ?_
  refine vq_Vv (As := [.ref h1, .int (S 1), .int (S 2)]) (rest := []) (W2 := (wZ h h1 zx zp zs h2 zi S ++ wL cI h1 hp1 S1 ++ wT cI h2 hp2 (sX3_gather S2 S1 (S 1) (S 2)))) hx hb hml hown hts hK hP hD hS hA hE hl.1 (cX3_gather_c l ev dC dI cI cZ cO h2 hp2 S2 h1 hp1 S1 (S 1) (S 2) hT) gX5_listen_X3_gather rfl hdX3_gather (Nat.le_of_ble_eq_true rfl) (Nat.le_of_ble_eq_true rfl) rfl rfl (ci := 3) (qr := 3) rfl rfl rfl [3, 4, 1, 2] [0] [0, 3, 4, 1, 2] rfl rfl (by decide) (by decide) (by decide) rfl rfl rfl (Nat.le_of_ble_eq_true rfl) dX5_listen_16 ⟨Nat.zero_le _, Nat.zero_le _⟩ (fun H locs hP hD hS => ?_)
  refine lv_aload_n hx hb dX5_listen_19 rfl (lv_at hl 0 rfl) ?_
  refine va_get (D := (dC, dI)) (ci := 5) (v := .ref h2) (C := RX5) (T := TX5) (N := 9) hx hb hts (fun _ h => List.mem_cons_of_mem _ (List.mem_append_left _ (List.mem_append_left _ (List.mem_append_right _ h)))) hown hK hP 0 rfl rfl 4 (by decide) (hts (.fieldLink RX5 40 "SharedLine" "tableSet" "LSharedLine$TableSet;") (List.mem_of_getElem? (i := 1) rfl)) (fun _ h9 => h9) rfl dX5_listen_20 ?_
  refine va_get (D := (dC, dI)) (ci := 3) (v := .int ((sX3_gather S2 S1 (S 1) (S 2)).1 0)) (C := RX3) (T := TX3) (N := 3) hx hb hts (fun _ h => List.mem_cons_of_mem _ (List.mem_append_left _ (List.mem_append_right _ h))) hown hK hP 3 rfl rfl 0 (by decide) (hts (.fieldLink RX5 193 "SharedLine$TableSet" "size" "I") (List.mem_of_getElem? (i := 5) rfl)) (fun _ h9 => h9) rfl dX5_listen_23 ?_
  refine lv_iconst (v := 1) hx hb dX5_listen_26 (by decide) ?_
  refine lv_icmp_le (tgt := 44) hx hb dX5_listen_27 (by decide) (fun c27 => ?_) (fun c27 => ?_)
  · rw [if_pos c27] at hσ
    refine lv_bipush (v := (-9)) hx hb dX5_listen_44 (by decide) ?_
    subst hσ
    try dsimp only
    exact vq_iret hx hb hr hlocks hK hP hD hS rfl dX5_listen_46
  · rw [if_neg c27] at hσ
    refine lv_aload_n hx hb dX5_listen_30 rfl (lv_at hl 0 rfl) ?_
    refine va_get (D := (dC, dI)) (ci := 5) (v := .ref h2) (C := RX5) (T := TX5) (N := 9) hx hb hts (fun _ h => List.mem_cons_of_mem _ (List.mem_append_left _ (List.mem_append_left _ (List.mem_append_right _ h)))) hown hK hP 0 rfl rfl 4 (by decide) (hts (.fieldLink RX5 40 "SharedLine" "tableSet" "LSharedLine$TableSet;") (List.mem_of_getElem? (i := 1) rfl)) (fun _ h9 => h9) rfl dX5_listen_31 ?_
    refine lv_aload_n hx hb dX5_listen_34 rfl (lv_at hl 0 rfl) ?_
    refine va_get (D := (dC, dI)) (ci := 5) (v := .ref h1) (C := RX5) (T := TX5) (N := 9) hx hb hts (fun _ h => List.mem_cons_of_mem _ (List.mem_append_left _ (List.mem_append_left _ (List.mem_append_right _ h)))) hown hK hP 0 rfl rfl 0 (by decide) (hts (.fieldLink RX5 10 "SharedLine" "now" "LSharedLine$Line;") (List.mem_of_getElem? (i := 2) rfl)) (fun _ h9 => h9) rfl dX5_listen_35 ?_
    refine vq_Vi (As := [.ref h1]) (rest := []) (W2 := (wZ h h1 zx zp zs h2 zi S ++ wL cI h1 hp1 S1 ++ wT cI h2 hp2 (sX3_gather S2 S1 (S 1) (S 2)))) (f := (sX3_tickThatHalvesBest (sX3_gather S2 S1 (S 1) (S 2)) S1)) hx hb hml hown hts hK hP hD hS hA hE hl.1 (cX3_tickThatHalvesBest_c l ev dC dI cI cZ cO h2 hp2 (sX3_gather S2 S1 (S 1) (S 2)) h1 hp1 S1) gX5_listen_X3_tickThatHalvesBest rfl hdX3_tickThatHalvesBest (Nat.le_of_ble_eq_true rfl) (Nat.le_of_ble_eq_true rfl) rfl rfl (ci := 3) (qr := 3) rfl rfl rfl [3, 4, 1, 2] [0] [0, 3, 4, 1, 2] rfl rfl (by decide) (by decide) (by decide) rfl rfl rfl (Nat.le_of_ble_eq_true rfl) dX5_listen_38 ⟨Nat.zero_le _, Nat.zero_le _⟩ (fun H locs hP hD hS => ?_)
    refine lv_goto (tgt := 46) hx hb dX5_listen_41 (by decide) ?_
    subst hσ
    try dsimp only
    exact vq_iret hx hb hr hlocks hK hP hD hS rfl dX5_listen_46
theorem hdX5_sees : yX5_sees.cls = RX5 ∧ yX5_sees.cls ≠ "java/lang/invoke/MethodHandle" ∧ yX5_sees.cls ≠ "java/lang/invoke/VarHandle" ∧ (parseMethodDescriptor yX5_sees.desc).map (fun d => d.parameters.length) = some 2 := by decide +kernel
set_option maxHeartbeats 4000000 in
set_option maxRecDepth 100000 in
theorem cX5_sees_c (l : Launch) (ev : Nat → Nat) (dC : Nat → ClassId) (dI : Nat → Nat → Nat) (cI cZ cO : ClassId) (h : Nat) (zn : Nat) (zx : Nat) (zp : Nat) (zs : Nat) (zt : Nat) (zi : Nat) (S : SSt) (p1 : Int32) (p2 : Int32) : MetI l ev (dC, dI) (tyC cI cZ cO) yX5_sees wsX5_sees (rmF 1 20) [.ref h, .int p1, .int p2] (wZ h zn zx zp zs zt zi S) (sX5_sees S p1 p2).1 (wZ h zn zx zp zs zt zi (sX5_sees S p1 p2).2) := by
  refine MetI_of (cc := cX5_sees) (maxL := 3) (ret := (some .int)) (by decide) rfl (Nat.le_of_ble_eq_true rfl) ?_
  intro p e s m below meth c A ls hx hb hr hml hts hown hlocks hin hK hP hD hA hE hl
  have hown : s.vm.findClass RX5 = some m.cls := hown
  have hl : lv_has ls 3 [(0, .ref h), (1, .int p1), (2, .int p2)] := hl
  have hS : va_S A s.heap s.heap [] := va_S.rf
  obtain ⟨σ, hσ⟩ : ∃ σ, (sX5_sees S p1 p2) = σ := ⟨_, rfl⟩
  rw [hσ]
  rw [sX5_sees] at hσ
  refine lv_iload_n hx hb dX5_sees_0 rfl (lv_at hl 1 rfl) ?_
  refine lv_if_lt (tgt := 17) hx hb dX5_sees_1 (by decide) (fun c1 => ?_) (fun c1 => ?_)
  · rw [if_pos c1] at hσ
    refine lv_iconst (v := (-1)) hx hb dX5_sees_17 (by decide) ?_
    subst hσ
    try dsimp only
    exact vq_iret hx hb hr hlocks hK hP hD hS rfl dX5_sees_18
  · rw [if_neg c1] at hσ
    refine lv_iload_n hx hb dX5_sees_4 rfl (lv_at hl 1 rfl) ?_
    refine lv_bipush (v := 12) hx hb dX5_sees_5 (by decide) ?_
    refine lv_icmp_ge (tgt := 17) hx hb dX5_sees_7 (by decide) (fun c7 => ?_) (fun c7 => ?_)
    · rw [if_pos c7] at hσ
      refine lv_iconst (v := (-1)) hx hb dX5_sees_17 (by decide) ?_
      subst hσ
      try dsimp only
      exact vq_iret hx hb hr hlocks hK hP hD hS rfl dX5_sees_18
    · rw [if_neg c7] at hσ
      refine lv_iload_n hx hb dX5_sees_10 rfl (lv_at hl 2 rfl) ?_
      refine vq_Si (As := [.int p2]) (rest := []) (W2 := (wZ h zn zx zp zs zt zi S)) (f := (bI (sX5_isHand p2))) hx hb hml hown hts hK hP hD hS hA hE hl.1 (cX5_isHand_c l ev dC dI cI cZ cO p2) gX5_sees_X5_isHand rfl hdX5_isHand (Nat.le_of_ble_eq_true rfl) (Nat.le_of_ble_eq_true rfl) rfl rfl [] [0] [0] rfl rfl (by decide) (by decide) (by decide) rfl rfl rfl (Nat.le_of_ble_eq_true rfl) dX5_sees_11 ⟨Nat.zero_le _, Nat.zero_le _⟩ (fun H locs hP hD hS => ?_)
      refine lv_if_neB (tgt := 19) hx hb dX5_sees_14 (by decide) (fun c14 => ?_) (fun c14 => ?_)
      · rw [if_pos c14] at hσ
        refine lv_aload_n hx hb dX5_sees_19 rfl (lv_at hl 0 rfl) ?_
        refine va_get (D := (dC, dI)) (ci := 5) (v := .int (S 0)) (C := RX5) (T := TX5) (N := 9) hx hb hts (fun _ h => List.mem_cons_of_mem _ (List.mem_append_right _ h)) hown hK hP 0 rfl rfl 6 (by decide) (hts (.fieldLink RX5 180 "SharedLine" "seenCount" "I") (List.mem_of_getElem? (i := 1) rfl)) (fun _ h9 => h9) rfl dX5_sees_20 ?_
        refine lv_bipush (v := 6) hx hb dX5_sees_23 (by decide) ?_
        refine lv_icmp_lt (tgt := 31) hx hb dX5_sees_25 (by decide) (fun c25 => ?_) (fun c25 => ?_)
        · rw [if_pos c25] at hσ
          refine lv_iload_n hx hb dX5_sees_31 rfl (lv_at hl 2 rfl) ?_
          refine lv_if_ne (tgt := 50) hx hb dX5_sees_32 (by decide) (fun c32 => ?_) (fun c32 => ?_)
          · rw [if_neg c32] at hσ
            refine lv_aload_n hx hb dX5_sees_50 rfl (lv_at hl 0 rfl) ?_
            refine lv_dup hx hb dX5_sees_51 rfl ?_
            refine va_get (D := (dC, dI)) (ci := 5) (v := .int (S 2)) (C := RX5) (T := TX5) (N := 9) hx hb hts (fun _ h => List.mem_cons_of_mem _ (List.mem_append_right _ h)) hown hK hP 0 rfl rfl 8 (by decide) (hts (.fieldLink RX5 186 "SharedLine" "seenOfHand1" "I") (List.mem_of_getElem? (i := 3) rfl)) (fun _ h9 => h9) rfl dX5_sees_52 ?_
            refine lv_iconst (v := 1) hx hb dX5_sees_55 (by decide) ?_
            refine lv_iload_n hx hb dX5_sees_56 rfl (lv_at hl 1 rfl) ?_
            refine lv_ishl hx hb dX5_sees_57 ?_
            refine lv_ior hx hb dX5_sees_58 ?_
            refine va_put (D := (dC, dI)) (ci := 5) (v := .int ((S 2) ||| ((1 : Int32) <<< (p1 &&& 31)))) (ty := .int) (C := RX5) (T := TX5) (N := 9) hx hb hts (fun _ h => List.mem_cons_of_mem _ (List.mem_append_right _ h)) tyX5 tyX5_ok nmX5 hown hK hP hD hS 0 rfl rfl 8 (by decide) (hts (.fieldLink RX5 186 "SharedLine" "seenOfHand1" "I") (List.mem_of_getElem? (i := 3) rfl)) (fun _ h9 => h9) rfl (tyX5_ok 8 (by decide)) rfl rfl (Nat.le_of_ble_eq_true rfl) dX5_sees_59 (fun H locs hP hD hS => ?_)
            have hP : va_P (dC, dI) vwCl (wZ h zn zx zp zs zt zi (upd S 2 ((S 2) ||| ((1 : Int32) <<< (p1 &&& 31))))) H := hP
            have hD : va_D A (wZ h zn zx zp zs zt zi (upd S 2 ((S 2) ||| ((1 : Int32) <<< (p1 &&& 31))))) := hD
            refine lv_aload_n hx hb dX5_sees_62 rfl (lv_at hl 0 rfl) ?_
            refine lv_dup hx hb dX5_sees_63 rfl ?_
            refine va_get (D := (dC, dI)) (ci := 5) (v := .int (S 0)) (C := RX5) (T := TX5) (N := 9) hx hb hts (fun _ h => List.mem_cons_of_mem _ (List.mem_append_right _ h)) hown hK hP 0 rfl rfl 6 (by decide) (hts (.fieldLink RX5 180 "SharedLine" "seenCount" "I") (List.mem_of_getElem? (i := 1) rfl)) (fun _ h9 => h9) rfl dX5_sees_64 ?_
            refine lv_iconst (v := 1) hx hb dX5_sees_67 (by decide) ?_
            refine lv_iadd hx hb dX5_sees_68 ?_
            refine va_put (D := (dC, dI)) (ci := 5) (v := .int ((S 0) + 1)) (ty := .int) (C := RX5) (T := TX5) (N := 9) hx hb hts (fun _ h => List.mem_cons_of_mem _ (List.mem_append_right _ h)) tyX5 tyX5_ok nmX5 hown hK hP hD hS 0 rfl rfl 6 (by decide) (hts (.fieldLink RX5 180 "SharedLine" "seenCount" "I") (List.mem_of_getElem? (i := 1) rfl)) (fun _ h9 => h9) rfl (tyX5_ok 6 (by decide)) rfl rfl (Nat.le_of_ble_eq_true rfl) dX5_sees_69 (fun H locs hP hD hS => ?_)
            have hP : va_P (dC, dI) vwCl (wZ h zn zx zp zs zt zi (upd (upd S 2 ((S 2) ||| ((1 : Int32) <<< (p1 &&& 31)))) 0 ((S 0) + 1))) H := hP
            have hD : va_D A (wZ h zn zx zp zs zt zi (upd (upd S 2 ((S 2) ||| ((1 : Int32) <<< (p1 &&& 31)))) 0 ((S 0) + 1))) := hD
            refine lv_aload_n hx hb dX5_sees_72 rfl (lv_at hl 0 rfl) ?_
            refine va_get (D := (dC, dI)) (ci := 5) (v := .int ((S 0) + 1)) (C := RX5) (T := TX5) (N := 9) hx hb hts (fun _ h => List.mem_cons_of_mem _ (List.mem_append_right _ h)) hown hK hP 0 rfl rfl 6 (by decide) (hts (.fieldLink RX5 180 "SharedLine" "seenCount" "I") (List.mem_of_getElem? (i := 1) rfl)) (fun _ h9 => h9) rfl dX5_sees_73 ?_
            subst hσ
            try dsimp only
            exact vq_iret hx hb hr hlocks hK hP hD hS rfl dX5_sees_76
          · rw [if_pos c32] at hσ
            refine lv_aload_n hx hb dX5_sees_35 rfl (lv_at hl 0 rfl) ?_
            refine lv_dup hx hb dX5_sees_36 rfl ?_
            refine va_get (D := (dC, dI)) (ci := 5) (v := .int (S 1)) (C := RX5) (T := TX5) (N := 9) hx hb hts (fun _ h => List.mem_cons_of_mem _ (List.mem_append_right _ h)) hown hK hP 0 rfl rfl 7 (by decide) (hts (.fieldLink RX5 183 "SharedLine" "seenOfHand0" "I") (List.mem_of_getElem? (i := 2) rfl)) (fun _ h9 => h9) rfl dX5_sees_37 ?_
            refine lv_iconst (v := 1) hx hb dX5_sees_40 (by decide) ?_
            refine lv_iload_n hx hb dX5_sees_41 rfl (lv_at hl 1 rfl) ?_
            refine lv_ishl hx hb dX5_sees_42 ?_
            refine lv_ior hx hb dX5_sees_43 ?_
            refine va_put (D := (dC, dI)) (ci := 5) (v := .int ((S 1) ||| ((1 : Int32) <<< (p1 &&& 31)))) (ty := .int) (C := RX5) (T := TX5) (N := 9) hx hb hts (fun _ h => List.mem_cons_of_mem _ (List.mem_append_right _ h)) tyX5 tyX5_ok nmX5 hown hK hP hD hS 0 rfl rfl 7 (by decide) (hts (.fieldLink RX5 183 "SharedLine" "seenOfHand0" "I") (List.mem_of_getElem? (i := 2) rfl)) (fun _ h9 => h9) rfl (tyX5_ok 7 (by decide)) rfl rfl (Nat.le_of_ble_eq_true rfl) dX5_sees_44 (fun H locs hP hD hS => ?_)
            have hP : va_P (dC, dI) vwCl (wZ h zn zx zp zs zt zi (upd S 1 ((S 1) ||| ((1 : Int32) <<< (p1 &&& 31))))) H := hP
            have hD : va_D A (wZ h zn zx zp zs zt zi (upd S 1 ((S 1) ||| ((1 : Int32) <<< (p1 &&& 31))))) := hD
            refine lv_goto (tgt := 62) hx hb dX5_sees_47 (by decide) ?_
            refine lv_aload_n hx hb dX5_sees_62 rfl (lv_at hl 0 rfl) ?_
            refine lv_dup hx hb dX5_sees_63 rfl ?_
            refine va_get (D := (dC, dI)) (ci := 5) (v := .int (S 0)) (C := RX5) (T := TX5) (N := 9) hx hb hts (fun _ h => List.mem_cons_of_mem _ (List.mem_append_right _ h)) hown hK hP 0 rfl rfl 6 (by decide) (hts (.fieldLink RX5 180 "SharedLine" "seenCount" "I") (List.mem_of_getElem? (i := 1) rfl)) (fun _ h9 => h9) rfl dX5_sees_64 ?_
            refine lv_iconst (v := 1) hx hb dX5_sees_67 (by decide) ?_
            refine lv_iadd hx hb dX5_sees_68 ?_
            refine va_put (D := (dC, dI)) (ci := 5) (v := .int ((S 0) + 1)) (ty := .int) (C := RX5) (T := TX5) (N := 9) hx hb hts (fun _ h => List.mem_cons_of_mem _ (List.mem_append_right _ h)) tyX5 tyX5_ok nmX5 hown hK hP hD hS 0 rfl rfl 6 (by decide) (hts (.fieldLink RX5 180 "SharedLine" "seenCount" "I") (List.mem_of_getElem? (i := 1) rfl)) (fun _ h9 => h9) rfl (tyX5_ok 6 (by decide)) rfl rfl (Nat.le_of_ble_eq_true rfl) dX5_sees_69 (fun H locs hP hD hS => ?_)
            have hP : va_P (dC, dI) vwCl (wZ h zn zx zp zs zt zi (upd (upd S 1 ((S 1) ||| ((1 : Int32) <<< (p1 &&& 31)))) 0 ((S 0) + 1))) H := hP
            have hD : va_D A (wZ h zn zx zp zs zt zi (upd (upd S 1 ((S 1) ||| ((1 : Int32) <<< (p1 &&& 31)))) 0 ((S 0) + 1))) := hD
            refine lv_aload_n hx hb dX5_sees_72 rfl (lv_at hl 0 rfl) ?_
            refine va_get (D := (dC, dI)) (ci := 5) (v := .int ((S 0) + 1)) (C := RX5) (T := TX5) (N := 9) hx hb hts (fun _ h => List.mem_cons_of_mem _ (List.mem_append_right _ h)) hown hK hP 0 rfl rfl 6 (by decide) (hts (.fieldLink RX5 180 "SharedLine" "seenCount" "I") (List.mem_of_getElem? (i := 1) rfl)) (fun _ h9 => h9) rfl dX5_sees_73 ?_
            subst hσ
            try dsimp only
            exact vq_iret hx hb hr hlocks hK hP hD hS rfl dX5_sees_76
        · rw [if_neg c25] at hσ
          refine lv_bipush (v := (-3)) hx hb dX5_sees_28 (by decide) ?_
          subst hσ
          try dsimp only
          exact vq_iret hx hb hr hlocks hK hP hD hS rfl dX5_sees_30
      · rw [if_neg (Bool.eq_false_iff.mp c14)] at hσ
        refine lv_iconst (v := (-1)) hx hb dX5_sees_17 (by decide) ?_
        subst hσ
        try dsimp only
        exact vq_iret hx hb hr hlocks hK hP hD hS rfl dX5_sees_18
theorem hdX5_forget : yX5_forget.cls = RX5 ∧ yX5_forget.cls ≠ "java/lang/invoke/MethodHandle" ∧ yX5_forget.cls ≠ "java/lang/invoke/VarHandle" ∧ (parseMethodDescriptor yX5_forget.desc).map (fun d => d.parameters.length) = some 0 := by decide +kernel
set_option maxHeartbeats 4000000 in
set_option maxRecDepth 100000 in
theorem cX5_forget_c (l : Launch) (ev : Nat → Nat) (dC : Nat → ClassId) (dI : Nat → Nat → Nat) (cI cZ cO : ClassId) (h : Nat) (zn : Nat) (zx : Nat) (zp : Nat) (zs : Nat) (zt : Nat) (zi : Nat) (S : SSt) : MetI l ev (dC, dI) (tyC cI cZ cO) yX5_forget wsX5_forget (rmF 0 0) [.ref h] (wZ h zn zx zp zs zt zi S) (sX5_forget S).1 (wZ h zn zx zp zs zt zi (sX5_forget S).2) := by
  refine MetI_of (cc := cX5_forget) (maxL := 2) (ret := (some .int)) (by decide) rfl (Nat.le_of_ble_eq_true rfl) ?_
  intro p e s m below meth c A ls hx hb hr hml hts hown hlocks hin hK hP hD hA hE hl
  have hown : s.vm.findClass RX5 = some m.cls := hown
  have hl : lv_has ls 2 [(0, .ref h)] := hl
  have hS : va_S A s.heap s.heap [] := va_S.rf
  obtain ⟨σ, hσ⟩ : ∃ σ, (sX5_forget S) = σ := ⟨_, rfl⟩
  rw [hσ]
  rw [sX5_forget] at hσ
  refine lv_aload_n hx hb dX5_forget_0 rfl (lv_at hl 0 rfl) ?_
  refine va_get (D := (dC, dI)) (ci := 5) (v := .int (S 0)) (C := RX5) (T := TX5) (N := 9) hx hb hts (fun _ h => List.mem_cons_of_mem _ (List.mem_append_right _ h)) hown hK hP 0 rfl rfl 6 (by decide) (hts (.fieldLink RX5 180 "SharedLine" "seenCount" "I") (List.mem_of_getElem? (i := 1) rfl)) (fun _ h9 => h9) rfl dX5_forget_1 ?_
  refine lv_istore_n (lv' := [(1, .int (S 0)), (0, .ref h)]) hx hb dX5_forget_4 rfl hl (by decide) rfl (fun ls hl => ?_)
  refine lv_aload_n hx hb dX5_forget_5 rfl (lv_at hl 1 rfl) ?_
  refine lv_iconst (v := 0) hx hb dX5_forget_6 (by decide) ?_
  refine va_put (D := (dC, dI)) (ci := 5) (v := .int 0) (ty := .int) (C := RX5) (T := TX5) (N := 9) hx hb hts (fun _ h => List.mem_cons_of_mem _ (List.mem_append_right _ h)) tyX5 tyX5_ok nmX5 hown hK hP hD hS 0 rfl rfl 6 (by decide) (hts (.fieldLink RX5 180 "SharedLine" "seenCount" "I") (List.mem_of_getElem? (i := 1) rfl)) (fun _ h9 => h9) rfl (tyX5_ok 6 (by decide)) rfl rfl (Nat.le_of_ble_eq_true rfl) dX5_forget_7 (fun H locs hP hD hS => ?_)
  have hP : va_P (dC, dI) vwCl (wZ h zn zx zp zs zt zi (upd S 0 0)) H := hP
  have hD : va_D A (wZ h zn zx zp zs zt zi (upd S 0 0)) := hD
  refine lv_aload_n hx hb dX5_forget_10 rfl (lv_at hl 1 rfl) ?_
  refine lv_iconst (v := 0) hx hb dX5_forget_11 (by decide) ?_
  refine va_put (D := (dC, dI)) (ci := 5) (v := .int 0) (ty := .int) (C := RX5) (T := TX5) (N := 9) hx hb hts (fun _ h => List.mem_cons_of_mem _ (List.mem_append_right _ h)) tyX5 tyX5_ok nmX5 hown hK hP hD hS 0 rfl rfl 7 (by decide) (hts (.fieldLink RX5 183 "SharedLine" "seenOfHand0" "I") (List.mem_of_getElem? (i := 2) rfl)) (fun _ h9 => h9) rfl (tyX5_ok 7 (by decide)) rfl rfl (Nat.le_of_ble_eq_true rfl) dX5_forget_12 (fun H locs hP hD hS => ?_)
  have hP : va_P (dC, dI) vwCl (wZ h zn zx zp zs zt zi (upd (upd S 0 0) 1 0)) H := hP
  have hD : va_D A (wZ h zn zx zp zs zt zi (upd (upd S 0 0) 1 0)) := hD
  refine lv_aload_n hx hb dX5_forget_15 rfl (lv_at hl 1 rfl) ?_
  refine lv_iconst (v := 0) hx hb dX5_forget_16 (by decide) ?_
  refine va_put (D := (dC, dI)) (ci := 5) (v := .int 0) (ty := .int) (C := RX5) (T := TX5) (N := 9) hx hb hts (fun _ h => List.mem_cons_of_mem _ (List.mem_append_right _ h)) tyX5 tyX5_ok nmX5 hown hK hP hD hS 0 rfl rfl 8 (by decide) (hts (.fieldLink RX5 186 "SharedLine" "seenOfHand1" "I") (List.mem_of_getElem? (i := 3) rfl)) (fun _ h9 => h9) rfl (tyX5_ok 8 (by decide)) rfl rfl (Nat.le_of_ble_eq_true rfl) dX5_forget_17 (fun H locs hP hD hS => ?_)
  have hP : va_P (dC, dI) vwCl (wZ h zn zx zp zs zt zi (upd (upd (upd S 0 0) 1 0) 2 0)) H := hP
  have hD : va_D A (wZ h zn zx zp zs zt zi (upd (upd (upd S 0 0) 1 0) 2 0)) := hD
  refine lv_iload_n hx hb dX5_forget_20 rfl (lv_at hl 0 rfl) ?_
  subst hσ
  try dsimp only
  exact vq_iret hx hb hr hlocks hK hP hD hS rfl dX5_forget_21
theorem hdX5_count : yX5_count.cls = RX5 ∧ yX5_count.cls ≠ "java/lang/invoke/MethodHandle" ∧ yX5_count.cls ≠ "java/lang/invoke/VarHandle" ∧ (parseMethodDescriptor yX5_count.desc).map (fun d => d.parameters.length) = some 1 := by decide +kernel
set_option maxHeartbeats 4000000 in
set_option maxRecDepth 100000 in
theorem cX5_count_c (l : Launch) (ev : Nat → Nat) (dC : Nat → ClassId) (dI : Nat → Nat → Nat) (cI cZ cO : ClassId) (h : Nat) (h1 : Nat) (h2 : Nat) (h3 : Nat) (zs : Nat) (zt : Nat) (zi : Nat) (S : SSt) (hp1 : Nat) (S1 : LSt) (hp2 : Nat) (hq2 : Nat) (S2 : LSt) (hr3 : Nat) (S3 : SSt) (p1 : Int32) : MetI l ev (dC, dI) (tyC cI cZ cO) yX5_count wsX5_count (rmF 1 20) [.ref h, .int p1] (wZ h h1 h2 h3 zs zt zi S ++ wL cI h1 hp1 S1 ++ wX cI h2 hp2 hq2 S2 ++ wP h3 hr3 S3) (sX5_count S S1 S2 S3 p1) (wZ h h1 h2 h3 zs zt zi S ++ wL cI h1 hp1 S1 ++ wX cI h2 hp2 hq2 S2 ++ wP h3 hr3 S3) := by
  refine MetI_of (cc := cX5_count) (maxL := 2) (ret := (some .int)) (by decide) rfl (Nat.le_of_ble_eq_true rfl) ?_
  intro p e s m below meth c A ls hx hb hr hml hts hown hlocks hin hK hP hD hA hE hl
  have hown : s.vm.findClass RX5 = some m.cls := hown
  have hl : lv_has ls 2 [(0, .ref h), (1, .int p1)] := hl
  have hS : va_S A s.heap s.heap [] := va_S.rf
  obtain ⟨σ, hσ⟩ : ∃ σ, (sX5_count S S1 S2 S3 p1) = σ := ⟨_, rfl⟩
  rw [hσ]
  rw [sX5_count] at hσ
  refine lv_iload_n hx hb dX5_count_0 rfl (lv_at hl 1 rfl) ?_
  by_cases c1_0 : p1 = 0
  · rw [if_pos c1_0] at hσ
    refine lv_tableIn (x := p1) (off := 47) (tgt := 48) hx hb dX5_count_1 (by rw [c1_0]; decide) (by rw [c1_0]; decide) (by rw [c1_0]; rfl) (by decide) ?_
    refine lv_aload_n hx hb dX5_count_48 rfl (lv_at hl 0 rfl) ?_
    refine va_get (D := (dC, dI)) (ci := 5) (v := .ref h1) (C := RX5) (T := TX5) (N := 9) hx hb hts (fun _ h => List.mem_cons_of_mem _ (List.mem_append_left _ (List.mem_append_left _ (List.mem_append_left _ (List.mem_append_right _ h))))) hown hK hP 0 rfl rfl 0 (by decide) (hts (.fieldLink RX5 10 "SharedLine" "now" "LSharedLine$Line;") (List.mem_of_getElem? (i := 1) rfl)) (fun _ h9 => h9) rfl dX5_count_49 ?_
    refine va_get (D := (dC, dI)) (ci := 0) (v := .int (S1.1 0)) (C := RX0) (T := TX0) (N := 7) hx hb hts (fun _ h => List.mem_cons_of_mem _ (List.mem_append_left _ (List.mem_append_left _ (List.mem_append_right _ h)))) hown hK hP 1 rfl rfl 1 (by decide) (hts (.fieldLink RX5 170 "SharedLine$Line" "ticks" "I") (List.mem_of_getElem? (i := 2) rfl)) (fun _ h9 => h9) rfl dX5_count_52 ?_
    subst hσ
    exact vq_iret hx hb hr hlocks hK hP hD hS rfl dX5_count_55
  · rw [if_neg c1_0] at hσ
    by_cases c1_1 : p1 = 1
    · rw [if_pos c1_1] at hσ
      refine lv_tableIn (x := p1) (off := 55) (tgt := 56) hx hb dX5_count_1 (by rw [c1_1]; decide) (by rw [c1_1]; decide) (by rw [c1_1]; rfl) (by decide) ?_
      refine lv_aload_n hx hb dX5_count_56 rfl (lv_at hl 0 rfl) ?_
      refine va_get (D := (dC, dI)) (ci := 5) (v := .ref h1) (C := RX5) (T := TX5) (N := 9) hx hb hts (fun _ h => List.mem_cons_of_mem _ (List.mem_append_left _ (List.mem_append_left _ (List.mem_append_left _ (List.mem_append_right _ h))))) hown hK hP 0 rfl rfl 0 (by decide) (hts (.fieldLink RX5 10 "SharedLine" "now" "LSharedLine$Line;") (List.mem_of_getElem? (i := 1) rfl)) (fun _ h9 => h9) rfl dX5_count_57 ?_
      refine va_get (D := (dC, dI)) (ci := 0) (v := .int (S1.1 1)) (C := RX0) (T := TX0) (N := 7) hx hb hts (fun _ h => List.mem_cons_of_mem _ (List.mem_append_left _ (List.mem_append_left _ (List.mem_append_right _ h)))) hown hK hP 1 rfl rfl 2 (by decide) (hts (.fieldLink RX5 94 "SharedLine$Line" "notes" "I") (List.mem_of_getElem? (i := 3) rfl)) (fun _ h9 => h9) rfl dX5_count_60 ?_
      refine vq_Si (As := [.int (S1.1 1)]) (rest := []) (W2 := (wZ h h1 h2 h3 zs zt zi S ++ wL cI h1 hp1 S1 ++ wX cI h2 hp2 hq2 S2 ++ wP h3 hr3 S3)) (f := (sJ6_bitCount_0f7a4 (S1.1 1))) hx hb hml hown hts hK hP hD hS hA hE hl.1 (cJ6_bitCount_0f7a4_c l ev dC dI cI cZ cO (S1.1 1)) gX5_count_J6_bitCount_0f7a4 rfl hdJ6_bitCount_0f7a4 (Nat.le_of_ble_eq_true rfl) (Nat.le_of_ble_eq_true rfl) rfl rfl [] [0, 1, 2, 3, 4, 5] [0, 1, 2, 3, 4, 5] rfl rfl (by decide) (by decide) (by decide) rfl rfl rfl (Nat.le_of_ble_eq_true rfl) dX5_count_63 ⟨Nat.zero_le _, Nat.zero_le _⟩ (fun H locs hP hD hS => ?_)
      subst hσ
      exact vq_iret hx hb hr hlocks hK hP hD hS rfl dX5_count_66
    · rw [if_neg c1_1] at hσ
      by_cases c1_2 : p1 = 2
      · rw [if_pos c1_2] at hσ
        refine lv_tableIn (x := p1) (off := 66) (tgt := 67) hx hb dX5_count_1 (by rw [c1_2]; decide) (by rw [c1_2]; decide) (by rw [c1_2]; rfl) (by decide) ?_
        refine lv_aload_n hx hb dX5_count_67 rfl (lv_at hl 0 rfl) ?_
        refine va_get (D := (dC, dI)) (ci := 5) (v := .ref h1) (C := RX5) (T := TX5) (N := 9) hx hb hts (fun _ h => List.mem_cons_of_mem _ (List.mem_append_left _ (List.mem_append_left _ (List.mem_append_left _ (List.mem_append_right _ h))))) hown hK hP 0 rfl rfl 0 (by decide) (hts (.fieldLink RX5 10 "SharedLine" "now" "LSharedLine$Line;") (List.mem_of_getElem? (i := 1) rfl)) (fun _ h9 => h9) rfl dX5_count_68 ?_
        refine va_get (D := (dC, dI)) (ci := 0) (v := .int (S1.1 3)) (C := RX0) (T := TX0) (N := 7) hx hb hts (fun _ h => List.mem_cons_of_mem _ (List.mem_append_left _ (List.mem_append_left _ (List.mem_append_right _ h)))) hown hK hP 1 rfl rfl 4 (by decide) (hts (.fieldLink RX5 167 "SharedLine$Line" "wait" "I") (List.mem_of_getElem? (i := 4) rfl)) (fun _ h9 => h9) rfl dX5_count_71 ?_
        subst hσ
        exact vq_iret hx hb hr hlocks hK hP hD hS rfl dX5_count_74
      · rw [if_neg c1_2] at hσ
        by_cases c1_3 : p1 = 3
        · rw [if_pos c1_3] at hσ
          refine lv_tableIn (x := p1) (off := 74) (tgt := 75) hx hb dX5_count_1 (by rw [c1_3]; decide) (by rw [c1_3]; decide) (by rw [c1_3]; rfl) (by decide) ?_
          refine lv_aload_n hx hb dX5_count_75 rfl (lv_at hl 0 rfl) ?_
          refine va_get (D := (dC, dI)) (ci := 5) (v := .ref h1) (C := RX5) (T := TX5) (N := 9) hx hb hts (fun _ h => List.mem_cons_of_mem _ (List.mem_append_left _ (List.mem_append_left _ (List.mem_append_left _ (List.mem_append_right _ h))))) hown hK hP 0 rfl rfl 0 (by decide) (hts (.fieldLink RX5 10 "SharedLine" "now" "LSharedLine$Line;") (List.mem_of_getElem? (i := 1) rfl)) (fun _ h9 => h9) rfl dX5_count_76 ?_
          refine va_get (D := (dC, dI)) (ci := 0) (v := .int (S1.1 4)) (C := RX0) (T := TX0) (N := 7) hx hb hts (fun _ h => List.mem_cons_of_mem _ (List.mem_append_left _ (List.mem_append_left _ (List.mem_append_right _ h)))) hown hK hP 1 rfl rfl 5 (by decide) (hts (.fieldLink RX5 198 "SharedLine$Line" "reach" "I") (List.mem_of_getElem? (i := 5) rfl)) (fun _ h9 => h9) rfl dX5_count_79 ?_
          subst hσ
          exact vq_iret hx hb hr hlocks hK hP hD hS rfl dX5_count_82
        · rw [if_neg c1_3] at hσ
          by_cases c1_4 : p1 = 4
          · rw [if_pos c1_4] at hσ
            refine lv_tableIn (x := p1) (off := 82) (tgt := 83) hx hb dX5_count_1 (by rw [c1_4]; decide) (by rw [c1_4]; decide) (by rw [c1_4]; rfl) (by decide) ?_
            refine lv_aload_n hx hb dX5_count_83 rfl (lv_at hl 0 rfl) ?_
            refine va_get (D := (dC, dI)) (ci := 5) (v := .ref h1) (C := RX5) (T := TX5) (N := 9) hx hb hts (fun _ h => List.mem_cons_of_mem _ (List.mem_append_left _ (List.mem_append_left _ (List.mem_append_left _ (List.mem_append_right _ h))))) hown hK hP 0 rfl rfl 0 (by decide) (hts (.fieldLink RX5 10 "SharedLine" "now" "LSharedLine$Line;") (List.mem_of_getElem? (i := 1) rfl)) (fun _ h9 => h9) rfl dX5_count_84 ?_
            refine va_get (D := (dC, dI)) (ci := 0) (v := .int (S1.1 5)) (C := RX0) (T := TX0) (N := 7) hx hb hts (fun _ h => List.mem_cons_of_mem _ (List.mem_append_left _ (List.mem_append_left _ (List.mem_append_right _ h)))) hown hK hP 1 rfl rfl 6 (by decide) (hts (.fieldLink RX5 173 "SharedLine$Line" "bar" "I") (List.mem_of_getElem? (i := 6) rfl)) (fun _ h9 => h9) rfl dX5_count_87 ?_
            subst hσ
            exact vq_iret hx hb hr hlocks hK hP hD hS rfl dX5_count_90
          · rw [if_neg c1_4] at hσ
            by_cases c1_5 : p1 = 5
            · rw [if_pos c1_5] at hσ
              refine lv_tableIn (x := p1) (off := 90) (tgt := 91) hx hb dX5_count_1 (by rw [c1_5]; decide) (by rw [c1_5]; decide) (by rw [c1_5]; rfl) (by decide) ?_
              refine lv_aload_n hx hb dX5_count_91 rfl (lv_at hl 0 rfl) ?_
              refine va_get (D := (dC, dI)) (ci := 5) (v := .int (S 0)) (C := RX5) (T := TX5) (N := 9) hx hb hts (fun _ h => List.mem_cons_of_mem _ (List.mem_append_left _ (List.mem_append_left _ (List.mem_append_left _ (List.mem_append_right _ h))))) hown hK hP 0 rfl rfl 6 (by decide) (hts (.fieldLink RX5 180 "SharedLine" "seenCount" "I") (List.mem_of_getElem? (i := 7) rfl)) (fun _ h9 => h9) rfl dX5_count_92 ?_
              subst hσ
              exact vq_iret hx hb hr hlocks hK hP hD hS rfl dX5_count_95
            · rw [if_neg c1_5] at hσ
              by_cases c1_6 : p1 = 6
              · rw [if_pos c1_6] at hσ
                refine lv_tableIn (x := p1) (off := 95) (tgt := 96) hx hb dX5_count_1 (by rw [c1_6]; decide) (by rw [c1_6]; decide) (by rw [c1_6]; rfl) (by decide) ?_
                refine lv_aload_n hx hb dX5_count_96 rfl (lv_at hl 0 rfl) ?_
                refine va_get (D := (dC, dI)) (ci := 5) (v := .ref h2) (C := RX5) (T := TX5) (N := 9) hx hb hts (fun _ h => List.mem_cons_of_mem _ (List.mem_append_left _ (List.mem_append_left _ (List.mem_append_left _ (List.mem_append_right _ h))))) hown hK hP 0 rfl rfl 1 (by decide) (hts (.fieldLink RX5 19 "SharedLine" "text" "LSharedLine$Text;") (List.mem_of_getElem? (i := 8) rfl)) (fun _ h9 => h9) rfl dX5_count_97 ?_
                refine va_get (D := (dC, dI)) (ci := 4) (v := .int (S2.1 0)) (C := RX4) (T := TX4) (N := 8) hx hb hts (fun _ h => List.mem_cons_of_mem _ (List.mem_append_left _ (List.mem_append_right _ h))) hown hK hP 3 rfl rfl 1 (by decide) (hts (.fieldLink RX5 52 "SharedLine$Text" "length" "I") (List.mem_of_getElem? (i := 9) rfl)) (fun _ h9 => h9) rfl dX5_count_100 ?_
                subst hσ
                exact vq_iret hx hb hr hlocks hK hP hD hS rfl dX5_count_103
              · rw [if_neg c1_6] at hσ
                by_cases c1_7 : p1 = 7
                · rw [if_pos c1_7] at hσ
                  refine lv_tableIn (x := p1) (off := 103) (tgt := 104) hx hb dX5_count_1 (by rw [c1_7]; decide) (by rw [c1_7]; decide) (by rw [c1_7]; rfl) (by decide) ?_
                  refine lv_aload_n hx hb dX5_count_104 rfl (lv_at hl 0 rfl) ?_
                  refine va_get (D := (dC, dI)) (ci := 5) (v := .ref h3) (C := RX5) (T := TX5) (N := 9) hx hb hts (fun _ h => List.mem_cons_of_mem _ (List.mem_append_left _ (List.mem_append_left _ (List.mem_append_left _ (List.mem_append_right _ h))))) hown hK hP 0 rfl rfl 2 (by decide) (hts (.fieldLink RX5 26 "SharedLine" "past" "LSharedLine$Past;") (List.mem_of_getElem? (i := 10) rfl)) (fun _ h9 => h9) rfl dX5_count_105 ?_
                  refine va_get (D := (dC, dI)) (ci := 1) (v := .int (S3 0)) (C := RX1) (T := TX1) (N := 2) hx hb hts (fun _ h => List.mem_cons_of_mem _ (List.mem_append_right _ h)) hown hK hP 5 rfl rfl 1 (by decide) (hts (.fieldLink RX5 122 "SharedLine$Past" "size" "I") (List.mem_of_getElem? (i := 11) rfl)) (fun _ h9 => h9) rfl dX5_count_108 ?_
                  subst hσ
                  exact vq_iret hx hb hr hlocks hK hP hD hS rfl dX5_count_111
                · rw [if_neg c1_7] at hσ
                  refine lv_tableOut (x := p1) (tgt := 112) hx hb dX5_count_1 (by have := lv_neT c1_0 (a := 0) (by decide); have := lv_neT c1_1 (a := 1) (by decide); have := lv_neT c1_2 (a := 2) (by decide); have := lv_neT c1_3 (a := 3) (by decide); have := lv_neT c1_4 (a := 4) (by decide); have := lv_neT c1_5 (a := 5) (by decide); have := lv_neT c1_6 (a := 6) (by decide); have := lv_neT c1_7 (a := 7) (by decide); omega) (by decide) ?_
                  refine lv_iconst (v := (-1)) hx hb dX5_count_112 (by decide) ?_
                  subst hσ
                  exact vq_iret hx hb hr hlocks hK hP hD hS rfl dX5_count_113
