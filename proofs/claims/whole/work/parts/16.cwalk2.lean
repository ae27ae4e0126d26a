theorem hdX5_isHand : yX5_isHand.cls ≠ "java/lang/invoke/MethodHandle" ∧ yX5_isHand.cls ≠ "java/lang/invoke/VarHandle" ∧ (parseMethodDescriptor yX5_isHand.desc).map (fun d => d.parameters.length) = some 1 := by decide +kernel
set_option maxHeartbeats 4000000 in
set_option maxRecDepth 100000 in
theorem cX5_isHand_c (l : Launch) (ev : Nat → Nat) (dC : Nat → ClassId) (dI : Nat → Nat → Nat) (cI cZ cO : ClassId) (p1 : Int32) : MetI l ev (dC, dI) (tyC cI cZ cO) yX5_isHand wsX5_isHand (rmF 0 0) [.int p1] ([] : va_W) (bI (sX5_isHand p1)) ([] : va_W) := by
  refine MetI_of (cc := cX5_isHand) (maxL := 1) (ret := (some .boolean)) (by decide) rfl (Nat.le_of_ble_eq_true rfl) ?_
  intro p e s m below meth c A ls hx hb hr hml hts hown hlocks hin hK hP hD hA hE hl
  have hown : s.vm.findClass RX5 = some m.cls := hown
  have hl : lv_has ls 1 [(0, .int p1)] := hl
  have hS : va_S A s.heap s.heap [] := va_S.rf
  obtain ⟨σ, hσ⟩ : ∃ σ, (sX5_isHand p1) = σ := ⟨_, rfl⟩
  rw [hσ]
  rw [sX5_isHand] at hσ
  refine lv_iload_n hx hb dX5_isHand_0 rfl (lv_at hl 0 rfl) ?_
  refine lv_if_eq (tgt := 9) hx hb dX5_isHand_1 (by decide) (fun c1 => ?_) (fun c1 => ?_)
  · rw [if_pos c1] at hσ
    refine lv_iconst (v := 1) hx hb dX5_isHand_9 (by decide) ?_
    refine lv_goto (tgt := 14) hx hb dX5_isHand_10 (by decide) ?_
    subst hσ
    exact vq_zret hx hb hr hlocks hK hP hD hS rfl rfl dX5_isHand_14
  · rw [if_neg c1] at hσ
    refine lv_iload_n hx hb dX5_isHand_4 rfl (lv_at hl 0 rfl) ?_
    refine lv_iconst (v := 1) hx hb dX5_isHand_5 (by decide) ?_
    refine lv_icmp_ne (tgt := 13) hx hb dX5_isHand_6 (by decide) (fun c6 => ?_) (fun c6 => ?_)
    · rw [if_neg c6] at hσ
      refine lv_iconst (v := 0) hx hb dX5_isHand_13 (by decide) ?_
      subst hσ
      exact vq_zret hx hb hr hlocks hK hP hD hS rfl rfl dX5_isHand_14
    · rw [if_pos c6] at hσ
      refine lv_iconst (v := 1) hx hb dX5_isHand_9 (by decide) ?_
      refine lv_goto (tgt := 14) hx hb dX5_isHand_10 (by decide) ?_
      subst hσ
      exact vq_zret hx hb hr hlocks hK hP hD hS rfl rfl dX5_isHand_14
theorem hdX5_ticksFrom : yX5_ticksFrom.cls ≠ "java/lang/invoke/MethodHandle" ∧ yX5_ticksFrom.cls ≠ "java/lang/invoke/VarHandle" ∧ (parseMethodDescriptor yX5_ticksFrom.desc).map (fun d => d.parameters.length) = some 2 := by decide +kernel
set_option maxHeartbeats 4000000 in
set_option maxRecDepth 100000 in
theorem cX5_ticksFrom_c (l : Launch) (ev : Nat → Nat) (dC : Nat → ClassId) (dI : Nat → Nat → Nat) (cI cZ cO : ClassId) (p1 : Int32) (p2 : Int32) : MetI l ev (dC, dI) (tyC cI cZ cO) yX5_ticksFrom wsX5_ticksFrom (rmF 0 0) [.int p1, .int p2] ([] : va_W) (sX5_ticksFrom p1 p2) ([] : va_W) := by
  refine MetI_of (cc := cX5_ticksFrom) (maxL := 2) (ret := (some .int)) (by decide) rfl (Nat.le_of_ble_eq_true rfl) ?_
  intro p e s m below meth c A ls hx hb hr hml hts hown hlocks hin hK hP hD hA hE hl
  have hown : s.vm.findClass RX5 = some m.cls := hown
  have hl : lv_has ls 2 [(0, .int p1), (1, .int p2)] := hl
  have hS : va_S A s.heap s.heap [] := va_S.rf
  obtain ⟨σ, hσ⟩ : ∃ σ, (sX5_ticksFrom p1 p2) = σ := ⟨_, rfl⟩
  rw [hσ]
  rw [sX5_ticksFrom] at hσ
  refine lv_iconst (v := 1) hx hb dX5_ticksFrom_0 (by decide) ?_
  refine lv_iload_n hx hb dX5_ticksFrom_1 rfl (lv_at hl 1 rfl) ?_
  refine lv_ishl hx hb dX5_ticksFrom_2 ?_
  refine lv_iconst (v := 1) hx hb dX5_ticksFrom_3 (by decide) ?_
  refine lv_isub hx hb dX5_ticksFrom_4 ?_
  refine lv_iload_n hx hb dX5_ticksFrom_5 rfl (lv_at hl 0 rfl) ?_
  refine lv_ishl hx hb dX5_ticksFrom_6 ?_
  subst hσ
  exact vq_iret hx hb hr hlocks hK hP hD hS rfl dX5_ticksFrom_7
theorem hdX5_isNumber : yX5_isNumber.cls ≠ "java/lang/invoke/MethodHandle" ∧ yX5_isNumber.cls ≠ "java/lang/invoke/VarHandle" ∧ (parseMethodDescriptor yX5_isNumber.desc).map (fun d => d.parameters.length) = some 2 := by decide +kernel
set_option maxHeartbeats 4000000 in
set_option maxRecDepth 100000 in
theorem cX5_isNumber_c (l : Launch) (ev : Nat → Nat) (dC : Nat → ClassId) (dI : Nat → Nat → Nat) (cI cZ cO : ClassId) (p1 : Int32) (p2 : Int32) : MetI l ev (dC, dI) (tyC cI cZ cO) yX5_isNumber wsX5_isNumber (rmF 0 0) [.int p1, .int p2] ([] : va_W) (bI (sX5_isNumber p1 p2)) ([] : va_W) := by
  refine MetI_of (cc := cX5_isNumber) (maxL := 2) (ret := (some .boolean)) (by decide) rfl (Nat.le_of_ble_eq_true rfl) ?_
  intro p e s m below meth c A ls hx hb hr hml hts hown hlocks hin hK hP hD hA hE hl
  have hown : s.vm.findClass RX5 = some m.cls := hown
  have hl : lv_has ls 2 [(0, .int p1), (1, .int p2)] := hl
  have hS : va_S A s.heap s.heap [] := va_S.rf
  obtain ⟨σ, hσ⟩ : ∃ σ, (sX5_isNumber p1 p2) = σ := ⟨_, rfl⟩
  rw [hσ]
  rw [sX5_isNumber] at hσ
  refine lv_iload_n hx hb dX5_isNumber_0 rfl (lv_at hl 0 rfl) ?_
  refine lv_if_lt (tgt := 31) hx hb dX5_isNumber_1 (by decide) (fun c1 => ?_) (fun c1 => ?_)
  · rw [if_pos c1] at hσ
    refine lv_iconst (v := 0) hx hb dX5_isNumber_31 (by decide) ?_
    subst hσ
    exact vq_zret hx hb hr hlocks hK hP hD hS rfl rfl dX5_isNumber_32
  · rw [if_neg c1] at hσ
    refine lv_iload_n hx hb dX5_isNumber_4 rfl (lv_at hl 0 rfl) ?_
    refine lv_iconst (v := 2) hx hb dX5_isNumber_5 (by decide) ?_
    refine lv_icmp_gt (tgt := 31) hx hb dX5_isNumber_6 (by decide) (fun c6 => ?_) (fun c6 => ?_)
    · rw [if_pos c6] at hσ
      refine lv_iconst (v := 0) hx hb dX5_isNumber_31 (by decide) ?_
      subst hσ
      exact vq_zret hx hb hr hlocks hK hP hD hS rfl rfl dX5_isNumber_32
    · rw [if_neg c6] at hσ
      refine lv_iload_n hx hb dX5_isNumber_9 rfl (lv_at hl 1 rfl) ?_
      refine va_gets (v := .ref (ev 0)) hx hb hE.1.1 hS hown (hts (.fieldLink RX5 161 "SharedLine" "NUMBER_LEAST" "[I") (List.mem_of_getElem? (i := 1) rfl)) (fun _ h9 => h9) dX5_isNumber_10 ?_
      refine lv_iload_n hx hb dX5_isNumber_13 rfl (lv_at hl 0 rfl) ?_
      refine va_ti (v := .int (nbLeast (p1).toNatClampNeg)) hx hb hE.1.2.1 hS (i := p1) (rng3 c1 c6) rfl dX5_isNumber_14 ?_
      refine lv_icmp_lt (tgt := 31) hx hb dX5_isNumber_15 (by decide) (fun c15 => ?_) (fun c15 => ?_)
      · rw [if_pos c15] at hσ
        refine lv_iconst (v := 0) hx hb dX5_isNumber_31 (by decide) ?_
        subst hσ
        exact vq_zret hx hb hr hlocks hK hP hD hS rfl rfl dX5_isNumber_32
      · rw [if_neg c15] at hσ
        refine lv_iload_n hx hb dX5_isNumber_18 rfl (lv_at hl 1 rfl) ?_
        refine va_gets (v := .ref (ev 1)) hx hb hE.1.2.2.1 hS hown (hts (.fieldLink RX5 157 "SharedLine" "NUMBER_MOST" "[I") (List.mem_of_getElem? (i := 2) rfl)) (fun _ h9 => h9) dX5_isNumber_19 ?_
        refine lv_iload_n hx hb dX5_isNumber_22 rfl (lv_at hl 0 rfl) ?_
        refine va_ti (v := .int (nbMost (p1).toNatClampNeg)) hx hb hE.1.2.2.2.1 hS (i := p1) (rng3 c1 c6) rfl dX5_isNumber_23 ?_
        refine lv_icmp_gt (tgt := 31) hx hb dX5_isNumber_24 (by decide) (fun c24 => ?_) (fun c24 => ?_)
        · rw [if_pos c24] at hσ
          refine lv_iconst (v := 0) hx hb dX5_isNumber_31 (by decide) ?_
          subst hσ
          exact vq_zret hx hb hr hlocks hK hP hD hS rfl rfl dX5_isNumber_32
        · rw [if_neg c24] at hσ
          refine lv_iconst (v := 1) hx hb dX5_isNumber_27 (by decide) ?_
          refine lv_goto (tgt := 32) hx hb dX5_isNumber_28 (by decide) ?_
          subst hσ
          exact vq_zret hx hb hr hlocks hK hP hD hS rfl rfl dX5_isNumber_32
theorem hdX2_lookAt : yX2_lookAt.cls = RX2 ∧ yX2_lookAt.cls ≠ "java/lang/invoke/MethodHandle" ∧ yX2_lookAt.cls ≠ "java/lang/invoke/VarHandle" ∧ (parseMethodDescriptor yX2_lookAt.desc).map (fun d => d.parameters.length) = some 1 := by decide +kernel
set_option maxHeartbeats 4000000 in
set_option maxRecDepth 100000 in
theorem cX2_lookAt_c (l : Launch) (ev : Nat → Nat) (dC : Nat → ClassId) (dI : Nat → Nat → Nat) (cI cZ cO : ClassId) (h : Nat) (h1 : Nat) (S : SSt) (hp1 : Nat) (S1 : LSt) (h2 : Nat) (hp2 : Nat) (S2 : LSt) : MetV l ev (dC, dI) (tyC cI cZ cO) yX2_lookAt wsX2_lookAt (rmF 2 61) [.ref h, .ref h2] (wS h h1 S ++ wL cI h1 hp1 S1 ++ wL cI h2 hp2 S2) (wS h h1 S ++ wL cI h1 hp1 (sX2_lookAt S S1 S2) ++ wL cI h2 hp2 S2) := by
  refine MetV_of (cc := cX2_lookAt) (maxL := 2) (ret := none) (by decide) rfl (Nat.le_of_ble_eq_true rfl) ?_
  intro p e s m below meth c A ls hx hb hr hml hts hown hlocks hin hK hP hD hA hE hl
  have hown : s.vm.findClass RX2 = some m.cls := hown
  have hl : lv_has ls 2 [(0, .ref h), (1, .ref h2)] := hl
  have hS : va_S A s.heap s.heap [] := va_S.rf
  obtain ⟨σ, hσ⟩ : ∃ σ, (sX2_lookAt S S1 S2) = σ := ⟨_, rfl⟩
  rw [hσ]
  rw [sX2_lookAt] at hσ
  refine lv_aload_n hx hb dX2_lookAt_0 rfl (lv_at hl 0 rfl) ?_
  refine va_get (D := (dC, dI)) (ci := 2) (v := .ref h1) (C := RX2) (T := TX2) (N := 4) hx hb hts (fun _ h => List.mem_cons_of_mem _ (List.mem_append_left _ (List.mem_append_right _ h))) hown hK hP 0 rfl rfl 0 (by decide) (hts (.fieldLink RX2 12 "SharedLine$Search" "line" "LSharedLine$Line;") (List.mem_of_getElem? (i := 1) rfl)) (fun _ h9 => h9) rfl dX2_lookAt_1 ?_
  refine lv_aload_n hx hb dX2_lookAt_4 rfl (lv_at hl 1 rfl) ?_
  refine vq_Vv (As := [.ref h2]) (rest := []) (W2 := (wS h h1 S ++ wL cI h1 hp1 (sX0_copyFrom S1 S2) ++ wL cI h2 hp2 S2)) hx hb hml hown hts hK hP hD hS hA hE hl.1 (cX0_copyFrom_c l ev dC dI cI cZ cO h1 hp1 S1 h2 hp2 S2) gX2_lookAt_X0_copyFrom rfl hdX0_copyFrom (Nat.le_of_ble_eq_true rfl) (Nat.le_of_ble_eq_true rfl) rfl rfl (ci := 0) (qr := 1) rfl rfl rfl [1, 2, 3, 4] [0] [0, 1, 2, 3, 4] rfl rfl (by decide) (by decide) (by decide) rfl rfl rfl (Nat.le_of_ble_eq_true rfl) dX2_lookAt_5 ⟨Nat.zero_le _, Nat.zero_le _⟩ (fun H locs hP hD hS => ?_)
  subst hσ
  exact vq_vret hx hb hr hlocks hK hP hD hS dX2_lookAt_8
theorem hdX2_isUnlike : yX2_isUnlike.cls = RX2 ∧ yX2_isUnlike.cls ≠ "java/lang/invoke/MethodHandle" ∧ yX2_isUnlike.cls ≠ "java/lang/invoke/VarHandle" ∧ (parseMethodDescriptor yX2_isUnlike.desc).map (fun d => d.parameters.length) = some 2 := by decide +kernel
set_option maxHeartbeats 4000000 in
set_option maxRecDepth 100000 in
theorem cX2_isUnlike_c (l : Launch) (ev : Nat → Nat) (dC : Nat → ClassId) (dI : Nat → Nat → Nat) (cI cZ cO : ClassId) (h : Nat) (h1 : Nat) (S : SSt) (hp1 : Nat) (S1 : LSt) (p1 : Int32) (p2 : Int32) : MetI l ev (dC, dI) (tyC cI cZ cO) yX2_isUnlike wsX2_isUnlike (rmF 1 21) [.ref h, .int p1, .int p2] (wS h h1 S ++ wL cI h1 hp1 S1) (bI (sX2_isUnlike S S1 p1 p2)) (wS h h1 S ++ wL cI h1 hp1 S1) := by
  refine MetI_of (cc := cX2_isUnlike) (maxL := 4) (ret := (some .boolean)) (by decide) rfl (Nat.le_of_ble_eq_true rfl) ?_
  intro p e s m below meth c A ls hx hb hr hml hts hown hlocks hin hK hP hD hA hE hl
  have hown : s.vm.findClass RX2 = some m.cls := hown
  have hl : lv_has ls 4 [(0, .ref h), (1, .int p1), (2, .int p2)] := hl
  have hS : va_S A s.heap s.heap [] := va_S.rf
  obtain ⟨σ, hσ⟩ : ∃ σ, (sX2_isUnlike S S1 p1 p2) = σ := ⟨_, rfl⟩
  rw [hσ]
  rw [sX2_isUnlike] at hσ
  refine lv_iload_n hx hb dX2_isUnlike_0 rfl (lv_at hl 1 rfl) ?_
  refine lv_aload_n hx hb dX2_isUnlike_1 rfl (lv_at hl 0 rfl) ?_
  refine va_get (D := (dC, dI)) (ci := 2) (v := .ref h1) (C := RX2) (T := TX2) (N := 4) hx hb hts (fun _ h => List.mem_cons_of_mem _ (List.mem_append_left _ (List.mem_append_right _ h))) hown hK hP 0 rfl rfl 0 (by decide) (hts (.fieldLink RX2 12 "SharedLine$Search" "line" "LSharedLine$Line;") (List.mem_of_getElem? (i := 1) rfl)) (fun _ h9 => h9) rfl dX2_isUnlike_2 ?_
  refine va_get (D := (dC, dI)) (ci := 0) (v := .int (S1.1 5)) (C := RX0) (T := TX0) (N := 7) hx hb hts (fun _ h => List.mem_cons_of_mem _ (List.mem_append_right _ h)) hown hK hP 1 rfl rfl 6 (by decide) (hts (.fieldLink RX2 62 "SharedLine$Line" "bar" "I") (List.mem_of_getElem? (i := 2) rfl)) (fun _ h9 => h9) rfl dX2_isUnlike_5 ?_
  refine lv_isub hx hb dX2_isUnlike_8 ?_
  refine lv_istore_n (lv' := [(3, .int (p1 - (S1.1 5))), (0, .ref h), (1, .int p1), (2, .int p2)]) hx hb dX2_isUnlike_9 rfl hl (by decide) rfl (fun ls hl => ?_)
  refine lv_aload_n hx hb dX2_isUnlike_10 rfl (lv_at hl 1 rfl) ?_
  refine va_get (D := (dC, dI)) (ci := 2) (v := .ref h1) (C := RX2) (T := TX2) (N := 4) hx hb hts (fun _ h => List.mem_cons_of_mem _ (List.mem_append_left _ (List.mem_append_right _ h))) hown hK hP 0 rfl rfl 0 (by decide) (hts (.fieldLink RX2 12 "SharedLine$Search" "line" "LSharedLine$Line;") (List.mem_of_getElem? (i := 1) rfl)) (fun _ h9 => h9) rfl dX2_isUnlike_11 ?_
  refine lv_iload_n hx hb dX2_isUnlike_14 rfl (lv_at hl 0 rfl) ?_
  refine vq_Vi (As := [.int (p1 - (S1.1 5))]) (rest := []) (W2 := (wS h h1 S ++ wL cI h1 hp1 S1)) (f := (bI (sX0_hasNote S1 (p1 - (S1.1 5))))) hx hb hml hown hts hK hP hD hS hA hE hl.1 (cX0_hasNote_c l ev dC dI cI cZ cO h1 hp1 S1 (p1 - (S1.1 5))) gX2_isUnlike_X0_hasNote rfl hdX0_hasNote (Nat.le_of_ble_eq_true rfl) (Nat.le_of_ble_eq_true rfl) rfl rfl (ci := 0) (qr := 1) rfl rfl rfl [1, 2] [0] [0, 1, 2] rfl rfl (by decide) (by decide) (by decide) rfl rfl rfl (Nat.le_of_ble_eq_true rfl) dX2_isUnlike_15 ⟨Nat.zero_le _, Nat.zero_le _⟩ (fun H locs hP hD hS => ?_)
  refine lv_if_eqB (tgt := 38) hx hb dX2_isUnlike_18 (by decide) (fun c18 => ?_) (fun c18 => ?_)
  · rw [if_neg (Bool.eq_false_iff.mp c18)] at hσ
    refine lv_iconst (v := 0) hx hb dX2_isUnlike_38 (by decide) ?_
    subst hσ
    exact vq_zret hx hb hr hlocks hK hP hD hS rfl rfl dX2_isUnlike_39
  · rw [if_pos c18] at hσ
    refine lv_iload_n hx hb dX2_isUnlike_21 rfl (lv_at hl 3 rfl) ?_
    refine lv_iload_n hx hb dX2_isUnlike_22 rfl (lv_at hl 2 rfl) ?_
    refine lv_ishr hx hb dX2_isUnlike_23 ?_
    refine lv_iconst (v := 1) hx hb dX2_isUnlike_24 (by decide) ?_
    refine lv_iand hx hb dX2_isUnlike_25 ?_
    refine lv_iload_n hx hb dX2_isUnlike_26 rfl (lv_at hl 3 rfl) ?_
    refine lv_iload_n hx hb dX2_isUnlike_27 rfl (lv_at hl 0 rfl) ?_
    refine lv_ishr hx hb dX2_isUnlike_28 ?_
    refine lv_iconst (v := 1) hx hb dX2_isUnlike_29 (by decide) ?_
    refine lv_iand hx hb dX2_isUnlike_30 ?_
    refine lv_icmp_eq (tgt := 38) hx hb dX2_isUnlike_31 (by decide) (fun c31 => ?_) (fun c31 => ?_)
    · rw [if_pos c31] at hσ
      refine lv_iconst (v := 0) hx hb dX2_isUnlike_38 (by decide) ?_
      subst hσ
      exact vq_zret hx hb hr hlocks hK hP hD hS rfl rfl dX2_isUnlike_39
    · rw [if_neg c31] at hσ
      refine lv_iconst (v := 1) hx hb dX2_isUnlike_34 (by decide) ?_
      refine lv_goto (tgt := 39) hx hb dX2_isUnlike_35 (by decide) ?_
      subst hσ
      exact vq_zret hx hb hr hlocks hK hP hD hS rfl rfl dX2_isUnlike_39
theorem hdX2_costAt : yX2_costAt.cls = RX2 ∧ yX2_costAt.cls ≠ "java/lang/invoke/MethodHandle" ∧ yX2_costAt.cls ≠ "java/lang/invoke/VarHandle" ∧ (parseMethodDescriptor yX2_costAt.desc).map (fun d => d.parameters.length) = some 2 := by decide +kernel
set_option maxHeartbeats 4000000 in
set_option maxRecDepth 100000 in
theorem cX2_costAt_c (l : Launch) (ev : Nat → Nat) (dC : Nat → ClassId) (dI : Nat → Nat → Nat) (cI cZ cO : ClassId) (h : Nat) (h1 : Nat) (S : SSt) (hp1 : Nat) (S1 : LSt) (p1 : Int32) (p2 : Int32) : MetI l ev (dC, dI) (tyC cI cZ cO) yX2_costAt wsX2_costAt (rmF 2 44) [.ref h, .int p1, .int p2] (wS h h1 S ++ wL cI h1 hp1 S1) (sX2_costAt S S1 p1 p2) (wS h h1 S ++ wL cI h1 hp1 S1) := by
  refine MetI_of (cc := cX2_costAt) (maxL := 3) (ret := (some .int)) (by decide) rfl (Nat.le_of_ble_eq_true rfl) ?_
  intro p e s m below meth c A ls hx hb hr hml hts hown hlocks hin hK hP hD hA hE hl
  have hown : s.vm.findClass RX2 = some m.cls := hown
  have hl : lv_has ls 3 [(0, .ref h), (1, .int p1), (2, .int p2)] := hl
  have hS : va_S A s.heap s.heap [] := va_S.rf
  obtain ⟨σ, hσ⟩ : ∃ σ, (sX2_costAt S S1 p1 p2) = σ := ⟨_, rfl⟩
  rw [hσ]
  rw [sX2_costAt] at hσ
  refine lv_aload_n hx hb dX2_costAt_0 rfl (lv_at hl 0 rfl) ?_
  refine va_get (D := (dC, dI)) (ci := 2) (v := .int (S 1)) (C := RX2) (T := TX2) (N := 4) hx hb hts (fun _ h => List.mem_cons_of_mem _ (List.mem_append_left _ (List.mem_append_right _ h))) hown hK hP 0 rfl rfl 2 (by decide) (hts (.fieldLink RX2 22 "SharedLine$Search" "goal" "I") (List.mem_of_getElem? (i := 1) rfl)) (fun _ h9 => h9) rfl dX2_costAt_1 ?_
  by_cases c4_0 : (S 1) = 1
  · rw [if_pos c4_0] at hσ
    refine lv_lookup (x := (S 1)) (off := 28) (tgt := 32) hx hb dX2_costAt_4 (by decide) (by rw [c4_0]; decide) (by decide) ?_
    refine lv_aload_n hx hb dX2_costAt_32 rfl (lv_at hl 0 rfl) ?_
    refine lv_iload_n hx hb dX2_costAt_33 rfl (lv_at hl 1 rfl) ?_
    refine lv_iload_n hx hb dX2_costAt_34 rfl (lv_at hl 2 rfl) ?_
    refine vq_Vi (As := [.int p1, .int p2]) (rest := []) (W2 := (wS h h1 S ++ wL cI h1 hp1 S1)) (f := (bI (sX2_isUnlike S S1 p1 p2))) hx hb hml hown hts hK hP hD hS hA hE hl.1 (cX2_isUnlike_c l ev dC dI cI cZ cO h h1 S hp1 S1 p1 p2) gX2_costAt_X2_isUnlike rfl hdX2_isUnlike (Nat.le_of_ble_eq_true rfl) (Nat.le_of_ble_eq_true rfl) rfl rfl (ci := 2) (qr := 0) rfl rfl rfl [0, 1, 2] [] [0, 1, 2] rfl rfl (by decide) (by decide) (by decide) rfl rfl rfl (Nat.le_of_ble_eq_true rfl) dX2_costAt_35 ⟨Nat.zero_le _, Nat.zero_le _⟩ (fun H locs hP hD hS => ?_)
    refine lv_if_eqB (tgt := 46) hx hb dX2_costAt_38 (by decide) (fun c38 => ?_) (fun c38 => ?_)
    · rw [if_neg (Bool.eq_false_iff.mp c38)] at hσ
      refine lv_iconst (v := 0) hx hb dX2_costAt_46 (by decide) ?_
      subst hσ
      exact vq_iret hx hb hr hlocks hK hP hD hS rfl dX2_costAt_47
    · rw [if_pos c38] at hσ
      refine lv_bipush (v := 100) hx hb dX2_costAt_41 (by decide) ?_
      refine lv_goto (tgt := 47) hx hb dX2_costAt_43 (by decide) ?_
      subst hσ
      exact vq_iret hx hb hr hlocks hK hP hD hS rfl dX2_costAt_47
  · rw [if_neg c4_0] at hσ
    by_cases c4_1 : (S 1) = 2
    · rw [if_pos c4_1] at hσ
      refine lv_lookup (x := (S 1)) (off := 44) (tgt := 48) hx hb dX2_costAt_4 (by decide) (by rw [c4_1]; decide) (by decide) ?_
      refine lv_iload_n hx hb dX2_costAt_48 rfl (lv_at hl 2 rfl) ?_
      refine lv_aload_n hx hb dX2_costAt_49 rfl (lv_at hl 0 rfl) ?_
      refine va_get (D := (dC, dI)) (ci := 2) (v := .ref h1) (C := RX2) (T := TX2) (N := 4) hx hb hts (fun _ h => List.mem_cons_of_mem _ (List.mem_append_left _ (List.mem_append_right _ h))) hown hK hP 0 rfl rfl 0 (by decide) (hts (.fieldLink RX2 12 "SharedLine$Search" "line" "LSharedLine$Line;") (List.mem_of_getElem? (i := 2) rfl)) (fun _ h9 => h9) rfl dX2_costAt_50 ?_
      refine va_get (D := (dC, dI)) (ci := 0) (v := .int (S1.1 2)) (C := RX0) (T := TX0) (N := 7) hx hb hts (fun _ h => List.mem_cons_of_mem _ (List.mem_append_right _ h)) hown hK hP 1 rfl rfl 3 (by decide) (hts (.fieldLink RX2 59 "SharedLine$Line" "hands" "I") (List.mem_of_getElem? (i := 3) rfl)) (fun _ h9 => h9) rfl dX2_costAt_53 ?_
      refine lv_ixor hx hb dX2_costAt_56 ?_
      refine lv_iload_n hx hb dX2_costAt_57 rfl (lv_at hl 1 rfl) ?_
      refine lv_ishr hx hb dX2_costAt_58 ?_
      refine lv_iconst (v := 1) hx hb dX2_costAt_59 (by decide) ?_
      refine lv_iand hx hb dX2_costAt_60 ?_
      subst hσ
      exact vq_iret hx hb hr hlocks hK hP hD hS rfl dX2_costAt_61
    · rw [if_neg c4_1] at hσ
      refine lv_lookup (x := (S 1)) (off := 58) (tgt := 62) hx hb dX2_costAt_4 (by decide) (by rw [show (#[(1, 28), (2, 44)] : Array (Int × Int)).toList = [(1, 28), (2, 44)] from rfl, lv_osw c4_0 (by decide), lv_osw c4_1 (by decide)]; rfl) (by decide) ?_
      refine lv_iconst (v := 0) hx hb dX2_costAt_62 (by decide) ?_
      subst hσ
      exact vq_iret hx hb hr hlocks hK hP hD hS rfl dX2_costAt_63
theorem hdX2_weigh : yX2_weigh.cls = RX2 ∧ yX2_weigh.cls ≠ "java/lang/invoke/MethodHandle" ∧ yX2_weigh.cls ≠ "java/lang/invoke/VarHandle" ∧ (parseMethodDescriptor yX2_weigh.desc).map (fun d => d.parameters.length) = some 2 := by decide +kernel
set_option maxHeartbeats 4000000 in
set_option maxRecDepth 100000 in
theorem cX2_weigh_c (l : Launch) (ev : Nat → Nat) (dC : Nat → ClassId) (dI : Nat → Nat → Nat) (cI cZ cO : ClassId) (h : Nat) (h1 : Nat) (S : SSt) (hp1 : Nat) (S1 : LSt) (p1 : Int32) (p2 : Int32) : MetV l ev (dC, dI) (tyC cI cZ cO) yX2_weigh wsX2_weigh (rmF 2 41) [.ref h, .int p1, .int p2] (wS h h1 S ++ wL cI h1 hp1 S1) (wS h h1 (sX2_weigh S S1 p1 p2) ++ wL cI h1 hp1 S1) := by
  refine MetV_of (cc := cX2_weigh) (maxL := 4) (ret := none) (by decide) rfl (Nat.le_of_ble_eq_true rfl) ?_
  intro p e s m below meth c A ls hx hb hr hml hts hown hlocks hin hK hP hD hA hE hl
  have hown : s.vm.findClass RX2 = some m.cls := hown
  have hl : lv_has ls 4 [(0, .ref h), (1, .int p1), (2, .int p2)] := hl
  have hS : va_S A s.heap s.heap [] := va_S.rf
  obtain ⟨σ, hσ⟩ : ∃ σ, (sX2_weigh S S1 p1 p2) = σ := ⟨_, rfl⟩
  rw [hσ]
  rw [sX2_weigh] at hσ
  refine lv_aload_n hx hb dX2_weigh_0 rfl (lv_at hl 0 rfl) ?_
  refine va_get (D := (dC, dI)) (ci := 2) (v := .int (S 1)) (C := RX2) (T := TX2) (N := 4) hx hb hts (fun _ h => List.mem_cons_of_mem _ (List.mem_append_left _ (List.mem_append_right _ h))) hown hK hP 0 rfl rfl 2 (by decide) (hts (.fieldLink RX2 22 "SharedLine$Search" "goal" "I") (List.mem_of_getElem? (i := 1) rfl)) (fun _ h9 => h9) rfl dX2_weigh_1 ?_
  refine lv_iconst (v := 1) hx hb dX2_weigh_4 (by decide) ?_
  refine lv_icmp_ne (tgt := 24) hx hb dX2_weigh_5 (by decide) (fun c5 => ?_) (fun c5 => ?_)
  · rw [if_neg c5] at hσ
    refine lv_iload_n hx hb dX2_weigh_24 rfl (lv_at hl 2 rfl) ?_
    refine lv_istore_n (lv' := [(3, .int p2), (0, .ref h), (1, .int p1), (2, .int p2)]) hx hb dX2_weigh_25 rfl hl (by decide) rfl (fun ls hl => ?_)
    refine lv_iload_n hx hb dX2_weigh_26 rfl (lv_at hl 0 rfl) ?_
    refine lv_aload_n hx hb dX2_weigh_27 rfl (lv_at hl 1 rfl) ?_
    refine va_get (D := (dC, dI)) (ci := 2) (v := .int (S 2)) (C := RX2) (T := TX2) (N := 4) hx hb hts (fun _ h => List.mem_cons_of_mem _ (List.mem_append_left _ (List.mem_append_right _ h))) hown hK hP 0 rfl rfl 3 (by decide) (hts (.fieldLink RX2 30 "SharedLine$Search" "leastCost" "I") (List.mem_of_getElem? (i := 7) rfl)) (fun _ h9 => h9) rfl dX2_weigh_28 ?_
    refine lv_icmp_ge (tgt := 44) hx hb dX2_weigh_31 (by decide) (fun c31 => ?_) (fun c31 => ?_)
    · rw [if_pos c31] at hσ
      subst hσ
      exact vq_vret hx hb hr hlocks hK hP hD hS dX2_weigh_44
    · rw [if_neg c31] at hσ
      refine lv_aload_n hx hb dX2_weigh_34 rfl (lv_at hl 1 rfl) ?_
      refine lv_iload_n hx hb dX2_weigh_35 rfl (lv_at hl 0 rfl) ?_
      refine va_put (D := (dC, dI)) (ci := 2) (v := .int p2) (ty := .int) (C := RX2) (T := TX2) (N := 4) hx hb hts (fun _ h => List.mem_cons_of_mem _ (List.mem_append_left _ (List.mem_append_right _ h))) tyX2 tyX2_ok nmX2 hown hK hP hD hS 0 rfl rfl 3 (by decide) (hts (.fieldLink RX2 30 "SharedLine$Search" "leastCost" "I") (List.mem_of_getElem? (i := 7) rfl)) (fun _ h9 => h9) rfl (tyX2_ok 3 (by decide)) rfl rfl (Nat.le_of_ble_eq_true rfl) dX2_weigh_36 (fun H locs hP hD hS => ?_)
      have hP : va_P (dC, dI) vwCl (wS h h1 (upd S 2 p2) ++ wL cI h1 hp1 S1) H := hP
      have hD : va_D A (wS h h1 (upd S 2 p2) ++ wL cI h1 hp1 S1) := hD
      refine lv_aload_n hx hb dX2_weigh_39 rfl (lv_at hl 1 rfl) ?_
      refine lv_iload_n hx hb dX2_weigh_40 rfl (lv_at hl 2 rfl) ?_
      refine va_put (D := (dC, dI)) (ci := 2) (v := .int p1) (ty := .int) (C := RX2) (T := TX2) (N := 4) hx hb hts (fun _ h => List.mem_cons_of_mem _ (List.mem_append_left _ (List.mem_append_right _ h))) tyX2 tyX2_ok nmX2 hown hK hP hD hS 0 rfl rfl 1 (by decide) (hts (.fieldLink RX2 26 "SharedLine$Search" "found" "I") (List.mem_of_getElem? (i := 8) rfl)) (fun _ h9 => h9) rfl (tyX2_ok 1 (by decide)) rfl rfl (Nat.le_of_ble_eq_true rfl) dX2_weigh_41 (fun H locs hP hD hS => ?_)
      have hP : va_P (dC, dI) vwCl (wS h h1 (upd (upd S 2 p2) 0 p1) ++ wL cI h1 hp1 S1) H := hP
      have hD : va_D A (wS h h1 (upd (upd S 2 p2) 0 p1) ++ wL cI h1 hp1 S1) := hD
      subst hσ
      exact vq_vret hx hb hr hlocks hK hP hD hS dX2_weigh_44
  · rw [if_pos c5] at hσ
    refine lv_iload_n hx hb dX2_weigh_8 rfl (lv_at hl 2 rfl) ?_
    refine lv_aload_n hx hb dX2_weigh_9 rfl (lv_at hl 0 rfl) ?_
    refine va_get (D := (dC, dI)) (ci := 2) (v := .ref h1) (C := RX2) (T := TX2) (N := 4) hx hb hts (fun _ h => List.mem_cons_of_mem _ (List.mem_append_left _ (List.mem_append_right _ h))) hown hK hP 0 rfl rfl 0 (by decide) (hts (.fieldLink RX2 12 "SharedLine$Search" "line" "LSharedLine$Line;") (List.mem_of_getElem? (i := 2) rfl)) (fun _ h9 => h9) rfl dX2_weigh_10 ?_
    refine lv_iload_n hx hb dX2_weigh_13 rfl (lv_at hl 1 rfl) ?_
    refine vq_Vi (As := [.int p1]) (rest := [.int p2]) (W2 := (wS h h1 S ++ wL cI h1 hp1 S1)) (f := (sX0_tilt S1 p1)) hx hb hml hown hts hK hP hD hS hA hE hl.1 (cX0_tilt_c l ev dC dI cI cZ cO h1 hp1 S1 p1) gX2_weigh_X0_tilt rfl hdX0_tilt (Nat.le_of_ble_eq_true rfl) (Nat.le_of_ble_eq_true rfl) rfl rfl (ci := 0) (qr := 1) rfl rfl rfl [1, 2] [0] [0, 1, 2] rfl rfl (by decide) (by decide) (by decide) rfl rfl rfl (Nat.le_of_ble_eq_true rfl) dX2_weigh_14 ⟨Nat.zero_le _, Nat.zero_le _⟩ (fun H locs hP hD hS => ?_)
    refine va_mabs (x := (sX0_tilt S1 p1)) hx hb (hml.trans hl.1.symm) hown (hts (.methodLink RX2 69 Lib.Math.abs.name) (List.mem_of_getElem? (i := 3) rfl)) (hts (.static Lib.Math.abs.name) (List.mem_of_getElem? (i := 4) rfl)) (hts (.initialized "java/lang/Math") (List.mem_of_getElem? (i := 5) rfl)) (hts (.code Lib.Math.abs.name Lib.Math.abs.code 1 (some .int)) (List.mem_of_getElem? (i := 6) rfl)) (Nat.le_of_ble_eq_true rfl) (Nat.le_of_ble_eq_true rfl) (Nat.zero_le _) (Nat.zero_le _) dX2_weigh_17 ?_
    refine lv_iadd hx hb dX2_weigh_20 ?_
    refine lv_goto (tgt := 25) hx hb dX2_weigh_21 (by decide) ?_
    refine lv_istore_n (lv' := [(3, .int (p2 + (if 0 ≤ (sX0_tilt S1 p1) then (sX0_tilt S1 p1) else 0 - (sX0_tilt S1 p1)))), (0, .ref h), (1, .int p1), (2, .int p2)]) hx hb dX2_weigh_25 rfl hl (by decide) rfl (fun ls hl => ?_)
    refine lv_iload_n hx hb dX2_weigh_26 rfl (lv_at hl 0 rfl) ?_
    refine lv_aload_n hx hb dX2_weigh_27 rfl (lv_at hl 1 rfl) ?_
    refine va_get (D := (dC, dI)) (ci := 2) (v := .int (S 2)) (C := RX2) (T := TX2) (N := 4) hx hb hts (fun _ h => List.mem_cons_of_mem _ (List.mem_append_left _ (List.mem_append_right _ h))) hown hK hP 0 rfl rfl 3 (by decide) (hts (.fieldLink RX2 30 "SharedLine$Search" "leastCost" "I") (List.mem_of_getElem? (i := 7) rfl)) (fun _ h9 => h9) rfl dX2_weigh_28 ?_
    refine lv_icmp_ge (tgt := 44) hx hb dX2_weigh_31 (by decide) (fun c31 => ?_) (fun c31 => ?_)
    · rw [if_pos c31] at hσ
      subst hσ
      exact vq_vret hx hb hr hlocks hK hP hD hS dX2_weigh_44
    · rw [if_neg c31] at hσ
      refine lv_aload_n hx hb dX2_weigh_34 rfl (lv_at hl 1 rfl) ?_
      refine lv_iload_n hx hb dX2_weigh_35 rfl (lv_at hl 0 rfl) ?_
      refine va_put (D := (dC, dI)) (ci := 2) (v := .int (p2 + (if 0 ≤ (sX0_tilt S1 p1) then (sX0_tilt S1 p1) else 0 - (sX0_tilt S1 p1)))) (ty := .int) (C := RX2) (T := TX2) (N := 4) hx hb hts (fun _ h => List.mem_cons_of_mem _ (List.mem_append_left _ (List.mem_append_right _ h))) tyX2 tyX2_ok nmX2 hown hK hP hD hS 0 rfl rfl 3 (by decide) (hts (.fieldLink RX2 30 "SharedLine$Search" "leastCost" "I") (List.mem_of_getElem? (i := 7) rfl)) (fun _ h9 => h9) rfl (tyX2_ok 3 (by decide)) rfl rfl (Nat.le_of_ble_eq_true rfl) dX2_weigh_36 (fun H locs hP hD hS => ?_)
      have hP : va_P (dC, dI) vwCl (wS h h1 (upd S 2 (p2 + (if 0 ≤ (sX0_tilt S1 p1) then (sX0_tilt S1 p1) else 0 - (sX0_tilt S1 p1)))) ++ wL cI h1 hp1 S1) H := hP
      have hD : va_D A (wS h h1 (upd S 2 (p2 + (if 0 ≤ (sX0_tilt S1 p1) then (sX0_tilt S1 p1) else 0 - (sX0_tilt S1 p1)))) ++ wL cI h1 hp1 S1) := hD
      refine lv_aload_n hx hb dX2_weigh_39 rfl (lv_at hl 1 rfl) ?_
      refine lv_iload_n hx hb dX2_weigh_40 rfl (lv_at hl 2 rfl) ?_
      refine va_put (D := (dC, dI)) (ci := 2) (v := .int p1) (ty := .int) (C := RX2) (T := TX2) (N := 4) hx hb hts (fun _ h => List.mem_cons_of_mem _ (List.mem_append_left _ (List.mem_append_right _ h))) tyX2 tyX2_ok nmX2 hown hK hP hD hS 0 rfl rfl 1 (by decide) (hts (.fieldLink RX2 26 "SharedLine$Search" "found" "I") (List.mem_of_getElem? (i := 8) rfl)) (fun _ h9 => h9) rfl (tyX2_ok 1 (by decide)) rfl rfl (Nat.le_of_ble_eq_true rfl) dX2_weigh_41 (fun H locs hP hD hS => ?_)
      have hP : va_P (dC, dI) vwCl (wS h h1 (upd (upd S 2 (p2 + (if 0 ≤ (sX0_tilt S1 p1) then (sX0_tilt S1 p1) else 0 - (sX0_tilt S1 p1)))) 0 p1) ++ wL cI h1 hp1 S1) H := hP
      have hD : va_D A (wS h h1 (upd (upd S 2 (p2 + (if 0 ≤ (sX0_tilt S1 p1) then (sX0_tilt S1 p1) else 0 - (sX0_tilt S1 p1)))) 0 p1) ++ wL cI h1 hp1 S1) := hD
      subst hσ
      exact vq_vret hx hb hr hlocks hK hP hD hS dX2_weigh_44
theorem hdX2_goOn : yX2_goOn.cls = RX2 ∧ yX2_goOn.cls ≠ "java/lang/invoke/MethodHandle" ∧ yX2_goOn.cls ≠ "java/lang/invoke/VarHandle" ∧ (parseMethodDescriptor yX2_goOn.desc).map (fun d => d.parameters.length) = some 5 := by decide +kernel
set_option maxHeartbeats 4000000 in
set_option maxRecDepth 100000 in
theorem cX2_goOn_c (l : Launch) (ev : Nat → Nat) (dC : Nat → ClassId) (dI : Nat → Nat → Nat) (cI cZ cO : ClassId) : ∀ (d : Nat) (h : Nat) (h1 : Nat) (S : SSt) (hp1 : Nat) (S1 : LSt) (p1 : Int32) (p2 : Int32) (p3 : Int32) (p4 : Int32) (p5 : Int32), (∃ k T : Nat, p1 = nI k ∧ S1.1 0 = nI T ∧ T ≤ 12 ∧ k ≤ T ∧ T < k + d) → MetV l ev (dC, dI) (tyC cI cZ cO) yX2_goOn wsX2_goOn (rmF (4 + d) (100 + 31 * d)) [.ref h, .int p1, .int p2, .int p3, .int p4, .int p5] (wS h h1 S ++ wL cI h1 hp1 S1) (wS h h1 (sX2_goOn d S S1 p1 p2 p3 p4 p5) ++ wL cI h1 hp1 S1) := by
  intro d
  induction d with
  | zero =>
    intro h h1 S hp1 S1 p1 p2 p3 p4 p5 hk
    obtain ⟨k, T, -, -, -, h4, h5⟩ := hk; exact absurd h5 (by omega)
  | succ d ih =>
    intro h h1 S hp1 S1 p1 p2 p3 p4 p5 hk
    refine MetV_of (cc := cX2_goOn) (maxL := 7) (ret := none) (by decide) rfl (Nat.le_of_ble_eq_true rfl) ?_
    intro p e s m below meth c A ls hx hb hr hml hts hown hlocks hin hK hP hD hA hE hl
    have hown : s.vm.findClass RX2 = some m.cls := hown
    have hl : lv_has ls 7 [(0, .ref h), (1, .int p1), (2, .int p2), (3, .int p3), (4, .int p4), (5, .int p5)] := hl
    have hS : va_S A s.heap s.heap [] := va_S.rf
    obtain ⟨σ, hσ⟩ : ∃ σ, (sX2_goOn (d + 1) S S1 p1 p2 p3 p4 p5) = σ := ⟨_, rfl⟩
    rw [hσ]
    rw [sX2_goOn_s] at hσ
    refine lv_iload hx hb dX2_goOn_0 (lv_at hl 5 rfl) ?_
    refine lv_aload_n hx hb dX2_goOn_2 rfl (lv_at hl 0 rfl) ?_
    refine va_get (D := (dC, dI)) (ci := 2) (v := .int (S 2)) (C := RX2) (T := TX2) (N := 4) hx hb hts (fun _ h => List.mem_cons_of_mem _ (List.mem_append_left _ (List.mem_append_right _ h))) hown hK hP 0 rfl rfl 3 (by decide) (hts (.fieldLink RX2 30 "SharedLine$Search" "leastCost" "I") (List.mem_of_getElem? (i := 1) rfl)) (fun _ h9 => h9) rfl dX2_goOn_3 ?_
    refine lv_icmp_lt (tgt := 10) hx hb dX2_goOn_6 (by decide) (fun c6 => ?_) (fun c6 => ?_)
    · rw [if_pos c6] at hσ
      refine lv_iload_n hx hb dX2_goOn_10 rfl (lv_at hl 1 rfl) ?_
      refine lv_aload_n hx hb dX2_goOn_11 rfl (lv_at hl 0 rfl) ?_
      refine va_get (D := (dC, dI)) (ci := 2) (v := .ref h1) (C := RX2) (T := TX2) (N := 4) hx hb hts (fun _ h => List.mem_cons_of_mem _ (List.mem_append_left _ (List.mem_append_right _ h))) hown hK hP 0 rfl rfl 0 (by decide) (hts (.fieldLink RX2 12 "SharedLine$Search" "line" "LSharedLine$Line;") (List.mem_of_getElem? (i := 2) rfl)) (fun _ h9 => h9) rfl dX2_goOn_12 ?_
      refine va_get (D := (dC, dI)) (ci := 0) (v := .int (S1.1 0)) (C := RX0) (T := TX0) (N := 7) hx hb hts (fun _ h => List.mem_cons_of_mem _ (List.mem_append_right _ h)) hown hK hP 1 rfl rfl 1 (by decide) (hts (.fieldLink RX2 37 "SharedLine$Line" "ticks" "I") (List.mem_of_getElem? (i := 3) rfl)) (fun _ h9 => h9) rfl dX2_goOn_15 ?_
      refine lv_icmp_lt (tgt := 29) hx hb dX2_goOn_18 (by decide) (fun c18 => ?_) (fun c18 => ?_)
      · rw [if_pos c18] at hσ
        refine lv_aload_n hx hb dX2_goOn_29 rfl (lv_at hl 0 rfl) ?_
        refine va_get (D := (dC, dI)) (ci := 2) (v := .ref h1) (C := RX2) (T := TX2) (N := 4) hx hb hts (fun _ h => List.mem_cons_of_mem _ (List.mem_append_left _ (List.mem_append_right _ h))) hown hK hP 0 rfl rfl 0 (by decide) (hts (.fieldLink RX2 12 "SharedLine$Search" "line" "LSharedLine$Line;") (List.mem_of_getElem? (i := 2) rfl)) (fun _ h9 => h9) rfl dX2_goOn_30 ?_
        refine lv_iload_n hx hb dX2_goOn_33 rfl (lv_at hl 1 rfl) ?_
        refine vq_Vi (As := [.int p1]) (rest := []) (W2 := (wS h h1 S ++ wL cI h1 hp1 S1)) (f := (bI (sX0_hasNote S1 p1))) hx hb hml hown hts hK hP hD hS hA hE hl.1 (cX0_hasNote_c l ev dC dI cI cZ cO h1 hp1 S1 p1) gX2_goOn_X0_hasNote rfl hdX0_hasNote (by show 0 + 1 ≤ (4 + (d + 1)); omega) (by show 8 + (2 + 11) + 0 ≤ (100 + 31 * (d + 1)); omega) rfl rfl (ci := 0) (qr := 1) rfl rfl rfl [1, 2] [0] [0, 1, 2] rfl rfl (by decide) (by decide) (by decide) rfl rfl rfl (Nat.le_of_ble_eq_true rfl) dX2_goOn_34 ⟨Nat.zero_le _, Nat.zero_le _⟩ (fun H locs hP hD hS => ?_)
        refine lv_if_neB (tgt := 54) hx hb dX2_goOn_37 (by decide) (fun c37 => ?_) (fun c37 => ?_)
        · rw [if_pos c37] at hσ
          refine lv_aload_n hx hb dX2_goOn_54 rfl (lv_at hl 0 rfl) ?_
          refine va_get (D := (dC, dI)) (ci := 2) (v := .ref h1) (C := RX2) (T := TX2) (N := 4) hx hb hts (fun _ h => List.mem_cons_of_mem _ (List.mem_append_left _ (List.mem_append_right _ h))) hown hK hP 0 rfl rfl 0 (by decide) (hts (.fieldLink RX2 12 "SharedLine$Search" "line" "LSharedLine$Line;") (List.mem_of_getElem? (i := 2) rfl)) (fun _ h9 => h9) rfl dX2_goOn_55 ?_
          refine lv_iload_n hx hb dX2_goOn_58 rfl (lv_at hl 3 rfl) ?_
          refine lv_iload_n hx hb dX2_goOn_59 rfl (lv_at hl 1 rfl) ?_
          refine vq_Vi (As := [.int p3, .int p1]) (rest := []) (W2 := (wS h h1 S ++ wL cI h1 hp1 S1)) (f := (bI (sX0_mayStrike S1 p3 p1))) hx hb hml hown hts hK hP hD hS hA hE hl.1 (cX0_mayStrike_c l ev dC dI cI cZ cO h1 hp1 S1 p3 p1) gX2_goOn_X0_mayStrike rfl hdX0_mayStrike (by show 2 + 1 ≤ (4 + (d + 1)); omega) (by show 8 + (3 + 11) + 43 ≤ (100 + 31 * (d + 1)); omega) rfl rfl (ci := 0) (qr := 1) rfl rfl rfl [1, 2] [0] [0, 1, 2] rfl rfl (by decide) (by decide) (by decide) rfl rfl rfl (Nat.le_of_ble_eq_true rfl) dX2_goOn_60 ⟨Nat.zero_le _, Nat.zero_le _⟩ (fun H locs hP hD hS => ?_)
          refine lv_if_eqB (tgt := 86) hx hb dX2_goOn_63 (by decide) (fun c63 => ?_) (fun c63 => ?_)
          · rw [if_neg (Bool.eq_false_iff.mp c63)] at hσ
            refine lv_aload_n hx hb dX2_goOn_86 rfl (lv_at hl 0 rfl) ?_
            refine va_get (D := (dC, dI)) (ci := 2) (v := .ref h1) (C := RX2) (T := TX2) (N := 4) hx hb hts (fun _ h => List.mem_cons_of_mem _ (List.mem_append_left _ (List.mem_append_right _ h))) hown hK hP 0 rfl rfl 0 (by decide) (hts (.fieldLink RX2 12 "SharedLine$Search" "line" "LSharedLine$Line;") (List.mem_of_getElem? (i := 2) rfl)) (fun _ h9 => h9) rfl dX2_goOn_87 ?_
            refine lv_iload hx hb dX2_goOn_90 (lv_at hl 4 rfl) ?_
            refine lv_iload_n hx hb dX2_goOn_92 rfl (lv_at hl 1 rfl) ?_
            refine vq_Vi (As := [.int p4, .int p1]) (rest := []) (W2 := (wS h h1 S ++ wL cI h1 hp1 S1)) (f := (bI (sX0_mayStrike S1 p4 p1))) hx hb hml hown hts hK hP hD hS hA hE hl.1 (cX0_mayStrike_c l ev dC dI cI cZ cO h1 hp1 S1 p4 p1) gX2_goOn_X0_mayStrike rfl hdX0_mayStrike (by show 2 + 1 ≤ (4 + (d + 1)); omega) (by show 8 + (3 + 11) + 43 ≤ (100 + 31 * (d + 1)); omega) rfl rfl (ci := 0) (qr := 1) rfl rfl rfl [1, 2] [0] [0, 1, 2] rfl rfl (by decide) (by decide) (by decide) rfl rfl rfl (Nat.le_of_ble_eq_true rfl) dX2_goOn_93 ⟨Nat.zero_le _, Nat.zero_le _⟩ (fun H locs hP hD hS => ?_)
            refine lv_if_eqB (tgt := 127) hx hb dX2_goOn_96 (by decide) (fun c96 => ?_) (fun c96 => ?_)
            · rw [if_neg (Bool.eq_false_iff.mp c96)] at hσ
              subst hσ
              exact vq_vret hx hb hr hlocks hK hP hD hS dX2_goOn_127
            · rw [if_pos c96] at hσ
              refine lv_iload_n hx hb dX2_goOn_99 rfl (lv_at hl 2 rfl) ?_
              refine lv_iconst (v := 1) hx hb dX2_goOn_100 (by decide) ?_
              refine lv_iload_n hx hb dX2_goOn_101 rfl (lv_at hl 1 rfl) ?_
              refine lv_ishl hx hb dX2_goOn_102 ?_
              refine lv_ior hx hb dX2_goOn_103 ?_
              refine lv_istore (lv' := [(6, .int (p2 ||| ((1 : Int32) <<< (p1 &&& 31)))), (0, .ref h), (1, .int p1), (2, .int p2), (3, .int p3), (4, .int p4), (5, .int p5)]) hx hb dX2_goOn_104 hl (by decide) rfl (fun ls hl => ?_)
              refine lv_aload_n hx hb dX2_goOn_106 rfl (lv_at hl 1 rfl) ?_
              refine lv_iload_n hx hb dX2_goOn_107 rfl (lv_at hl 2 rfl) ?_
              refine lv_iconst (v := 1) hx hb dX2_goOn_108 (by decide) ?_
              refine lv_iadd hx hb dX2_goOn_109 ?_
              refine lv_iload hx hb dX2_goOn_110 (lv_at hl 0 rfl) ?_
              refine lv_iload_n hx hb dX2_goOn_112 rfl (lv_at hl 4 rfl) ?_
              refine lv_iload_n hx hb dX2_goOn_113 rfl (lv_at hl 2 rfl) ?_
              refine lv_iload hx hb dX2_goOn_114 (lv_at hl 6 rfl) ?_
              refine lv_aload_n hx hb dX2_goOn_116 rfl (lv_at hl 1 rfl) ?_
              refine lv_iload_n hx hb dX2_goOn_117 rfl (lv_at hl 2 rfl) ?_
              refine lv_iload hx hb dX2_goOn_118 (lv_at hl 0 rfl) ?_
              refine vq_Vi (As := [.int p1, .int (p2 ||| ((1 : Int32) <<< (p1 &&& 31)))]) (rest := [.int p5, .int p1, .int p3, .int (p2 ||| ((1 : Int32) <<< (p1 &&& 31))), .int (p1 + 1), .ref h]) (W2 := (wS h h1 S ++ wL cI h1 hp1 S1)) (f := (sX2_costAt S S1 p1 (p2 ||| ((1 : Int32) <<< (p1 &&& 31))))) hx hb hml hown hts hK hP hD hS hA hE hl.1 (cX2_costAt_c l ev dC dI cI cZ cO h h1 S hp1 S1 p1 (p2 ||| ((1 : Int32) <<< (p1 &&& 31)))) gX2_goOn_X2_costAt rfl hdX2_costAt (by show 2 + 1 ≤ (4 + (d + 1)); omega) (by show 8 + (3 + 11) + 44 ≤ (100 + 31 * (d + 1)); omega) rfl rfl (ci := 2) (qr := 0) rfl rfl rfl [0, 1, 2] [] [0, 1, 2] rfl rfl (by decide) (by decide) (by decide) rfl rfl rfl (Nat.le_of_ble_eq_true rfl) dX2_goOn_120 ⟨Nat.zero_le _, Nat.zero_le _⟩ (fun H locs hP hD hS => ?_)
              refine lv_iadd hx hb dX2_goOn_123 ?_
              refine vq_Vv (As := [.int (p1 + 1), .int (p2 ||| ((1 : Int32) <<< (p1 &&& 31))), .int p3, .int p1, .int (p5 + (sX2_costAt S S1 p1 (p2 ||| ((1 : Int32) <<< (p1 &&& 31)))))]) (rest := []) (W2 := (wS h h1 (sX2_goOn d S S1 (p1 + 1) (p2 ||| ((1 : Int32) <<< (p1 &&& 31))) p3 p1 (p5 + (sX2_costAt S S1 p1 (p2 ||| ((1 : Int32) <<< (p1 &&& 31)))))) ++ wL cI h1 hp1 S1)) hx hb hml hown hts hK hP hD hS hA hE hl.1 (ih h h1 S hp1 S1 (p1 + 1) (p2 ||| ((1 : Int32) <<< (p1 &&& 31))) p3 p1 (p5 + (sX2_costAt S S1 p1 (p2 ||| ((1 : Int32) <<< (p1 &&& 31))))) (go_k hk c18)) gX2_goOn_X2_goOn rfl hdX2_goOn (by show (4 + d) + 1 ≤ (4 + (d + 1)); omega) (by show 8 + (7 + 11) + (100 + 31 * d) ≤ (100 + 31 * (d + 1)); omega) rfl rfl (ci := 2) (qr := 0) rfl rfl rfl [0, 1, 2] [] [0, 1, 2] rfl rfl (by decide) (by decide) (by decide) rfl rfl rfl (Nat.le_of_ble_eq_true rfl) dX2_goOn_124 ⟨Nat.zero_le _, Nat.zero_le _⟩ (fun H locs hP hD hS => ?_)
              subst hσ
              exact vq_vret hx hb hr hlocks hK hP hD hS dX2_goOn_127
          · rw [if_pos c63] at hσ
            refine lv_aload_n hx hb dX2_goOn_66 rfl (lv_at hl 0 rfl) ?_
            refine lv_iload_n hx hb dX2_goOn_67 rfl (lv_at hl 1 rfl) ?_
            refine lv_iconst (v := 1) hx hb dX2_goOn_68 (by decide) ?_
            refine lv_iadd hx hb dX2_goOn_69 ?_
            refine lv_iload_n hx hb dX2_goOn_70 rfl (lv_at hl 2 rfl) ?_
            refine lv_iload_n hx hb dX2_goOn_71 rfl (lv_at hl 1 rfl) ?_
            refine lv_iload hx hb dX2_goOn_72 (lv_at hl 4 rfl) ?_
            refine lv_iload hx hb dX2_goOn_74 (lv_at hl 5 rfl) ?_
            refine lv_aload_n hx hb dX2_goOn_76 rfl (lv_at hl 0 rfl) ?_
            refine lv_iload_n hx hb dX2_goOn_77 rfl (lv_at hl 1 rfl) ?_
            refine lv_iload_n hx hb dX2_goOn_78 rfl (lv_at hl 2 rfl) ?_
            refine vq_Vi (As := [.int p1, .int p2]) (rest := [.int p5, .int p4, .int p1, .int p2, .int (p1 + 1), .ref h]) (W2 := (wS h h1 S ++ wL cI h1 hp1 S1)) (f := (sX2_costAt S S1 p1 p2)) hx hb hml hown hts hK hP hD hS hA hE hl.1 (cX2_costAt_c l ev dC dI cI cZ cO h h1 S hp1 S1 p1 p2) gX2_goOn_X2_costAt rfl hdX2_costAt (by show 2 + 1 ≤ (4 + (d + 1)); omega) (by show 8 + (3 + 11) + 44 ≤ (100 + 31 * (d + 1)); omega) rfl rfl (ci := 2) (qr := 0) rfl rfl rfl [0, 1, 2] [] [0, 1, 2] rfl rfl (by decide) (by decide) (by decide) rfl rfl rfl (Nat.le_of_ble_eq_true rfl) dX2_goOn_79 ⟨Nat.zero_le _, Nat.zero_le _⟩ (fun H locs hP hD hS => ?_)
            refine lv_iadd hx hb dX2_goOn_82 ?_
            refine vq_Vv (As := [.int (p1 + 1), .int p2, .int p1, .int p4, .int (p5 + (sX2_costAt S S1 p1 p2))]) (rest := []) (W2 := (wS h h1 (sX2_goOn d S S1 (p1 + 1) p2 p1 p4 (p5 + (sX2_costAt S S1 p1 p2))) ++ wL cI h1 hp1 S1)) hx hb hml hown hts hK hP hD hS hA hE hl.1 (ih h h1 S hp1 S1 (p1 + 1) p2 p1 p4 (p5 + (sX2_costAt S S1 p1 p2)) (go_k hk c18)) gX2_goOn_X2_goOn rfl hdX2_goOn (by show (4 + d) + 1 ≤ (4 + (d + 1)); omega) (by show 8 + (7 + 11) + (100 + 31 * d) ≤ (100 + 31 * (d + 1)); omega) rfl rfl (ci := 2) (qr := 0) rfl rfl rfl [0, 1, 2] [] [0, 1, 2] rfl rfl (by decide) (by decide) (by decide) rfl rfl rfl (Nat.le_of_ble_eq_true rfl) dX2_goOn_83 ⟨Nat.zero_le _, Nat.zero_le _⟩ (fun H locs hP hD hS => ?_)
            refine lv_aload_n hx hb dX2_goOn_86 rfl (lv_at hl 0 rfl) ?_
            refine va_get (D := (dC, dI)) (ci := 2) (v := .ref h1) (C := RX2) (T := TX2) (N := 4) hx hb hts (fun _ h => List.mem_cons_of_mem _ (List.mem_append_left _ (List.mem_append_right _ h))) hown hK hP 0 rfl rfl 0 (by decide) (hts (.fieldLink RX2 12 "SharedLine$Search" "line" "LSharedLine$Line;") (List.mem_of_getElem? (i := 2) rfl)) (fun _ h9 => h9) rfl dX2_goOn_87 ?_
            refine lv_iload hx hb dX2_goOn_90 (lv_at hl 4 rfl) ?_
            refine lv_iload_n hx hb dX2_goOn_92 rfl (lv_at hl 1 rfl) ?_
            refine vq_Vi (As := [.int p4, .int p1]) (rest := []) (W2 := (wS h h1 (sX2_goOn d S S1 (p1 + 1) p2 p1 p4 (p5 + (sX2_costAt S S1 p1 p2))) ++ wL cI h1 hp1 S1)) (f := (bI (sX0_mayStrike S1 p4 p1))) hx hb hml hown hts hK hP hD hS hA hE hl.1 (cX0_mayStrike_c l ev dC dI cI cZ cO h1 hp1 S1 p4 p1) gX2_goOn_X0_mayStrike rfl hdX0_mayStrike (by show 2 + 1 ≤ (4 + (d + 1)); omega) (by show 8 + (3 + 11) + 43 ≤ (100 + 31 * (d + 1)); omega) rfl rfl (ci := 0) (qr := 1) rfl rfl rfl [1, 2] [0] [0, 1, 2] rfl rfl (by decide) (by decide) (by decide) rfl rfl rfl (Nat.le_of_ble_eq_true rfl) dX2_goOn_93 ⟨Nat.zero_le _, Nat.zero_le _⟩ (fun H locs hP hD hS => ?_)
            refine lv_if_eqB (tgt := 127) hx hb dX2_goOn_96 (by decide) (fun c96 => ?_) (fun c96 => ?_)
            · rw [if_neg (Bool.eq_false_iff.mp c96)] at hσ
              subst hσ
              exact vq_vret hx hb hr hlocks hK hP hD hS dX2_goOn_127
            · rw [if_pos c96] at hσ
              refine lv_iload_n hx hb dX2_goOn_99 rfl (lv_at hl 2 rfl) ?_
              refine lv_iconst (v := 1) hx hb dX2_goOn_100 (by decide) ?_
              refine lv_iload_n hx hb dX2_goOn_101 rfl (lv_at hl 1 rfl) ?_
              refine lv_ishl hx hb dX2_goOn_102 ?_
              refine lv_ior hx hb dX2_goOn_103 ?_
              refine lv_istore (lv' := [(6, .int (p2 ||| ((1 : Int32) <<< (p1 &&& 31)))), (0, .ref h), (1, .int p1), (2, .int p2), (3, .int p3), (4, .int p4), (5, .int p5)]) hx hb dX2_goOn_104 hl (by decide) rfl (fun ls hl => ?_)
              refine lv_aload_n hx hb dX2_goOn_106 rfl (lv_at hl 1 rfl) ?_
              refine lv_iload_n hx hb dX2_goOn_107 rfl (lv_at hl 2 rfl) ?_
              refine lv_iconst (v := 1) hx hb dX2_goOn_108 (by decide) ?_
              refine lv_iadd hx hb dX2_goOn_109 ?_
              refine lv_iload hx hb dX2_goOn_110 (lv_at hl 0 rfl) ?_
              refine lv_iload_n hx hb dX2_goOn_112 rfl (lv_at hl 4 rfl) ?_
              refine lv_iload_n hx hb dX2_goOn_113 rfl (lv_at hl 2 rfl) ?_
              refine lv_iload hx hb dX2_goOn_114 (lv_at hl 6 rfl) ?_
              refine lv_aload_n hx hb dX2_goOn_116 rfl (lv_at hl 1 rfl) ?_
              refine lv_iload_n hx hb dX2_goOn_117 rfl (lv_at hl 2 rfl) ?_
              refine lv_iload hx hb dX2_goOn_118 (lv_at hl 0 rfl) ?_
              refine vq_Vi (As := [.int p1, .int (p2 ||| ((1 : Int32) <<< (p1 &&& 31)))]) (rest := [.int p5, .int p1, .int p3, .int (p2 ||| ((1 : Int32) <<< (p1 &&& 31))), .int (p1 + 1), .ref h]) (W2 := (wS h h1 (sX2_goOn d S S1 (p1 + 1) p2 p1 p4 (p5 + (sX2_costAt S S1 p1 p2))) ++ wL cI h1 hp1 S1)) (f := (sX2_costAt (sX2_goOn d S S1 (p1 + 1) p2 p1 p4 (p5 + (sX2_costAt S S1 p1 p2))) S1 p1 (p2 ||| ((1 : Int32) <<< (p1 &&& 31))))) hx hb hml hown hts hK hP hD hS hA hE hl.1 (cX2_costAt_c l ev dC dI cI cZ cO h h1 (sX2_goOn d S S1 (p1 + 1) p2 p1 p4 (p5 + (sX2_costAt S S1 p1 p2))) hp1 S1 p1 (p2 ||| ((1 : Int32) <<< (p1 &&& 31)))) gX2_goOn_X2_costAt rfl hdX2_costAt (by show 2 + 1 ≤ (4 + (d + 1)); omega) (by show 8 + (3 + 11) + 44 ≤ (100 + 31 * (d + 1)); omega) rfl rfl (ci := 2) (qr := 0) rfl rfl rfl [0, 1, 2] [] [0, 1, 2] rfl rfl (by decide) (by decide) (by decide) rfl rfl rfl (Nat.le_of_ble_eq_true rfl) dX2_goOn_120 ⟨Nat.zero_le _, Nat.zero_le _⟩ (fun H locs hP hD hS => ?_)
              refine lv_iadd hx hb dX2_goOn_123 ?_
              refine vq_Vv (As := [.int (p1 + 1), .int (p2 ||| ((1 : Int32) <<< (p1 &&& 31))), .int p3, .int p1, .int (p5 + (sX2_costAt (sX2_goOn d S S1 (p1 + 1) p2 p1 p4 (p5 + (sX2_costAt S S1 p1 p2))) S1 p1 (p2 ||| ((1 : Int32) <<< (p1 &&& 31)))))]) (rest := []) (W2 := (wS h h1 (sX2_goOn d (sX2_goOn d S S1 (p1 + 1) p2 p1 p4 (p5 + (sX2_costAt S S1 p1 p2))) S1 (p1 + 1) (p2 ||| ((1 : Int32) <<< (p1 &&& 31))) p3 p1 (p5 + (sX2_costAt (sX2_goOn d S S1 (p1 + 1) p2 p1 p4 (p5 + (sX2_costAt S S1 p1 p2))) S1 p1 (p2 ||| ((1 : Int32) <<< (p1 &&& 31)))))) ++ wL cI h1 hp1 S1)) hx hb hml hown hts hK hP hD hS hA hE hl.1 (ih h h1 (sX2_goOn d S S1 (p1 + 1) p2 p1 p4 (p5 + (sX2_costAt S S1 p1 p2))) hp1 S1 (p1 + 1) (p2 ||| ((1 : Int32) <<< (p1 &&& 31))) p3 p1 (p5 + (sX2_costAt (sX2_goOn d S S1 (p1 + 1) p2 p1 p4 (p5 + (sX2_costAt S S1 p1 p2))) S1 p1 (p2 ||| ((1 : Int32) <<< (p1 &&& 31))))) (go_k hk c18)) gX2_goOn_X2_goOn rfl hdX2_goOn (by show (4 + d) + 1 ≤ (4 + (d + 1)); omega) (by show 8 + (7 + 11) + (100 + 31 * d) ≤ (100 + 31 * (d + 1)); omega) rfl rfl (ci := 2) (qr := 0) rfl rfl rfl [0, 1, 2] [] [0, 1, 2] rfl rfl (by decide) (by decide) (by decide) rfl rfl rfl (Nat.le_of_ble_eq_true rfl) dX2_goOn_124 ⟨Nat.zero_le _, Nat.zero_le _⟩ (fun H locs hP hD hS => ?_)
              subst hσ
              exact vq_vret hx hb hr hlocks hK hP hD hS dX2_goOn_127
        · rw [if_neg (Bool.eq_false_iff.mp c37)] at hσ
          refine lv_aload_n hx hb dX2_goOn_40 rfl (lv_at hl 0 rfl) ?_
          refine lv_iload_n hx hb dX2_goOn_41 rfl (lv_at hl 1 rfl) ?_
          refine lv_iconst (v := 1) hx hb dX2_goOn_42 (by decide) ?_
          refine lv_iadd hx hb dX2_goOn_43 ?_
          refine lv_iload_n hx hb dX2_goOn_44 rfl (lv_at hl 2 rfl) ?_
          refine lv_iload_n hx hb dX2_goOn_45 rfl (lv_at hl 3 rfl) ?_
          refine lv_iload hx hb dX2_goOn_46 (lv_at hl 4 rfl) ?_
          refine lv_iload hx hb dX2_goOn_48 (lv_at hl 5 rfl) ?_
          refine vq_Vv (As := [.int (p1 + 1), .int p2, .int p3, .int p4, .int p5]) (rest := []) (W2 := (wS h h1 (sX2_goOn d S S1 (p1 + 1) p2 p3 p4 p5) ++ wL cI h1 hp1 S1)) hx hb hml hown hts hK hP hD hS hA hE hl.1 (ih h h1 S hp1 S1 (p1 + 1) p2 p3 p4 p5 (go_k hk c18)) gX2_goOn_X2_goOn rfl hdX2_goOn (by show (4 + d) + 1 ≤ (4 + (d + 1)); omega) (by show 8 + (7 + 11) + (100 + 31 * d) ≤ (100 + 31 * (d + 1)); omega) rfl rfl (ci := 2) (qr := 0) rfl rfl rfl [0, 1, 2] [] [0, 1, 2] rfl rfl (by decide) (by decide) (by decide) rfl rfl rfl (Nat.le_of_ble_eq_true rfl) dX2_goOn_50 ⟨Nat.zero_le _, Nat.zero_le _⟩ (fun H locs hP hD hS => ?_)
          subst hσ
          exact vq_vret hx hb hr hlocks hK hP hD hS dX2_goOn_53
      · rw [if_neg c18] at hσ
        refine lv_aload_n hx hb dX2_goOn_21 rfl (lv_at hl 0 rfl) ?_
        refine lv_iload_n hx hb dX2_goOn_22 rfl (lv_at hl 2 rfl) ?_
        refine lv_iload hx hb dX2_goOn_23 (lv_at hl 5 rfl) ?_
        refine vq_Vv (As := [.int p2, .int p5]) (rest := []) (W2 := (wS h h1 (sX2_weigh S S1 p2 p5) ++ wL cI h1 hp1 S1)) hx hb hml hown hts hK hP hD hS hA hE hl.1 (cX2_weigh_c l ev dC dI cI cZ cO h h1 S hp1 S1 p2 p5) gX2_goOn_X2_weigh rfl hdX2_weigh (by show 2 + 1 ≤ (4 + (d + 1)); omega) (by show 8 + (4 + 11) + 41 ≤ (100 + 31 * (d + 1)); omega) rfl rfl (ci := 2) (qr := 0) rfl rfl rfl [0, 1, 2] [] [0, 1, 2] rfl rfl (by decide) (by decide) (by decide) rfl rfl rfl (Nat.le_of_ble_eq_true rfl) dX2_goOn_25 ⟨Nat.zero_le _, Nat.zero_le _⟩ (fun H locs hP hD hS => ?_)
        subst hσ
        exact vq_vret hx hb hr hlocks hK hP hD hS dX2_goOn_28
    · rw [if_neg c6] at hσ
      subst hσ
      exact vq_vret hx hb hr hlocks hK hP hD hS dX2_goOn_9
theorem hdX2_find : yX2_find.cls = RX2 ∧ yX2_find.cls ≠ "java/lang/invoke/MethodHandle" ∧ yX2_find.cls ≠ "java/lang/invoke/VarHandle" ∧ (parseMethodDescriptor yX2_find.desc).map (fun d => d.parameters.length) = some 1 := by decide +kernel
set_option maxHeartbeats 4000000 in
set_option maxRecDepth 100000 in
theorem cX2_find_c (l : Launch) (ev : Nat → Nat) (dC : Nat → ClassId) (dI : Nat → Nat → Nat) (cI cZ cO : ClassId) (h : Nat) (h1 : Nat) (S : SSt) (hp1 : Nat) (S1 : LSt) (p1 : Int32) (hT : XOK S1) : MetI l ev (dC, dI) (tyC cI cZ cO) yX2_find wsX2_find (rmF 19 560) [.ref h, .int p1] (wS h h1 S ++ wL cI h1 hp1 S1) (bI (sX2_find S S1 p1).1) (wS h h1 (sX2_find S S1 p1).2 ++ wL cI h1 hp1 S1) := by
  refine MetI_of (cc := cX2_find) (maxL := 2) (ret := (some .boolean)) (by decide) rfl (Nat.le_of_ble_eq_true rfl) ?_
  intro p e s m below meth c A ls hx hb hr hml hts hown hlocks hin hK hP hD hA hE hl
  have hown : s.vm.findClass RX2 = some m.cls := hown
  have hl : lv_has ls 2 [(0, .ref h), (1, .int p1)] := hl
  have hS : va_S A s.heap s.heap [] := va_S.rf
  obtain ⟨σ, hσ⟩ : ∃ σ, (sX2_find S S1 p1) = σ := ⟨_, rfl⟩
  rw [hσ]
  rw [sX2_find] at hσ
  refine lv_aload_n hx hb dX2_find_0 rfl (lv_at hl 0 rfl) ?_
  refine lv_iload_n hx hb dX2_find_1 rfl (lv_at hl 1 rfl) ?_
  refine va_put (D := (dC, dI)) (ci := 2) (v := .int p1) (ty := .int) (C := RX2) (T := TX2) (N := 4) hx hb hts (fun _ h => List.mem_cons_of_mem _ (List.mem_append_left _ (List.mem_append_right _ h))) tyX2 tyX2_ok nmX2 hown hK hP hD hS 0 rfl rfl 2 (by decide) (hts (.fieldLink RX2 22 "SharedLine$Search" "goal" "I") (List.mem_of_getElem? (i := 1) rfl)) (fun _ h9 => h9) rfl (tyX2_ok 2 (by decide)) rfl rfl (Nat.le_of_ble_eq_true rfl) dX2_find_2 (fun H locs hP hD hS => ?_)
  have hP : va_P (dC, dI) vwCl (wS h h1 (upd S 1 p1) ++ wL cI h1 hp1 S1) H := hP
  have hD : va_D A (wS h h1 (upd S 1 p1) ++ wL cI h1 hp1 S1) := hD
  refine lv_aload_n hx hb dX2_find_5 rfl (lv_at hl 0 rfl) ?_
  refine lv_iconst (v := 0) hx hb dX2_find_6 (by decide) ?_
  refine va_put (D := (dC, dI)) (ci := 2) (v := .int 0) (ty := .int) (C := RX2) (T := TX2) (N := 4) hx hb hts (fun _ h => List.mem_cons_of_mem _ (List.mem_append_left _ (List.mem_append_right _ h))) tyX2 tyX2_ok nmX2 hown hK hP hD hS 0 rfl rfl 1 (by decide) (hts (.fieldLink RX2 26 "SharedLine$Search" "found" "I") (List.mem_of_getElem? (i := 2) rfl)) (fun _ h9 => h9) rfl (tyX2_ok 1 (by decide)) rfl rfl (Nat.le_of_ble_eq_true rfl) dX2_find_7 (fun H locs hP hD hS => ?_)
  have hP : va_P (dC, dI) vwCl (wS h h1 (upd (upd S 1 p1) 0 0) ++ wL cI h1 hp1 S1) H := hP
  have hD : va_D A (wS h h1 (upd (upd S 1 p1) 0 0) ++ wL cI h1 hp1 S1) := hD
  refine lv_aload_n hx hb dX2_find_10 rfl (lv_at hl 0 rfl) ?_
  refine lv_ldc (v := 1000000) hx hb hown (hts (.constant RX2 29 (1000000)) (List.mem_of_getElem? (i := 3) rfl)) dX2_find_11 ?_
  refine va_put (D := (dC, dI)) (ci := 2) (v := .int 1000000) (ty := .int) (C := RX2) (T := TX2) (N := 4) hx hb hts (fun _ h => List.mem_cons_of_mem _ (List.mem_append_left _ (List.mem_append_right _ h))) tyX2 tyX2_ok nmX2 hown hK hP hD hS 0 rfl rfl 3 (by decide) (hts (.fieldLink RX2 30 "SharedLine$Search" "leastCost" "I") (List.mem_of_getElem? (i := 4) rfl)) (fun _ h9 => h9) rfl (tyX2_ok 3 (by decide)) rfl rfl (Nat.le_of_ble_eq_true rfl) dX2_find_13 (fun H locs hP hD hS => ?_)
  have hP : va_P (dC, dI) vwCl (wS h h1 (upd (upd (upd S 1 p1) 0 0) 2 1000000) ++ wL cI h1 hp1 S1) H := hP
  have hD : va_D A (wS h h1 (upd (upd (upd S 1 p1) 0 0) 2 1000000) ++ wL cI h1 hp1 S1) := hD
  refine lv_aload_n hx hb dX2_find_16 rfl (lv_at hl 0 rfl) ?_
  refine lv_iconst (v := 0) hx hb dX2_find_17 (by decide) ?_
  refine lv_iconst (v := 0) hx hb dX2_find_18 (by decide) ?_
  refine lv_bipush (v := (-9)) hx hb dX2_find_19 (by decide) ?_
  refine lv_bipush (v := (-9)) hx hb dX2_find_21 (by decide) ?_
  refine lv_iconst (v := 0) hx hb dX2_find_23 (by decide) ?_
  refine vq_Vv (As := [.int 0, .int 0, .int (-9), .int (-9), .int 0]) (rest := []) (W2 := (wS h h1 (sX2_goOn 14 (upd (upd (upd S 1 p1) 0 0) 2 1000000) S1 (0 : Int32) (0 : Int32) ((-9) : Int32) ((-9) : Int32) (0 : Int32)) ++ wL cI h1 hp1 S1)) hx hb hml hown hts hK hP hD hS hA hE hl.1 (cX2_goOn_c l ev dC dI cI cZ cO 14 h h1 (upd (upd (upd S 1 p1) 0 0) 2 1000000) hp1 S1 (0 : Int32) (0 : Int32) ((-9) : Int32) ((-9) : Int32) (0 : Int32) (go_0 hT)) gX2_find_X2_goOn rfl hdX2_goOn (Nat.le_of_ble_eq_true rfl) (Nat.le_of_ble_eq_true rfl) rfl rfl (ci := 2) (qr := 0) rfl rfl rfl [0, 1, 2] [] [0, 1, 2] rfl rfl (by decide) (by decide) (by decide) rfl rfl rfl (Nat.le_of_ble_eq_true rfl) dX2_find_24 ⟨Nat.zero_le _, Nat.zero_le _⟩ (fun H locs hP hD hS => ?_)
  refine lv_aload_n hx hb dX2_find_27 rfl (lv_at hl 0 rfl) ?_
  refine va_get (D := (dC, dI)) (ci := 2) (v := .int ((sX2_goOn 14 (upd (upd (upd S 1 p1) 0 0) 2 1000000) S1 (0 : Int32) (0 : Int32) ((-9) : Int32) ((-9) : Int32) (0 : Int32)) 2)) (C := RX2) (T := TX2) (N := 4) hx hb hts (fun _ h => List.mem_cons_of_mem _ (List.mem_append_left _ (List.mem_append_right _ h))) hown hK hP 0 rfl rfl 3 (by decide) (hts (.fieldLink RX2 30 "SharedLine$Search" "leastCost" "I") (List.mem_of_getElem? (i := 4) rfl)) (fun _ h9 => h9) rfl dX2_find_28 ?_
  refine lv_ldc (v := 1000000) hx hb hown (hts (.constant RX2 29 (1000000)) (List.mem_of_getElem? (i := 3) rfl)) dX2_find_31 ?_
  refine lv_icmp_ge (tgt := 40) hx hb dX2_find_33 (by decide) (fun c33 => ?_) (fun c33 => ?_)
  · rw [if_pos c33] at hσ
    refine lv_iconst (v := 0) hx hb dX2_find_40 (by decide) ?_
    subst hσ
    exact vq_zret hx hb hr hlocks hK hP hD hS rfl rfl dX2_find_41
  · rw [if_neg c33] at hσ
    refine lv_iconst (v := 1) hx hb dX2_find_36 (by decide) ?_
    refine lv_goto (tgt := 41) hx hb dX2_find_37 (by decide) ?_
    subst hσ
    exact vq_zret hx hb hr hlocks hK hP hD hS rfl rfl dX2_find_41
theorem hdX3_include : yX3_include.cls = RX3 ∧ yX3_include.cls ≠ "java/lang/invoke/MethodHandle" ∧ yX3_include.cls ≠ "java/lang/invoke/VarHandle" ∧ (parseMethodDescriptor yX3_include.desc).map (fun d => d.parameters.length) = some 2 := by decide +kernel
set_option maxHeartbeats 4000000 in
set_option maxRecDepth 100000 in
theorem cX3_include_c (l : Launch) (ev : Nat → Nat) (dC : Nat → ClassId) (dI : Nat → Nat → Nat) (cI cZ cO : ClassId) (h : Nat) (hp : Nat) (S : LSt) (p1 : Int32) (p2 : Int32) : MetV l ev (dC, dI) (tyC cI cZ cO) yX3_include wsX3_include (rmF 0 0) [.ref h, .int p1, .int p2] (wT cI h hp S) (wT cI h hp (sX3_include S p1 p2)) := by
  refine MetV_of (cc := cX3_include) (maxL := 4) (ret := none) (by decide) rfl (Nat.le_of_ble_eq_true rfl) ?_
  intro p e s m below meth c A ls hx hb hr hml hts hown hlocks hin hK hP hD hA hE hl
  have hown : s.vm.findClass RX3 = some m.cls := hown
  have hl : lv_has ls 4 [(0, .ref h), (1, .int p1), (2, .int p2)] := hl
  have hS : va_S A s.heap s.heap [] := va_S.rf
  obtain ⟨σ, hσ⟩ : ∃ σ, (sX3_include S p1 p2) = σ := ⟨_, rfl⟩
  rw [hσ]
  rw [sX3_include] at hσ
  refine lv_aload_n hx hb dX3_include_0 rfl (lv_at hl 0 rfl) ?_
  refine va_get (D := (dC, dI)) (ci := 3) (v := .int (S.1 0)) (C := RX3) (T := TX3) (N := 3) hx hb hts (fun _ h => List.mem_cons_of_mem _ (List.mem_append_right _ h)) hown hK hP 0 rfl rfl 0 (by decide) (hts (.fieldLink RX3 15 "SharedLine$TableSet" "size" "I") (List.mem_of_getElem? (i := 1) rfl)) (fun _ h9 => h9) rfl dX3_include_1 ?_
  refine lv_if_ne (tgt := 12) hx hb dX3_include_4 (by decide) (fun c4 => ?_) (fun c4 => ?_)
  · rw [if_neg c4] at hσ
    refine lv_aload_n hx hb dX3_include_12 rfl (lv_at hl 0 rfl) ?_
    refine lv_dup hx hb dX3_include_13 rfl ?_
    refine va_get (D := (dC, dI)) (ci := 3) (v := .int (S.1 0)) (C := RX3) (T := TX3) (N := 3) hx hb hts (fun _ h => List.mem_cons_of_mem _ (List.mem_append_right _ h)) hown hK hP 0 rfl rfl 0 (by decide) (hts (.fieldLink RX3 15 "SharedLine$TableSet" "size" "I") (List.mem_of_getElem? (i := 1) rfl)) (fun _ h9 => h9) rfl dX3_include_14 ?_
    refine lv_iconst (v := 1) hx hb dX3_include_17 (by decide) ?_
    refine lv_iadd hx hb dX3_include_18 ?_
    refine va_put (D := (dC, dI)) (ci := 3) (v := .int ((S.1 0) + 1)) (ty := .int) (C := RX3) (T := TX3) (N := 3) hx hb hts (fun _ h => List.mem_cons_of_mem _ (List.mem_append_right _ h)) tyX3 tyX3_ok nmX3 hown hK hP hD hS 0 rfl rfl 0 (by decide) (hts (.fieldLink RX3 15 "SharedLine$TableSet" "size" "I") (List.mem_of_getElem? (i := 1) rfl)) (fun _ h9 => h9) rfl (tyX3_ok 0 (by decide)) rfl rfl (Nat.le_of_ble_eq_true rfl) dX3_include_19 (fun H locs hP hD hS => ?_)
    have hP : va_P (dC, dI) vwCl (wT cI h hp ((upd S.1 0 ((S.1 0) + 1)), S.2)) H := hP
    have hD : va_D A (wT cI h hp ((upd S.1 0 ((S.1 0) + 1)), S.2)) := hD
    refine lv_iconst (v := 0) hx hb dX3_include_22 (by decide) ?_
    refine lv_istore_n (lv' := [(3, .int 0), (0, .ref h), (1, .int p1), (2, .int p2)]) hx hb dX3_include_23 rfl hl (by decide) rfl (fun ls hl => ?_)
    have key24 : ∀ (n24 : Nat) (x3_24 : Int32) (Y_24 : LSt) (k24 : Nat), (x3_24 = nI k24) → (k24 ≤ 12) → (12 + 1 ≤ n24 + k24) → (sX3_include_L24 p2 n24 x3_24 Y_24) = σ → ∀ (H : Heap) (locs : List Loc) (ls : Array Slot), va_P (dC, dI) vwCl (wT cI h hp Y_24) H → va_D A (wT cI h hp Y_24) → va_S A s.heap H locs → lv_has ls 4 [(0, .ref h), (1, .int p1), (2, .int p2), (3, .int x3_24)] → W p l e (headSpec wsX3_include (rmF 0 0)).room s m ([.ref h, .int p1, .int p2] : List Value).toArray below meth c H locs 0 0 (MQ below (va_Qv (fun (_ : Unit) => True) (fun _ t => PoW (dC, dI) (tyC cI cZ cO) A (wT cI h hp σ) t) A) ([.ref h, .int p1, .int p2] : List Value).toArray s 0 0 A) (F0 m 24 ls []) := by
      intro n24
      induction n24 with
      | zero =>
        intro x3_24 Y_24 k24 e24 hk24 hn24
        exact absurd hn24 (by omega)
      | succ n24 ih24 =>
        intro x3_24 Y_24 k24 e24 hk24 hn24 hσ H locs ls hP hD hS hl
        rw [sX3_include_L24_s] at hσ
        refine lv_iload_n hx hb dX3_include_24 rfl (lv_at hl 3 rfl) ?_
        refine lv_bipush (v := 12) hx hb dX3_include_25 (by decide) ?_
        refine lv_icmp_ge (tgt := 50) hx hb dX3_include_27 (by decide) (fun c27 => ?_) (fun c27 => ?_)
        · rw [if_pos c27] at hσ
          subst hσ
          exact vq_vret hx hb hr hlocks hK hP hD hS dX3_include_50
        · rw [if_neg c27] at hσ
          refine lv_aload_n hx hb dX3_include_30 rfl (lv_at hl 0 rfl) ?_
          refine va_get (D := (dC, dI)) (ci := 3) (v := .ref hp) (C := RX3) (T := TX3) (N := 3) hx hb hts (fun _ h => List.mem_cons_of_mem _ (List.mem_append_right _ h)) hown hK hP 0 rfl rfl 2 (by decide) (hts (.fieldLink RX3 9 "SharedLine$TableSet" "manyOfHand1" "[I") (List.mem_of_getElem? (i := 3) rfl)) (fun _ h9 => h9) rfl dX3_include_31 ?_
          refine lv_iload_n hx hb dX3_include_34 rfl (lv_at hl 3 rfl) ?_
          refine lv_dup2_11 hx hb dX3_include_35 rfl rfl ?_
          refine va_iald hx hb hK hP 1 0 rfl rfl (i := x3_24) (up_in e24 (up_lt e24 (show (12 : Int32) = nI 12 from rfl) (by omega) c27) (by decide)) dX3_include_36 ?_
          refine lv_iload_n hx hb dX3_include_37 rfl (lv_at hl 2 rfl) ?_
          refine lv_iload_n hx hb dX3_include_38 rfl (lv_at hl 3 rfl) ?_
          refine lv_ishr hx hb dX3_include_39 ?_
          refine lv_iconst (v := 1) hx hb dX3_include_40 (by decide) ?_
          refine lv_iand hx hb dX3_include_41 ?_
          refine lv_iadd hx hb dX3_include_42 ?_
          refine va_iast hx hb hK hP hD hS 1 0 rfl rfl (i := x3_24) (up_in e24 (up_lt e24 (show (12 : Int32) = nI 12 from rfl) (by omega) c27) (by decide)) dX3_include_43 (fun H locs hP hD hS => ?_)
          have hP : va_P (dC, dI) vwCl (wT cI h hp (Y_24.1, (upd Y_24.2 (x3_24).toNatClampNeg ((Y_24.2 (x3_24).toNatClampNeg) + ((p2 >>> (x3_24 &&& 31)) &&& 1))))) H := hP
          have hD : va_D A (wT cI h hp (Y_24.1, (upd Y_24.2 (x3_24).toNatClampNeg ((Y_24.2 (x3_24).toNatClampNeg) + ((p2 >>> (x3_24 &&& 31)) &&& 1))))) := hD
          refine lv_iinc (v := (x3_24 + 1)) (lv' := [(3, .int (x3_24 + 1)), (0, .ref h), (1, .int p1), (2, .int p2)]) hx hb dX3_include_44 hl (k := 3) rfl rfl (by decide) rfl (fun ls hl => ?_)
          refine lv_goto (tgt := 24) hx hb dX3_include_47 (by decide) ?_
          exact ih24 (x3_24 + 1) (Y_24.1, (upd Y_24.2 (x3_24).toNatClampNeg ((Y_24.2 (x3_24).toNatClampNeg) + ((p2 >>> (x3_24 &&& 31)) &&& 1)))) (k24 + 1) (up_s e24) (by have := up_lt e24 (show (12 : Int32) = nI 12 from rfl) (by omega) c27; omega) (by omega) hσ _ _ _ hP hD hS (lv_sub hl [1, 2, 3, 0] rfl)
    exact key24 13 (0 : Int32) ((upd S.1 0 ((S.1 0) + 1)), S.2) 0 nI_0.symm (Nat.zero_le _) (Nat.le_refl _) hσ _ _ _ hP hD hS (lv_sub hl [1, 2, 3, 0] rfl)
  · rw [if_pos c4] at hσ
    refine lv_aload_n hx hb dX3_include_7 rfl (lv_at hl 0 rfl) ?_
    refine lv_iload_n hx hb dX3_include_8 rfl (lv_at hl 1 rfl) ?_
    refine va_put (D := (dC, dI)) (ci := 3) (v := .int p1) (ty := .int) (C := RX3) (T := TX3) (N := 3) hx hb hts (fun _ h => List.mem_cons_of_mem _ (List.mem_append_right _ h)) tyX3 tyX3_ok nmX3 hown hK hP hD hS 0 rfl rfl 1 (by decide) (hts (.fieldLink RX3 19 "SharedLine$TableSet" "least" "I") (List.mem_of_getElem? (i := 2) rfl)) (fun _ h9 => h9) rfl (tyX3_ok 1 (by decide)) rfl rfl (Nat.le_of_ble_eq_true rfl) dX3_include_9 (fun H locs hP hD hS => ?_)
    have hP : va_P (dC, dI) vwCl (wT cI h hp ((upd S.1 1 p1), S.2)) H := hP
    have hD : va_D A (wT cI h hp ((upd S.1 1 p1), S.2)) := hD
    refine lv_aload_n hx hb dX3_include_12 rfl (lv_at hl 0 rfl) ?_
    refine lv_dup hx hb dX3_include_13 rfl ?_
    refine va_get (D := (dC, dI)) (ci := 3) (v := .int (S.1 0)) (C := RX3) (T := TX3) (N := 3) hx hb hts (fun _ h => List.mem_cons_of_mem _ (List.mem_append_right _ h)) hown hK hP 0 rfl rfl 0 (by decide) (hts (.fieldLink RX3 15 "SharedLine$TableSet" "size" "I") (List.mem_of_getElem? (i := 1) rfl)) (fun _ h9 => h9) rfl dX3_include_14 ?_
    refine lv_iconst (v := 1) hx hb dX3_include_17 (by decide) ?_
    refine lv_iadd hx hb dX3_include_18 ?_
    refine va_put (D := (dC, dI)) (ci := 3) (v := .int ((S.1 0) + 1)) (ty := .int) (C := RX3) (T := TX3) (N := 3) hx hb hts (fun _ h => List.mem_cons_of_mem _ (List.mem_append_right _ h)) tyX3 tyX3_ok nmX3 hown hK hP hD hS 0 rfl rfl 0 (by decide) (hts (.fieldLink RX3 15 "SharedLine$TableSet" "size" "I") (List.mem_of_getElem? (i := 1) rfl)) (fun _ h9 => h9) rfl (tyX3_ok 0 (by decide)) rfl rfl (Nat.le_of_ble_eq_true rfl) dX3_include_19 (fun H locs hP hD hS => ?_)
    have hP : va_P (dC, dI) vwCl (wT cI h hp ((upd (upd S.1 1 p1) 0 ((S.1 0) + 1)), S.2)) H := hP
    have hD : va_D A (wT cI h hp ((upd (upd S.1 1 p1) 0 ((S.1 0) + 1)), S.2)) := hD
    refine lv_iconst (v := 0) hx hb dX3_include_22 (by decide) ?_
    refine lv_istore_n (lv' := [(3, .int 0), (0, .ref h), (1, .int p1), (2, .int p2)]) hx hb dX3_include_23 rfl hl (by decide) rfl (fun ls hl => ?_)
    have key24 : ∀ (n24 : Nat) (x3_24 : Int32) (Y_24 : LSt) (k24 : Nat), (x3_24 = nI k24) → (k24 ≤ 12) → (12 + 1 ≤ n24 + k24) → (sX3_include_L24 p2 n24 x3_24 Y_24) = σ → ∀ (H : Heap) (locs : List Loc) (ls : Array Slot), va_P (dC, dI) vwCl (wT cI h hp Y_24) H → va_D A (wT cI h hp Y_24) → va_S A s.heap H locs → lv_has ls 4 [(0, .ref h), (1, .int p1), (2, .int p2), (3, .int x3_24)] → W p l e (headSpec wsX3_include (rmF 0 0)).room s m ([.ref h, .int p1, .int p2] : List Value).toArray below meth c H locs 0 0 (MQ below (va_Qv (fun (_ : Unit) => True) (fun _ t => PoW (dC, dI) (tyC cI cZ cO) A (wT cI h hp σ) t) A) ([.ref h, .int p1, .int p2] : List Value).toArray s 0 0 A) (F0 m 24 ls []) := by
      intro n24
      induction n24 with
      | zero =>
        intro x3_24 Y_24 k24 e24 hk24 hn24
        exact absurd hn24 (by omega)
      | succ n24 ih24 =>
        intro x3_24 Y_24 k24 e24 hk24 hn24 hσ H locs ls hP hD hS hl
        rw [sX3_include_L24_s] at hσ
        refine lv_iload_n hx hb dX3_include_24 rfl (lv_at hl 3 rfl) ?_
        refine lv_bipush (v := 12) hx hb dX3_include_25 (by decide) ?_
        refine lv_icmp_ge (tgt := 50) hx hb dX3_include_27 (by decide) (fun c27 => ?_) (fun c27 => ?_)
        · rw [if_pos c27] at hσ
          subst hσ
          exact vq_vret hx hb hr hlocks hK hP hD hS dX3_include_50
        · rw [if_neg c27] at hσ
          refine lv_aload_n hx hb dX3_include_30 rfl (lv_at hl 0 rfl) ?_
          refine va_get (D := (dC, dI)) (ci := 3) (v := .ref hp) (C := RX3) (T := TX3) (N := 3) hx hb hts (fun _ h => List.mem_cons_of_mem _ (List.mem_append_right _ h)) hown hK hP 0 rfl rfl 2 (by decide) (hts (.fieldLink RX3 9 "SharedLine$TableSet" "manyOfHand1" "[I") (List.mem_of_getElem? (i := 3) rfl)) (fun _ h9 => h9) rfl dX3_include_31 ?_
          refine lv_iload_n hx hb dX3_include_34 rfl (lv_at hl 3 rfl) ?_
          refine lv_dup2_11 hx hb dX3_include_35 rfl rfl ?_
          refine va_iald hx hb hK hP 1 0 rfl rfl (i := x3_24) (up_in e24 (up_lt e24 (show (12 : Int32) = nI 12 from rfl) (by omega) c27) (by decide)) dX3_include_36 ?_
          refine lv_iload_n hx hb dX3_include_37 rfl (lv_at hl 2 rfl) ?_
          refine lv_iload_n hx hb dX3_include_38 rfl (lv_at hl 3 rfl) ?_
          refine lv_ishr hx hb dX3_include_39 ?_
          refine lv_iconst (v := 1) hx hb dX3_include_40 (by decide) ?_
          refine lv_iand hx hb dX3_include_41 ?_
          refine lv_iadd hx hb dX3_include_42 ?_
          refine va_iast hx hb hK hP hD hS 1 0 rfl rfl (i := x3_24) (up_in e24 (up_lt e24 (show (12 : Int32) = nI 12 from rfl) (by omega) c27) (by decide)) dX3_include_43 (fun H locs hP hD hS => ?_)
          have hP : va_P (dC, dI) vwCl (wT cI h hp (Y_24.1, (upd Y_24.2 (x3_24).toNatClampNeg ((Y_24.2 (x3_24).toNatClampNeg) + ((p2 >>> (x3_24 &&& 31)) &&& 1))))) H := hP
          have hD : va_D A (wT cI h hp (Y_24.1, (upd Y_24.2 (x3_24).toNatClampNeg ((Y_24.2 (x3_24).toNatClampNeg) + ((p2 >>> (x3_24 &&& 31)) &&& 1))))) := hD
          refine lv_iinc (v := (x3_24 + 1)) (lv' := [(3, .int (x3_24 + 1)), (0, .ref h), (1, .int p1), (2, .int p2)]) hx hb dX3_include_44 hl (k := 3) rfl rfl (by decide) rfl (fun ls hl => ?_)
          refine lv_goto (tgt := 24) hx hb dX3_include_47 (by decide) ?_
          exact ih24 (x3_24 + 1) (Y_24.1, (upd Y_24.2 (x3_24).toNatClampNeg ((Y_24.2 (x3_24).toNatClampNeg) + ((p2 >>> (x3_24 &&& 31)) &&& 1)))) (k24 + 1) (up_s e24) (by have := up_lt e24 (show (12 : Int32) = nI 12 from rfl) (by omega) c27; omega) (by omega) hσ _ _ _ hP hD hS (lv_sub hl [1, 2, 3, 0] rfl)
    exact key24 13 (0 : Int32) ((upd (upd S.1 1 p1) 0 ((S.1 0) + 1)), S.2) 0 nI_0.symm (Nat.zero_le _) (Nat.le_refl _) hσ _ _ _ hP hD hS (lv_sub hl [1, 2, 3, 0] rfl)
theorem hdX3_tickThatHalvesBest : yX3_tickThatHalvesBest.cls = RX3 ∧ yX3_tickThatHalvesBest.cls ≠ "java/lang/invoke/MethodHandle" ∧ yX3_tickThatHalvesBest.cls ≠ "java/lang/invoke/VarHandle" ∧ (parseMethodDescriptor yX3_tickThatHalvesBest.desc).map (fun d => d.parameters.length) = some 1 := by decide +kernel
set_option maxHeartbeats 4000000 in
set_option maxRecDepth 100000 in
theorem cX3_tickThatHalvesBest_c (l : Launch) (ev : Nat → Nat) (dC : Nat → ClassId) (dI : Nat → Nat → Nat) (cI cZ cO : ClassId) (h : Nat) (hp : Nat) (S : LSt) (h1 : Nat) (hp1 : Nat) (S1 : LSt) : MetI l ev (dC, dI) (tyC cI cZ cO) yX3_tickThatHalvesBest wsX3_tickThatHalvesBest (rmF 1 21) [.ref h, .ref h1] (wT cI h hp S ++ wL cI h1 hp1 S1) (sX3_tickThatHalvesBest S S1) (wT cI h hp S ++ wL cI h1 hp1 S1) := by
  refine MetI_of (cc := cX3_tickThatHalvesBest) (maxL := 6) (ret := (some .int)) (by decide) rfl (Nat.le_of_ble_eq_true rfl) ?_
  intro p e s m below meth c A ls hx hb hr hml hts hown hlocks hin hK hP hD hA hE hl
  have hown : s.vm.findClass RX3 = some m.cls := hown
  have hl : lv_has ls 6 [(0, .ref h), (1, .ref h1)] := hl
  have hS : va_S A s.heap s.heap [] := va_S.rf
  obtain ⟨σ, hσ⟩ : ∃ σ, (sX3_tickThatHalvesBest S S1) = σ := ⟨_, rfl⟩
  rw [hσ]
  rw [sX3_tickThatHalvesBest] at hσ
  refine lv_bipush (v := (-9)) hx hb dX3_tickThatHalvesBest_0 (by decide) ?_
  refine lv_istore_n (lv' := [(2, .int (-9)), (0, .ref h), (1, .ref h1)]) hx hb dX3_tickThatHalvesBest_2 rfl hl (by decide) rfl (fun ls hl => ?_)
  refine lv_aload_n hx hb dX3_tickThatHalvesBest_3 rfl (lv_at hl 1 rfl) ?_
  refine va_get (D := (dC, dI)) (ci := 3) (v := .int (S.1 0)) (C := RX3) (T := TX3) (N := 3) hx hb hts (fun _ h => List.mem_cons_of_mem _ (List.mem_append_left _ (List.mem_append_right _ h))) hown hK hP 0 rfl rfl 0 (by decide) (hts (.fieldLink RX3 15 "SharedLine$TableSet" "size" "I") (List.mem_of_getElem? (i := 1) rfl)) (fun _ h9 => h9) rfl dX3_tickThatHalvesBest_4 ?_
  refine lv_iconst (v := 1) hx hb dX3_tickThatHalvesBest_7 (by decide) ?_
  refine lv_iadd hx hb dX3_tickThatHalvesBest_8 ?_
  refine lv_istore_n (lv' := [(3, .int ((S.1 0) + 1)), (2, .int (-9)), (0, .ref h), (1, .ref h1)]) hx hb dX3_tickThatHalvesBest_9 rfl hl (by decide) rfl (fun ls hl => ?_)
  refine lv_iconst (v := 0) hx hb dX3_tickThatHalvesBest_10 (by decide) ?_
  refine lv_istore (lv' := [(4, .int 0), (3, .int ((S.1 0) + 1)), (2, .int (-9)), (0, .ref h), (1, .ref h1)]) hx hb dX3_tickThatHalvesBest_11 hl (by decide) rfl (fun ls hl => ?_)
  have key13 : ∀ (n13 : Nat) (x2_13 : Int32) (x3_13 : Int32) (x4_13 : Int32)  (k13 : Nat), (x4_13 = nI k13) → (k13 ≤ 12) → (12 + 1 ≤ n13 + k13) → (sX3_tickThatHalvesBest_L13 S S1 n13 x2_13 x3_13 x4_13) = σ → ∀ (H : Heap) (locs : List Loc) (ls : Array Slot), va_P (dC, dI) vwCl (wT cI h hp S ++ wL cI h1 hp1 S1) H → va_D A (wT cI h hp S ++ wL cI h1 hp1 S1) → va_S A s.heap H locs → lv_has ls 6 [(0, .ref h), (1, .ref h1), (2, .int x2_13), (3, .int x3_13), (4, .int x4_13)] → W p l e (headSpec wsX3_tickThatHalvesBest (rmF 1 21)).room s m ([.ref h, .ref h1] : List Value).toArray below meth c H locs 0 0 (MQ below (va_Qi (fun (x : Int32) (_ : Unit) => x = σ) (fun _ t => PoW (dC, dI) (tyC cI cZ cO) A (wT cI h hp S ++ wL cI h1 hp1 S1) t) A) ([.ref h, .ref h1] : List Value).toArray s 0 0 A) (F0 m 13 ls []) := by
    intro n13
    induction n13 with
    | zero =>
      intro x2_13 x3_13 x4_13 k13 e13 hk13 hn13
      exact absurd hn13 (by omega)
    | succ n13 ih13 =>
      intro x2_13 x3_13 x4_13 k13 e13 hk13 hn13 hσ H locs ls hP hD hS hl
      rw [sX3_tickThatHalvesBest_L13_s] at hσ
      refine lv_iload hx hb dX3_tickThatHalvesBest_13 (lv_at hl 4 rfl) ?_
      refine lv_bipush (v := 12) hx hb dX3_tickThatHalvesBest_15 (by decide) ?_
      refine lv_icmp_ge (tgt := 71) hx hb dX3_tickThatHalvesBest_17 (by decide) (fun c17 => ?_) (fun c17 => ?_)
      · rw [if_pos c17] at hσ
        refine lv_iload_n hx hb dX3_tickThatHalvesBest_71 rfl (lv_at hl 2 rfl) ?_
        subst hσ
        exact vq_iret hx hb hr hlocks hK hP hD hS rfl dX3_tickThatHalvesBest_72
      · rw [if_neg c17] at hσ
        refine lv_aload_n hx hb dX3_tickThatHalvesBest_20 rfl (lv_at hl 0 rfl) ?_
        refine va_get (D := (dC, dI)) (ci := 3) (v := .ref hp) (C := RX3) (T := TX3) (N := 3) hx hb hts (fun _ h => List.mem_cons_of_mem _ (List.mem_append_left _ (List.mem_append_right _ h))) hown hK hP 0 rfl rfl 2 (by decide) (hts (.fieldLink RX3 9 "SharedLine$TableSet" "manyOfHand1" "[I") (List.mem_of_getElem? (i := 2) rfl)) (fun _ h9 => h9) rfl dX3_tickThatHalvesBest_21 ?_
        refine lv_iload hx hb dX3_tickThatHalvesBest_24 (lv_at hl 4 rfl) ?_
        refine va_iald hx hb hK hP 1 0 rfl rfl (i := x4_13) (up_in e13 (up_lt e13 (show (12 : Int32) = nI 12 from rfl) (by omega) c17) (by decide)) dX3_tickThatHalvesBest_26 ?_
        refine lv_aload_n hx hb dX3_tickThatHalvesBest_27 rfl (lv_at hl 0 rfl) ?_
        refine va_get (D := (dC, dI)) (ci := 3) (v := .int (S.1 0)) (C := RX3) (T := TX3) (N := 3) hx hb hts (fun _ h => List.mem_cons_of_mem _ (List.mem_append_left _ (List.mem_append_right _ h))) hown hK hP 0 rfl rfl 0 (by decide) (hts (.fieldLink RX3 15 "SharedLine$TableSet" "size" "I") (List.mem_of_getElem? (i := 1) rfl)) (fun _ h9 => h9) rfl dX3_tickThatHalvesBest_28 ?_
        refine lv_aload_n hx hb dX3_tickThatHalvesBest_31 rfl (lv_at hl 0 rfl) ?_
        refine va_get (D := (dC, dI)) (ci := 3) (v := .ref hp) (C := RX3) (T := TX3) (N := 3) hx hb hts (fun _ h => List.mem_cons_of_mem _ (List.mem_append_left _ (List.mem_append_right _ h))) hown hK hP 0 rfl rfl 2 (by decide) (hts (.fieldLink RX3 9 "SharedLine$TableSet" "manyOfHand1" "[I") (List.mem_of_getElem? (i := 2) rfl)) (fun _ h9 => h9) rfl dX3_tickThatHalvesBest_32 ?_
        refine lv_iload hx hb dX3_tickThatHalvesBest_35 (lv_at hl 4 rfl) ?_
        refine va_iald hx hb hK hP 1 0 rfl rfl (i := x4_13) (up_in e13 (up_lt e13 (show (12 : Int32) = nI 12 from rfl) (by omega) c17) (by decide)) dX3_tickThatHalvesBest_37 ?_
        refine lv_isub hx hb dX3_tickThatHalvesBest_38 ?_
        refine va_mmax (x := (S.2 (x4_13).toNatClampNeg)) (y := ((S.1 0) - (S.2 (x4_13).toNatClampNeg))) hx hb (hml.trans hl.1.symm) hown (hts (.methodLink RX3 49 Lib.Math.max.name) (List.mem_of_getElem? (i := 3) rfl)) (hts (.static Lib.Math.max.name) (List.mem_of_getElem? (i := 4) rfl)) (hts (.initialized "java/lang/Math") (List.mem_of_getElem? (i := 5) rfl)) (hts (.code Lib.Math.max.name Lib.Math.max.code 2 (some .int)) (List.mem_of_getElem? (i := 6) rfl)) (Nat.le_of_ble_eq_true rfl) (Nat.le_of_ble_eq_true rfl) (Nat.zero_le _) (Nat.zero_le _) dX3_tickThatHalvesBest_39 ?_
        refine lv_istore (lv' := [(5, .int (if (S.2 (x4_13).toNatClampNeg) < ((S.1 0) - (S.2 (x4_13).toNatClampNeg)) then ((S.1 0) - (S.2 (x4_13).toNatClampNeg)) else (S.2 (x4_13).toNatClampNeg))), (0, .ref h), (1, .ref h1), (2, .int x2_13), (3, .int x3_13), (4, .int x4_13)]) hx hb dX3_tickThatHalvesBest_42 hl (by decide) rfl (fun ls hl => ?_)
        refine lv_aload_n hx hb dX3_tickThatHalvesBest_44 rfl (lv_at hl 2 rfl) ?_
        refine lv_iload hx hb dX3_tickThatHalvesBest_45 (lv_at hl 5 rfl) ?_
        refine vq_Vi (As := [.int x4_13]) (rest := []) (W2 := (wT cI h hp S ++ wL cI h1 hp1 S1)) (f := (bI (sX0_hasNote S1 x4_13))) hx hb hml hown hts hK hP hD hS hA hE hl.1 (cX0_hasNote_c l ev dC dI cI cZ cO h1 hp1 S1 x4_13) gX3_tickThatHalvesBest_X0_hasNote rfl hdX0_hasNote (Nat.le_of_ble_eq_true rfl) (Nat.le_of_ble_eq_true rfl) rfl rfl (ci := 0) (qr := 2) rfl rfl rfl [2, 3] [0, 1] [0, 1, 2, 3] rfl rfl (by decide) (by decide) (by decide) rfl rfl rfl (Nat.le_of_ble_eq_true rfl) dX3_tickThatHalvesBest_47 ⟨Nat.zero_le _, Nat.zero_le _⟩ (fun H locs hP hD hS => ?_)
        refine lv_if_eqB (tgt := 65) hx hb dX3_tickThatHalvesBest_50 (by decide) (fun c50 => ?_) (fun c50 => ?_)
        · rw [if_neg (Bool.eq_false_iff.mp c50)] at hσ
          refine lv_iinc (v := (x4_13 + 1)) (lv' := [(4, .int (x4_13 + 1)), (5, .int (if (S.2 (x4_13).toNatClampNeg) < ((S.1 0) - (S.2 (x4_13).toNatClampNeg)) then ((S.1 0) - (S.2 (x4_13).toNatClampNeg)) else (S.2 (x4_13).toNatClampNeg))), (0, .ref h), (1, .ref h1), (2, .int x2_13), (3, .int x3_13)]) hx hb dX3_tickThatHalvesBest_65 hl (k := 5) rfl rfl (by decide) rfl (fun ls hl => ?_)
          refine lv_goto (tgt := 13) hx hb dX3_tickThatHalvesBest_68 (by decide) ?_
          exact ih13 x2_13 x3_13 (x4_13 + 1) (k13 + 1) (up_s e13) (by have := up_lt e13 (show (12 : Int32) = nI 12 from rfl) (by omega) c17; omega) (by omega) hσ _ _ _ hP hD hS (lv_sub hl [2, 3, 4, 5, 0] rfl)
        · rw [if_pos c50] at hσ
          refine lv_iload hx hb dX3_tickThatHalvesBest_53 (lv_at hl 0 rfl) ?_
          refine lv_iload_n hx hb dX3_tickThatHalvesBest_55 rfl (lv_at hl 4 rfl) ?_
          refine lv_icmp_ge (tgt := 65) hx hb dX3_tickThatHalvesBest_56 (by decide) (fun c56 => ?_) (fun c56 => ?_)
          · rw [if_pos c56] at hσ
            refine lv_iinc (v := (x4_13 + 1)) (lv' := [(4, .int (x4_13 + 1)), (5, .int (if (S.2 (x4_13).toNatClampNeg) < ((S.1 0) - (S.2 (x4_13).toNatClampNeg)) then ((S.1 0) - (S.2 (x4_13).toNatClampNeg)) else (S.2 (x4_13).toNatClampNeg))), (0, .ref h), (1, .ref h1), (2, .int x2_13), (3, .int x3_13)]) hx hb dX3_tickThatHalvesBest_65 hl (k := 5) rfl rfl (by decide) rfl (fun ls hl => ?_)
            refine lv_goto (tgt := 13) hx hb dX3_tickThatHalvesBest_68 (by decide) ?_
            exact ih13 x2_13 x3_13 (x4_13 + 1) (k13 + 1) (up_s e13) (by have := up_lt e13 (show (12 : Int32) = nI 12 from rfl) (by omega) c17; omega) (by omega) hσ _ _ _ hP hD hS (lv_sub hl [2, 3, 4, 5, 0] rfl)
          · rw [if_neg c56] at hσ
            refine lv_iload hx hb dX3_tickThatHalvesBest_59 (lv_at hl 0 rfl) ?_
            refine lv_istore_n (lv' := [(3, .int (if (S.2 (x4_13).toNatClampNeg) < ((S.1 0) - (S.2 (x4_13).toNatClampNeg)) then ((S.1 0) - (S.2 (x4_13).toNatClampNeg)) else (S.2 (x4_13).toNatClampNeg))), (5, .int (if (S.2 (x4_13).toNatClampNeg) < ((S.1 0) - (S.2 (x4_13).toNatClampNeg)) then ((S.1 0) - (S.2 (x4_13).toNatClampNeg)) else (S.2 (x4_13).toNatClampNeg))), (0, .ref h), (1, .ref h1), (2, .int x2_13), (4, .int x4_13)]) hx hb dX3_tickThatHalvesBest_61 rfl hl (by decide) rfl (fun ls hl => ?_)
            refine lv_iload hx hb dX3_tickThatHalvesBest_62 (lv_at hl 5 rfl) ?_
            refine lv_istore_n (lv' := [(2, .int x4_13), (3, .int (if (S.2 (x4_13).toNatClampNeg) < ((S.1 0) - (S.2 (x4_13).toNatClampNeg)) then ((S.1 0) - (S.2 (x4_13).toNatClampNeg)) else (S.2 (x4_13).toNatClampNeg))), (5, .int (if (S.2 (x4_13).toNatClampNeg) < ((S.1 0) - (S.2 (x4_13).toNatClampNeg)) then ((S.1 0) - (S.2 (x4_13).toNatClampNeg)) else (S.2 (x4_13).toNatClampNeg))), (0, .ref h), (1, .ref h1), (4, .int x4_13)]) hx hb dX3_tickThatHalvesBest_64 rfl hl (by decide) rfl (fun ls hl => ?_)
            refine lv_iinc (v := (x4_13 + 1)) (lv' := [(4, .int (x4_13 + 1)), (2, .int x4_13), (3, .int (if (S.2 (x4_13).toNatClampNeg) < ((S.1 0) - (S.2 (x4_13).toNatClampNeg)) then ((S.1 0) - (S.2 (x4_13).toNatClampNeg)) else (S.2 (x4_13).toNatClampNeg))), (5, .int (if (S.2 (x4_13).toNatClampNeg) < ((S.1 0) - (S.2 (x4_13).toNatClampNeg)) then ((S.1 0) - (S.2 (x4_13).toNatClampNeg)) else (S.2 (x4_13).toNatClampNeg))), (0, .ref h), (1, .ref h1)]) hx hb dX3_tickThatHalvesBest_65 hl (k := 5) rfl rfl (by decide) rfl (fun ls hl => ?_)
            refine lv_goto (tgt := 13) hx hb dX3_tickThatHalvesBest_68 (by decide) ?_
            exact ih13 x4_13 (if (S.2 (x4_13).toNatClampNeg) < ((S.1 0) - (S.2 (x4_13).toNatClampNeg)) then ((S.1 0) - (S.2 (x4_13).toNatClampNeg)) else (S.2 (x4_13).toNatClampNeg)) (x4_13 + 1) (k13 + 1) (up_s e13) (by have := up_lt e13 (show (12 : Int32) = nI 12 from rfl) (by omega) c17; omega) (by omega) hσ _ _ _ hP hD hS (lv_sub hl [4, 5, 1, 2, 0] rfl)
  exact key13 13 ((-9) : Int32) ((S.1 0) + 1) (0 : Int32) 0 nI_0.symm (Nat.zero_le _) (Nat.le_refl _) hσ _ _ _ hP hD hS (lv_sub hl [3, 4, 2, 1, 0] rfl)
theorem hdX3_gather : yX3_gather.cls = RX3 ∧ yX3_gather.cls ≠ "java/lang/invoke/MethodHandle" ∧ yX3_gather.cls ≠ "java/lang/invoke/VarHandle" ∧ (parseMethodDescriptor yX3_gather.desc).map (fun d => d.parameters.length) = some 3 := by decide +kernel
set_option maxHeartbeats 4000000 in
set_option maxRecDepth 100000 in
theorem cX3_gather_c (l : Launch) (ev : Nat → Nat) (dC : Nat → ClassId) (dI : Nat → Nat → Nat) (cI cZ cO : ClassId) (h : Nat) (hp : Nat) (S : LSt) (h1 : Nat) (hp1 : Nat) (S1 : LSt) (p2 : Int32) (p3 : Int32) (hT : XOK S1) : MetV l ev (dC, dI) (tyC cI cZ cO) yX3_gather wsX3_gather (rmF 4 90) [.ref h, .ref h1, .int p2, .int p3] (wT cI h hp S ++ wL cI h1 hp1 S1) (wT cI h hp (sX3_gather S S1 p2 p3) ++ wL cI h1 hp1 S1) := by
  refine MetV_of (cc := cX3_gather) (maxL := 8) (ret := none) (by decide) rfl (Nat.le_of_ble_eq_true rfl) ?_
  intro p e s m below meth c A ls hx hb hr hml hts hown hlocks hin hK hP hD hA hE hl
  have hown : s.vm.findClass RX3 = some m.cls := hown
  have hl : lv_has ls 8 [(0, .ref h), (1, .ref h1), (2, .int p2), (3, .int p3)] := hl
  have hS : va_S A s.heap s.heap [] := va_S.rf
  obtain ⟨σ, hσ⟩ : ∃ σ, (sX3_gather S S1 p2 p3) = σ := ⟨_, rfl⟩
  rw [hσ]
  rw [sX3_gather] at hσ
  refine lv_aload_n hx hb dX3_gather_0 rfl (lv_at hl 0 rfl) ?_
  refine lv_iconst (v := 0) hx hb dX3_gather_1 (by decide) ?_
  refine va_put (D := (dC, dI)) (ci := 3) (v := .int 0) (ty := .int) (C := RX3) (T := TX3) (N := 3) hx hb hts (fun _ h => List.mem_cons_of_mem _ (List.mem_append_left _ (List.mem_append_right _ h))) tyX3 tyX3_ok nmX3 hown hK hP hD hS 0 rfl rfl 0 (by decide) (hts (.fieldLink RX3 15 "SharedLine$TableSet" "size" "I") (List.mem_of_getElem? (i := 1) rfl)) (fun _ h9 => h9) rfl (tyX3_ok 0 (by decide)) rfl rfl (Nat.le_of_ble_eq_true rfl) dX3_gather_2 (fun H locs hP hD hS => ?_)
  have hP : va_P (dC, dI) vwCl (wT cI h hp ((upd S.1 0 0), S.2) ++ wL cI h1 hp1 S1) H := hP
  have hD : va_D A (wT cI h hp ((upd S.1 0 0), S.2) ++ wL cI h1 hp1 S1) := hD
  refine lv_aload_n hx hb dX3_gather_5 rfl (lv_at hl 0 rfl) ?_
  refine lv_bipush (v := (-9)) hx hb dX3_gather_6 (by decide) ?_
  refine va_put (D := (dC, dI)) (ci := 3) (v := .int (-9)) (ty := .int) (C := RX3) (T := TX3) (N := 3) hx hb hts (fun _ h => List.mem_cons_of_mem _ (List.mem_append_left _ (List.mem_append_right _ h))) tyX3 tyX3_ok nmX3 hown hK hP hD hS 0 rfl rfl 1 (by decide) (hts (.fieldLink RX3 19 "SharedLine$TableSet" "least" "I") (List.mem_of_getElem? (i := 2) rfl)) (fun _ h9 => h9) rfl (tyX3_ok 1 (by decide)) rfl rfl (Nat.le_of_ble_eq_true rfl) dX3_gather_8 (fun H locs hP hD hS => ?_)
  have hP : va_P (dC, dI) vwCl (wT cI h hp ((upd (upd S.1 0 0) 1 (-9)), S.2) ++ wL cI h1 hp1 S1) H := hP
  have hD : va_D A (wT cI h hp ((upd (upd S.1 0 0) 1 (-9)), S.2) ++ wL cI h1 hp1 S1) := hD
  refine lv_aload_n hx hb dX3_gather_11 rfl (lv_at hl 0 rfl) ?_
  refine va_get (D := (dC, dI)) (ci := 3) (v := .ref hp) (C := RX3) (T := TX3) (N := 3) hx hb hts (fun _ h => List.mem_cons_of_mem _ (List.mem_append_left _ (List.mem_append_right _ h))) hown hK hP 0 rfl rfl 2 (by decide) (hts (.fieldLink RX3 9 "SharedLine$TableSet" "manyOfHand1" "[I") (List.mem_of_getElem? (i := 3) rfl)) (fun _ h9 => h9) rfl dX3_gather_12 ?_
  refine lv_iconst (v := 0) hx hb dX3_gather_15 (by decide) ?_
  refine vq_Sv (As := [.ref hp, .int 0]) (rest := []) (W2 := (wT cI h hp ((upd (upd S.1 0 0) 1 (-9)), (sJ7_fill_53178 12 S.2 (0 : Int32))) ++ wL cI h1 hp1 S1)) hx hb hml hown hts hK hP hD hS hA hE hl.1 (cJ7_fill_53178_c l ev dC dI cI cZ cO hp 12 S.2 (0 : Int32) (by decide)) gX3_gather_J7_fill_53178 rfl hdJ7_fill_53178 (Nat.le_of_ble_eq_true rfl) (Nat.le_of_ble_eq_true rfl) rfl rfl [1] [0, 2, 3] [0, 3, 1, 2] rfl rfl (by decide) (by decide) (by decide) rfl rfl rfl (Nat.le_of_ble_eq_true rfl) dX3_gather_16 ⟨Nat.zero_le _, Nat.zero_le _⟩ (fun H locs hP hD hS => ?_)
  refine lv_aload_n hx hb dX3_gather_19 rfl (lv_at hl 1 rfl) ?_
  refine vq_Vi (As := []) (rest := []) (W2 := (wT cI h hp ((upd (upd S.1 0 0) 1 (-9)), (sJ7_fill_53178 12 S.2 (0 : Int32))) ++ wL cI h1 hp1 S1)) (f := (sX0_pitchesUsed S1)) hx hb hml hown hts hK hP hD hS hA hE hl.1 (cX0_pitchesUsed_c l ev dC dI cI cZ cO h1 hp1 S1 hT) gX3_gather_X0_pitchesUsed rfl hdX0_pitchesUsed (Nat.le_of_ble_eq_true rfl) (Nat.le_of_ble_eq_true rfl) rfl rfl (ci := 0) (qr := 2) rfl rfl rfl [2, 3] [0, 1] [0, 1, 2, 3] rfl rfl (by decide) (by decide) (by decide) rfl rfl rfl (Nat.le_of_ble_eq_true rfl) dX3_gather_20 ⟨Nat.zero_le _, Nat.zero_le _⟩ (fun H locs hP hD hS => ?_)
  refine lv_iconst (v := (-1)) hx hb dX3_gather_23 (by decide) ?_
  refine lv_ixor hx hb dX3_gather_24 ?_
  refine lv_istore (lv' := [(4, .int ((sX0_pitchesUsed S1) ^^^ (-1))), (0, .ref h), (1, .ref h1), (2, .int p2), (3, .int p3)]) hx hb dX3_gather_25 hl (by decide) rfl (fun ls hl => ?_)
  refine lv_iconst (v := 0) hx hb dX3_gather_27 (by decide) ?_
  refine lv_istore (lv' := [(5, .int 0), (4, .int ((sX0_pitchesUsed S1) ^^^ (-1))), (0, .ref h), (1, .ref h1), (2, .int p2), (3, .int p3)]) hx hb dX3_gather_28 hl (by decide) rfl (fun ls hl => ?_)
  have key30 : ∀ (n30 : Nat) (x4_30 : Int32) (x5_30 : Int32) (Y0_30 : LSt) (k30 : Nat), (x5_30 = nI k30) → (k30 ≤ 128) → (128 + 1 ≤ n30 + k30) → (sX3_gather_L30 S1 p2 p3 n30 x4_30 x5_30 Y0_30) = σ → ∀ (H : Heap) (locs : List Loc) (ls : Array Slot), va_P (dC, dI) vwCl (wT cI h hp Y0_30 ++ wL cI h1 hp1 S1) H → va_D A (wT cI h hp Y0_30 ++ wL cI h1 hp1 S1) → va_S A s.heap H locs → lv_has ls 8 [(0, .ref h), (1, .ref h1), (2, .int p2), (3, .int p3), (4, .int x4_30), (5, .int x5_30)] → W p l e (headSpec wsX3_gather (rmF 4 90)).room s m ([.ref h, .ref h1, .int p2, .int p3] : List Value).toArray below meth c H locs 0 0 (MQ below (va_Qv (fun (_ : Unit) => True) (fun _ t => PoW (dC, dI) (tyC cI cZ cO) A (wT cI h hp σ ++ wL cI h1 hp1 S1) t) A) ([.ref h, .ref h1, .int p2, .int p3] : List Value).toArray s 0 0 A) (F0 m 30 ls []) := by
    intro n30
    induction n30 with
    | zero =>
      intro x4_30 x5_30 Y0_30 k30 e30 hk30 hn30
      exact absurd hn30 (by omega)
    | succ n30 ih30 =>
      intro x4_30 x5_30 Y0_30 k30 e30 hk30 hn30 hσ H locs ls hP hD hS hl
      rw [sX3_gather_L30_s] at hσ
      refine lv_iload hx hb dX3_gather_30 (lv_at hl 5 rfl) ?_
      refine lv_sipush (v := 128) hx hb dX3_gather_32 (by decide) ?_
      refine lv_icmp_ge (tgt := 117) hx hb dX3_gather_35 (by decide) (fun c35 => ?_) (fun c35 => ?_)
      · rw [if_pos c35] at hσ
        subst hσ
        exact vq_vret hx hb hr hlocks hK hP hD hS dX3_gather_117
      · rw [if_neg c35] at hσ
        refine lv_iload hx hb dX3_gather_38 (lv_at hl 5 rfl) ?_
        refine lv_iload hx hb dX3_gather_40 (lv_at hl 4 rfl) ?_
        refine lv_iand hx hb dX3_gather_42 ?_
        refine lv_if_eq (tgt := 49) hx hb dX3_gather_43 (by decide) (fun c43 => ?_) (fun c43 => ?_)
        · rw [if_pos c43] at hσ
          refine lv_aload_n hx hb dX3_gather_49 rfl (lv_at hl 1 rfl) ?_
          refine lv_iload hx hb dX3_gather_50 (lv_at hl 5 rfl) ?_
          refine vq_Vi (As := [.int x5_30]) (rest := []) (W2 := (wT cI h hp Y0_30 ++ wL cI h1 hp1 S1)) (f := (sX0_shareByTable S1 x5_30)) hx hb hml hown hts hK hP hD hS hA hE hl.1 (cX0_shareByTable_c l ev dC dI cI cZ cO h1 hp1 S1 x5_30 hT) gX3_gather_X0_shareByTable rfl hdX0_shareByTable (Nat.le_of_ble_eq_true rfl) (Nat.le_of_ble_eq_true rfl) rfl rfl (ci := 0) (qr := 2) rfl rfl rfl [2, 3] [0, 1] [0, 1, 2, 3] rfl rfl (by decide) (by decide) (by decide) rfl rfl rfl (Nat.le_of_ble_eq_true rfl) dX3_gather_52 ⟨Nat.zero_le _, Nat.zero_le _⟩ (fun H locs hP hD hS => ?_)
          refine lv_istore (lv' := [(6, .int (sX0_shareByTable S1 x5_30)), (0, .ref h), (1, .ref h1), (2, .int p2), (3, .int p3), (4, .int x4_30), (5, .int x5_30)]) hx hb dX3_gather_55 hl (by decide) rfl (fun ls hl => ?_)
          refine lv_iload_n hx hb dX3_gather_57 rfl (lv_at hl 3 rfl) ?_
          refine lv_aload_n hx hb dX3_gather_58 rfl (lv_at hl 2 rfl) ?_
          refine va_get (D := (dC, dI)) (ci := 0) (v := .int (S1.1 1)) (C := RX0) (T := TX0) (N := 7) hx hb hts (fun _ h => List.mem_cons_of_mem _ (List.mem_append_right _ h)) hown hK hP 2 rfl rfl 2 (by decide) (hts (.fieldLink RX3 38 "SharedLine$Line" "notes" "I") (List.mem_of_getElem? (i := 4) rfl)) (fun _ h9 => h9) rfl dX3_gather_59 ?_
          refine lv_iload hx hb dX3_gather_62 (lv_at hl 0 rfl) ?_
          refine lv_iconst (v := (-1)) hx hb dX3_gather_64 (by decide) ?_
          refine lv_ixor hx hb dX3_gather_65 ?_
          refine lv_iand hx hb dX3_gather_66 ?_
          refine lv_iconst (v := (-1)) hx hb dX3_gather_67 (by decide) ?_
          refine lv_ixor hx hb dX3_gather_68 ?_
          refine lv_iand hx hb dX3_gather_69 ?_
          refine lv_if_ne (tgt := 86) hx hb dX3_gather_70 (by decide) (fun c70 => ?_) (fun c70 => ?_)
          · rw [if_neg c70] at hσ
            refine lv_iconst (v := 0) hx hb dX3_gather_86 (by decide) ?_
            refine lv_istore (lv' := [(7, .int 0), (6, .int (sX0_shareByTable S1 x5_30)), (0, .ref h), (1, .ref h1), (2, .int p2), (3, .int p3), (4, .int x4_30), (5, .int x5_30)]) hx hb dX3_gather_87 hl (by decide) rfl (fun ls hl => ?_)
            refine lv_iload hx hb dX3_gather_89 (lv_at hl 0 rfl) ?_
            refine lv_if_eq (tgt := 111) hx hb dX3_gather_91 (by decide) (fun c91 => ?_) (fun c91 => absurd c91 (by decide))
            refine lv_iinc (v := (x5_30 + 1)) (lv' := [(5, .int (x5_30 + 1)), (7, .int 0), (6, .int (sX0_shareByTable S1 x5_30)), (0, .ref h), (1, .ref h1), (2, .int p2), (3, .int p3), (4, .int x4_30)]) hx hb dX3_gather_111 hl (k := 7) rfl rfl (by decide) rfl (fun ls hl => ?_)
            refine lv_goto (tgt := 30) hx hb dX3_gather_114 (by decide) ?_
            exact ih30 x4_30 (x5_30 + 1) Y0_30 (k30 + 1) (up_s e30) (by have := up_lt e30 (show (128 : Int32) = nI 128 from rfl) (by omega) c35; omega) (by omega) hσ _ _ _ hP hD hS (lv_sub hl [3, 4, 5, 6, 7, 0] rfl)
          · rw [if_pos c70] at hσ
            refine lv_iload_n hx hb dX3_gather_73 rfl (lv_at hl 4 rfl) ?_
            refine lv_iload hx hb dX3_gather_74 (lv_at hl 0 rfl) ?_
            refine lv_iconst (v := (-1)) hx hb dX3_gather_76 (by decide) ?_
            refine lv_ixor hx hb dX3_gather_77 ?_
            refine lv_iand hx hb dX3_gather_78 ?_
            refine lv_if_ne (tgt := 86) hx hb dX3_gather_79 (by decide) (fun c79 => ?_) (fun c79 => ?_)
            · rw [if_neg c79] at hσ
              refine lv_iconst (v := 0) hx hb dX3_gather_86 (by decide) ?_
              refine lv_istore (lv' := [(7, .int 0), (6, .int (sX0_shareByTable S1 x5_30)), (0, .ref h), (1, .ref h1), (2, .int p2), (3, .int p3), (4, .int x4_30), (5, .int x5_30)]) hx hb dX3_gather_87 hl (by decide) rfl (fun ls hl => ?_)
              refine lv_iload hx hb dX3_gather_89 (lv_at hl 0 rfl) ?_
              refine lv_if_eq (tgt := 111) hx hb dX3_gather_91 (by decide) (fun c91 => ?_) (fun c91 => absurd c91 (by decide))
              refine lv_iinc (v := (x5_30 + 1)) (lv' := [(5, .int (x5_30 + 1)), (7, .int 0), (6, .int (sX0_shareByTable S1 x5_30)), (0, .ref h), (1, .ref h1), (2, .int p2), (3, .int p3), (4, .int x4_30)]) hx hb dX3_gather_111 hl (k := 7) rfl rfl (by decide) rfl (fun ls hl => ?_)
              refine lv_goto (tgt := 30) hx hb dX3_gather_114 (by decide) ?_
              exact ih30 x4_30 (x5_30 + 1) Y0_30 (k30 + 1) (up_s e30) (by have := up_lt e30 (show (128 : Int32) = nI 128 from rfl) (by omega) c35; omega) (by omega) hσ _ _ _ hP hD hS (lv_sub hl [3, 4, 5, 6, 7, 0] rfl)
            · rw [if_pos c79] at hσ
              refine lv_iconst (v := 1) hx hb dX3_gather_82 (by decide) ?_
              refine lv_goto (tgt := 87) hx hb dX3_gather_83 (by decide) ?_
              refine lv_istore (lv' := [(7, .int 1), (6, .int (sX0_shareByTable S1 x5_30)), (0, .ref h), (1, .ref h1), (2, .int p2), (3, .int p3), (4, .int x4_30), (5, .int x5_30)]) hx hb dX3_gather_87 hl (by decide) rfl (fun ls hl => ?_)
              refine lv_iload hx hb dX3_gather_89 (lv_at hl 0 rfl) ?_
              refine lv_if_eq (tgt := 111) hx hb dX3_gather_91 (by decide) (fun c91 => absurd c91 (by decide)) (fun c91 => ?_)
              refine lv_aload_n hx hb dX3_gather_94 rfl (lv_at hl 3 rfl) ?_
              refine lv_iload hx hb dX3_gather_95 (lv_at hl 1 rfl) ?_
              refine vq_Vi (As := [.int (sX0_shareByTable S1 x5_30)]) (rest := []) (W2 := (wT cI h hp Y0_30 ++ wL cI h1 hp1 S1)) (f := (bI (sX0_isLawful S1 (sX0_shareByTable S1 x5_30)))) hx hb hml hown hts hK hP hD hS hA hE hl.1 (cX0_isLawful_c l ev dC dI cI cZ cO h1 hp1 S1 (sX0_shareByTable S1 x5_30) hT) gX3_gather_X0_isLawful rfl hdX0_isLawful (Nat.le_of_ble_eq_true rfl) (Nat.le_of_ble_eq_true rfl) rfl rfl (ci := 0) (qr := 2) rfl rfl rfl [2, 3] [0, 1] [0, 1, 2, 3] rfl rfl (by decide) (by decide) (by decide) rfl rfl rfl (Nat.le_of_ble_eq_true rfl) dX3_gather_97 ⟨Nat.zero_le _, Nat.zero_le _⟩ (fun H locs hP hD hS => ?_)
              refine lv_if_eqB (tgt := 111) hx hb dX3_gather_100 (by decide) (fun c100 => ?_) (fun c100 => ?_)
              · rw [if_neg (Bool.eq_false_iff.mp c100)] at hσ
                refine lv_iinc (v := (x5_30 + 1)) (lv' := [(5, .int (x5_30 + 1)), (7, .int 1), (6, .int (sX0_shareByTable S1 x5_30)), (0, .ref h), (1, .ref h1), (2, .int p2), (3, .int p3), (4, .int x4_30)]) hx hb dX3_gather_111 hl (k := 7) rfl rfl (by decide) rfl (fun ls hl => ?_)
                refine lv_goto (tgt := 30) hx hb dX3_gather_114 (by decide) ?_
                exact ih30 x4_30 (x5_30 + 1) Y0_30 (k30 + 1) (up_s e30) (by have := up_lt e30 (show (128 : Int32) = nI 128 from rfl) (by omega) c35; omega) (by omega) hσ _ _ _ hP hD hS (lv_sub hl [3, 4, 5, 6, 7, 0] rfl)
              · rw [if_pos c100] at hσ
                refine lv_aload_n hx hb dX3_gather_103 rfl (lv_at hl 2 rfl) ?_
                refine lv_iload hx hb dX3_gather_104 (lv_at hl 7 rfl) ?_
                refine lv_iload hx hb dX3_gather_106 (lv_at hl 1 rfl) ?_
                refine vq_Vv (As := [.int x5_30, .int (sX0_shareByTable S1 x5_30)]) (rest := []) (W2 := (wT cI h hp (sX3_include Y0_30 x5_30 (sX0_shareByTable S1 x5_30)) ++ wL cI h1 hp1 S1)) hx hb hml hown hts hK hP hD hS hA hE hl.1 (cX3_include_c l ev dC dI cI cZ cO h hp Y0_30 x5_30 (sX0_shareByTable S1 x5_30)) gX3_gather_X3_include rfl hdX3_include (Nat.le_of_ble_eq_true rfl) (Nat.le_of_ble_eq_true rfl) rfl rfl (ci := 3) (qr := 0) rfl rfl rfl [0, 1] [2, 3] [2, 3, 0, 1] rfl rfl (by decide) (by decide) (by decide) rfl rfl rfl (Nat.le_of_ble_eq_true rfl) dX3_gather_108 ⟨Nat.zero_le _, Nat.zero_le _⟩ (fun H locs hP hD hS => ?_)
                refine lv_iinc (v := (x5_30 + 1)) (lv' := [(5, .int (x5_30 + 1)), (7, .int 1), (6, .int (sX0_shareByTable S1 x5_30)), (0, .ref h), (1, .ref h1), (2, .int p2), (3, .int p3), (4, .int x4_30)]) hx hb dX3_gather_111 hl (k := 7) rfl rfl (by decide) rfl (fun ls hl => ?_)
                refine lv_goto (tgt := 30) hx hb dX3_gather_114 (by decide) ?_
                exact ih30 x4_30 (x5_30 + 1) (sX3_include Y0_30 x5_30 (sX0_shareByTable S1 x5_30)) (k30 + 1) (up_s e30) (by have := up_lt e30 (show (128 : Int32) = nI 128 from rfl) (by omega) c35; omega) (by omega) hσ _ _ _ hP hD hS (lv_sub hl [3, 4, 5, 6, 7, 0] rfl)
        · rw [if_neg c43] at hσ
          refine lv_goto (tgt := 111) hx hb dX3_gather_46 (by decide) ?_
          refine lv_iinc (v := (x5_30 + 1)) (lv' := [(5, .int (x5_30 + 1)), (0, .ref h), (1, .ref h1), (2, .int p2), (3, .int p3), (4, .int x4_30)]) hx hb dX3_gather_111 hl (k := 5) rfl rfl (by decide) rfl (fun ls hl => ?_)
          refine lv_goto (tgt := 30) hx hb dX3_gather_114 (by decide) ?_
          exact ih30 x4_30 (x5_30 + 1) Y0_30 (k30 + 1) (up_s e30) (by have := up_lt e30 (show (128 : Int32) = nI 128 from rfl) (by omega) c35; omega) (by omega) hσ _ _ _ hP hD hS (lv_sub hl [1, 2, 3, 4, 5, 0] rfl)
  exact key30 129 ((sX0_pitchesUsed S1) ^^^ (-1)) (0 : Int32) ((upd (upd S.1 0 0) 1 (-9)), (sJ7_fill_53178 12 S.2 (0 : Int32))) 0 nI_0.symm (Nat.zero_le _) (Nat.le_refl _) hσ _ _ _ hP hD hS (lv_sub hl [2, 3, 4, 5, 1, 0] rfl)
