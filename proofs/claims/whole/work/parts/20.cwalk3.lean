theorem hdX4_letterAt : yX4_letterAt.cls = RX4 ∧ yX4_letterAt.cls ≠ "java/lang/invoke/MethodHandle" ∧ yX4_letterAt.cls ≠ "java/lang/invoke/VarHandle" ∧ (parseMethodDescriptor yX4_letterAt.desc).map (fun d => d.parameters.length) = some 1 := by decide +kernel
set_option maxHeartbeats 4000000 in
set_option maxRecDepth 100000 in
theorem cX4_letterAt_c (l : Launch) (ev : Nat → Nat) (dC : Nat → ClassId) (dI : Nat → Nat → Nat) (cI cZ cO : ClassId) (h : Nat) (hp : Nat) (hq : Nat) (S : LSt) (p1 : Int32) (hN : ∃ n : Nat, S.1 0 = nI n ∧ n ≤ 120) : MetI l ev (dC, dI) (tyC cI cZ cO) yX4_letterAt wsX4_letterAt (rmF 0 0) [.ref h, .int p1] (wX cI h hp hq S) (sX4_letterAt S p1) (wX cI h hp hq S) := by
  refine MetI_of (cc := cX4_letterAt) (maxL := 2) (ret := (some .int)) (by decide) rfl (Nat.le_of_ble_eq_true rfl) ?_
  intro p e s m below meth c A ls hx hb hr hml hts hown hlocks hin hK hP hD hA hE hl
  have hown : s.vm.findClass RX4 = some m.cls := hown
  have hl : lv_has ls 2 [(0, .ref h), (1, .int p1)] := hl
  have hS : va_S A s.heap s.heap [] := va_S.rf
  obtain ⟨σ, hσ⟩ : ∃ σ, (sX4_letterAt S p1) = σ := ⟨_, rfl⟩
  rw [hσ]
  rw [sX4_letterAt] at hσ
  refine lv_iload_n hx hb dX4_letterAt_0 rfl (lv_at hl 1 rfl) ?_
  refine lv_if_lt (tgt := 21) hx hb dX4_letterAt_1 (by decide) (fun c1 => ?_) (fun c1 => ?_)
  · rw [if_pos c1] at hσ
    refine lv_bipush (v := (-9)) hx hb dX4_letterAt_21 (by decide) ?_
    subst hσ
    exact vq_iret hx hb hr hlocks hK hP hD hS rfl dX4_letterAt_23
  · rw [if_neg c1] at hσ
    refine lv_iload_n hx hb dX4_letterAt_4 rfl (lv_at hl 1 rfl) ?_
    refine lv_aload_n hx hb dX4_letterAt_5 rfl (lv_at hl 0 rfl) ?_
    refine va_get (D := (dC, dI)) (ci := 4) (v := .int (S.1 0)) (C := RX4) (T := TX4) (N := 8) hx hb hts (fun _ h => List.mem_cons_of_mem _ (List.mem_append_right _ h)) hown hK hP 0 rfl rfl 1 (by decide) (hts (.fieldLink RX4 22 "SharedLine$Text" "length" "I") (List.mem_of_getElem? (i := 1) rfl)) (fun _ h9 => h9) rfl dX4_letterAt_6 ?_
    refine lv_icmp_ge (tgt := 21) hx hb dX4_letterAt_9 (by decide) (fun c9 => ?_) (fun c9 => ?_)
    · rw [if_pos c9] at hσ
      refine lv_bipush (v := (-9)) hx hb dX4_letterAt_21 (by decide) ?_
      subst hσ
      exact vq_iret hx hb hr hlocks hK hP hD hS rfl dX4_letterAt_23
    · rw [if_neg c9] at hσ
      refine lv_aload_n hx hb dX4_letterAt_12 rfl (lv_at hl 0 rfl) ?_
      refine va_get (D := (dC, dI)) (ci := 4) (v := .ref hp) (C := RX4) (T := TX4) (N := 8) hx hb hts (fun _ h => List.mem_cons_of_mem _ (List.mem_append_right _ h)) hown hK hP 0 rfl rfl 2 (by decide) (hts (.fieldLink RX4 18 "SharedLine$Text" "letters" "[I") (List.mem_of_getElem? (i := 2) rfl)) (fun _ h9 => h9) rfl dX4_letterAt_13 ?_
      refine lv_iload_n hx hb dX4_letterAt_16 rfl (lv_at hl 1 rfl) ?_
      refine va_iald hx hb hK hP 1 0 rfl rfl (i := p1) (let_ix hN c1 c9) dX4_letterAt_17 ?_
      refine lv_goto (tgt := 23) hx hb dX4_letterAt_18 (by decide) ?_
      subst hσ
      exact vq_iret hx hb hr hlocks hK hP hD hS rfl dX4_letterAt_23
theorem hdX4_kindAt : yX4_kindAt.cls = RX4 ∧ yX4_kindAt.cls ≠ "java/lang/invoke/MethodHandle" ∧ yX4_kindAt.cls ≠ "java/lang/invoke/VarHandle" ∧ (parseMethodDescriptor yX4_kindAt.desc).map (fun d => d.parameters.length) = some 1 := by decide +kernel
set_option maxHeartbeats 4000000 in
set_option maxRecDepth 100000 in
theorem cX4_kindAt_c (l : Launch) (ev : Nat → Nat) (dC : Nat → ClassId) (dI : Nat → Nat → Nat) (cI cZ cO : ClassId) (h : Nat) (hp : Nat) (hq : Nat) (S : LSt) (p1 : Int32) (hN : ∃ n : Nat, S.1 0 = nI n ∧ n ≤ 120) : MetI l ev (dC, dI) (tyC cI cZ cO) yX4_kindAt wsX4_kindAt (rmF 1 21) [.ref h, .int p1] (wX cI h hp hq S) (sX4_kindAt S p1) (wX cI h hp hq S) := by
  refine MetI_of (cc := cX4_kindAt) (maxL := 3) (ret := (some .int)) (by decide) rfl (Nat.le_of_ble_eq_true rfl) ?_
  intro p e s m below meth c A ls hx hb hr hml hts hown hlocks hin hK hP hD hA hE hl
  have hown : s.vm.findClass RX4 = some m.cls := hown
  have hl : lv_has ls 3 [(0, .ref h), (1, .int p1)] := hl
  have hS : va_S A s.heap s.heap [] := va_S.rf
  obtain ⟨σ, hσ⟩ : ∃ σ, (sX4_kindAt S p1) = σ := ⟨_, rfl⟩
  rw [hσ]
  rw [sX4_kindAt] at hσ
  refine lv_aload_n hx hb dX4_kindAt_0 rfl (lv_at hl 0 rfl) ?_
  refine lv_iload_n hx hb dX4_kindAt_1 rfl (lv_at hl 1 rfl) ?_
  refine vq_Vi (As := [.int p1]) (rest := []) (W2 := (wX cI h hp hq S)) (f := (sX4_letterAt S p1)) hx hb hml hown hts hK hP hD hS hA hE hl.1 (cX4_letterAt_c l ev dC dI cI cZ cO h hp hq S p1 hN) gX4_kindAt_X4_letterAt rfl hdX4_letterAt (Nat.le_of_ble_eq_true rfl) (Nat.le_of_ble_eq_true rfl) rfl rfl (ci := 4) (qr := 0) rfl rfl rfl [0, 1] [] [0, 1] rfl rfl (by decide) (by decide) (by decide) rfl rfl rfl (Nat.le_of_ble_eq_true rfl) dX4_kindAt_2 ⟨Nat.zero_le _, Nat.zero_le _⟩ (fun H locs hP hD hS => ?_)
  refine lv_istore_n (lv' := [(2, .int (sX4_letterAt S p1)), (0, .ref h), (1, .int p1)]) hx hb dX4_kindAt_5 rfl hl (by decide) rfl (fun ls hl => ?_)
  refine lv_iload_n hx hb dX4_kindAt_6 rfl (lv_at hl 0 rfl) ?_
  refine lv_bipush (v := (-9)) hx hb dX4_kindAt_7 (by decide) ?_
  refine lv_icmp_ne (tgt := 14) hx hb dX4_kindAt_9 (by decide) (fun c9 => ?_) (fun c9 => ?_)
  · rw [if_neg c9] at hσ
    refine lv_iload_n hx hb dX4_kindAt_14 rfl (lv_at hl 0 rfl) ?_
    refine lv_bipush (v := 97) hx hb dX4_kindAt_15 (by decide) ?_
    refine lv_icmp_lt (tgt := 28) hx hb dX4_kindAt_17 (by decide) (fun c17 => ?_) (fun c17 => ?_)
    · rw [if_pos c17] at hσ
      refine lv_iload_n hx hb dX4_kindAt_28 rfl (lv_at hl 0 rfl) ?_
      refine lv_bipush (v := 48) hx hb dX4_kindAt_29 (by decide) ?_
      refine lv_icmp_lt (tgt := 42) hx hb dX4_kindAt_31 (by decide) (fun c31 => ?_) (fun c31 => ?_)
      · rw [if_pos c31] at hσ
        refine lv_iload_n hx hb dX4_kindAt_42 rfl (lv_at hl 0 rfl) ?_
        refine lv_bipush (v := 59) hx hb dX4_kindAt_43 (by decide) ?_
        refine lv_icmp_ne (tgt := 50) hx hb dX4_kindAt_45 (by decide) (fun c45 => ?_) (fun c45 => ?_)
        · rw [if_neg c45] at hσ
          refine lv_iload_n hx hb dX4_kindAt_50 rfl (lv_at hl 0 rfl) ?_
          refine lv_bipush (v := 32) hx hb dX4_kindAt_51 (by decide) ?_
          refine lv_icmp_ne (tgt := 60) hx hb dX4_kindAt_53 (by decide) (fun c53 => ?_) (fun c53 => ?_)
          · rw [if_neg c53] at hσ
            refine lv_iconst (v := 5) hx hb dX4_kindAt_60 (by decide) ?_
            subst hσ
            exact vq_iret hx hb hr hlocks hK hP hD hS rfl dX4_kindAt_61
          · rw [if_pos c53] at hσ
            refine lv_iconst (v := 4) hx hb dX4_kindAt_56 (by decide) ?_
            refine lv_goto (tgt := 61) hx hb dX4_kindAt_57 (by decide) ?_
            subst hσ
            exact vq_iret hx hb hr hlocks hK hP hD hS rfl dX4_kindAt_61
        · rw [if_pos c45] at hσ
          refine lv_iconst (v := 3) hx hb dX4_kindAt_48 (by decide) ?_
          subst hσ
          exact vq_iret hx hb hr hlocks hK hP hD hS rfl dX4_kindAt_49
      · rw [if_neg c31] at hσ
        refine lv_iload_n hx hb dX4_kindAt_34 rfl (lv_at hl 0 rfl) ?_
        refine lv_bipush (v := 57) hx hb dX4_kindAt_35 (by decide) ?_
        refine lv_icmp_gt (tgt := 42) hx hb dX4_kindAt_37 (by decide) (fun c37 => ?_) (fun c37 => ?_)
        · rw [if_pos c37] at hσ
          refine lv_iload_n hx hb dX4_kindAt_42 rfl (lv_at hl 0 rfl) ?_
          refine lv_bipush (v := 59) hx hb dX4_kindAt_43 (by decide) ?_
          refine lv_icmp_ne (tgt := 50) hx hb dX4_kindAt_45 (by decide) (fun c45 => ?_) (fun c45 => ?_)
          · rw [if_neg c45] at hσ
            refine lv_iload_n hx hb dX4_kindAt_50 rfl (lv_at hl 0 rfl) ?_
            refine lv_bipush (v := 32) hx hb dX4_kindAt_51 (by decide) ?_
            refine lv_icmp_ne (tgt := 60) hx hb dX4_kindAt_53 (by decide) (fun c53 => ?_) (fun c53 => ?_)
            · rw [if_neg c53] at hσ
              refine lv_iconst (v := 5) hx hb dX4_kindAt_60 (by decide) ?_
              subst hσ
              exact vq_iret hx hb hr hlocks hK hP hD hS rfl dX4_kindAt_61
            · rw [if_pos c53] at hσ
              refine lv_iconst (v := 4) hx hb dX4_kindAt_56 (by decide) ?_
              refine lv_goto (tgt := 61) hx hb dX4_kindAt_57 (by decide) ?_
              subst hσ
              exact vq_iret hx hb hr hlocks hK hP hD hS rfl dX4_kindAt_61
          · rw [if_pos c45] at hσ
            refine lv_iconst (v := 3) hx hb dX4_kindAt_48 (by decide) ?_
            subst hσ
            exact vq_iret hx hb hr hlocks hK hP hD hS rfl dX4_kindAt_49
        · rw [if_neg c37] at hσ
          refine lv_iconst (v := 2) hx hb dX4_kindAt_40 (by decide) ?_
          subst hσ
          exact vq_iret hx hb hr hlocks hK hP hD hS rfl dX4_kindAt_41
    · rw [if_neg c17] at hσ
      refine lv_iload_n hx hb dX4_kindAt_20 rfl (lv_at hl 0 rfl) ?_
      refine lv_bipush (v := 122) hx hb dX4_kindAt_21 (by decide) ?_
      refine lv_icmp_gt (tgt := 28) hx hb dX4_kindAt_23 (by decide) (fun c23 => ?_) (fun c23 => ?_)
      · rw [if_pos c23] at hσ
        refine lv_iload_n hx hb dX4_kindAt_28 rfl (lv_at hl 0 rfl) ?_
        refine lv_bipush (v := 48) hx hb dX4_kindAt_29 (by decide) ?_
        refine lv_icmp_lt (tgt := 42) hx hb dX4_kindAt_31 (by decide) (fun c31 => ?_) (fun c31 => ?_)
        · rw [if_pos c31] at hσ
          refine lv_iload_n hx hb dX4_kindAt_42 rfl (lv_at hl 0 rfl) ?_
          refine lv_bipush (v := 59) hx hb dX4_kindAt_43 (by decide) ?_
          refine lv_icmp_ne (tgt := 50) hx hb dX4_kindAt_45 (by decide) (fun c45 => ?_) (fun c45 => ?_)
          · rw [if_neg c45] at hσ
            refine lv_iload_n hx hb dX4_kindAt_50 rfl (lv_at hl 0 rfl) ?_
            refine lv_bipush (v := 32) hx hb dX4_kindAt_51 (by decide) ?_
            refine lv_icmp_ne (tgt := 60) hx hb dX4_kindAt_53 (by decide) (fun c53 => ?_) (fun c53 => ?_)
            · rw [if_neg c53] at hσ
              refine lv_iconst (v := 5) hx hb dX4_kindAt_60 (by decide) ?_
              subst hσ
              exact vq_iret hx hb hr hlocks hK hP hD hS rfl dX4_kindAt_61
            · rw [if_pos c53] at hσ
              refine lv_iconst (v := 4) hx hb dX4_kindAt_56 (by decide) ?_
              refine lv_goto (tgt := 61) hx hb dX4_kindAt_57 (by decide) ?_
              subst hσ
              exact vq_iret hx hb hr hlocks hK hP hD hS rfl dX4_kindAt_61
          · rw [if_pos c45] at hσ
            refine lv_iconst (v := 3) hx hb dX4_kindAt_48 (by decide) ?_
            subst hσ
            exact vq_iret hx hb hr hlocks hK hP hD hS rfl dX4_kindAt_49
        · rw [if_neg c31] at hσ
          refine lv_iload_n hx hb dX4_kindAt_34 rfl (lv_at hl 0 rfl) ?_
          refine lv_bipush (v := 57) hx hb dX4_kindAt_35 (by decide) ?_
          refine lv_icmp_gt (tgt := 42) hx hb dX4_kindAt_37 (by decide) (fun c37 => ?_) (fun c37 => ?_)
          · rw [if_pos c37] at hσ
            refine lv_iload_n hx hb dX4_kindAt_42 rfl (lv_at hl 0 rfl) ?_
            refine lv_bipush (v := 59) hx hb dX4_kindAt_43 (by decide) ?_
            refine lv_icmp_ne (tgt := 50) hx hb dX4_kindAt_45 (by decide) (fun c45 => ?_) (fun c45 => ?_)
            · rw [if_neg c45] at hσ
              refine lv_iload_n hx hb dX4_kindAt_50 rfl (lv_at hl 0 rfl) ?_
              refine lv_bipush (v := 32) hx hb dX4_kindAt_51 (by decide) ?_
              refine lv_icmp_ne (tgt := 60) hx hb dX4_kindAt_53 (by decide) (fun c53 => ?_) (fun c53 => ?_)
              · rw [if_neg c53] at hσ
                refine lv_iconst (v := 5) hx hb dX4_kindAt_60 (by decide) ?_
                subst hσ
                exact vq_iret hx hb hr hlocks hK hP hD hS rfl dX4_kindAt_61
              · rw [if_pos c53] at hσ
                refine lv_iconst (v := 4) hx hb dX4_kindAt_56 (by decide) ?_
                refine lv_goto (tgt := 61) hx hb dX4_kindAt_57 (by decide) ?_
                subst hσ
                exact vq_iret hx hb hr hlocks hK hP hD hS rfl dX4_kindAt_61
            · rw [if_pos c45] at hσ
              refine lv_iconst (v := 3) hx hb dX4_kindAt_48 (by decide) ?_
              subst hσ
              exact vq_iret hx hb hr hlocks hK hP hD hS rfl dX4_kindAt_49
          · rw [if_neg c37] at hσ
            refine lv_iconst (v := 2) hx hb dX4_kindAt_40 (by decide) ?_
            subst hσ
            exact vq_iret hx hb hr hlocks hK hP hD hS rfl dX4_kindAt_41
      · rw [if_neg c23] at hσ
        refine lv_iconst (v := 1) hx hb dX4_kindAt_26 (by decide) ?_
        subst hσ
        exact vq_iret hx hb hr hlocks hK hP hD hS rfl dX4_kindAt_27
  · rw [if_pos c9] at hσ
    refine lv_iconst (v := 0) hx hb dX4_kindAt_12 (by decide) ?_
    subst hσ
    exact vq_iret hx hb hr hlocks hK hP hD hS rfl dX4_kindAt_13
theorem hdX4_figureAt : yX4_figureAt.cls = RX4 ∧ yX4_figureAt.cls ≠ "java/lang/invoke/MethodHandle" ∧ yX4_figureAt.cls ≠ "java/lang/invoke/VarHandle" ∧ (parseMethodDescriptor yX4_figureAt.desc).map (fun d => d.parameters.length) = some 1 := by decide +kernel
set_option maxHeartbeats 4000000 in
set_option maxRecDepth 100000 in
theorem cX4_figureAt_c (l : Launch) (ev : Nat → Nat) (dC : Nat → ClassId) (dI : Nat → Nat → Nat) (cI cZ cO : ClassId) (h : Nat) (hp : Nat) (hq : Nat) (S : LSt) (p1 : Int32) (hN : ∃ n : Nat, S.1 0 = nI n ∧ n ≤ 120) : MetI l ev (dC, dI) (tyC cI cZ cO) yX4_figureAt wsX4_figureAt (rmF 1 21) [.ref h, .int p1] (wX cI h hp hq S) (sX4_figureAt S p1) (wX cI h hp hq S) := by
  refine MetI_of (cc := cX4_figureAt) (maxL := 2) (ret := (some .int)) (by decide) rfl (Nat.le_of_ble_eq_true rfl) ?_
  intro p e s m below meth c A ls hx hb hr hml hts hown hlocks hin hK hP hD hA hE hl
  have hown : s.vm.findClass RX4 = some m.cls := hown
  have hl : lv_has ls 2 [(0, .ref h), (1, .int p1)] := hl
  have hS : va_S A s.heap s.heap [] := va_S.rf
  obtain ⟨σ, hσ⟩ : ∃ σ, (sX4_figureAt S p1) = σ := ⟨_, rfl⟩
  rw [hσ]
  rw [sX4_figureAt] at hσ
  refine lv_aload_n hx hb dX4_figureAt_0 rfl (lv_at hl 0 rfl) ?_
  refine lv_iload_n hx hb dX4_figureAt_1 rfl (lv_at hl 1 rfl) ?_
  refine vq_Vi (As := [.int p1]) (rest := []) (W2 := (wX cI h hp hq S)) (f := (sX4_letterAt S p1)) hx hb hml hown hts hK hP hD hS hA hE hl.1 (cX4_letterAt_c l ev dC dI cI cZ cO h hp hq S p1 hN) gX4_figureAt_X4_letterAt rfl hdX4_letterAt (Nat.le_of_ble_eq_true rfl) (Nat.le_of_ble_eq_true rfl) rfl rfl (ci := 4) (qr := 0) rfl rfl rfl [0, 1] [] [0, 1] rfl rfl (by decide) (by decide) (by decide) rfl rfl rfl (Nat.le_of_ble_eq_true rfl) dX4_figureAt_2 ⟨Nat.zero_le _, Nat.zero_le _⟩ (fun H locs hP hD hS => ?_)
  refine lv_bipush (v := 48) hx hb dX4_figureAt_5 (by decide) ?_
  refine lv_isub hx hb dX4_figureAt_7 ?_
  subst hσ
  exact vq_iret hx hb hr hlocks hK hP hD hS rfl dX4_figureAt_8
theorem hdX4_add : yX4_add.cls = RX4 ∧ yX4_add.cls ≠ "java/lang/invoke/MethodHandle" ∧ yX4_add.cls ≠ "java/lang/invoke/VarHandle" ∧ (parseMethodDescriptor yX4_add.desc).map (fun d => d.parameters.length) = some 1 := by decide +kernel
set_option maxHeartbeats 4000000 in
set_option maxRecDepth 100000 in
theorem cX4_add_c (l : Launch) (ev : Nat → Nat) (dC : Nat → ClassId) (dI : Nat → Nat → Nat) (cI cZ cO : ClassId) (h : Nat) (hp : Nat) (hq : Nat) (S : LSt) (p1 : Int32) (hN : ∃ n : Nat, S.1 0 = nI n ∧ n ≤ 120) : MetI l ev (dC, dI) (tyC cI cZ cO) yX4_add wsX4_add (rmF 0 0) [.ref h, .int p1] (wX cI h hp hq S) (bI (sX4_add S p1).1) (wX cI h hp hq (sX4_add S p1).2) := by
  refine MetI_of (cc := cX4_add) (maxL := 2) (ret := (some .boolean)) (by decide) rfl (Nat.le_of_ble_eq_true rfl) ?_
  intro p e s m below meth c A ls hx hb hr hml hts hown hlocks hin hK hP hD hA hE hl
  have hown : s.vm.findClass RX4 = some m.cls := hown
  have hl : lv_has ls 2 [(0, .ref h), (1, .int p1)] := hl
  have hS : va_S A s.heap s.heap [] := va_S.rf
  obtain ⟨σ, hσ⟩ : ∃ σ, (sX4_add S p1) = σ := ⟨_, rfl⟩
  rw [hσ]
  rw [sX4_add] at hσ
  refine lv_aload_n hx hb dX4_add_0 rfl (lv_at hl 0 rfl) ?_
  refine va_get (D := (dC, dI)) (ci := 4) (v := .int (S.1 0)) (C := RX4) (T := TX4) (N := 8) hx hb hts (fun _ h => List.mem_cons_of_mem _ (List.mem_append_right _ h)) hown hK hP 0 rfl rfl 1 (by decide) (hts (.fieldLink RX4 22 "SharedLine$Text" "length" "I") (List.mem_of_getElem? (i := 1) rfl)) (fun _ h9 => h9) rfl dX4_add_1 ?_
  refine lv_bipush (v := 120) hx hb dX4_add_4 (by decide) ?_
  refine lv_icmp_lt (tgt := 11) hx hb dX4_add_6 (by decide) (fun c6 => ?_) (fun c6 => ?_)
  · rw [if_pos c6] at hσ
    refine lv_aload_n hx hb dX4_add_11 rfl (lv_at hl 0 rfl) ?_
    refine va_get (D := (dC, dI)) (ci := 4) (v := .ref hp) (C := RX4) (T := TX4) (N := 8) hx hb hts (fun _ h => List.mem_cons_of_mem _ (List.mem_append_right _ h)) hown hK hP 0 rfl rfl 2 (by decide) (hts (.fieldLink RX4 18 "SharedLine$Text" "letters" "[I") (List.mem_of_getElem? (i := 2) rfl)) (fun _ h9 => h9) rfl dX4_add_12 ?_
    refine lv_aload_n hx hb dX4_add_15 rfl (lv_at hl 0 rfl) ?_
    refine va_get (D := (dC, dI)) (ci := 4) (v := .int (S.1 0)) (C := RX4) (T := TX4) (N := 8) hx hb hts (fun _ h => List.mem_cons_of_mem _ (List.mem_append_right _ h)) hown hK hP 0 rfl rfl 1 (by decide) (hts (.fieldLink RX4 22 "SharedLine$Text" "length" "I") (List.mem_of_getElem? (i := 1) rfl)) (fun _ h9 => h9) rfl dX4_add_16 ?_
    refine lv_iload_n hx hb dX4_add_19 rfl (lv_at hl 1 rfl) ?_
    refine va_iast hx hb hK hP hD hS 1 0 rfl rfl (i := (S.1 0)) (add_ix hN c6) dX4_add_20 (fun H locs hP hD hS => ?_)
    have hP : va_P (dC, dI) vwCl (wX cI h hp hq (S.1, (upd S.2 ((S.1 0)).toNatClampNeg p1))) H := hP
    have hD : va_D A (wX cI h hp hq (S.1, (upd S.2 ((S.1 0)).toNatClampNeg p1))) := hD
    refine lv_aload_n hx hb dX4_add_21 rfl (lv_at hl 0 rfl) ?_
    refine lv_dup hx hb dX4_add_22 rfl ?_
    refine va_get (D := (dC, dI)) (ci := 4) (v := .int (S.1 0)) (C := RX4) (T := TX4) (N := 8) hx hb hts (fun _ h => List.mem_cons_of_mem _ (List.mem_append_right _ h)) hown hK hP 0 rfl rfl 1 (by decide) (hts (.fieldLink RX4 22 "SharedLine$Text" "length" "I") (List.mem_of_getElem? (i := 1) rfl)) (fun _ h9 => h9) rfl dX4_add_23 ?_
    refine lv_iconst (v := 1) hx hb dX4_add_26 (by decide) ?_
    refine lv_iadd hx hb dX4_add_27 ?_
    refine va_put (D := (dC, dI)) (ci := 4) (v := .int ((S.1 0) + 1)) (ty := .int) (C := RX4) (T := TX4) (N := 8) hx hb hts (fun _ h => List.mem_cons_of_mem _ (List.mem_append_right _ h)) tyX4 tyX4_ok nmX4 hown hK hP hD hS 0 rfl rfl 1 (by decide) (hts (.fieldLink RX4 22 "SharedLine$Text" "length" "I") (List.mem_of_getElem? (i := 1) rfl)) (fun _ h9 => h9) rfl (tyX4_ok 1 (by decide)) rfl rfl (Nat.le_of_ble_eq_true rfl) dX4_add_28 (fun H locs hP hD hS => ?_)
    have hP : va_P (dC, dI) vwCl (wX cI h hp hq ((upd S.1 0 ((S.1 0) + 1)), (upd S.2 ((S.1 0)).toNatClampNeg p1))) H := hP
    have hD : va_D A (wX cI h hp hq ((upd S.1 0 ((S.1 0) + 1)), (upd S.2 ((S.1 0)).toNatClampNeg p1))) := hD
    refine lv_iconst (v := 1) hx hb dX4_add_31 (by decide) ?_
    subst hσ
    exact vq_zret hx hb hr hlocks hK hP hD hS rfl rfl dX4_add_32
  · rw [if_neg c6] at hσ
    refine lv_iconst (v := 0) hx hb dX4_add_9 (by decide) ?_
    subst hσ
    exact vq_zret hx hb hr hlocks hK hP hD hS rfl rfl dX4_add_10
theorem hdX4_mayBegin : yX4_mayBegin.cls = RX4 ∧ yX4_mayBegin.cls ≠ "java/lang/invoke/MethodHandle" ∧ yX4_mayBegin.cls ≠ "java/lang/invoke/VarHandle" ∧ (parseMethodDescriptor yX4_mayBegin.desc).map (fun d => d.parameters.length) = some 1 := by decide +kernel
set_option maxHeartbeats 4000000 in
set_option maxRecDepth 100000 in
theorem cX4_mayBegin_c (l : Launch) (ev : Nat → Nat) (dC : Nat → ClassId) (dI : Nat → Nat → Nat) (cI cZ cO : ClassId) (h : Nat) (hp : Nat) (hq : Nat) (S : LSt) (p1 : Int32) : MetI l ev (dC, dI) (tyC cI cZ cO) yX4_mayBegin wsX4_mayBegin (rmF 0 0) [.ref h, .int p1] (wX cI h hp hq S) (bI (sX4_mayBegin S p1)) (wX cI h hp hq S) := by
  refine MetI_of (cc := cX4_mayBegin) (maxL := 2) (ret := (some .boolean)) (by decide) rfl (Nat.le_of_ble_eq_true rfl) ?_
  intro p e s m below meth c A ls hx hb hr hml hts hown hlocks hin hK hP hD hA hE hl
  have hown : s.vm.findClass RX4 = some m.cls := hown
  have hl : lv_has ls 2 [(0, .ref h), (1, .int p1)] := hl
  have hS : va_S A s.heap s.heap [] := va_S.rf
  obtain ⟨σ, hσ⟩ : ∃ σ, (sX4_mayBegin S p1) = σ := ⟨_, rfl⟩
  rw [hσ]
  rw [sX4_mayBegin] at hσ
  refine lv_iload_n hx hb dX4_mayBegin_0 rfl (lv_at hl 1 rfl) ?_
  by_cases c1_0 : p1 = (-9)
  · rw [if_pos c1_0] at hσ
    refine lv_lookup (x := p1) (off := 35) (tgt := 36) hx hb dX4_mayBegin_1 (by decide) (by rw [c1_0]; decide) (by decide) ?_
    refine lv_iconst (v := 0) hx hb dX4_mayBegin_36 (by decide) ?_
    subst hσ
    exact vq_zret hx hb hr hlocks hK hP hD hS rfl rfl dX4_mayBegin_37
  · rw [if_neg c1_0] at hσ
    by_cases c1_1 : p1 = 3
    · rw [if_pos c1_1] at hσ
      refine lv_lookup (x := p1) (off := 37) (tgt := 38) hx hb dX4_mayBegin_1 (by decide) (by rw [c1_1]; decide) (by decide) ?_
      refine lv_aload_n hx hb dX4_mayBegin_38 rfl (lv_at hl 0 rfl) ?_
      refine va_get (D := (dC, dI)) (ci := 4) (v := .int (S.1 1)) (C := RX4) (T := TX4) (N := 8) hx hb hts (fun _ h => List.mem_cons_of_mem _ (List.mem_append_right _ h)) hown hK hP 0 rfl rfl 3 (by decide) (hts (.fieldLink RX4 29 "SharedLine$Text" "lineTold" "Z") (List.mem_of_getElem? (i := 1) rfl)) (fun _ h9 => h9) rfl dX4_mayBegin_39 ?_
      refine lv_if_ne (tgt := 49) hx hb dX4_mayBegin_42 (by decide) (fun c42 => ?_) (fun c42 => ?_)
      · rw [if_neg c42] at hσ
        refine lv_iconst (v := 0) hx hb dX4_mayBegin_49 (by decide) ?_
        subst hσ
        exact vq_zret hx hb hr hlocks hK hP hD hS rfl rfl dX4_mayBegin_50
      · rw [if_pos c42] at hσ
        refine lv_iconst (v := 1) hx hb dX4_mayBegin_45 (by decide) ?_
        refine lv_goto (tgt := 50) hx hb dX4_mayBegin_46 (by decide) ?_
        subst hσ
        exact vq_zret hx hb hr hlocks hK hP hD hS rfl rfl dX4_mayBegin_50
    · rw [if_neg c1_1] at hσ
      by_cases c1_2 : p1 = 4
      · rw [if_pos c1_2] at hσ
        refine lv_lookup (x := p1) (off := 50) (tgt := 51) hx hb dX4_mayBegin_1 (by decide) (by rw [c1_2]; decide) (by decide) ?_
        refine lv_aload_n hx hb dX4_mayBegin_51 rfl (lv_at hl 0 rfl) ?_
        refine va_get (D := (dC, dI)) (ci := 4) (v := .int (S.1 1)) (C := RX4) (T := TX4) (N := 8) hx hb hts (fun _ h => List.mem_cons_of_mem _ (List.mem_append_right _ h)) hown hK hP 0 rfl rfl 3 (by decide) (hts (.fieldLink RX4 29 "SharedLine$Text" "lineTold" "Z") (List.mem_of_getElem? (i := 1) rfl)) (fun _ h9 => h9) rfl dX4_mayBegin_52 ?_
        refine lv_if_eq (tgt := 69) hx hb dX4_mayBegin_55 (by decide) (fun c55 => ?_) (fun c55 => ?_)
        · rw [if_pos c55] at hσ
          refine lv_iconst (v := 0) hx hb dX4_mayBegin_69 (by decide) ?_
          subst hσ
          exact vq_zret hx hb hr hlocks hK hP hD hS rfl rfl dX4_mayBegin_70
        · rw [if_neg c55] at hσ
          refine lv_aload_n hx hb dX4_mayBegin_58 rfl (lv_at hl 0 rfl) ?_
          refine va_get (D := (dC, dI)) (ci := 4) (v := .int (S.1 2)) (C := RX4) (T := TX4) (N := 8) hx hb hts (fun _ h => List.mem_cons_of_mem _ (List.mem_append_right _ h)) hown hK hP 0 rfl rfl 4 (by decide) (hts (.fieldLink RX4 33 "SharedLine$Text" "handsTold" "Z") (List.mem_of_getElem? (i := 2) rfl)) (fun _ h9 => h9) rfl dX4_mayBegin_59 ?_
          refine lv_if_ne (tgt := 69) hx hb dX4_mayBegin_62 (by decide) (fun c62 => ?_) (fun c62 => ?_)
          · rw [if_neg c62] at hσ
            refine lv_iconst (v := 0) hx hb dX4_mayBegin_69 (by decide) ?_
            subst hσ
            exact vq_zret hx hb hr hlocks hK hP hD hS rfl rfl dX4_mayBegin_70
          · rw [if_pos c62] at hσ
            refine lv_iconst (v := 1) hx hb dX4_mayBegin_65 (by decide) ?_
            refine lv_goto (tgt := 70) hx hb dX4_mayBegin_66 (by decide) ?_
            subst hσ
            exact vq_zret hx hb hr hlocks hK hP hD hS rfl rfl dX4_mayBegin_70
      · rw [if_neg c1_2] at hσ
        refine lv_lookup (x := p1) (off := 70) (tgt := 71) hx hb dX4_mayBegin_1 (by decide) (by rw [show (#[(-9, 35), (3, 37), (4, 50)] : Array (Int × Int)).toList = [(-9, 35), (3, 37), (4, 50)] from rfl, lv_osw c1_0 (by decide), lv_osw c1_1 (by decide), lv_osw c1_2 (by decide)]; rfl) (by decide) ?_
        refine lv_iconst (v := 1) hx hb dX4_mayBegin_71 (by decide) ?_
        subst hσ
        exact vq_zret hx hb hr hlocks hK hP hD hS rfl rfl dX4_mayBegin_72
theorem hdX4_isWord : yX4_isWord.cls = RX4 ∧ yX4_isWord.cls ≠ "java/lang/invoke/MethodHandle" ∧ yX4_isWord.cls ≠ "java/lang/invoke/VarHandle" ∧ (parseMethodDescriptor yX4_isWord.desc).map (fun d => d.parameters.length) = some 1 := by decide +kernel
set_option maxHeartbeats 4000000 in
set_option maxRecDepth 100000 in
theorem cX4_isWord_c (l : Launch) (ev : Nat → Nat) (dC : Nat → ClassId) (dI : Nat → Nat → Nat) (cI cZ cO : ClassId) (h : Nat) (hp : Nat) (hq : Nat) (S : LSt) (i : Nat) (hi : i < 5) (hN : ∃ n : Nat, S.1 0 = nI n ∧ n ≤ 120) : MetI l ev (dC, dI) (tyC cI cZ cO) yX4_isWord wsX4_isWord (rmF 4 85) [.ref h, .ref (ev (10 + i))] (wX cI h hp hq S) (bI (sX4_isWord S i)) (wX cI h hp hq S) := by
  refine MetI_of (cc := cX4_isWord) (maxL := 3) (ret := (some .boolean)) (by decide) rfl (Nat.le_of_ble_eq_true rfl) ?_
  intro p e s m below meth c A ls hx hb hr hml hts hown hlocks hin hK hP hD hA hE hl
  have hown : s.vm.findClass RX4 = some m.cls := hown
  have hl : lv_has ls 3 [(0, .ref h), (1, .ref (ev (10 + i)))] := hl
  have hS : va_S A s.heap s.heap [] := va_S.rf
  obtain ⟨σ, hσ⟩ : ∃ σ, (sX4_isWord S i) = σ := ⟨_, rfl⟩
  rw [hσ]
  rw [sX4_isWord] at hσ
  have htl : txLen.getD i 0 ≤ 5 := tx_le i hi
  refine lv_aload_n hx hb dX4_isWord_0 rfl (lv_at hl 0 rfl) ?_
  refine va_get (D := (dC, dI)) (ci := 4) (v := .int (S.1 5)) (C := RX4) (T := TX4) (N := 8) hx hb hts (fun _ h => List.mem_cons_of_mem _ (List.mem_append_right _ h)) hown hK hP 0 rfl rfl 7 (by decide) (hts (.fieldLink RX4 36 "SharedLine$Text" "end" "I") (List.mem_of_getElem? (i := 1) rfl)) (fun _ h9 => h9) rfl dX4_isWord_1 ?_
  refine lv_aload_n hx hb dX4_isWord_4 rfl (lv_at hl 0 rfl) ?_
  refine va_get (D := (dC, dI)) (ci := 4) (v := .int (S.1 4)) (C := RX4) (T := TX4) (N := 8) hx hb hts (fun _ h => List.mem_cons_of_mem _ (List.mem_append_right _ h)) hown hK hP 0 rfl rfl 6 (by decide) (hts (.fieldLink RX4 49 "SharedLine$Text" "start" "I") (List.mem_of_getElem? (i := 2) rfl)) (fun _ h9 => h9) rfl dX4_isWord_5 ?_
  refine lv_isub hx hb dX4_isWord_8 ?_
  refine lv_aload_n hx hb dX4_isWord_9 rfl (lv_at hl 1 rfl) ?_
  refine vq_Ri (As := []) (rest := [.int ((S.1 5) - (S.1 4))]) (W2 := (wX cI h hp hq S)) (f := (nI (txLen.getD i 0))) hx hb hml hown hts hK hP hD hS hA hE hl.1 (cJ0_length_c l ev dC dI cI cZ cO i hi) gX4_isWord_J0_length_8abf5 rfl hdJ0_length (Nat.le_of_ble_eq_true rfl) (Nat.le_of_ble_eq_true rfl) rfl rfl (vk_recv (adK := fun i => ev (10 + i)) (i := i) hE.1.2.2.2.2.2.2.2.2 hi hS) [] [0, 1] [0, 1] rfl rfl (by decide) (by decide) (by decide) rfl rfl rfl (Nat.le_of_ble_eq_true rfl) dX4_isWord_10 ⟨Nat.zero_le _, Nat.zero_le _⟩ (fun H locs hP hD hS => ?_)
  refine lv_icmp_eq (tgt := 18) hx hb dX4_isWord_13 (by decide) (fun c13 => ?_) (fun c13 => ?_)
  · rw [if_pos c13] at hσ
    refine lv_iconst (v := 0) hx hb dX4_isWord_18 (by decide) ?_
    refine lv_istore_n (lv' := [(2, .int 0), (0, .ref h), (1, .ref (ev (10 + i)))]) hx hb dX4_isWord_19 rfl hl (by decide) rfl (fun ls hl => ?_)
    have key20 : ∀ (n20 : Nat) (x2_20 : Int32)  (k20 : Nat), (x2_20 = nI k20) → (k20 ≤ 5) → (5 + 1 ≤ n20 + k20) → (sX4_isWord_L20 S i n20 x2_20) = σ → ∀ (H : Heap) (locs : List Loc) (ls : Array Slot), va_P (dC, dI) vwCl (wX cI h hp hq S) H → va_D A (wX cI h hp hq S) → va_S A s.heap H locs → lv_has ls 3 [(0, .ref h), (1, .ref (ev (10 + i))), (2, .int x2_20)] → W p l e (headSpec wsX4_isWord (rmF 4 85)).room s m ([.ref h, .ref (ev (10 + i))] : List Value).toArray below meth c H locs 0 0 (MQ below (va_Qi (fun (x : Int32) (_ : Unit) => x = bI σ) (fun _ t => PoW (dC, dI) (tyC cI cZ cO) A (wX cI h hp hq S) t) A) ([.ref h, .ref (ev (10 + i))] : List Value).toArray s 0 0 A) (F0 m 20 ls []) := by
      intro n20
      induction n20 with
      | zero =>
        intro x2_20 k20 e20 hk20 hn20
        exact absurd hn20 (by omega)
      | succ n20 ih20 =>
        intro x2_20 k20 e20 hk20 hn20 hσ H locs ls hP hD hS hl
        rw [sX4_isWord_L20_s] at hσ
        refine lv_iload_n hx hb dX4_isWord_20 rfl (lv_at hl 2 rfl) ?_
        refine lv_aload_n hx hb dX4_isWord_21 rfl (lv_at hl 1 rfl) ?_
        refine vq_Ri (As := []) (rest := [.int x2_20]) (W2 := (wX cI h hp hq S)) (f := (nI (txLen.getD i 0))) hx hb hml hown hts hK hP hD hS hA hE hl.1 (cJ0_length_c l ev dC dI cI cZ cO i hi) gX4_isWord_J0_length_8abf5 rfl hdJ0_length (Nat.le_of_ble_eq_true rfl) (Nat.le_of_ble_eq_true rfl) rfl rfl (vk_recv (adK := fun i => ev (10 + i)) (i := i) hE.1.2.2.2.2.2.2.2.2 hi hS) [] [0, 1] [0, 1] rfl rfl (by decide) (by decide) (by decide) rfl rfl rfl (Nat.le_of_ble_eq_true rfl) dX4_isWord_22 ⟨Nat.zero_le _, Nat.zero_le _⟩ (fun H locs hP hD hS => ?_)
        refine lv_icmp_ge (tgt := 54) hx hb dX4_isWord_25 (by decide) (fun c25 => ?_) (fun c25 => ?_)
        · rw [if_pos c25] at hσ
          refine lv_iconst (v := 1) hx hb dX4_isWord_54 (by decide) ?_
          subst hσ
          exact vq_zret hx hb hr hlocks hK hP hD hS rfl rfl dX4_isWord_55
        · rw [if_neg c25] at hσ
          refine lv_aload_n hx hb dX4_isWord_28 rfl (lv_at hl 0 rfl) ?_
          refine lv_aload_n hx hb dX4_isWord_29 rfl (lv_at hl 0 rfl) ?_
          refine va_get (D := (dC, dI)) (ci := 4) (v := .int (S.1 4)) (C := RX4) (T := TX4) (N := 8) hx hb hts (fun _ h => List.mem_cons_of_mem _ (List.mem_append_right _ h)) hown hK hP 0 rfl rfl 6 (by decide) (hts (.fieldLink RX4 49 "SharedLine$Text" "start" "I") (List.mem_of_getElem? (i := 2) rfl)) (fun _ h9 => h9) rfl dX4_isWord_30 ?_
          refine lv_iload_n hx hb dX4_isWord_33 rfl (lv_at hl 2 rfl) ?_
          refine lv_iadd hx hb dX4_isWord_34 ?_
          refine vq_Vi (As := [.int ((S.1 4) + x2_20)]) (rest := []) (W2 := (wX cI h hp hq S)) (f := (sX4_letterAt S ((S.1 4) + x2_20))) hx hb hml hown hts hK hP hD hS hA hE hl.1 (cX4_letterAt_c l ev dC dI cI cZ cO h hp hq S ((S.1 4) + x2_20) hN) gX4_isWord_X4_letterAt rfl hdX4_letterAt (Nat.le_of_ble_eq_true rfl) (Nat.le_of_ble_eq_true rfl) rfl rfl (ci := 4) (qr := 0) rfl rfl rfl [0, 1] [] [0, 1] rfl rfl (by decide) (by decide) (by decide) rfl rfl rfl (Nat.le_of_ble_eq_true rfl) dX4_isWord_35 ⟨Nat.zero_le _, Nat.zero_le _⟩ (fun H locs hP hD hS => ?_)
          refine lv_aload_n hx hb dX4_isWord_38 rfl (lv_at hl 1 rfl) ?_
          refine lv_iload_n hx hb dX4_isWord_39 rfl (lv_at hl 2 rfl) ?_
          refine vq_Ri (As := [.int x2_20]) (rest := [.int (sX4_letterAt S ((S.1 4) + x2_20))]) (W2 := (wX cI h hp hq S)) (f := ((txByt.getD i []).getD (x2_20).toNatClampNeg 0 &&& 255)) hx hb hml hown hts hK hP hD hS hA hE hl.1 (cJ0_charAt_c l ev dC dI cI cZ cO i hi x2_20 (ch_ok e20 (up_lt e20 (Eq.refl (nI (txLen.getD i 0))) (by omega) c25)).1 (ch_ok e20 (up_lt e20 (Eq.refl (nI (txLen.getD i 0))) (by omega) c25)).2.1 (ch_ok e20 (up_lt e20 (Eq.refl (nI (txLen.getD i 0))) (by omega) c25)).2.2) gX4_isWord_J0_charAt_5068e rfl hdJ0_charAt (Nat.le_of_ble_eq_true rfl) (Nat.le_of_ble_eq_true rfl) rfl rfl (vk_recv (adK := fun i => ev (10 + i)) (i := i) hE.1.2.2.2.2.2.2.2.2 hi hS) [] [0, 1] [0, 1] rfl rfl (by decide) (by decide) (by decide) rfl rfl rfl (Nat.le_of_ble_eq_true rfl) dX4_isWord_40 ⟨Nat.zero_le _, Nat.zero_le _⟩ (fun H locs hP hD hS => ?_)
          refine lv_icmp_eq (tgt := 48) hx hb dX4_isWord_43 (by decide) (fun c43 => ?_) (fun c43 => ?_)
          · rw [if_pos c43] at hσ
            refine lv_iinc (v := (x2_20 + 1)) (lv' := [(2, .int (x2_20 + 1)), (0, .ref h), (1, .ref (ev (10 + i)))]) hx hb dX4_isWord_48 hl (k := 2) rfl rfl (by decide) rfl (fun ls hl => ?_)
            refine lv_goto (tgt := 20) hx hb dX4_isWord_51 (by decide) ?_
            exact ih20 (x2_20 + 1) (k20 + 1) (up_s e20) (by have := up_lt e20 (Eq.refl (nI (txLen.getD i 0))) (by omega) c25; omega) (by omega) hσ _ _ _ hP hD hS (lv_sub hl [1, 2, 0] rfl)
          · rw [if_neg c43] at hσ
            refine lv_iconst (v := 0) hx hb dX4_isWord_46 (by decide) ?_
            subst hσ
            exact vq_zret hx hb hr hlocks hK hP hD hS rfl rfl dX4_isWord_47
    exact key20 6 (0 : Int32) 0 nI_0.symm (Nat.zero_le _) (Nat.le_refl _) hσ _ _ _ hP hD hS (lv_sub hl [1, 2, 0] rfl)
  · rw [if_neg c13] at hσ
    refine lv_iconst (v := 0) hx hb dX4_isWord_16 (by decide) ?_
    subst hσ
    exact vq_zret hx hb hr hlocks hK hP hD hS rfl rfl dX4_isWord_17
theorem hdX4_itemOfWord : yX4_itemOfWord.cls = RX4 ∧ yX4_itemOfWord.cls ≠ "java/lang/invoke/MethodHandle" ∧ yX4_itemOfWord.cls ≠ "java/lang/invoke/VarHandle" ∧ (parseMethodDescriptor yX4_itemOfWord.desc).map (fun d => d.parameters.length) = some 0 := by decide +kernel
set_option maxHeartbeats 4000000 in
set_option maxRecDepth 100000 in
theorem cX4_itemOfWord_c (l : Launch) (ev : Nat → Nat) (dC : Nat → ClassId) (dI : Nat → Nat → Nat) (cI cZ cO : ClassId) (h : Nat) (hp : Nat) (hq : Nat) (S : LSt) (hN : ∃ n : Nat, S.1 0 = nI n ∧ n ≤ 120) : MetI l ev (dC, dI) (tyC cI cZ cO) yX4_itemOfWord wsX4_itemOfWord (rmF 5 107) [.ref h] (wX cI h hp hq S) (sX4_itemOfWord S) (wX cI h hp hq S) := by
  refine MetI_of (cc := cX4_itemOfWord) (maxL := 1) (ret := (some .int)) (by decide) rfl (Nat.le_of_ble_eq_true rfl) ?_
  intro p e s m below meth c A ls hx hb hr hml hts hown hlocks hin hK hP hD hA hE hl
  have hown : s.vm.findClass RX4 = some m.cls := hown
  have hl : lv_has ls 1 [(0, .ref h)] := hl
  have hS : va_S A s.heap s.heap [] := va_S.rf
  obtain ⟨σ, hσ⟩ : ∃ σ, (sX4_itemOfWord S) = σ := ⟨_, rfl⟩
  rw [hσ]
  rw [sX4_itemOfWord] at hσ
  refine lv_aload_n hx hb dX4_itemOfWord_0 rfl (lv_at hl 0 rfl) ?_
  refine va_ldcS (q := ev (10 + 0)) hx hb hown hE.2.1.1 dX4_itemOfWord_1 ?_
  refine vq_Vi (As := [.ref (ev (10 + 0))]) (rest := []) (W2 := (wX cI h hp hq S)) (f := (bI (sX4_isWord S 0))) hx hb hml hown hts hK hP hD hS hA hE hl.1 (cX4_isWord_c l ev dC dI cI cZ cO h hp hq S 0 (by decide) hN) gX4_itemOfWord_X4_isWord rfl hdX4_isWord (Nat.le_of_ble_eq_true rfl) (Nat.le_of_ble_eq_true rfl) rfl rfl (ci := 4) (qr := 0) rfl rfl rfl [0, 1] [] [0, 1] rfl rfl (by decide) (by decide) (by decide) rfl rfl rfl (Nat.le_of_ble_eq_true rfl) dX4_itemOfWord_3 ⟨Nat.zero_le _, Nat.zero_le _⟩ (fun H locs hP hD hS => ?_)
  refine lv_if_eqB (tgt := 11) hx hb dX4_itemOfWord_6 (by decide) (fun c6 => ?_) (fun c6 => ?_)
  · rw [if_neg (Bool.eq_false_iff.mp c6)] at hσ
    refine lv_aload_n hx hb dX4_itemOfWord_11 rfl (lv_at hl 0 rfl) ?_
    refine va_ldcS (q := ev (10 + 1)) hx hb hown hE.2.1.2.1 dX4_itemOfWord_12 ?_
    refine vq_Vi (As := [.ref (ev (10 + 1))]) (rest := []) (W2 := (wX cI h hp hq S)) (f := (bI (sX4_isWord S 1))) hx hb hml hown hts hK hP hD hS hA hE hl.1 (cX4_isWord_c l ev dC dI cI cZ cO h hp hq S 1 (by decide) hN) gX4_itemOfWord_X4_isWord rfl hdX4_isWord (Nat.le_of_ble_eq_true rfl) (Nat.le_of_ble_eq_true rfl) rfl rfl (ci := 4) (qr := 0) rfl rfl rfl [0, 1] [] [0, 1] rfl rfl (by decide) (by decide) (by decide) rfl rfl rfl (Nat.le_of_ble_eq_true rfl) dX4_itemOfWord_14 ⟨Nat.zero_le _, Nat.zero_le _⟩ (fun H locs hP hD hS => ?_)
    refine lv_if_eqB (tgt := 22) hx hb dX4_itemOfWord_17 (by decide) (fun c17 => ?_) (fun c17 => ?_)
    · rw [if_neg (Bool.eq_false_iff.mp c17)] at hσ
      refine lv_aload_n hx hb dX4_itemOfWord_22 rfl (lv_at hl 0 rfl) ?_
      refine va_ldcS (q := ev (10 + 2)) hx hb hown hE.2.1.2.2.1 dX4_itemOfWord_23 ?_
      refine vq_Vi (As := [.ref (ev (10 + 2))]) (rest := []) (W2 := (wX cI h hp hq S)) (f := (bI (sX4_isWord S 2))) hx hb hml hown hts hK hP hD hS hA hE hl.1 (cX4_isWord_c l ev dC dI cI cZ cO h hp hq S 2 (by decide) hN) gX4_itemOfWord_X4_isWord rfl hdX4_isWord (Nat.le_of_ble_eq_true rfl) (Nat.le_of_ble_eq_true rfl) rfl rfl (ci := 4) (qr := 0) rfl rfl rfl [0, 1] [] [0, 1] rfl rfl (by decide) (by decide) (by decide) rfl rfl rfl (Nat.le_of_ble_eq_true rfl) dX4_itemOfWord_25 ⟨Nat.zero_le _, Nat.zero_le _⟩ (fun H locs hP hD hS => ?_)
      refine lv_if_eqB (tgt := 33) hx hb dX4_itemOfWord_28 (by decide) (fun c28 => ?_) (fun c28 => ?_)
      · rw [if_neg (Bool.eq_false_iff.mp c28)] at hσ
        refine lv_aload_n hx hb dX4_itemOfWord_33 rfl (lv_at hl 0 rfl) ?_
        refine va_ldcS (q := ev (10 + 3)) hx hb hown hE.2.1.2.2.2.1 dX4_itemOfWord_34 ?_
        refine vq_Vi (As := [.ref (ev (10 + 3))]) (rest := []) (W2 := (wX cI h hp hq S)) (f := (bI (sX4_isWord S 3))) hx hb hml hown hts hK hP hD hS hA hE hl.1 (cX4_isWord_c l ev dC dI cI cZ cO h hp hq S 3 (by decide) hN) gX4_itemOfWord_X4_isWord rfl hdX4_isWord (Nat.le_of_ble_eq_true rfl) (Nat.le_of_ble_eq_true rfl) rfl rfl (ci := 4) (qr := 0) rfl rfl rfl [0, 1] [] [0, 1] rfl rfl (by decide) (by decide) (by decide) rfl rfl rfl (Nat.le_of_ble_eq_true rfl) dX4_itemOfWord_36 ⟨Nat.zero_le _, Nat.zero_le _⟩ (fun H locs hP hD hS => ?_)
        refine lv_if_eqB (tgt := 44) hx hb dX4_itemOfWord_39 (by decide) (fun c39 => ?_) (fun c39 => ?_)
        · rw [if_neg (Bool.eq_false_iff.mp c39)] at hσ
          refine lv_aload_n hx hb dX4_itemOfWord_44 rfl (lv_at hl 0 rfl) ?_
          refine va_ldcS (q := ev (10 + 4)) hx hb hown hE.2.1.2.2.2.2 dX4_itemOfWord_45 ?_
          refine vq_Vi (As := [.ref (ev (10 + 4))]) (rest := []) (W2 := (wX cI h hp hq S)) (f := (bI (sX4_isWord S 4))) hx hb hml hown hts hK hP hD hS hA hE hl.1 (cX4_isWord_c l ev dC dI cI cZ cO h hp hq S 4 (by decide) hN) gX4_itemOfWord_X4_isWord rfl hdX4_isWord (Nat.le_of_ble_eq_true rfl) (Nat.le_of_ble_eq_true rfl) rfl rfl (ci := 4) (qr := 0) rfl rfl rfl [0, 1] [] [0, 1] rfl rfl (by decide) (by decide) (by decide) rfl rfl rfl (Nat.le_of_ble_eq_true rfl) dX4_itemOfWord_47 ⟨Nat.zero_le _, Nat.zero_le _⟩ (fun H locs hP hD hS => ?_)
          refine lv_if_eqB (tgt := 57) hx hb dX4_itemOfWord_50 (by decide) (fun c50 => ?_) (fun c50 => ?_)
          · rw [if_neg (Bool.eq_false_iff.mp c50)] at hσ
            refine lv_bipush (v := (-9)) hx hb dX4_itemOfWord_57 (by decide) ?_
            subst hσ
            exact vq_iret hx hb hr hlocks hK hP hD hS rfl dX4_itemOfWord_59
          · rw [if_pos c50] at hσ
            refine lv_iconst (v := 2) hx hb dX4_itemOfWord_53 (by decide) ?_
            refine lv_goto (tgt := 59) hx hb dX4_itemOfWord_54 (by decide) ?_
            subst hσ
            exact vq_iret hx hb hr hlocks hK hP hD hS rfl dX4_itemOfWord_59
        · rw [if_pos c39] at hσ
          refine lv_iconst (v := 1) hx hb dX4_itemOfWord_42 (by decide) ?_
          subst hσ
          exact vq_iret hx hb hr hlocks hK hP hD hS rfl dX4_itemOfWord_43
      · rw [if_pos c28] at hσ
        refine lv_iconst (v := 0) hx hb dX4_itemOfWord_31 (by decide) ?_
        subst hσ
        exact vq_iret hx hb hr hlocks hK hP hD hS rfl dX4_itemOfWord_32
    · rw [if_pos c17] at hσ
      refine lv_iconst (v := 4) hx hb dX4_itemOfWord_20 (by decide) ?_
      subst hσ
      exact vq_iret hx hb hr hlocks hK hP hD hS rfl dX4_itemOfWord_21
  · rw [if_pos c6] at hσ
    refine lv_iconst (v := 3) hx hb dX4_itemOfWord_9 (by decide) ?_
    subst hσ
    exact vq_iret hx hb hr hlocks hK hP hD hS rfl dX4_itemOfWord_10
theorem hdX4_nextToken : yX4_nextToken.cls = RX4 ∧ yX4_nextToken.cls ≠ "java/lang/invoke/MethodHandle" ∧ yX4_nextToken.cls ≠ "java/lang/invoke/VarHandle" ∧ (parseMethodDescriptor yX4_nextToken.desc).map (fun d => d.parameters.length) = some 0 := by decide +kernel
set_option maxHeartbeats 4000000 in
set_option maxRecDepth 100000 in
theorem cX4_nextToken_c (l : Launch) (ev : Nat → Nat) (dC : Nat → ClassId) (dI : Nat → Nat → Nat) (cI cZ cO : ClassId) (h : Nat) (hp : Nat) (hq : Nat) (S : LSt) (hAa : ∃ n a : Nat, S.1 0 = nI n ∧ n ≤ 120 ∧ S.1 5 = nI a ∧ a ≤ n) : MetV l ev (dC, dI) (tyC cI cZ cO) yX4_nextToken wsX4_nextToken (rmF 2 43) [.ref h] (wX cI h hp hq S) (wX cI h hp hq (sX4_nextToken S)) := by
  refine MetV_of (cc := cX4_nextToken) (maxL := 2) (ret := none) (by decide) rfl (Nat.le_of_ble_eq_true rfl) ?_
  intro p e s m below meth c A ls hx hb hr hml hts hown hlocks hin hK hP hD hA hE hl
  have hown : s.vm.findClass RX4 = some m.cls := hown
  have hl : lv_has ls 2 [(0, .ref h)] := hl
  have hS : va_S A s.heap s.heap [] := va_S.rf
  obtain ⟨σ, hσ⟩ : ∃ σ, (sX4_nextToken S) = σ := ⟨_, rfl⟩
  rw [hσ]
  rw [sX4_nextToken] at hσ
  obtain ⟨n, a, en, hn, ea, ha⟩ := hAa
  refine lv_aload_n hx hb dX4_nextToken_0 rfl (lv_at hl 0 rfl) ?_
  refine lv_aload_n hx hb dX4_nextToken_1 rfl (lv_at hl 0 rfl) ?_
  refine va_get (D := (dC, dI)) (ci := 4) (v := .int (S.1 5)) (C := RX4) (T := TX4) (N := 8) hx hb hts (fun _ h => List.mem_cons_of_mem _ (List.mem_append_right _ h)) hown hK hP 0 rfl rfl 7 (by decide) (hts (.fieldLink RX4 36 "SharedLine$Text" "end" "I") (List.mem_of_getElem? (i := 1) rfl)) (fun _ h9 => h9) rfl dX4_nextToken_2 ?_
  refine va_put (D := (dC, dI)) (ci := 4) (v := .int (S.1 5)) (ty := .int) (C := RX4) (T := TX4) (N := 8) hx hb hts (fun _ h => List.mem_cons_of_mem _ (List.mem_append_right _ h)) tyX4 tyX4_ok nmX4 hown hK hP hD hS 0 rfl rfl 6 (by decide) (hts (.fieldLink RX4 49 "SharedLine$Text" "start" "I") (List.mem_of_getElem? (i := 2) rfl)) (fun _ h9 => h9) rfl (tyX4_ok 6 (by decide)) rfl rfl (Nat.le_of_ble_eq_true rfl) dX4_nextToken_5 (fun H locs hP hD hS => ?_)
  have hP : va_P (dC, dI) vwCl (wX cI h hp hq ((upd S.1 4 (S.1 5)), S.2)) H := hP
  have hD : va_D A (wX cI h hp hq ((upd S.1 4 (S.1 5)), S.2)) := hD
  have key8 : ∀ (n8 : Nat)  (Y_8 : LSt) (k8 : Nat), (Y_8.1 0 = nI n) → (Y_8.1 4 = nI k8) → (k8 ≤ n) → (120 + 1 ≤ n8 + k8) → (sX4_nextToken_L8  n8 Y_8) = σ → ∀ (H : Heap) (locs : List Loc) (ls : Array Slot), va_P (dC, dI) vwCl (wX cI h hp hq Y_8) H → va_D A (wX cI h hp hq Y_8) → va_S A s.heap H locs → lv_has ls 2 [(0, .ref h)] → W p l e (headSpec wsX4_nextToken (rmF 2 43)).room s m ([.ref h] : List Value).toArray below meth c H locs 0 0 (MQ below (va_Qv (fun (_ : Unit) => True) (fun _ t => PoW (dC, dI) (tyC cI cZ cO) A (wX cI h hp hq σ) t) A) ([.ref h] : List Value).toArray s 0 0 A) (F0 m 8 ls []) := by
    intro n8
    induction n8 with
    | zero =>
      intro Y_8 k8 l8 e8 hk8 hn8
      exact absurd hn8 (by omega)
    | succ n8 ih8 =>
      intro Y_8 k8 l8 e8 hk8 hn8 hσ H locs ls hP hD hS hl
      rw [sX4_nextToken_L8_s] at hσ
      refine lv_aload_n hx hb dX4_nextToken_8 rfl (lv_at hl 0 rfl) ?_
      refine va_get (D := (dC, dI)) (ci := 4) (v := .int (Y_8.1 4)) (C := RX4) (T := TX4) (N := 8) hx hb hts (fun _ h => List.mem_cons_of_mem _ (List.mem_append_right _ h)) hown hK hP 0 rfl rfl 6 (by decide) (hts (.fieldLink RX4 49 "SharedLine$Text" "start" "I") (List.mem_of_getElem? (i := 2) rfl)) (fun _ h9 => h9) rfl dX4_nextToken_9 ?_
      refine lv_aload_n hx hb dX4_nextToken_12 rfl (lv_at hl 0 rfl) ?_
      refine va_get (D := (dC, dI)) (ci := 4) (v := .int (Y_8.1 0)) (C := RX4) (T := TX4) (N := 8) hx hb hts (fun _ h => List.mem_cons_of_mem _ (List.mem_append_right _ h)) hown hK hP 0 rfl rfl 1 (by decide) (hts (.fieldLink RX4 22 "SharedLine$Text" "length" "I") (List.mem_of_getElem? (i := 3) rfl)) (fun _ h9 => h9) rfl dX4_nextToken_13 ?_
      refine lv_icmp_ge (tgt := 44) hx hb dX4_nextToken_16 (by decide) (fun c16 => ?_) (fun c16 => ?_)
      · rw [if_pos c16] at hσ
        refine lv_aload_n hx hb dX4_nextToken_44 rfl (lv_at hl 0 rfl) ?_
        refine lv_aload_n hx hb dX4_nextToken_45 rfl (lv_at hl 0 rfl) ?_
        refine lv_aload_n hx hb dX4_nextToken_46 rfl (lv_at hl 0 rfl) ?_
        refine va_get (D := (dC, dI)) (ci := 4) (v := .int (Y_8.1 4)) (C := RX4) (T := TX4) (N := 8) hx hb hts (fun _ h => List.mem_cons_of_mem _ (List.mem_append_right _ h)) hown hK hP 0 rfl rfl 6 (by decide) (hts (.fieldLink RX4 49 "SharedLine$Text" "start" "I") (List.mem_of_getElem? (i := 2) rfl)) (fun _ h9 => h9) rfl dX4_nextToken_47 ?_
        refine vq_Vi (As := [.int (Y_8.1 4)]) (rest := [.ref h]) (W2 := (wX cI h hp hq Y_8)) (f := (sX4_kindAt Y_8 (Y_8.1 4))) hx hb hml hown hts hK hP hD hS hA hE hl.1 (cX4_kindAt_c l ev dC dI cI cZ cO h hp hq Y_8 (Y_8.1 4) ⟨n, l8, hn⟩) gX4_nextToken_X4_kindAt rfl hdX4_kindAt (Nat.le_of_ble_eq_true rfl) (Nat.le_of_ble_eq_true rfl) rfl rfl (ci := 4) (qr := 0) rfl rfl rfl [0, 1] [] [0, 1] rfl rfl (by decide) (by decide) (by decide) rfl rfl rfl (Nat.le_of_ble_eq_true rfl) dX4_nextToken_50 ⟨Nat.zero_le _, Nat.zero_le _⟩ (fun H locs hP hD hS => ?_)
        refine va_put (D := (dC, dI)) (ci := 4) (v := .int (sX4_kindAt Y_8 (Y_8.1 4))) (ty := .int) (C := RX4) (T := TX4) (N := 8) hx hb hts (fun _ h => List.mem_cons_of_mem _ (List.mem_append_right _ h)) tyX4 tyX4_ok nmX4 hown hK hP hD hS 0 rfl rfl 5 (by decide) (hts (.fieldLink RX4 42 "SharedLine$Text" "kind" "I") (List.mem_of_getElem? (i := 4) rfl)) (fun _ h9 => h9) rfl (tyX4_ok 5 (by decide)) rfl rfl (Nat.le_of_ble_eq_true rfl) dX4_nextToken_53 (fun H locs hP hD hS => ?_)
        have hP : va_P (dC, dI) vwCl (wX cI h hp hq ((upd Y_8.1 3 (sX4_kindAt Y_8 (Y_8.1 4))), Y_8.2)) H := hP
        have hD : va_D A (wX cI h hp hq ((upd Y_8.1 3 (sX4_kindAt Y_8 (Y_8.1 4))), Y_8.2)) := hD
        refine lv_aload_n hx hb dX4_nextToken_56 rfl (lv_at hl 0 rfl) ?_
        refine lv_aload_n hx hb dX4_nextToken_57 rfl (lv_at hl 0 rfl) ?_
        refine va_get (D := (dC, dI)) (ci := 4) (v := .int (sX4_kindAt Y_8 (Y_8.1 4))) (C := RX4) (T := TX4) (N := 8) hx hb hts (fun _ h => List.mem_cons_of_mem _ (List.mem_append_right _ h)) hown hK hP 0 rfl rfl 5 (by decide) (hts (.fieldLink RX4 42 "SharedLine$Text" "kind" "I") (List.mem_of_getElem? (i := 4) rfl)) (fun _ h9 => h9) rfl dX4_nextToken_58 ?_
        refine lv_if_ne (tgt := 71) hx hb dX4_nextToken_61 (by decide) (fun c61 => ?_) (fun c61 => ?_)
        · rw [if_neg c61] at hσ
          refine lv_aload_n hx hb dX4_nextToken_71 rfl (lv_at hl 0 rfl) ?_
          refine va_get (D := (dC, dI)) (ci := 4) (v := .int (Y_8.1 4)) (C := RX4) (T := TX4) (N := 8) hx hb hts (fun _ h => List.mem_cons_of_mem _ (List.mem_append_right _ h)) hown hK hP 0 rfl rfl 6 (by decide) (hts (.fieldLink RX4 49 "SharedLine$Text" "start" "I") (List.mem_of_getElem? (i := 2) rfl)) (fun _ h9 => h9) rfl dX4_nextToken_72 ?_
          refine lv_iconst (v := 1) hx hb dX4_nextToken_75 (by decide) ?_
          refine lv_iadd hx hb dX4_nextToken_76 ?_
          refine va_put (D := (dC, dI)) (ci := 4) (v := .int ((Y_8.1 4) + 1)) (ty := .int) (C := RX4) (T := TX4) (N := 8) hx hb hts (fun _ h => List.mem_cons_of_mem _ (List.mem_append_right _ h)) tyX4 tyX4_ok nmX4 hown hK hP hD hS 0 rfl rfl 7 (by decide) (hts (.fieldLink RX4 36 "SharedLine$Text" "end" "I") (List.mem_of_getElem? (i := 1) rfl)) (fun _ h9 => h9) rfl (tyX4_ok 7 (by decide)) rfl rfl (Nat.le_of_ble_eq_true rfl) dX4_nextToken_77 (fun H locs hP hD hS => ?_)
          have hP : va_P (dC, dI) vwCl (wX cI h hp hq ((upd (upd Y_8.1 3 (sX4_kindAt Y_8 (Y_8.1 4))) 5 ((Y_8.1 4) + 1)), Y_8.2)) H := hP
          have hD : va_D A (wX cI h hp hq ((upd (upd Y_8.1 3 (sX4_kindAt Y_8 (Y_8.1 4))) 5 ((Y_8.1 4) + 1)), Y_8.2)) := hD
          refine lv_aload_n hx hb dX4_nextToken_80 rfl (lv_at hl 0 rfl) ?_
          refine va_get (D := (dC, dI)) (ci := 4) (v := .int (sX4_kindAt Y_8 (Y_8.1 4))) (C := RX4) (T := TX4) (N := 8) hx hb hts (fun _ h => List.mem_cons_of_mem _ (List.mem_append_right _ h)) hown hK hP 0 rfl rfl 5 (by decide) (hts (.fieldLink RX4 42 "SharedLine$Text" "kind" "I") (List.mem_of_getElem? (i := 4) rfl)) (fun _ h9 => h9) rfl dX4_nextToken_81 ?_
          refine lv_iconst (v := 1) hx hb dX4_nextToken_84 (by decide) ?_
          refine lv_icmp_eq (tgt := 96) hx hb dX4_nextToken_85 (by decide) (fun c85 => ?_) (fun c85 => ?_)
          · rw [if_pos c85] at hσ
            refine lv_iconst (v := 1) hx hb dX4_nextToken_96 (by decide) ?_
            refine lv_goto (tgt := 101) hx hb dX4_nextToken_97 (by decide) ?_
            refine lv_istore_n (lv' := [(1, .int 1), (0, .ref h)]) hx hb dX4_nextToken_101 rfl hl (by decide) rfl (fun ls hl => ?_)
            have key102 : ∀ (n102 : Nat) (x1_102 : Bool) (Y_102 : LSt) , (∃ k : Nat, Y_102.1 0 = nI n ∧ Y_102.1 5 = nI k ∧ k ≤ n ∧ 120 + 1 ≤ n102 + k) → (sX4_nextToken_L102  n102 x1_102 Y_102) = σ → ∀ (H : Heap) (locs : List Loc) (ls : Array Slot), va_P (dC, dI) vwCl (wX cI h hp hq Y_102) H → va_D A (wX cI h hp hq Y_102) → va_S A s.heap H locs → lv_has ls 2 [(0, .ref h), (1, .int (bI x1_102))] → W p l e (headSpec wsX4_nextToken (rmF 2 43)).room s m ([.ref h] : List Value).toArray below meth c H locs 0 0 (MQ below (va_Qv (fun (_ : Unit) => True) (fun _ t => PoW (dC, dI) (tyC cI cZ cO) A (wX cI h hp hq σ) t) A) ([.ref h] : List Value).toArray s 0 0 A) (F0 m 102 ls []) := by
              intro n102
              induction n102 with
              | zero =>
                intro x1_102 Y_102  t102
                exact absurd t102 (by rintro ⟨k, -, -, h1, h2⟩; omega)
              | succ n102 ih102 =>
                intro x1_102 Y_102  t102 hσ H locs ls hP hD hS hl
                rw [sX4_nextToken_L102_s] at hσ
                obtain ⟨k102, l102, e102, hk102, hn102⟩ := t102
                refine lv_iload_n hx hb dX4_nextToken_102 rfl (lv_at hl 1 rfl) ?_
                refine lv_if_eqB (tgt := 145) hx hb dX4_nextToken_103 (by decide) (fun c103 => ?_) (fun c103 => ?_)
                · rw [if_neg (Bool.eq_false_iff.mp c103)] at hσ
                  subst hσ
                  exact vq_vret hx hb hr hlocks hK hP hD hS dX4_nextToken_145
                · rw [if_pos c103] at hσ
                  refine lv_aload_n hx hb dX4_nextToken_106 rfl (lv_at hl 0 rfl) ?_
                  refine va_get (D := (dC, dI)) (ci := 4) (v := .int (Y_102.1 5)) (C := RX4) (T := TX4) (N := 8) hx hb hts (fun _ h => List.mem_cons_of_mem _ (List.mem_append_right _ h)) hown hK hP 0 rfl rfl 7 (by decide) (hts (.fieldLink RX4 36 "SharedLine$Text" "end" "I") (List.mem_of_getElem? (i := 1) rfl)) (fun _ h9 => h9) rfl dX4_nextToken_107 ?_
                  refine lv_aload_n hx hb dX4_nextToken_110 rfl (lv_at hl 0 rfl) ?_
                  refine va_get (D := (dC, dI)) (ci := 4) (v := .int (Y_102.1 0)) (C := RX4) (T := TX4) (N := 8) hx hb hts (fun _ h => List.mem_cons_of_mem _ (List.mem_append_right _ h)) hown hK hP 0 rfl rfl 1 (by decide) (hts (.fieldLink RX4 22 "SharedLine$Text" "length" "I") (List.mem_of_getElem? (i := 3) rfl)) (fun _ h9 => h9) rfl dX4_nextToken_111 ?_
                  refine lv_icmp_ge (tgt := 145) hx hb dX4_nextToken_114 (by decide) (fun c114 => ?_) (fun c114 => ?_)
                  · rw [if_pos c114] at hσ
                    subst hσ
                    exact vq_vret hx hb hr hlocks hK hP hD hS dX4_nextToken_145
                  · rw [if_neg c114] at hσ
                    refine lv_aload_n hx hb dX4_nextToken_117 rfl (lv_at hl 0 rfl) ?_
                    refine lv_aload_n hx hb dX4_nextToken_118 rfl (lv_at hl 0 rfl) ?_
                    refine va_get (D := (dC, dI)) (ci := 4) (v := .int (Y_102.1 5)) (C := RX4) (T := TX4) (N := 8) hx hb hts (fun _ h => List.mem_cons_of_mem _ (List.mem_append_right _ h)) hown hK hP 0 rfl rfl 7 (by decide) (hts (.fieldLink RX4 36 "SharedLine$Text" "end" "I") (List.mem_of_getElem? (i := 1) rfl)) (fun _ h9 => h9) rfl dX4_nextToken_119 ?_
                    refine vq_Vi (As := [.int (Y_102.1 5)]) (rest := []) (W2 := (wX cI h hp hq Y_102)) (f := (sX4_kindAt Y_102 (Y_102.1 5))) hx hb hml hown hts hK hP hD hS hA hE hl.1 (cX4_kindAt_c l ev dC dI cI cZ cO h hp hq Y_102 (Y_102.1 5) ⟨n, l102, hn⟩) gX4_nextToken_X4_kindAt rfl hdX4_kindAt (Nat.le_of_ble_eq_true rfl) (Nat.le_of_ble_eq_true rfl) rfl rfl (ci := 4) (qr := 0) rfl rfl rfl [0, 1] [] [0, 1] rfl rfl (by decide) (by decide) (by decide) rfl rfl rfl (Nat.le_of_ble_eq_true rfl) dX4_nextToken_122 ⟨Nat.zero_le _, Nat.zero_le _⟩ (fun H locs hP hD hS => ?_)
                    refine lv_aload_n hx hb dX4_nextToken_125 rfl (lv_at hl 0 rfl) ?_
                    refine va_get (D := (dC, dI)) (ci := 4) (v := .int (Y_102.1 3)) (C := RX4) (T := TX4) (N := 8) hx hb hts (fun _ h => List.mem_cons_of_mem _ (List.mem_append_right _ h)) hown hK hP 0 rfl rfl 5 (by decide) (hts (.fieldLink RX4 42 "SharedLine$Text" "kind" "I") (List.mem_of_getElem? (i := 4) rfl)) (fun _ h9 => h9) rfl dX4_nextToken_126 ?_
                    refine lv_icmp_ne (tgt := 145) hx hb dX4_nextToken_129 (by decide) (fun c129 => ?_) (fun c129 => ?_)
                    · rw [if_neg c129] at hσ
                      subst hσ
                      exact vq_vret hx hb hr hlocks hK hP hD hS dX4_nextToken_145
                    · rw [if_pos c129] at hσ
                      refine lv_aload_n hx hb dX4_nextToken_132 rfl (lv_at hl 0 rfl) ?_
                      refine lv_dup hx hb dX4_nextToken_133 rfl ?_
                      refine va_get (D := (dC, dI)) (ci := 4) (v := .int (Y_102.1 5)) (C := RX4) (T := TX4) (N := 8) hx hb hts (fun _ h => List.mem_cons_of_mem _ (List.mem_append_right _ h)) hown hK hP 0 rfl rfl 7 (by decide) (hts (.fieldLink RX4 36 "SharedLine$Text" "end" "I") (List.mem_of_getElem? (i := 1) rfl)) (fun _ h9 => h9) rfl dX4_nextToken_134 ?_
                      refine lv_iconst (v := 1) hx hb dX4_nextToken_137 (by decide) ?_
                      refine lv_iadd hx hb dX4_nextToken_138 ?_
                      refine va_put (D := (dC, dI)) (ci := 4) (v := .int ((Y_102.1 5) + 1)) (ty := .int) (C := RX4) (T := TX4) (N := 8) hx hb hts (fun _ h => List.mem_cons_of_mem _ (List.mem_append_right _ h)) tyX4 tyX4_ok nmX4 hown hK hP hD hS 0 rfl rfl 7 (by decide) (hts (.fieldLink RX4 36 "SharedLine$Text" "end" "I") (List.mem_of_getElem? (i := 1) rfl)) (fun _ h9 => h9) rfl (tyX4_ok 7 (by decide)) rfl rfl (Nat.le_of_ble_eq_true rfl) dX4_nextToken_139 (fun H locs hP hD hS => ?_)
                      have hP : va_P (dC, dI) vwCl (wX cI h hp hq ((upd Y_102.1 5 ((Y_102.1 5) + 1)), Y_102.2)) H := hP
                      have hD : va_D A (wX cI h hp hq ((upd Y_102.1 5 ((Y_102.1 5) + 1)), Y_102.2)) := hD
                      refine lv_goto (tgt := 102) hx hb dX4_nextToken_142 (by decide) ?_
                      exact ih102 x1_102 ((upd Y_102.1 5 ((Y_102.1 5) + 1)), Y_102.2) ⟨k102 + 1, l102, up_s e102, (by have := up_lt e102 l102 (by omega) c114; omega), by omega⟩ hσ _ _ _ hP hD hS (lv_sub hl [0, 1] rfl)
            exact key102 121 true ((upd (upd Y_8.1 3 (sX4_kindAt Y_8 (Y_8.1 4))) 5 ((Y_8.1 4) + 1)), Y_8.2) (by first | exact ⟨k8, l8, e8, hk8, by omega⟩ | exact ⟨k8 + 1, l8, up_s e8, kind_lt l8 hn e8 hk8 c61, by omega⟩) hσ _ _ _ hP hD hS (lv_sub hl [1, 0] rfl)
          · rw [if_neg c85] at hσ
            refine lv_aload_n hx hb dX4_nextToken_88 rfl (lv_at hl 0 rfl) ?_
            refine va_get (D := (dC, dI)) (ci := 4) (v := .int (sX4_kindAt Y_8 (Y_8.1 4))) (C := RX4) (T := TX4) (N := 8) hx hb hts (fun _ h => List.mem_cons_of_mem _ (List.mem_append_right _ h)) hown hK hP 0 rfl rfl 5 (by decide) (hts (.fieldLink RX4 42 "SharedLine$Text" "kind" "I") (List.mem_of_getElem? (i := 4) rfl)) (fun _ h9 => h9) rfl dX4_nextToken_89 ?_
            refine lv_iconst (v := 2) hx hb dX4_nextToken_92 (by decide) ?_
            refine lv_icmp_ne (tgt := 100) hx hb dX4_nextToken_93 (by decide) (fun c93 => ?_) (fun c93 => ?_)
            · rw [if_neg c93] at hσ
              refine lv_iconst (v := 0) hx hb dX4_nextToken_100 (by decide) ?_
              refine lv_istore_n (lv' := [(1, .int 0), (0, .ref h)]) hx hb dX4_nextToken_101 rfl hl (by decide) rfl (fun ls hl => ?_)
              have key102 : ∀ (n102 : Nat) (x1_102 : Bool) (Y_102 : LSt) , (∃ k : Nat, Y_102.1 0 = nI n ∧ Y_102.1 5 = nI k ∧ k ≤ n ∧ 120 + 1 ≤ n102 + k) → (sX4_nextToken_L102  n102 x1_102 Y_102) = σ → ∀ (H : Heap) (locs : List Loc) (ls : Array Slot), va_P (dC, dI) vwCl (wX cI h hp hq Y_102) H → va_D A (wX cI h hp hq Y_102) → va_S A s.heap H locs → lv_has ls 2 [(0, .ref h), (1, .int (bI x1_102))] → W p l e (headSpec wsX4_nextToken (rmF 2 43)).room s m ([.ref h] : List Value).toArray below meth c H locs 0 0 (MQ below (va_Qv (fun (_ : Unit) => True) (fun _ t => PoW (dC, dI) (tyC cI cZ cO) A (wX cI h hp hq σ) t) A) ([.ref h] : List Value).toArray s 0 0 A) (F0 m 102 ls []) := by
                intro n102
                induction n102 with
                | zero =>
                  intro x1_102 Y_102  t102
                  exact absurd t102 (by rintro ⟨k, -, -, h1, h2⟩; omega)
                | succ n102 ih102 =>
                  intro x1_102 Y_102  t102 hσ H locs ls hP hD hS hl
                  rw [sX4_nextToken_L102_s] at hσ
                  obtain ⟨k102, l102, e102, hk102, hn102⟩ := t102
                  refine lv_iload_n hx hb dX4_nextToken_102 rfl (lv_at hl 1 rfl) ?_
                  refine lv_if_eqB (tgt := 145) hx hb dX4_nextToken_103 (by decide) (fun c103 => ?_) (fun c103 => ?_)
                  · rw [if_neg (Bool.eq_false_iff.mp c103)] at hσ
                    subst hσ
                    exact vq_vret hx hb hr hlocks hK hP hD hS dX4_nextToken_145
                  · rw [if_pos c103] at hσ
                    refine lv_aload_n hx hb dX4_nextToken_106 rfl (lv_at hl 0 rfl) ?_
                    refine va_get (D := (dC, dI)) (ci := 4) (v := .int (Y_102.1 5)) (C := RX4) (T := TX4) (N := 8) hx hb hts (fun _ h => List.mem_cons_of_mem _ (List.mem_append_right _ h)) hown hK hP 0 rfl rfl 7 (by decide) (hts (.fieldLink RX4 36 "SharedLine$Text" "end" "I") (List.mem_of_getElem? (i := 1) rfl)) (fun _ h9 => h9) rfl dX4_nextToken_107 ?_
                    refine lv_aload_n hx hb dX4_nextToken_110 rfl (lv_at hl 0 rfl) ?_
                    refine va_get (D := (dC, dI)) (ci := 4) (v := .int (Y_102.1 0)) (C := RX4) (T := TX4) (N := 8) hx hb hts (fun _ h => List.mem_cons_of_mem _ (List.mem_append_right _ h)) hown hK hP 0 rfl rfl 1 (by decide) (hts (.fieldLink RX4 22 "SharedLine$Text" "length" "I") (List.mem_of_getElem? (i := 3) rfl)) (fun _ h9 => h9) rfl dX4_nextToken_111 ?_
                    refine lv_icmp_ge (tgt := 145) hx hb dX4_nextToken_114 (by decide) (fun c114 => ?_) (fun c114 => ?_)
                    · rw [if_pos c114] at hσ
                      subst hσ
                      exact vq_vret hx hb hr hlocks hK hP hD hS dX4_nextToken_145
                    · rw [if_neg c114] at hσ
                      refine lv_aload_n hx hb dX4_nextToken_117 rfl (lv_at hl 0 rfl) ?_
                      refine lv_aload_n hx hb dX4_nextToken_118 rfl (lv_at hl 0 rfl) ?_
                      refine va_get (D := (dC, dI)) (ci := 4) (v := .int (Y_102.1 5)) (C := RX4) (T := TX4) (N := 8) hx hb hts (fun _ h => List.mem_cons_of_mem _ (List.mem_append_right _ h)) hown hK hP 0 rfl rfl 7 (by decide) (hts (.fieldLink RX4 36 "SharedLine$Text" "end" "I") (List.mem_of_getElem? (i := 1) rfl)) (fun _ h9 => h9) rfl dX4_nextToken_119 ?_
                      refine vq_Vi (As := [.int (Y_102.1 5)]) (rest := []) (W2 := (wX cI h hp hq Y_102)) (f := (sX4_kindAt Y_102 (Y_102.1 5))) hx hb hml hown hts hK hP hD hS hA hE hl.1 (cX4_kindAt_c l ev dC dI cI cZ cO h hp hq Y_102 (Y_102.1 5) ⟨n, l102, hn⟩) gX4_nextToken_X4_kindAt rfl hdX4_kindAt (Nat.le_of_ble_eq_true rfl) (Nat.le_of_ble_eq_true rfl) rfl rfl (ci := 4) (qr := 0) rfl rfl rfl [0, 1] [] [0, 1] rfl rfl (by decide) (by decide) (by decide) rfl rfl rfl (Nat.le_of_ble_eq_true rfl) dX4_nextToken_122 ⟨Nat.zero_le _, Nat.zero_le _⟩ (fun H locs hP hD hS => ?_)
                      refine lv_aload_n hx hb dX4_nextToken_125 rfl (lv_at hl 0 rfl) ?_
                      refine va_get (D := (dC, dI)) (ci := 4) (v := .int (Y_102.1 3)) (C := RX4) (T := TX4) (N := 8) hx hb hts (fun _ h => List.mem_cons_of_mem _ (List.mem_append_right _ h)) hown hK hP 0 rfl rfl 5 (by decide) (hts (.fieldLink RX4 42 "SharedLine$Text" "kind" "I") (List.mem_of_getElem? (i := 4) rfl)) (fun _ h9 => h9) rfl dX4_nextToken_126 ?_
                      refine lv_icmp_ne (tgt := 145) hx hb dX4_nextToken_129 (by decide) (fun c129 => ?_) (fun c129 => ?_)
                      · rw [if_neg c129] at hσ
                        subst hσ
                        exact vq_vret hx hb hr hlocks hK hP hD hS dX4_nextToken_145
                      · rw [if_pos c129] at hσ
                        refine lv_aload_n hx hb dX4_nextToken_132 rfl (lv_at hl 0 rfl) ?_
                        refine lv_dup hx hb dX4_nextToken_133 rfl ?_
                        refine va_get (D := (dC, dI)) (ci := 4) (v := .int (Y_102.1 5)) (C := RX4) (T := TX4) (N := 8) hx hb hts (fun _ h => List.mem_cons_of_mem _ (List.mem_append_right _ h)) hown hK hP 0 rfl rfl 7 (by decide) (hts (.fieldLink RX4 36 "SharedLine$Text" "end" "I") (List.mem_of_getElem? (i := 1) rfl)) (fun _ h9 => h9) rfl dX4_nextToken_134 ?_
                        refine lv_iconst (v := 1) hx hb dX4_nextToken_137 (by decide) ?_
                        refine lv_iadd hx hb dX4_nextToken_138 ?_
                        refine va_put (D := (dC, dI)) (ci := 4) (v := .int ((Y_102.1 5) + 1)) (ty := .int) (C := RX4) (T := TX4) (N := 8) hx hb hts (fun _ h => List.mem_cons_of_mem _ (List.mem_append_right _ h)) tyX4 tyX4_ok nmX4 hown hK hP hD hS 0 rfl rfl 7 (by decide) (hts (.fieldLink RX4 36 "SharedLine$Text" "end" "I") (List.mem_of_getElem? (i := 1) rfl)) (fun _ h9 => h9) rfl (tyX4_ok 7 (by decide)) rfl rfl (Nat.le_of_ble_eq_true rfl) dX4_nextToken_139 (fun H locs hP hD hS => ?_)
                        have hP : va_P (dC, dI) vwCl (wX cI h hp hq ((upd Y_102.1 5 ((Y_102.1 5) + 1)), Y_102.2)) H := hP
                        have hD : va_D A (wX cI h hp hq ((upd Y_102.1 5 ((Y_102.1 5) + 1)), Y_102.2)) := hD
                        refine lv_goto (tgt := 102) hx hb dX4_nextToken_142 (by decide) ?_
                        exact ih102 x1_102 ((upd Y_102.1 5 ((Y_102.1 5) + 1)), Y_102.2) ⟨k102 + 1, l102, up_s e102, (by have := up_lt e102 l102 (by omega) c114; omega), by omega⟩ hσ _ _ _ hP hD hS (lv_sub hl [0, 1] rfl)
              exact key102 121 false ((upd (upd Y_8.1 3 (sX4_kindAt Y_8 (Y_8.1 4))) 5 ((Y_8.1 4) + 1)), Y_8.2) (by first | exact ⟨k8, l8, e8, hk8, by omega⟩ | exact ⟨k8 + 1, l8, up_s e8, kind_lt l8 hn e8 hk8 c61, by omega⟩) hσ _ _ _ hP hD hS (lv_sub hl [1, 0] rfl)
            · rw [if_pos c93] at hσ
              refine lv_iconst (v := 1) hx hb dX4_nextToken_96 (by decide) ?_
              refine lv_goto (tgt := 101) hx hb dX4_nextToken_97 (by decide) ?_
              refine lv_istore_n (lv' := [(1, .int 1), (0, .ref h)]) hx hb dX4_nextToken_101 rfl hl (by decide) rfl (fun ls hl => ?_)
              have key102 : ∀ (n102 : Nat) (x1_102 : Bool) (Y_102 : LSt) , (∃ k : Nat, Y_102.1 0 = nI n ∧ Y_102.1 5 = nI k ∧ k ≤ n ∧ 120 + 1 ≤ n102 + k) → (sX4_nextToken_L102  n102 x1_102 Y_102) = σ → ∀ (H : Heap) (locs : List Loc) (ls : Array Slot), va_P (dC, dI) vwCl (wX cI h hp hq Y_102) H → va_D A (wX cI h hp hq Y_102) → va_S A s.heap H locs → lv_has ls 2 [(0, .ref h), (1, .int (bI x1_102))] → W p l e (headSpec wsX4_nextToken (rmF 2 43)).room s m ([.ref h] : List Value).toArray below meth c H locs 0 0 (MQ below (va_Qv (fun (_ : Unit) => True) (fun _ t => PoW (dC, dI) (tyC cI cZ cO) A (wX cI h hp hq σ) t) A) ([.ref h] : List Value).toArray s 0 0 A) (F0 m 102 ls []) := by
                intro n102
                induction n102 with
                | zero =>
                  intro x1_102 Y_102  t102
                  exact absurd t102 (by rintro ⟨k, -, -, h1, h2⟩; omega)
                | succ n102 ih102 =>
                  intro x1_102 Y_102  t102 hσ H locs ls hP hD hS hl
                  rw [sX4_nextToken_L102_s] at hσ
                  obtain ⟨k102, l102, e102, hk102, hn102⟩ := t102
                  refine lv_iload_n hx hb dX4_nextToken_102 rfl (lv_at hl 1 rfl) ?_
                  refine lv_if_eqB (tgt := 145) hx hb dX4_nextToken_103 (by decide) (fun c103 => ?_) (fun c103 => ?_)
                  · rw [if_neg (Bool.eq_false_iff.mp c103)] at hσ
                    subst hσ
                    exact vq_vret hx hb hr hlocks hK hP hD hS dX4_nextToken_145
                  · rw [if_pos c103] at hσ
                    refine lv_aload_n hx hb dX4_nextToken_106 rfl (lv_at hl 0 rfl) ?_
                    refine va_get (D := (dC, dI)) (ci := 4) (v := .int (Y_102.1 5)) (C := RX4) (T := TX4) (N := 8) hx hb hts (fun _ h => List.mem_cons_of_mem _ (List.mem_append_right _ h)) hown hK hP 0 rfl rfl 7 (by decide) (hts (.fieldLink RX4 36 "SharedLine$Text" "end" "I") (List.mem_of_getElem? (i := 1) rfl)) (fun _ h9 => h9) rfl dX4_nextToken_107 ?_
                    refine lv_aload_n hx hb dX4_nextToken_110 rfl (lv_at hl 0 rfl) ?_
                    refine va_get (D := (dC, dI)) (ci := 4) (v := .int (Y_102.1 0)) (C := RX4) (T := TX4) (N := 8) hx hb hts (fun _ h => List.mem_cons_of_mem _ (List.mem_append_right _ h)) hown hK hP 0 rfl rfl 1 (by decide) (hts (.fieldLink RX4 22 "SharedLine$Text" "length" "I") (List.mem_of_getElem? (i := 3) rfl)) (fun _ h9 => h9) rfl dX4_nextToken_111 ?_
                    refine lv_icmp_ge (tgt := 145) hx hb dX4_nextToken_114 (by decide) (fun c114 => ?_) (fun c114 => ?_)
                    · rw [if_pos c114] at hσ
                      subst hσ
                      exact vq_vret hx hb hr hlocks hK hP hD hS dX4_nextToken_145
                    · rw [if_neg c114] at hσ
                      refine lv_aload_n hx hb dX4_nextToken_117 rfl (lv_at hl 0 rfl) ?_
                      refine lv_aload_n hx hb dX4_nextToken_118 rfl (lv_at hl 0 rfl) ?_
                      refine va_get (D := (dC, dI)) (ci := 4) (v := .int (Y_102.1 5)) (C := RX4) (T := TX4) (N := 8) hx hb hts (fun _ h => List.mem_cons_of_mem _ (List.mem_append_right _ h)) hown hK hP 0 rfl rfl 7 (by decide) (hts (.fieldLink RX4 36 "SharedLine$Text" "end" "I") (List.mem_of_getElem? (i := 1) rfl)) (fun _ h9 => h9) rfl dX4_nextToken_119 ?_
                      refine vq_Vi (As := [.int (Y_102.1 5)]) (rest := []) (W2 := (wX cI h hp hq Y_102)) (f := (sX4_kindAt Y_102 (Y_102.1 5))) hx hb hml hown hts hK hP hD hS hA hE hl.1 (cX4_kindAt_c l ev dC dI cI cZ cO h hp hq Y_102 (Y_102.1 5) ⟨n, l102, hn⟩) gX4_nextToken_X4_kindAt rfl hdX4_kindAt (Nat.le_of_ble_eq_true rfl) (Nat.le_of_ble_eq_true rfl) rfl rfl (ci := 4) (qr := 0) rfl rfl rfl [0, 1] [] [0, 1] rfl rfl (by decide) (by decide) (by decide) rfl rfl rfl (Nat.le_of_ble_eq_true rfl) dX4_nextToken_122 ⟨Nat.zero_le _, Nat.zero_le _⟩ (fun H locs hP hD hS => ?_)
                      refine lv_aload_n hx hb dX4_nextToken_125 rfl (lv_at hl 0 rfl) ?_
                      refine va_get (D := (dC, dI)) (ci := 4) (v := .int (Y_102.1 3)) (C := RX4) (T := TX4) (N := 8) hx hb hts (fun _ h => List.mem_cons_of_mem _ (List.mem_append_right _ h)) hown hK hP 0 rfl rfl 5 (by decide) (hts (.fieldLink RX4 42 "SharedLine$Text" "kind" "I") (List.mem_of_getElem? (i := 4) rfl)) (fun _ h9 => h9) rfl dX4_nextToken_126 ?_
                      refine lv_icmp_ne (tgt := 145) hx hb dX4_nextToken_129 (by decide) (fun c129 => ?_) (fun c129 => ?_)
                      · rw [if_neg c129] at hσ
                        subst hσ
                        exact vq_vret hx hb hr hlocks hK hP hD hS dX4_nextToken_145
                      · rw [if_pos c129] at hσ
                        refine lv_aload_n hx hb dX4_nextToken_132 rfl (lv_at hl 0 rfl) ?_
                        refine lv_dup hx hb dX4_nextToken_133 rfl ?_
                        refine va_get (D := (dC, dI)) (ci := 4) (v := .int (Y_102.1 5)) (C := RX4) (T := TX4) (N := 8) hx hb hts (fun _ h => List.mem_cons_of_mem _ (List.mem_append_right _ h)) hown hK hP 0 rfl rfl 7 (by decide) (hts (.fieldLink RX4 36 "SharedLine$Text" "end" "I") (List.mem_of_getElem? (i := 1) rfl)) (fun _ h9 => h9) rfl dX4_nextToken_134 ?_
                        refine lv_iconst (v := 1) hx hb dX4_nextToken_137 (by decide) ?_
                        refine lv_iadd hx hb dX4_nextToken_138 ?_
                        refine va_put (D := (dC, dI)) (ci := 4) (v := .int ((Y_102.1 5) + 1)) (ty := .int) (C := RX4) (T := TX4) (N := 8) hx hb hts (fun _ h => List.mem_cons_of_mem _ (List.mem_append_right _ h)) tyX4 tyX4_ok nmX4 hown hK hP hD hS 0 rfl rfl 7 (by decide) (hts (.fieldLink RX4 36 "SharedLine$Text" "end" "I") (List.mem_of_getElem? (i := 1) rfl)) (fun _ h9 => h9) rfl (tyX4_ok 7 (by decide)) rfl rfl (Nat.le_of_ble_eq_true rfl) dX4_nextToken_139 (fun H locs hP hD hS => ?_)
                        have hP : va_P (dC, dI) vwCl (wX cI h hp hq ((upd Y_102.1 5 ((Y_102.1 5) + 1)), Y_102.2)) H := hP
                        have hD : va_D A (wX cI h hp hq ((upd Y_102.1 5 ((Y_102.1 5) + 1)), Y_102.2)) := hD
                        refine lv_goto (tgt := 102) hx hb dX4_nextToken_142 (by decide) ?_
                        exact ih102 x1_102 ((upd Y_102.1 5 ((Y_102.1 5) + 1)), Y_102.2) ⟨k102 + 1, l102, up_s e102, (by have := up_lt e102 l102 (by omega) c114; omega), by omega⟩ hσ _ _ _ hP hD hS (lv_sub hl [0, 1] rfl)
              exact key102 121 true ((upd (upd Y_8.1 3 (sX4_kindAt Y_8 (Y_8.1 4))) 5 ((Y_8.1 4) + 1)), Y_8.2) (by first | exact ⟨k8, l8, e8, hk8, by omega⟩ | exact ⟨k8 + 1, l8, up_s e8, kind_lt l8 hn e8 hk8 c61, by omega⟩) hσ _ _ _ hP hD hS (lv_sub hl [1, 0] rfl)
        · rw [if_pos c61] at hσ
          refine lv_aload_n hx hb dX4_nextToken_64 rfl (lv_at hl 0 rfl) ?_
          refine va_get (D := (dC, dI)) (ci := 4) (v := .int (Y_8.1 4)) (C := RX4) (T := TX4) (N := 8) hx hb hts (fun _ h => List.mem_cons_of_mem _ (List.mem_append_right _ h)) hown hK hP 0 rfl rfl 6 (by decide) (hts (.fieldLink RX4 49 "SharedLine$Text" "start" "I") (List.mem_of_getElem? (i := 2) rfl)) (fun _ h9 => h9) rfl dX4_nextToken_65 ?_
          refine lv_goto (tgt := 77) hx hb dX4_nextToken_68 (by decide) ?_
          refine va_put (D := (dC, dI)) (ci := 4) (v := .int (Y_8.1 4)) (ty := .int) (C := RX4) (T := TX4) (N := 8) hx hb hts (fun _ h => List.mem_cons_of_mem _ (List.mem_append_right _ h)) tyX4 tyX4_ok nmX4 hown hK hP hD hS 0 rfl rfl 7 (by decide) (hts (.fieldLink RX4 36 "SharedLine$Text" "end" "I") (List.mem_of_getElem? (i := 1) rfl)) (fun _ h9 => h9) rfl (tyX4_ok 7 (by decide)) rfl rfl (Nat.le_of_ble_eq_true rfl) dX4_nextToken_77 (fun H locs hP hD hS => ?_)
          have hP : va_P (dC, dI) vwCl (wX cI h hp hq ((upd (upd Y_8.1 3 (sX4_kindAt Y_8 (Y_8.1 4))) 5 (Y_8.1 4)), Y_8.2)) H := hP
          have hD : va_D A (wX cI h hp hq ((upd (upd Y_8.1 3 (sX4_kindAt Y_8 (Y_8.1 4))) 5 (Y_8.1 4)), Y_8.2)) := hD
          refine lv_aload_n hx hb dX4_nextToken_80 rfl (lv_at hl 0 rfl) ?_
          refine va_get (D := (dC, dI)) (ci := 4) (v := .int (sX4_kindAt Y_8 (Y_8.1 4))) (C := RX4) (T := TX4) (N := 8) hx hb hts (fun _ h => List.mem_cons_of_mem _ (List.mem_append_right _ h)) hown hK hP 0 rfl rfl 5 (by decide) (hts (.fieldLink RX4 42 "SharedLine$Text" "kind" "I") (List.mem_of_getElem? (i := 4) rfl)) (fun _ h9 => h9) rfl dX4_nextToken_81 ?_
          refine lv_iconst (v := 1) hx hb dX4_nextToken_84 (by decide) ?_
          refine lv_icmp_eq (tgt := 96) hx hb dX4_nextToken_85 (by decide) (fun c85 => ?_) (fun c85 => ?_)
          · rw [if_pos c85] at hσ
            refine lv_iconst (v := 1) hx hb dX4_nextToken_96 (by decide) ?_
            refine lv_goto (tgt := 101) hx hb dX4_nextToken_97 (by decide) ?_
            refine lv_istore_n (lv' := [(1, .int 1), (0, .ref h)]) hx hb dX4_nextToken_101 rfl hl (by decide) rfl (fun ls hl => ?_)
            have key102 : ∀ (n102 : Nat) (x1_102 : Bool) (Y_102 : LSt) , (∃ k : Nat, Y_102.1 0 = nI n ∧ Y_102.1 5 = nI k ∧ k ≤ n ∧ 120 + 1 ≤ n102 + k) → (sX4_nextToken_L102  n102 x1_102 Y_102) = σ → ∀ (H : Heap) (locs : List Loc) (ls : Array Slot), va_P (dC, dI) vwCl (wX cI h hp hq Y_102) H → va_D A (wX cI h hp hq Y_102) → va_S A s.heap H locs → lv_has ls 2 [(0, .ref h), (1, .int (bI x1_102))] → W p l e (headSpec wsX4_nextToken (rmF 2 43)).room s m ([.ref h] : List Value).toArray below meth c H locs 0 0 (MQ below (va_Qv (fun (_ : Unit) => True) (fun _ t => PoW (dC, dI) (tyC cI cZ cO) A (wX cI h hp hq σ) t) A) ([.ref h] : List Value).toArray s 0 0 A) (F0 m 102 ls []) := by
              intro n102
              induction n102 with
              | zero =>
                intro x1_102 Y_102  t102
                exact absurd t102 (by rintro ⟨k, -, -, h1, h2⟩; omega)
              | succ n102 ih102 =>
                intro x1_102 Y_102  t102 hσ H locs ls hP hD hS hl
                rw [sX4_nextToken_L102_s] at hσ
                obtain ⟨k102, l102, e102, hk102, hn102⟩ := t102
                refine lv_iload_n hx hb dX4_nextToken_102 rfl (lv_at hl 1 rfl) ?_
                refine lv_if_eqB (tgt := 145) hx hb dX4_nextToken_103 (by decide) (fun c103 => ?_) (fun c103 => ?_)
                · rw [if_neg (Bool.eq_false_iff.mp c103)] at hσ
                  subst hσ
                  exact vq_vret hx hb hr hlocks hK hP hD hS dX4_nextToken_145
                · rw [if_pos c103] at hσ
                  refine lv_aload_n hx hb dX4_nextToken_106 rfl (lv_at hl 0 rfl) ?_
                  refine va_get (D := (dC, dI)) (ci := 4) (v := .int (Y_102.1 5)) (C := RX4) (T := TX4) (N := 8) hx hb hts (fun _ h => List.mem_cons_of_mem _ (List.mem_append_right _ h)) hown hK hP 0 rfl rfl 7 (by decide) (hts (.fieldLink RX4 36 "SharedLine$Text" "end" "I") (List.mem_of_getElem? (i := 1) rfl)) (fun _ h9 => h9) rfl dX4_nextToken_107 ?_
                  refine lv_aload_n hx hb dX4_nextToken_110 rfl (lv_at hl 0 rfl) ?_
                  refine va_get (D := (dC, dI)) (ci := 4) (v := .int (Y_102.1 0)) (C := RX4) (T := TX4) (N := 8) hx hb hts (fun _ h => List.mem_cons_of_mem _ (List.mem_append_right _ h)) hown hK hP 0 rfl rfl 1 (by decide) (hts (.fieldLink RX4 22 "SharedLine$Text" "length" "I") (List.mem_of_getElem? (i := 3) rfl)) (fun _ h9 => h9) rfl dX4_nextToken_111 ?_
                  refine lv_icmp_ge (tgt := 145) hx hb dX4_nextToken_114 (by decide) (fun c114 => ?_) (fun c114 => ?_)
                  · rw [if_pos c114] at hσ
                    subst hσ
                    exact vq_vret hx hb hr hlocks hK hP hD hS dX4_nextToken_145
                  · rw [if_neg c114] at hσ
                    refine lv_aload_n hx hb dX4_nextToken_117 rfl (lv_at hl 0 rfl) ?_
                    refine lv_aload_n hx hb dX4_nextToken_118 rfl (lv_at hl 0 rfl) ?_
                    refine va_get (D := (dC, dI)) (ci := 4) (v := .int (Y_102.1 5)) (C := RX4) (T := TX4) (N := 8) hx hb hts (fun _ h => List.mem_cons_of_mem _ (List.mem_append_right _ h)) hown hK hP 0 rfl rfl 7 (by decide) (hts (.fieldLink RX4 36 "SharedLine$Text" "end" "I") (List.mem_of_getElem? (i := 1) rfl)) (fun _ h9 => h9) rfl dX4_nextToken_119 ?_
                    refine vq_Vi (As := [.int (Y_102.1 5)]) (rest := []) (W2 := (wX cI h hp hq Y_102)) (f := (sX4_kindAt Y_102 (Y_102.1 5))) hx hb hml hown hts hK hP hD hS hA hE hl.1 (cX4_kindAt_c l ev dC dI cI cZ cO h hp hq Y_102 (Y_102.1 5) ⟨n, l102, hn⟩) gX4_nextToken_X4_kindAt rfl hdX4_kindAt (Nat.le_of_ble_eq_true rfl) (Nat.le_of_ble_eq_true rfl) rfl rfl (ci := 4) (qr := 0) rfl rfl rfl [0, 1] [] [0, 1] rfl rfl (by decide) (by decide) (by decide) rfl rfl rfl (Nat.le_of_ble_eq_true rfl) dX4_nextToken_122 ⟨Nat.zero_le _, Nat.zero_le _⟩ (fun H locs hP hD hS => ?_)
                    refine lv_aload_n hx hb dX4_nextToken_125 rfl (lv_at hl 0 rfl) ?_
                    refine va_get (D := (dC, dI)) (ci := 4) (v := .int (Y_102.1 3)) (C := RX4) (T := TX4) (N := 8) hx hb hts (fun _ h => List.mem_cons_of_mem _ (List.mem_append_right _ h)) hown hK hP 0 rfl rfl 5 (by decide) (hts (.fieldLink RX4 42 "SharedLine$Text" "kind" "I") (List.mem_of_getElem? (i := 4) rfl)) (fun _ h9 => h9) rfl dX4_nextToken_126 ?_
                    refine lv_icmp_ne (tgt := 145) hx hb dX4_nextToken_129 (by decide) (fun c129 => ?_) (fun c129 => ?_)
                    · rw [if_neg c129] at hσ
                      subst hσ
                      exact vq_vret hx hb hr hlocks hK hP hD hS dX4_nextToken_145
                    · rw [if_pos c129] at hσ
                      refine lv_aload_n hx hb dX4_nextToken_132 rfl (lv_at hl 0 rfl) ?_
                      refine lv_dup hx hb dX4_nextToken_133 rfl ?_
                      refine va_get (D := (dC, dI)) (ci := 4) (v := .int (Y_102.1 5)) (C := RX4) (T := TX4) (N := 8) hx hb hts (fun _ h => List.mem_cons_of_mem _ (List.mem_append_right _ h)) hown hK hP 0 rfl rfl 7 (by decide) (hts (.fieldLink RX4 36 "SharedLine$Text" "end" "I") (List.mem_of_getElem? (i := 1) rfl)) (fun _ h9 => h9) rfl dX4_nextToken_134 ?_
                      refine lv_iconst (v := 1) hx hb dX4_nextToken_137 (by decide) ?_
                      refine lv_iadd hx hb dX4_nextToken_138 ?_
                      refine va_put (D := (dC, dI)) (ci := 4) (v := .int ((Y_102.1 5) + 1)) (ty := .int) (C := RX4) (T := TX4) (N := 8) hx hb hts (fun _ h => List.mem_cons_of_mem _ (List.mem_append_right _ h)) tyX4 tyX4_ok nmX4 hown hK hP hD hS 0 rfl rfl 7 (by decide) (hts (.fieldLink RX4 36 "SharedLine$Text" "end" "I") (List.mem_of_getElem? (i := 1) rfl)) (fun _ h9 => h9) rfl (tyX4_ok 7 (by decide)) rfl rfl (Nat.le_of_ble_eq_true rfl) dX4_nextToken_139 (fun H locs hP hD hS => ?_)
                      have hP : va_P (dC, dI) vwCl (wX cI h hp hq ((upd Y_102.1 5 ((Y_102.1 5) + 1)), Y_102.2)) H := hP
                      have hD : va_D A (wX cI h hp hq ((upd Y_102.1 5 ((Y_102.1 5) + 1)), Y_102.2)) := hD
                      refine lv_goto (tgt := 102) hx hb dX4_nextToken_142 (by decide) ?_
                      exact ih102 x1_102 ((upd Y_102.1 5 ((Y_102.1 5) + 1)), Y_102.2) ⟨k102 + 1, l102, up_s e102, (by have := up_lt e102 l102 (by omega) c114; omega), by omega⟩ hσ _ _ _ hP hD hS (lv_sub hl [0, 1] rfl)
            exact key102 121 true ((upd (upd Y_8.1 3 (sX4_kindAt Y_8 (Y_8.1 4))) 5 (Y_8.1 4)), Y_8.2) (by first | exact ⟨k8, l8, e8, hk8, by omega⟩ | exact ⟨k8 + 1, l8, up_s e8, kind_lt l8 hn e8 hk8 c61, by omega⟩) hσ _ _ _ hP hD hS (lv_sub hl [1, 0] rfl)
          · rw [if_neg c85] at hσ
            refine lv_aload_n hx hb dX4_nextToken_88 rfl (lv_at hl 0 rfl) ?_
            refine va_get (D := (dC, dI)) (ci := 4) (v := .int (sX4_kindAt Y_8 (Y_8.1 4))) (C := RX4) (T := TX4) (N := 8) hx hb hts (fun _ h => List.mem_cons_of_mem _ (List.mem_append_right _ h)) hown hK hP 0 rfl rfl 5 (by decide) (hts (.fieldLink RX4 42 "SharedLine$Text" "kind" "I") (List.mem_of_getElem? (i := 4) rfl)) (fun _ h9 => h9) rfl dX4_nextToken_89 ?_
            refine lv_iconst (v := 2) hx hb dX4_nextToken_92 (by decide) ?_
            refine lv_icmp_ne (tgt := 100) hx hb dX4_nextToken_93 (by decide) (fun c93 => ?_) (fun c93 => ?_)
            · rw [if_neg c93] at hσ
              refine lv_iconst (v := 0) hx hb dX4_nextToken_100 (by decide) ?_
              refine lv_istore_n (lv' := [(1, .int 0), (0, .ref h)]) hx hb dX4_nextToken_101 rfl hl (by decide) rfl (fun ls hl => ?_)
              have key102 : ∀ (n102 : Nat) (x1_102 : Bool) (Y_102 : LSt) , (∃ k : Nat, Y_102.1 0 = nI n ∧ Y_102.1 5 = nI k ∧ k ≤ n ∧ 120 + 1 ≤ n102 + k) → (sX4_nextToken_L102  n102 x1_102 Y_102) = σ → ∀ (H : Heap) (locs : List Loc) (ls : Array Slot), va_P (dC, dI) vwCl (wX cI h hp hq Y_102) H → va_D A (wX cI h hp hq Y_102) → va_S A s.heap H locs → lv_has ls 2 [(0, .ref h), (1, .int (bI x1_102))] → W p l e (headSpec wsX4_nextToken (rmF 2 43)).room s m ([.ref h] : List Value).toArray below meth c H locs 0 0 (MQ below (va_Qv (fun (_ : Unit) => True) (fun _ t => PoW (dC, dI) (tyC cI cZ cO) A (wX cI h hp hq σ) t) A) ([.ref h] : List Value).toArray s 0 0 A) (F0 m 102 ls []) := by
                intro n102
                induction n102 with
                | zero =>
                  intro x1_102 Y_102  t102
                  exact absurd t102 (by rintro ⟨k, -, -, h1, h2⟩; omega)
                | succ n102 ih102 =>
                  intro x1_102 Y_102  t102 hσ H locs ls hP hD hS hl
                  rw [sX4_nextToken_L102_s] at hσ
                  obtain ⟨k102, l102, e102, hk102, hn102⟩ := t102
                  refine lv_iload_n hx hb dX4_nextToken_102 rfl (lv_at hl 1 rfl) ?_
                  refine lv_if_eqB (tgt := 145) hx hb dX4_nextToken_103 (by decide) (fun c103 => ?_) (fun c103 => ?_)
                  · rw [if_neg (Bool.eq_false_iff.mp c103)] at hσ
                    subst hσ
                    exact vq_vret hx hb hr hlocks hK hP hD hS dX4_nextToken_145
                  · rw [if_pos c103] at hσ
                    refine lv_aload_n hx hb dX4_nextToken_106 rfl (lv_at hl 0 rfl) ?_
                    refine va_get (D := (dC, dI)) (ci := 4) (v := .int (Y_102.1 5)) (C := RX4) (T := TX4) (N := 8) hx hb hts (fun _ h => List.mem_cons_of_mem _ (List.mem_append_right _ h)) hown hK hP 0 rfl rfl 7 (by decide) (hts (.fieldLink RX4 36 "SharedLine$Text" "end" "I") (List.mem_of_getElem? (i := 1) rfl)) (fun _ h9 => h9) rfl dX4_nextToken_107 ?_
                    refine lv_aload_n hx hb dX4_nextToken_110 rfl (lv_at hl 0 rfl) ?_
                    refine va_get (D := (dC, dI)) (ci := 4) (v := .int (Y_102.1 0)) (C := RX4) (T := TX4) (N := 8) hx hb hts (fun _ h => List.mem_cons_of_mem _ (List.mem_append_right _ h)) hown hK hP 0 rfl rfl 1 (by decide) (hts (.fieldLink RX4 22 "SharedLine$Text" "length" "I") (List.mem_of_getElem? (i := 3) rfl)) (fun _ h9 => h9) rfl dX4_nextToken_111 ?_
                    refine lv_icmp_ge (tgt := 145) hx hb dX4_nextToken_114 (by decide) (fun c114 => ?_) (fun c114 => ?_)
                    · rw [if_pos c114] at hσ
                      subst hσ
                      exact vq_vret hx hb hr hlocks hK hP hD hS dX4_nextToken_145
                    · rw [if_neg c114] at hσ
                      refine lv_aload_n hx hb dX4_nextToken_117 rfl (lv_at hl 0 rfl) ?_
                      refine lv_aload_n hx hb dX4_nextToken_118 rfl (lv_at hl 0 rfl) ?_
                      refine va_get (D := (dC, dI)) (ci := 4) (v := .int (Y_102.1 5)) (C := RX4) (T := TX4) (N := 8) hx hb hts (fun _ h => List.mem_cons_of_mem _ (List.mem_append_right _ h)) hown hK hP 0 rfl rfl 7 (by decide) (hts (.fieldLink RX4 36 "SharedLine$Text" "end" "I") (List.mem_of_getElem? (i := 1) rfl)) (fun _ h9 => h9) rfl dX4_nextToken_119 ?_
                      refine vq_Vi (As := [.int (Y_102.1 5)]) (rest := []) (W2 := (wX cI h hp hq Y_102)) (f := (sX4_kindAt Y_102 (Y_102.1 5))) hx hb hml hown hts hK hP hD hS hA hE hl.1 (cX4_kindAt_c l ev dC dI cI cZ cO h hp hq Y_102 (Y_102.1 5) ⟨n, l102, hn⟩) gX4_nextToken_X4_kindAt rfl hdX4_kindAt (Nat.le_of_ble_eq_true rfl) (Nat.le_of_ble_eq_true rfl) rfl rfl (ci := 4) (qr := 0) rfl rfl rfl [0, 1] [] [0, 1] rfl rfl (by decide) (by decide) (by decide) rfl rfl rfl (Nat.le_of_ble_eq_true rfl) dX4_nextToken_122 ⟨Nat.zero_le _, Nat.zero_le _⟩ (fun H locs hP hD hS => ?_)
                      refine lv_aload_n hx hb dX4_nextToken_125 rfl (lv_at hl 0 rfl) ?_
                      refine va_get (D := (dC, dI)) (ci := 4) (v := .int (Y_102.1 3)) (C := RX4) (T := TX4) (N := 8) hx hb hts (fun _ h => List.mem_cons_of_mem _ (List.mem_append_right _ h)) hown hK hP 0 rfl rfl 5 (by decide) (hts (.fieldLink RX4 42 "SharedLine$Text" "kind" "I") (List.mem_of_getElem? (i := 4) rfl)) (fun _ h9 => h9) rfl dX4_nextToken_126 ?_
                      refine lv_icmp_ne (tgt := 145) hx hb dX4_nextToken_129 (by decide) (fun c129 => ?_) (fun c129 => ?_)
                      · rw [if_neg c129] at hσ
                        subst hσ
                        exact vq_vret hx hb hr hlocks hK hP hD hS dX4_nextToken_145
                      · rw [if_pos c129] at hσ
                        refine lv_aload_n hx hb dX4_nextToken_132 rfl (lv_at hl 0 rfl) ?_
                        refine lv_dup hx hb dX4_nextToken_133 rfl ?_
                        refine va_get (D := (dC, dI)) (ci := 4) (v := .int (Y_102.1 5)) (C := RX4) (T := TX4) (N := 8) hx hb hts (fun _ h => List.mem_cons_of_mem _ (List.mem_append_right _ h)) hown hK hP 0 rfl rfl 7 (by decide) (hts (.fieldLink RX4 36 "SharedLine$Text" "end" "I") (List.mem_of_getElem? (i := 1) rfl)) (fun _ h9 => h9) rfl dX4_nextToken_134 ?_
                        refine lv_iconst (v := 1) hx hb dX4_nextToken_137 (by decide) ?_
                        refine lv_iadd hx hb dX4_nextToken_138 ?_
                        refine va_put (D := (dC, dI)) (ci := 4) (v := .int ((Y_102.1 5) + 1)) (ty := .int) (C := RX4) (T := TX4) (N := 8) hx hb hts (fun _ h => List.mem_cons_of_mem _ (List.mem_append_right _ h)) tyX4 tyX4_ok nmX4 hown hK hP hD hS 0 rfl rfl 7 (by decide) (hts (.fieldLink RX4 36 "SharedLine$Text" "end" "I") (List.mem_of_getElem? (i := 1) rfl)) (fun _ h9 => h9) rfl (tyX4_ok 7 (by decide)) rfl rfl (Nat.le_of_ble_eq_true rfl) dX4_nextToken_139 (fun H locs hP hD hS => ?_)
                        have hP : va_P (dC, dI) vwCl (wX cI h hp hq ((upd Y_102.1 5 ((Y_102.1 5) + 1)), Y_102.2)) H := hP
                        have hD : va_D A (wX cI h hp hq ((upd Y_102.1 5 ((Y_102.1 5) + 1)), Y_102.2)) := hD
                        refine lv_goto (tgt := 102) hx hb dX4_nextToken_142 (by decide) ?_
                        exact ih102 x1_102 ((upd Y_102.1 5 ((Y_102.1 5) + 1)), Y_102.2) ⟨k102 + 1, l102, up_s e102, (by have := up_lt e102 l102 (by omega) c114; omega), by omega⟩ hσ _ _ _ hP hD hS (lv_sub hl [0, 1] rfl)
              exact key102 121 false ((upd (upd Y_8.1 3 (sX4_kindAt Y_8 (Y_8.1 4))) 5 (Y_8.1 4)), Y_8.2) (by first | exact ⟨k8, l8, e8, hk8, by omega⟩ | exact ⟨k8 + 1, l8, up_s e8, kind_lt l8 hn e8 hk8 c61, by omega⟩) hσ _ _ _ hP hD hS (lv_sub hl [1, 0] rfl)
            · rw [if_pos c93] at hσ
              refine lv_iconst (v := 1) hx hb dX4_nextToken_96 (by decide) ?_
              refine lv_goto (tgt := 101) hx hb dX4_nextToken_97 (by decide) ?_
              refine lv_istore_n (lv' := [(1, .int 1), (0, .ref h)]) hx hb dX4_nextToken_101 rfl hl (by decide) rfl (fun ls hl => ?_)
              have key102 : ∀ (n102 : Nat) (x1_102 : Bool) (Y_102 : LSt) , (∃ k : Nat, Y_102.1 0 = nI n ∧ Y_102.1 5 = nI k ∧ k ≤ n ∧ 120 + 1 ≤ n102 + k) → (sX4_nextToken_L102  n102 x1_102 Y_102) = σ → ∀ (H : Heap) (locs : List Loc) (ls : Array Slot), va_P (dC, dI) vwCl (wX cI h hp hq Y_102) H → va_D A (wX cI h hp hq Y_102) → va_S A s.heap H locs → lv_has ls 2 [(0, .ref h), (1, .int (bI x1_102))] → W p l e (headSpec wsX4_nextToken (rmF 2 43)).room s m ([.ref h] : List Value).toArray below meth c H locs 0 0 (MQ below (va_Qv (fun (_ : Unit) => True) (fun _ t => PoW (dC, dI) (tyC cI cZ cO) A (wX cI h hp hq σ) t) A) ([.ref h] : List Value).toArray s 0 0 A) (F0 m 102 ls []) := by
                intro n102
                induction n102 with
                | zero =>
                  intro x1_102 Y_102  t102
                  exact absurd t102 (by rintro ⟨k, -, -, h1, h2⟩; omega)
                | succ n102 ih102 =>
                  intro x1_102 Y_102  t102 hσ H locs ls hP hD hS hl
                  rw [sX4_nextToken_L102_s] at hσ
                  obtain ⟨k102, l102, e102, hk102, hn102⟩ := t102
                  refine lv_iload_n hx hb dX4_nextToken_102 rfl (lv_at hl 1 rfl) ?_
                  refine lv_if_eqB (tgt := 145) hx hb dX4_nextToken_103 (by decide) (fun c103 => ?_) (fun c103 => ?_)
                  · rw [if_neg (Bool.eq_false_iff.mp c103)] at hσ
                    subst hσ
                    exact vq_vret hx hb hr hlocks hK hP hD hS dX4_nextToken_145
                  · rw [if_pos c103] at hσ
                    refine lv_aload_n hx hb dX4_nextToken_106 rfl (lv_at hl 0 rfl) ?_
                    refine va_get (D := (dC, dI)) (ci := 4) (v := .int (Y_102.1 5)) (C := RX4) (T := TX4) (N := 8) hx hb hts (fun _ h => List.mem_cons_of_mem _ (List.mem_append_right _ h)) hown hK hP 0 rfl rfl 7 (by decide) (hts (.fieldLink RX4 36 "SharedLine$Text" "end" "I") (List.mem_of_getElem? (i := 1) rfl)) (fun _ h9 => h9) rfl dX4_nextToken_107 ?_
                    refine lv_aload_n hx hb dX4_nextToken_110 rfl (lv_at hl 0 rfl) ?_
                    refine va_get (D := (dC, dI)) (ci := 4) (v := .int (Y_102.1 0)) (C := RX4) (T := TX4) (N := 8) hx hb hts (fun _ h => List.mem_cons_of_mem _ (List.mem_append_right _ h)) hown hK hP 0 rfl rfl 1 (by decide) (hts (.fieldLink RX4 22 "SharedLine$Text" "length" "I") (List.mem_of_getElem? (i := 3) rfl)) (fun _ h9 => h9) rfl dX4_nextToken_111 ?_
                    refine lv_icmp_ge (tgt := 145) hx hb dX4_nextToken_114 (by decide) (fun c114 => ?_) (fun c114 => ?_)
                    · rw [if_pos c114] at hσ
                      subst hσ
                      exact vq_vret hx hb hr hlocks hK hP hD hS dX4_nextToken_145
                    · rw [if_neg c114] at hσ
                      refine lv_aload_n hx hb dX4_nextToken_117 rfl (lv_at hl 0 rfl) ?_
                      refine lv_aload_n hx hb dX4_nextToken_118 rfl (lv_at hl 0 rfl) ?_
                      refine va_get (D := (dC, dI)) (ci := 4) (v := .int (Y_102.1 5)) (C := RX4) (T := TX4) (N := 8) hx hb hts (fun _ h => List.mem_cons_of_mem _ (List.mem_append_right _ h)) hown hK hP 0 rfl rfl 7 (by decide) (hts (.fieldLink RX4 36 "SharedLine$Text" "end" "I") (List.mem_of_getElem? (i := 1) rfl)) (fun _ h9 => h9) rfl dX4_nextToken_119 ?_
                      refine vq_Vi (As := [.int (Y_102.1 5)]) (rest := []) (W2 := (wX cI h hp hq Y_102)) (f := (sX4_kindAt Y_102 (Y_102.1 5))) hx hb hml hown hts hK hP hD hS hA hE hl.1 (cX4_kindAt_c l ev dC dI cI cZ cO h hp hq Y_102 (Y_102.1 5) ⟨n, l102, hn⟩) gX4_nextToken_X4_kindAt rfl hdX4_kindAt (Nat.le_of_ble_eq_true rfl) (Nat.le_of_ble_eq_true rfl) rfl rfl (ci := 4) (qr := 0) rfl rfl rfl [0, 1] [] [0, 1] rfl rfl (by decide) (by decide) (by decide) rfl rfl rfl (Nat.le_of_ble_eq_true rfl) dX4_nextToken_122 ⟨Nat.zero_le _, Nat.zero_le _⟩ (fun H locs hP hD hS => ?_)
                      refine lv_aload_n hx hb dX4_nextToken_125 rfl (lv_at hl 0 rfl) ?_
                      refine va_get (D := (dC, dI)) (ci := 4) (v := .int (Y_102.1 3)) (C := RX4) (T := TX4) (N := 8) hx hb hts (fun _ h => List.mem_cons_of_mem _ (List.mem_append_right _ h)) hown hK hP 0 rfl rfl 5 (by decide) (hts (.fieldLink RX4 42 "SharedLine$Text" "kind" "I") (List.mem_of_getElem? (i := 4) rfl)) (fun _ h9 => h9) rfl dX4_nextToken_126 ?_
                      refine lv_icmp_ne (tgt := 145) hx hb dX4_nextToken_129 (by decide) (fun c129 => ?_) (fun c129 => ?_)
                      · rw [if_neg c129] at hσ
                        subst hσ
                        exact vq_vret hx hb hr hlocks hK hP hD hS dX4_nextToken_145
                      · rw [if_pos c129] at hσ
                        refine lv_aload_n hx hb dX4_nextToken_132 rfl (lv_at hl 0 rfl) ?_
                        refine lv_dup hx hb dX4_nextToken_133 rfl ?_
                        refine va_get (D := (dC, dI)) (ci := 4) (v := .int (Y_102.1 5)) (C := RX4) (T := TX4) (N := 8) hx hb hts (fun _ h => List.mem_cons_of_mem _ (List.mem_append_right _ h)) hown hK hP 0 rfl rfl 7 (by decide) (hts (.fieldLink RX4 36 "SharedLine$Text" "end" "I") (List.mem_of_getElem? (i := 1) rfl)) (fun _ h9 => h9) rfl dX4_nextToken_134 ?_
                        refine lv_iconst (v := 1) hx hb dX4_nextToken_137 (by decide) ?_
                        refine lv_iadd hx hb dX4_nextToken_138 ?_
                        refine va_put (D := (dC, dI)) (ci := 4) (v := .int ((Y_102.1 5) + 1)) (ty := .int) (C := RX4) (T := TX4) (N := 8) hx hb hts (fun _ h => List.mem_cons_of_mem _ (List.mem_append_right _ h)) tyX4 tyX4_ok nmX4 hown hK hP hD hS 0 rfl rfl 7 (by decide) (hts (.fieldLink RX4 36 "SharedLine$Text" "end" "I") (List.mem_of_getElem? (i := 1) rfl)) (fun _ h9 => h9) rfl (tyX4_ok 7 (by decide)) rfl rfl (Nat.le_of_ble_eq_true rfl) dX4_nextToken_139 (fun H locs hP hD hS => ?_)
                        have hP : va_P (dC, dI) vwCl (wX cI h hp hq ((upd Y_102.1 5 ((Y_102.1 5) + 1)), Y_102.2)) H := hP
                        have hD : va_D A (wX cI h hp hq ((upd Y_102.1 5 ((Y_102.1 5) + 1)), Y_102.2)) := hD
                        refine lv_goto (tgt := 102) hx hb dX4_nextToken_142 (by decide) ?_
                        exact ih102 x1_102 ((upd Y_102.1 5 ((Y_102.1 5) + 1)), Y_102.2) ⟨k102 + 1, l102, up_s e102, (by have := up_lt e102 l102 (by omega) c114; omega), by omega⟩ hσ _ _ _ hP hD hS (lv_sub hl [0, 1] rfl)
              exact key102 121 true ((upd (upd Y_8.1 3 (sX4_kindAt Y_8 (Y_8.1 4))) 5 (Y_8.1 4)), Y_8.2) (by first | exact ⟨k8, l8, e8, hk8, by omega⟩ | exact ⟨k8 + 1, l8, up_s e8, kind_lt l8 hn e8 hk8 c61, by omega⟩) hσ _ _ _ hP hD hS (lv_sub hl [1, 0] rfl)
      · rw [if_neg c16] at hσ
        refine lv_aload_n hx hb dX4_nextToken_19 rfl (lv_at hl 0 rfl) ?_
        refine lv_aload_n hx hb dX4_nextToken_20 rfl (lv_at hl 0 rfl) ?_
        refine va_get (D := (dC, dI)) (ci := 4) (v := .int (Y_8.1 4)) (C := RX4) (T := TX4) (N := 8) hx hb hts (fun _ h => List.mem_cons_of_mem _ (List.mem_append_right _ h)) hown hK hP 0 rfl rfl 6 (by decide) (hts (.fieldLink RX4 49 "SharedLine$Text" "start" "I") (List.mem_of_getElem? (i := 2) rfl)) (fun _ h9 => h9) rfl dX4_nextToken_21 ?_
        refine vq_Vi (As := [.int (Y_8.1 4)]) (rest := []) (W2 := (wX cI h hp hq Y_8)) (f := (sX4_kindAt Y_8 (Y_8.1 4))) hx hb hml hown hts hK hP hD hS hA hE hl.1 (cX4_kindAt_c l ev dC dI cI cZ cO h hp hq Y_8 (Y_8.1 4) ⟨n, l8, hn⟩) gX4_nextToken_X4_kindAt rfl hdX4_kindAt (Nat.le_of_ble_eq_true rfl) (Nat.le_of_ble_eq_true rfl) rfl rfl (ci := 4) (qr := 0) rfl rfl rfl [0, 1] [] [0, 1] rfl rfl (by decide) (by decide) (by decide) rfl rfl rfl (Nat.le_of_ble_eq_true rfl) dX4_nextToken_24 ⟨Nat.zero_le _, Nat.zero_le _⟩ (fun H locs hP hD hS => ?_)
        refine lv_iconst (v := 4) hx hb dX4_nextToken_27 (by decide) ?_
        refine lv_icmp_ne (tgt := 44) hx hb dX4_nextToken_28 (by decide) (fun c28 => ?_) (fun c28 => ?_)
        · rw [if_neg c28] at hσ
          refine lv_aload_n hx hb dX4_nextToken_44 rfl (lv_at hl 0 rfl) ?_
          refine lv_aload_n hx hb dX4_nextToken_45 rfl (lv_at hl 0 rfl) ?_
          refine lv_aload_n hx hb dX4_nextToken_46 rfl (lv_at hl 0 rfl) ?_
          refine va_get (D := (dC, dI)) (ci := 4) (v := .int (Y_8.1 4)) (C := RX4) (T := TX4) (N := 8) hx hb hts (fun _ h => List.mem_cons_of_mem _ (List.mem_append_right _ h)) hown hK hP 0 rfl rfl 6 (by decide) (hts (.fieldLink RX4 49 "SharedLine$Text" "start" "I") (List.mem_of_getElem? (i := 2) rfl)) (fun _ h9 => h9) rfl dX4_nextToken_47 ?_
          refine vq_Vi (As := [.int (Y_8.1 4)]) (rest := [.ref h]) (W2 := (wX cI h hp hq Y_8)) (f := (sX4_kindAt Y_8 (Y_8.1 4))) hx hb hml hown hts hK hP hD hS hA hE hl.1 (cX4_kindAt_c l ev dC dI cI cZ cO h hp hq Y_8 (Y_8.1 4) ⟨n, l8, hn⟩) gX4_nextToken_X4_kindAt rfl hdX4_kindAt (Nat.le_of_ble_eq_true rfl) (Nat.le_of_ble_eq_true rfl) rfl rfl (ci := 4) (qr := 0) rfl rfl rfl [0, 1] [] [0, 1] rfl rfl (by decide) (by decide) (by decide) rfl rfl rfl (Nat.le_of_ble_eq_true rfl) dX4_nextToken_50 ⟨Nat.zero_le _, Nat.zero_le _⟩ (fun H locs hP hD hS => ?_)
          refine va_put (D := (dC, dI)) (ci := 4) (v := .int (sX4_kindAt Y_8 (Y_8.1 4))) (ty := .int) (C := RX4) (T := TX4) (N := 8) hx hb hts (fun _ h => List.mem_cons_of_mem _ (List.mem_append_right _ h)) tyX4 tyX4_ok nmX4 hown hK hP hD hS 0 rfl rfl 5 (by decide) (hts (.fieldLink RX4 42 "SharedLine$Text" "kind" "I") (List.mem_of_getElem? (i := 4) rfl)) (fun _ h9 => h9) rfl (tyX4_ok 5 (by decide)) rfl rfl (Nat.le_of_ble_eq_true rfl) dX4_nextToken_53 (fun H locs hP hD hS => ?_)
          have hP : va_P (dC, dI) vwCl (wX cI h hp hq ((upd Y_8.1 3 (sX4_kindAt Y_8 (Y_8.1 4))), Y_8.2)) H := hP
          have hD : va_D A (wX cI h hp hq ((upd Y_8.1 3 (sX4_kindAt Y_8 (Y_8.1 4))), Y_8.2)) := hD
          refine lv_aload_n hx hb dX4_nextToken_56 rfl (lv_at hl 0 rfl) ?_
          refine lv_aload_n hx hb dX4_nextToken_57 rfl (lv_at hl 0 rfl) ?_
          refine va_get (D := (dC, dI)) (ci := 4) (v := .int (sX4_kindAt Y_8 (Y_8.1 4))) (C := RX4) (T := TX4) (N := 8) hx hb hts (fun _ h => List.mem_cons_of_mem _ (List.mem_append_right _ h)) hown hK hP 0 rfl rfl 5 (by decide) (hts (.fieldLink RX4 42 "SharedLine$Text" "kind" "I") (List.mem_of_getElem? (i := 4) rfl)) (fun _ h9 => h9) rfl dX4_nextToken_58 ?_
          refine lv_if_ne (tgt := 71) hx hb dX4_nextToken_61 (by decide) (fun c61 => ?_) (fun c61 => ?_)
          · rw [if_neg c61] at hσ
            refine lv_aload_n hx hb dX4_nextToken_71 rfl (lv_at hl 0 rfl) ?_
            refine va_get (D := (dC, dI)) (ci := 4) (v := .int (Y_8.1 4)) (C := RX4) (T := TX4) (N := 8) hx hb hts (fun _ h => List.mem_cons_of_mem _ (List.mem_append_right _ h)) hown hK hP 0 rfl rfl 6 (by decide) (hts (.fieldLink RX4 49 "SharedLine$Text" "start" "I") (List.mem_of_getElem? (i := 2) rfl)) (fun _ h9 => h9) rfl dX4_nextToken_72 ?_
            refine lv_iconst (v := 1) hx hb dX4_nextToken_75 (by decide) ?_
            refine lv_iadd hx hb dX4_nextToken_76 ?_
            refine va_put (D := (dC, dI)) (ci := 4) (v := .int ((Y_8.1 4) + 1)) (ty := .int) (C := RX4) (T := TX4) (N := 8) hx hb hts (fun _ h => List.mem_cons_of_mem _ (List.mem_append_right _ h)) tyX4 tyX4_ok nmX4 hown hK hP hD hS 0 rfl rfl 7 (by decide) (hts (.fieldLink RX4 36 "SharedLine$Text" "end" "I") (List.mem_of_getElem? (i := 1) rfl)) (fun _ h9 => h9) rfl (tyX4_ok 7 (by decide)) rfl rfl (Nat.le_of_ble_eq_true rfl) dX4_nextToken_77 (fun H locs hP hD hS => ?_)
            have hP : va_P (dC, dI) vwCl (wX cI h hp hq ((upd (upd Y_8.1 3 (sX4_kindAt Y_8 (Y_8.1 4))) 5 ((Y_8.1 4) + 1)), Y_8.2)) H := hP
            have hD : va_D A (wX cI h hp hq ((upd (upd Y_8.1 3 (sX4_kindAt Y_8 (Y_8.1 4))) 5 ((Y_8.1 4) + 1)), Y_8.2)) := hD
            refine lv_aload_n hx hb dX4_nextToken_80 rfl (lv_at hl 0 rfl) ?_
            refine va_get (D := (dC, dI)) (ci := 4) (v := .int (sX4_kindAt Y_8 (Y_8.1 4))) (C := RX4) (T := TX4) (N := 8) hx hb hts (fun _ h => List.mem_cons_of_mem _ (List.mem_append_right _ h)) hown hK hP 0 rfl rfl 5 (by decide) (hts (.fieldLink RX4 42 "SharedLine$Text" "kind" "I") (List.mem_of_getElem? (i := 4) rfl)) (fun _ h9 => h9) rfl dX4_nextToken_81 ?_
            refine lv_iconst (v := 1) hx hb dX4_nextToken_84 (by decide) ?_
            refine lv_icmp_eq (tgt := 96) hx hb dX4_nextToken_85 (by decide) (fun c85 => ?_) (fun c85 => ?_)
            · rw [if_pos c85] at hσ
              refine lv_iconst (v := 1) hx hb dX4_nextToken_96 (by decide) ?_
              refine lv_goto (tgt := 101) hx hb dX4_nextToken_97 (by decide) ?_
              refine lv_istore_n (lv' := [(1, .int 1), (0, .ref h)]) hx hb dX4_nextToken_101 rfl hl (by decide) rfl (fun ls hl => ?_)
              have key102 : ∀ (n102 : Nat) (x1_102 : Bool) (Y_102 : LSt) , (∃ k : Nat, Y_102.1 0 = nI n ∧ Y_102.1 5 = nI k ∧ k ≤ n ∧ 120 + 1 ≤ n102 + k) → (sX4_nextToken_L102  n102 x1_102 Y_102) = σ → ∀ (H : Heap) (locs : List Loc) (ls : Array Slot), va_P (dC, dI) vwCl (wX cI h hp hq Y_102) H → va_D A (wX cI h hp hq Y_102) → va_S A s.heap H locs → lv_has ls 2 [(0, .ref h), (1, .int (bI x1_102))] → W p l e (headSpec wsX4_nextToken (rmF 2 43)).room s m ([.ref h] : List Value).toArray below meth c H locs 0 0 (MQ below (va_Qv (fun (_ : Unit) => True) (fun _ t => PoW (dC, dI) (tyC cI cZ cO) A (wX cI h hp hq σ) t) A) ([.ref h] : List Value).toArray s 0 0 A) (F0 m 102 ls []) := by
                intro n102
                induction n102 with
                | zero =>
                  intro x1_102 Y_102  t102
                  exact absurd t102 (by rintro ⟨k, -, -, h1, h2⟩; omega)
                | succ n102 ih102 =>
                  intro x1_102 Y_102  t102 hσ H locs ls hP hD hS hl
                  rw [sX4_nextToken_L102_s] at hσ
                  obtain ⟨k102, l102, e102, hk102, hn102⟩ := t102
                  refine lv_iload_n hx hb dX4_nextToken_102 rfl (lv_at hl 1 rfl) ?_
                  refine lv_if_eqB (tgt := 145) hx hb dX4_nextToken_103 (by decide) (fun c103 => ?_) (fun c103 => ?_)
                  · rw [if_neg (Bool.eq_false_iff.mp c103)] at hσ
                    subst hσ
                    exact vq_vret hx hb hr hlocks hK hP hD hS dX4_nextToken_145
                  · rw [if_pos c103] at hσ
                    refine lv_aload_n hx hb dX4_nextToken_106 rfl (lv_at hl 0 rfl) ?_
                    refine va_get (D := (dC, dI)) (ci := 4) (v := .int (Y_102.1 5)) (C := RX4) (T := TX4) (N := 8) hx hb hts (fun _ h => List.mem_cons_of_mem _ (List.mem_append_right _ h)) hown hK hP 0 rfl rfl 7 (by decide) (hts (.fieldLink RX4 36 "SharedLine$Text" "end" "I") (List.mem_of_getElem? (i := 1) rfl)) (fun _ h9 => h9) rfl dX4_nextToken_107 ?_
                    refine lv_aload_n hx hb dX4_nextToken_110 rfl (lv_at hl 0 rfl) ?_
                    refine va_get (D := (dC, dI)) (ci := 4) (v := .int (Y_102.1 0)) (C := RX4) (T := TX4) (N := 8) hx hb hts (fun _ h => List.mem_cons_of_mem _ (List.mem_append_right _ h)) hown hK hP 0 rfl rfl 1 (by decide) (hts (.fieldLink RX4 22 "SharedLine$Text" "length" "I") (List.mem_of_getElem? (i := 3) rfl)) (fun _ h9 => h9) rfl dX4_nextToken_111 ?_
                    refine lv_icmp_ge (tgt := 145) hx hb dX4_nextToken_114 (by decide) (fun c114 => ?_) (fun c114 => ?_)
                    · rw [if_pos c114] at hσ
                      subst hσ
                      exact vq_vret hx hb hr hlocks hK hP hD hS dX4_nextToken_145
                    · rw [if_neg c114] at hσ
                      refine lv_aload_n hx hb dX4_nextToken_117 rfl (lv_at hl 0 rfl) ?_
                      refine lv_aload_n hx hb dX4_nextToken_118 rfl (lv_at hl 0 rfl) ?_
                      refine va_get (D := (dC, dI)) (ci := 4) (v := .int (Y_102.1 5)) (C := RX4) (T := TX4) (N := 8) hx hb hts (fun _ h => List.mem_cons_of_mem _ (List.mem_append_right _ h)) hown hK hP 0 rfl rfl 7 (by decide) (hts (.fieldLink RX4 36 "SharedLine$Text" "end" "I") (List.mem_of_getElem? (i := 1) rfl)) (fun _ h9 => h9) rfl dX4_nextToken_119 ?_
                      refine vq_Vi (As := [.int (Y_102.1 5)]) (rest := []) (W2 := (wX cI h hp hq Y_102)) (f := (sX4_kindAt Y_102 (Y_102.1 5))) hx hb hml hown hts hK hP hD hS hA hE hl.1 (cX4_kindAt_c l ev dC dI cI cZ cO h hp hq Y_102 (Y_102.1 5) ⟨n, l102, hn⟩) gX4_nextToken_X4_kindAt rfl hdX4_kindAt (Nat.le_of_ble_eq_true rfl) (Nat.le_of_ble_eq_true rfl) rfl rfl (ci := 4) (qr := 0) rfl rfl rfl [0, 1] [] [0, 1] rfl rfl (by decide) (by decide) (by decide) rfl rfl rfl (Nat.le_of_ble_eq_true rfl) dX4_nextToken_122 ⟨Nat.zero_le _, Nat.zero_le _⟩ (fun H locs hP hD hS => ?_)
                      refine lv_aload_n hx hb dX4_nextToken_125 rfl (lv_at hl 0 rfl) ?_
                      refine va_get (D := (dC, dI)) (ci := 4) (v := .int (Y_102.1 3)) (C := RX4) (T := TX4) (N := 8) hx hb hts (fun _ h => List.mem_cons_of_mem _ (List.mem_append_right _ h)) hown hK hP 0 rfl rfl 5 (by decide) (hts (.fieldLink RX4 42 "SharedLine$Text" "kind" "I") (List.mem_of_getElem? (i := 4) rfl)) (fun _ h9 => h9) rfl dX4_nextToken_126 ?_
                      refine lv_icmp_ne (tgt := 145) hx hb dX4_nextToken_129 (by decide) (fun c129 => ?_) (fun c129 => ?_)
                      · rw [if_neg c129] at hσ
                        subst hσ
                        exact vq_vret hx hb hr hlocks hK hP hD hS dX4_nextToken_145
                      · rw [if_pos c129] at hσ
                        refine lv_aload_n hx hb dX4_nextToken_132 rfl (lv_at hl 0 rfl) ?_
                        refine lv_dup hx hb dX4_nextToken_133 rfl ?_
                        refine va_get (D := (dC, dI)) (ci := 4) (v := .int (Y_102.1 5)) (C := RX4) (T := TX4) (N := 8) hx hb hts (fun _ h => List.mem_cons_of_mem _ (List.mem_append_right _ h)) hown hK hP 0 rfl rfl 7 (by decide) (hts (.fieldLink RX4 36 "SharedLine$Text" "end" "I") (List.mem_of_getElem? (i := 1) rfl)) (fun _ h9 => h9) rfl dX4_nextToken_134 ?_
                        refine lv_iconst (v := 1) hx hb dX4_nextToken_137 (by decide) ?_
                        refine lv_iadd hx hb dX4_nextToken_138 ?_
                        refine va_put (D := (dC, dI)) (ci := 4) (v := .int ((Y_102.1 5) + 1)) (ty := .int) (C := RX4) (T := TX4) (N := 8) hx hb hts (fun _ h => List.mem_cons_of_mem _ (List.mem_append_right _ h)) tyX4 tyX4_ok nmX4 hown hK hP hD hS 0 rfl rfl 7 (by decide) (hts (.fieldLink RX4 36 "SharedLine$Text" "end" "I") (List.mem_of_getElem? (i := 1) rfl)) (fun _ h9 => h9) rfl (tyX4_ok 7 (by decide)) rfl rfl (Nat.le_of_ble_eq_true rfl) dX4_nextToken_139 (fun H locs hP hD hS => ?_)
                        have hP : va_P (dC, dI) vwCl (wX cI h hp hq ((upd Y_102.1 5 ((Y_102.1 5) + 1)), Y_102.2)) H := hP
                        have hD : va_D A (wX cI h hp hq ((upd Y_102.1 5 ((Y_102.1 5) + 1)), Y_102.2)) := hD
                        refine lv_goto (tgt := 102) hx hb dX4_nextToken_142 (by decide) ?_
                        exact ih102 x1_102 ((upd Y_102.1 5 ((Y_102.1 5) + 1)), Y_102.2) ⟨k102 + 1, l102, up_s e102, (by have := up_lt e102 l102 (by omega) c114; omega), by omega⟩ hσ _ _ _ hP hD hS (lv_sub hl [0, 1] rfl)
              exact key102 121 true ((upd (upd Y_8.1 3 (sX4_kindAt Y_8 (Y_8.1 4))) 5 ((Y_8.1 4) + 1)), Y_8.2) (by first | exact ⟨k8, l8, e8, hk8, by omega⟩ | exact ⟨k8 + 1, l8, up_s e8, kind_lt l8 hn e8 hk8 c61, by omega⟩) hσ _ _ _ hP hD hS (lv_sub hl [1, 0] rfl)
            · rw [if_neg c85] at hσ
              refine lv_aload_n hx hb dX4_nextToken_88 rfl (lv_at hl 0 rfl) ?_
              refine va_get (D := (dC, dI)) (ci := 4) (v := .int (sX4_kindAt Y_8 (Y_8.1 4))) (C := RX4) (T := TX4) (N := 8) hx hb hts (fun _ h => List.mem_cons_of_mem _ (List.mem_append_right _ h)) hown hK hP 0 rfl rfl 5 (by decide) (hts (.fieldLink RX4 42 "SharedLine$Text" "kind" "I") (List.mem_of_getElem? (i := 4) rfl)) (fun _ h9 => h9) rfl dX4_nextToken_89 ?_
              refine lv_iconst (v := 2) hx hb dX4_nextToken_92 (by decide) ?_
              refine lv_icmp_ne (tgt := 100) hx hb dX4_nextToken_93 (by decide) (fun c93 => ?_) (fun c93 => ?_)
              · rw [if_neg c93] at hσ
                refine lv_iconst (v := 0) hx hb dX4_nextToken_100 (by decide) ?_
                refine lv_istore_n (lv' := [(1, .int 0), (0, .ref h)]) hx hb dX4_nextToken_101 rfl hl (by decide) rfl (fun ls hl => ?_)
                have key102 : ∀ (n102 : Nat) (x1_102 : Bool) (Y_102 : LSt) , (∃ k : Nat, Y_102.1 0 = nI n ∧ Y_102.1 5 = nI k ∧ k ≤ n ∧ 120 + 1 ≤ n102 + k) → (sX4_nextToken_L102  n102 x1_102 Y_102) = σ → ∀ (H : Heap) (locs : List Loc) (ls : Array Slot), va_P (dC, dI) vwCl (wX cI h hp hq Y_102) H → va_D A (wX cI h hp hq Y_102) → va_S A s.heap H locs → lv_has ls 2 [(0, .ref h), (1, .int (bI x1_102))] → W p l e (headSpec wsX4_nextToken (rmF 2 43)).room s m ([.ref h] : List Value).toArray below meth c H locs 0 0 (MQ below (va_Qv (fun (_ : Unit) => True) (fun _ t => PoW (dC, dI) (tyC cI cZ cO) A (wX cI h hp hq σ) t) A) ([.ref h] : List Value).toArray s 0 0 A) (F0 m 102 ls []) := by
                  intro n102
                  induction n102 with
                  | zero =>
                    intro x1_102 Y_102  t102
                    exact absurd t102 (by rintro ⟨k, -, -, h1, h2⟩; omega)
                  | succ n102 ih102 =>
                    intro x1_102 Y_102  t102 hσ H locs ls hP hD hS hl
                    rw [sX4_nextToken_L102_s] at hσ
                    obtain ⟨k102, l102, e102, hk102, hn102⟩ := t102
                    refine lv_iload_n hx hb dX4_nextToken_102 rfl (lv_at hl 1 rfl) ?_
                    refine lv_if_eqB (tgt := 145) hx hb dX4_nextToken_103 (by decide) (fun c103 => ?_) (fun c103 => ?_)
                    · rw [if_neg (Bool.eq_false_iff.mp c103)] at hσ
                      subst hσ
                      exact vq_vret hx hb hr hlocks hK hP hD hS dX4_nextToken_145
                    · rw [if_pos c103] at hσ
                      refine lv_aload_n hx hb dX4_nextToken_106 rfl (lv_at hl 0 rfl) ?_
                      refine va_get (D := (dC, dI)) (ci := 4) (v := .int (Y_102.1 5)) (C := RX4) (T := TX4) (N := 8) hx hb hts (fun _ h => List.mem_cons_of_mem _ (List.mem_append_right _ h)) hown hK hP 0 rfl rfl 7 (by decide) (hts (.fieldLink RX4 36 "SharedLine$Text" "end" "I") (List.mem_of_getElem? (i := 1) rfl)) (fun _ h9 => h9) rfl dX4_nextToken_107 ?_
                      refine lv_aload_n hx hb dX4_nextToken_110 rfl (lv_at hl 0 rfl) ?_
                      refine va_get (D := (dC, dI)) (ci := 4) (v := .int (Y_102.1 0)) (C := RX4) (T := TX4) (N := 8) hx hb hts (fun _ h => List.mem_cons_of_mem _ (List.mem_append_right _ h)) hown hK hP 0 rfl rfl 1 (by decide) (hts (.fieldLink RX4 22 "SharedLine$Text" "length" "I") (List.mem_of_getElem? (i := 3) rfl)) (fun _ h9 => h9) rfl dX4_nextToken_111 ?_
                      refine lv_icmp_ge (tgt := 145) hx hb dX4_nextToken_114 (by decide) (fun c114 => ?_) (fun c114 => ?_)
                      · rw [if_pos c114] at hσ
                        subst hσ
                        exact vq_vret hx hb hr hlocks hK hP hD hS dX4_nextToken_145
                      · rw [if_neg c114] at hσ
                        refine lv_aload_n hx hb dX4_nextToken_117 rfl (lv_at hl 0 rfl) ?_
                        refine lv_aload_n hx hb dX4_nextToken_118 rfl (lv_at hl 0 rfl) ?_
                        refine va_get (D := (dC, dI)) (ci := 4) (v := .int (Y_102.1 5)) (C := RX4) (T := TX4) (N := 8) hx hb hts (fun _ h => List.mem_cons_of_mem _ (List.mem_append_right _ h)) hown hK hP 0 rfl rfl 7 (by decide) (hts (.fieldLink RX4 36 "SharedLine$Text" "end" "I") (List.mem_of_getElem? (i := 1) rfl)) (fun _ h9 => h9) rfl dX4_nextToken_119 ?_
                        refine vq_Vi (As := [.int (Y_102.1 5)]) (rest := []) (W2 := (wX cI h hp hq Y_102)) (f := (sX4_kindAt Y_102 (Y_102.1 5))) hx hb hml hown hts hK hP hD hS hA hE hl.1 (cX4_kindAt_c l ev dC dI cI cZ cO h hp hq Y_102 (Y_102.1 5) ⟨n, l102, hn⟩) gX4_nextToken_X4_kindAt rfl hdX4_kindAt (Nat.le_of_ble_eq_true rfl) (Nat.le_of_ble_eq_true rfl) rfl rfl (ci := 4) (qr := 0) rfl rfl rfl [0, 1] [] [0, 1] rfl rfl (by decide) (by decide) (by decide) rfl rfl rfl (Nat.le_of_ble_eq_true rfl) dX4_nextToken_122 ⟨Nat.zero_le _, Nat.zero_le _⟩ (fun H locs hP hD hS => ?_)
                        refine lv_aload_n hx hb dX4_nextToken_125 rfl (lv_at hl 0 rfl) ?_
                        refine va_get (D := (dC, dI)) (ci := 4) (v := .int (Y_102.1 3)) (C := RX4) (T := TX4) (N := 8) hx hb hts (fun _ h => List.mem_cons_of_mem _ (List.mem_append_right _ h)) hown hK hP 0 rfl rfl 5 (by decide) (hts (.fieldLink RX4 42 "SharedLine$Text" "kind" "I") (List.mem_of_getElem? (i := 4) rfl)) (fun _ h9 => h9) rfl dX4_nextToken_126 ?_
                        refine lv_icmp_ne (tgt := 145) hx hb dX4_nextToken_129 (by decide) (fun c129 => ?_) (fun c129 => ?_)
                        · rw [if_neg c129] at hσ
                          subst hσ
                          exact vq_vret hx hb hr hlocks hK hP hD hS dX4_nextToken_145
                        · rw [if_pos c129] at hσ
                          refine lv_aload_n hx hb dX4_nextToken_132 rfl (lv_at hl 0 rfl) ?_
                          refine lv_dup hx hb dX4_nextToken_133 rfl ?_
                          refine va_get (D := (dC, dI)) (ci := 4) (v := .int (Y_102.1 5)) (C := RX4) (T := TX4) (N := 8) hx hb hts (fun _ h => List.mem_cons_of_mem _ (List.mem_append_right _ h)) hown hK hP 0 rfl rfl 7 (by decide) (hts (.fieldLink RX4 36 "SharedLine$Text" "end" "I") (List.mem_of_getElem? (i := 1) rfl)) (fun _ h9 => h9) rfl dX4_nextToken_134 ?_
                          refine lv_iconst (v := 1) hx hb dX4_nextToken_137 (by decide) ?_
                          refine lv_iadd hx hb dX4_nextToken_138 ?_
                          refine va_put (D := (dC, dI)) (ci := 4) (v := .int ((Y_102.1 5) + 1)) (ty := .int) (C := RX4) (T := TX4) (N := 8) hx hb hts (fun _ h => List.mem_cons_of_mem _ (List.mem_append_right _ h)) tyX4 tyX4_ok nmX4 hown hK hP hD hS 0 rfl rfl 7 (by decide) (hts (.fieldLink RX4 36 "SharedLine$Text" "end" "I") (List.mem_of_getElem? (i := 1) rfl)) (fun _ h9 => h9) rfl (tyX4_ok 7 (by decide)) rfl rfl (Nat.le_of_ble_eq_true rfl) dX4_nextToken_139 (fun H locs hP hD hS => ?_)
                          have hP : va_P (dC, dI) vwCl (wX cI h hp hq ((upd Y_102.1 5 ((Y_102.1 5) + 1)), Y_102.2)) H := hP
                          have hD : va_D A (wX cI h hp hq ((upd Y_102.1 5 ((Y_102.1 5) + 1)), Y_102.2)) := hD
                          refine lv_goto (tgt := 102) hx hb dX4_nextToken_142 (by decide) ?_
                          exact ih102 x1_102 ((upd Y_102.1 5 ((Y_102.1 5) + 1)), Y_102.2) ⟨k102 + 1, l102, up_s e102, (by have := up_lt e102 l102 (by omega) c114; omega), by omega⟩ hσ _ _ _ hP hD hS (lv_sub hl [0, 1] rfl)
                exact key102 121 false ((upd (upd Y_8.1 3 (sX4_kindAt Y_8 (Y_8.1 4))) 5 ((Y_8.1 4) + 1)), Y_8.2) (by first | exact ⟨k8, l8, e8, hk8, by omega⟩ | exact ⟨k8 + 1, l8, up_s e8, kind_lt l8 hn e8 hk8 c61, by omega⟩) hσ _ _ _ hP hD hS (lv_sub hl [1, 0] rfl)
              · rw [if_pos c93] at hσ
                refine lv_iconst (v := 1) hx hb dX4_nextToken_96 (by decide) ?_
                refine lv_goto (tgt := 101) hx hb dX4_nextToken_97 (by decide) ?_
                refine lv_istore_n (lv' := [(1, .int 1), (0, .ref h)]) hx hb dX4_nextToken_101 rfl hl (by decide) rfl (fun ls hl => ?_)
                have key102 : ∀ (n102 : Nat) (x1_102 : Bool) (Y_102 : LSt) , (∃ k : Nat, Y_102.1 0 = nI n ∧ Y_102.1 5 = nI k ∧ k ≤ n ∧ 120 + 1 ≤ n102 + k) → (sX4_nextToken_L102  n102 x1_102 Y_102) = σ → ∀ (H : Heap) (locs : List Loc) (ls : Array Slot), va_P (dC, dI) vwCl (wX cI h hp hq Y_102) H → va_D A (wX cI h hp hq Y_102) → va_S A s.heap H locs → lv_has ls 2 [(0, .ref h), (1, .int (bI x1_102))] → W p l e (headSpec wsX4_nextToken (rmF 2 43)).room s m ([.ref h] : List Value).toArray below meth c H locs 0 0 (MQ below (va_Qv (fun (_ : Unit) => True) (fun _ t => PoW (dC, dI) (tyC cI cZ cO) A (wX cI h hp hq σ) t) A) ([.ref h] : List Value).toArray s 0 0 A) (F0 m 102 ls []) := by
                  intro n102
                  induction n102 with
                  | zero =>
                    intro x1_102 Y_102  t102
                    exact absurd t102 (by rintro ⟨k, -, -, h1, h2⟩; omega)
                  | succ n102 ih102 =>
                    intro x1_102 Y_102  t102 hσ H locs ls hP hD hS hl
                    rw [sX4_nextToken_L102_s] at hσ
                    obtain ⟨k102, l102, e102, hk102, hn102⟩ := t102
                    refine lv_iload_n hx hb dX4_nextToken_102 rfl (lv_at hl 1 rfl) ?_
                    refine lv_if_eqB (tgt := 145) hx hb dX4_nextToken_103 (by decide) (fun c103 => ?_) (fun c103 => ?_)
                    · rw [if_neg (Bool.eq_false_iff.mp c103)] at hσ
                      subst hσ
                      exact vq_vret hx hb hr hlocks hK hP hD hS dX4_nextToken_145
                    · rw [if_pos c103] at hσ
                      refine lv_aload_n hx hb dX4_nextToken_106 rfl (lv_at hl 0 rfl) ?_
                      refine va_get (D := (dC, dI)) (ci := 4) (v := .int (Y_102.1 5)) (C := RX4) (T := TX4) (N := 8) hx hb hts (fun _ h => List.mem_cons_of_mem _ (List.mem_append_right _ h)) hown hK hP 0 rfl rfl 7 (by decide) (hts (.fieldLink RX4 36 "SharedLine$Text" "end" "I") (List.mem_of_getElem? (i := 1) rfl)) (fun _ h9 => h9) rfl dX4_nextToken_107 ?_
                      refine lv_aload_n hx hb dX4_nextToken_110 rfl (lv_at hl 0 rfl) ?_
                      refine va_get (D := (dC, dI)) (ci := 4) (v := .int (Y_102.1 0)) (C := RX4) (T := TX4) (N := 8) hx hb hts (fun _ h => List.mem_cons_of_mem _ (List.mem_append_right _ h)) hown hK hP 0 rfl rfl 1 (by decide) (hts (.fieldLink RX4 22 "SharedLine$Text" "length" "I") (List.mem_of_getElem? (i := 3) rfl)) (fun _ h9 => h9) rfl dX4_nextToken_111 ?_
                      refine lv_icmp_ge (tgt := 145) hx hb dX4_nextToken_114 (by decide) (fun c114 => ?_) (fun c114 => ?_)
                      · rw [if_pos c114] at hσ
                        subst hσ
                        exact vq_vret hx hb hr hlocks hK hP hD hS dX4_nextToken_145
                      · rw [if_neg c114] at hσ
                        refine lv_aload_n hx hb dX4_nextToken_117 rfl (lv_at hl 0 rfl) ?_
                        refine lv_aload_n hx hb dX4_nextToken_118 rfl (lv_at hl 0 rfl) ?_
                        refine va_get (D := (dC, dI)) (ci := 4) (v := .int (Y_102.1 5)) (C := RX4) (T := TX4) (N := 8) hx hb hts (fun _ h => List.mem_cons_of_mem _ (List.mem_append_right _ h)) hown hK hP 0 rfl rfl 7 (by decide) (hts (.fieldLink RX4 36 "SharedLine$Text" "end" "I") (List.mem_of_getElem? (i := 1) rfl)) (fun _ h9 => h9) rfl dX4_nextToken_119 ?_
                        refine vq_Vi (As := [.int (Y_102.1 5)]) (rest := []) (W2 := (wX cI h hp hq Y_102)) (f := (sX4_kindAt Y_102 (Y_102.1 5))) hx hb hml hown hts hK hP hD hS hA hE hl.1 (cX4_kindAt_c l ev dC dI cI cZ cO h hp hq Y_102 (Y_102.1 5) ⟨n, l102, hn⟩) gX4_nextToken_X4_kindAt rfl hdX4_kindAt (Nat.le_of_ble_eq_true rfl) (Nat.le_of_ble_eq_true rfl) rfl rfl (ci := 4) (qr := 0) rfl rfl rfl [0, 1] [] [0, 1] rfl rfl (by decide) (by decide) (by decide) rfl rfl rfl (Nat.le_of_ble_eq_true rfl) dX4_nextToken_122 ⟨Nat.zero_le _, Nat.zero_le _⟩ (fun H locs hP hD hS => ?_)
                        refine lv_aload_n hx hb dX4_nextToken_125 rfl (lv_at hl 0 rfl) ?_
                        refine va_get (D := (dC, dI)) (ci := 4) (v := .int (Y_102.1 3)) (C := RX4) (T := TX4) (N := 8) hx hb hts (fun _ h => List.mem_cons_of_mem _ (List.mem_append_right _ h)) hown hK hP 0 rfl rfl 5 (by decide) (hts (.fieldLink RX4 42 "SharedLine$Text" "kind" "I") (List.mem_of_getElem? (i := 4) rfl)) (fun _ h9 => h9) rfl dX4_nextToken_126 ?_
                        refine lv_icmp_ne (tgt := 145) hx hb dX4_nextToken_129 (by decide) (fun c129 => ?_) (fun c129 => ?_)
                        · rw [if_neg c129] at hσ
                          subst hσ
                          exact vq_vret hx hb hr hlocks hK hP hD hS dX4_nextToken_145
                        · rw [if_pos c129] at hσ
                          refine lv_aload_n hx hb dX4_nextToken_132 rfl (lv_at hl 0 rfl) ?_
                          refine lv_dup hx hb dX4_nextToken_133 rfl ?_
                          refine va_get (D := (dC, dI)) (ci := 4) (v := .int (Y_102.1 5)) (C := RX4) (T := TX4) (N := 8) hx hb hts (fun _ h => List.mem_cons_of_mem _ (List.mem_append_right _ h)) hown hK hP 0 rfl rfl 7 (by decide) (hts (.fieldLink RX4 36 "SharedLine$Text" "end" "I") (List.mem_of_getElem? (i := 1) rfl)) (fun _ h9 => h9) rfl dX4_nextToken_134 ?_
                          refine lv_iconst (v := 1) hx hb dX4_nextToken_137 (by decide) ?_
                          refine lv_iadd hx hb dX4_nextToken_138 ?_
                          refine va_put (D := (dC, dI)) (ci := 4) (v := .int ((Y_102.1 5) + 1)) (ty := .int) (C := RX4) (T := TX4) (N := 8) hx hb hts (fun _ h => List.mem_cons_of_mem _ (List.mem_append_right _ h)) tyX4 tyX4_ok nmX4 hown hK hP hD hS 0 rfl rfl 7 (by decide) (hts (.fieldLink RX4 36 "SharedLine$Text" "end" "I") (List.mem_of_getElem? (i := 1) rfl)) (fun _ h9 => h9) rfl (tyX4_ok 7 (by decide)) rfl rfl (Nat.le_of_ble_eq_true rfl) dX4_nextToken_139 (fun H locs hP hD hS => ?_)
                          have hP : va_P (dC, dI) vwCl (wX cI h hp hq ((upd Y_102.1 5 ((Y_102.1 5) + 1)), Y_102.2)) H := hP
                          have hD : va_D A (wX cI h hp hq ((upd Y_102.1 5 ((Y_102.1 5) + 1)), Y_102.2)) := hD
                          refine lv_goto (tgt := 102) hx hb dX4_nextToken_142 (by decide) ?_
                          exact ih102 x1_102 ((upd Y_102.1 5 ((Y_102.1 5) + 1)), Y_102.2) ⟨k102 + 1, l102, up_s e102, (by have := up_lt e102 l102 (by omega) c114; omega), by omega⟩ hσ _ _ _ hP hD hS (lv_sub hl [0, 1] rfl)
                exact key102 121 true ((upd (upd Y_8.1 3 (sX4_kindAt Y_8 (Y_8.1 4))) 5 ((Y_8.1 4) + 1)), Y_8.2) (by first | exact ⟨k8, l8, e8, hk8, by omega⟩ | exact ⟨k8 + 1, l8, up_s e8, kind_lt l8 hn e8 hk8 c61, by omega⟩) hσ _ _ _ hP hD hS (lv_sub hl [1, 0] rfl)
          · rw [if_pos c61] at hσ
            refine lv_aload_n hx hb dX4_nextToken_64 rfl (lv_at hl 0 rfl) ?_
            refine va_get (D := (dC, dI)) (ci := 4) (v := .int (Y_8.1 4)) (C := RX4) (T := TX4) (N := 8) hx hb hts (fun _ h => List.mem_cons_of_mem _ (List.mem_append_right _ h)) hown hK hP 0 rfl rfl 6 (by decide) (hts (.fieldLink RX4 49 "SharedLine$Text" "start" "I") (List.mem_of_getElem? (i := 2) rfl)) (fun _ h9 => h9) rfl dX4_nextToken_65 ?_
            refine lv_goto (tgt := 77) hx hb dX4_nextToken_68 (by decide) ?_
            refine va_put (D := (dC, dI)) (ci := 4) (v := .int (Y_8.1 4)) (ty := .int) (C := RX4) (T := TX4) (N := 8) hx hb hts (fun _ h => List.mem_cons_of_mem _ (List.mem_append_right _ h)) tyX4 tyX4_ok nmX4 hown hK hP hD hS 0 rfl rfl 7 (by decide) (hts (.fieldLink RX4 36 "SharedLine$Text" "end" "I") (List.mem_of_getElem? (i := 1) rfl)) (fun _ h9 => h9) rfl (tyX4_ok 7 (by decide)) rfl rfl (Nat.le_of_ble_eq_true rfl) dX4_nextToken_77 (fun H locs hP hD hS => ?_)
            have hP : va_P (dC, dI) vwCl (wX cI h hp hq ((upd (upd Y_8.1 3 (sX4_kindAt Y_8 (Y_8.1 4))) 5 (Y_8.1 4)), Y_8.2)) H := hP
            have hD : va_D A (wX cI h hp hq ((upd (upd Y_8.1 3 (sX4_kindAt Y_8 (Y_8.1 4))) 5 (Y_8.1 4)), Y_8.2)) := hD
            refine lv_aload_n hx hb dX4_nextToken_80 rfl (lv_at hl 0 rfl) ?_
            refine va_get (D := (dC, dI)) (ci := 4) (v := .int (sX4_kindAt Y_8 (Y_8.1 4))) (C := RX4) (T := TX4) (N := 8) hx hb hts (fun _ h => List.mem_cons_of_mem _ (List.mem_append_right _ h)) hown hK hP 0 rfl rfl 5 (by decide) (hts (.fieldLink RX4 42 "SharedLine$Text" "kind" "I") (List.mem_of_getElem? (i := 4) rfl)) (fun _ h9 => h9) rfl dX4_nextToken_81 ?_
            refine lv_iconst (v := 1) hx hb dX4_nextToken_84 (by decide) ?_
            refine lv_icmp_eq (tgt := 96) hx hb dX4_nextToken_85 (by decide) (fun c85 => ?_) (fun c85 => ?_)
            · rw [if_pos c85] at hσ
              refine lv_iconst (v := 1) hx hb dX4_nextToken_96 (by decide) ?_
              refine lv_goto (tgt := 101) hx hb dX4_nextToken_97 (by decide) ?_
              refine lv_istore_n (lv' := [(1, .int 1), (0, .ref h)]) hx hb dX4_nextToken_101 rfl hl (by decide) rfl (fun ls hl => ?_)
              have key102 : ∀ (n102 : Nat) (x1_102 : Bool) (Y_102 : LSt) , (∃ k : Nat, Y_102.1 0 = nI n ∧ Y_102.1 5 = nI k ∧ k ≤ n ∧ 120 + 1 ≤ n102 + k) → (sX4_nextToken_L102  n102 x1_102 Y_102) = σ → ∀ (H : Heap) (locs : List Loc) (ls : Array Slot), va_P (dC, dI) vwCl (wX cI h hp hq Y_102) H → va_D A (wX cI h hp hq Y_102) → va_S A s.heap H locs → lv_has ls 2 [(0, .ref h), (1, .int (bI x1_102))] → W p l e (headSpec wsX4_nextToken (rmF 2 43)).room s m ([.ref h] : List Value).toArray below meth c H locs 0 0 (MQ below (va_Qv (fun (_ : Unit) => True) (fun _ t => PoW (dC, dI) (tyC cI cZ cO) A (wX cI h hp hq σ) t) A) ([.ref h] : List Value).toArray s 0 0 A) (F0 m 102 ls []) := by
                intro n102
                induction n102 with
                | zero =>
                  intro x1_102 Y_102  t102
                  exact absurd t102 (by rintro ⟨k, -, -, h1, h2⟩; omega)
                | succ n102 ih102 =>
                  intro x1_102 Y_102  t102 hσ H locs ls hP hD hS hl
                  rw [sX4_nextToken_L102_s] at hσ
                  obtain ⟨k102, l102, e102, hk102, hn102⟩ := t102
                  refine lv_iload_n hx hb dX4_nextToken_102 rfl (lv_at hl 1 rfl) ?_
                  refine lv_if_eqB (tgt := 145) hx hb dX4_nextToken_103 (by decide) (fun c103 => ?_) (fun c103 => ?_)
                  · rw [if_neg (Bool.eq_false_iff.mp c103)] at hσ
                    subst hσ
                    exact vq_vret hx hb hr hlocks hK hP hD hS dX4_nextToken_145
                  · rw [if_pos c103] at hσ
                    refine lv_aload_n hx hb dX4_nextToken_106 rfl (lv_at hl 0 rfl) ?_
                    refine va_get (D := (dC, dI)) (ci := 4) (v := .int (Y_102.1 5)) (C := RX4) (T := TX4) (N := 8) hx hb hts (fun _ h => List.mem_cons_of_mem _ (List.mem_append_right _ h)) hown hK hP 0 rfl rfl 7 (by decide) (hts (.fieldLink RX4 36 "SharedLine$Text" "end" "I") (List.mem_of_getElem? (i := 1) rfl)) (fun _ h9 => h9) rfl dX4_nextToken_107 ?_
                    refine lv_aload_n hx hb dX4_nextToken_110 rfl (lv_at hl 0 rfl) ?_
                    refine va_get (D := (dC, dI)) (ci := 4) (v := .int (Y_102.1 0)) (C := RX4) (T := TX4) (N := 8) hx hb hts (fun _ h => List.mem_cons_of_mem _ (List.mem_append_right _ h)) hown hK hP 0 rfl rfl 1 (by decide) (hts (.fieldLink RX4 22 "SharedLine$Text" "length" "I") (List.mem_of_getElem? (i := 3) rfl)) (fun _ h9 => h9) rfl dX4_nextToken_111 ?_
                    refine lv_icmp_ge (tgt := 145) hx hb dX4_nextToken_114 (by decide) (fun c114 => ?_) (fun c114 => ?_)
                    · rw [if_pos c114] at hσ
                      subst hσ
                      exact vq_vret hx hb hr hlocks hK hP hD hS dX4_nextToken_145
                    · rw [if_neg c114] at hσ
                      refine lv_aload_n hx hb dX4_nextToken_117 rfl (lv_at hl 0 rfl) ?_
                      refine lv_aload_n hx hb dX4_nextToken_118 rfl (lv_at hl 0 rfl) ?_
                      refine va_get (D := (dC, dI)) (ci := 4) (v := .int (Y_102.1 5)) (C := RX4) (T := TX4) (N := 8) hx hb hts (fun _ h => List.mem_cons_of_mem _ (List.mem_append_right _ h)) hown hK hP 0 rfl rfl 7 (by decide) (hts (.fieldLink RX4 36 "SharedLine$Text" "end" "I") (List.mem_of_getElem? (i := 1) rfl)) (fun _ h9 => h9) rfl dX4_nextToken_119 ?_
                      refine vq_Vi (As := [.int (Y_102.1 5)]) (rest := []) (W2 := (wX cI h hp hq Y_102)) (f := (sX4_kindAt Y_102 (Y_102.1 5))) hx hb hml hown hts hK hP hD hS hA hE hl.1 (cX4_kindAt_c l ev dC dI cI cZ cO h hp hq Y_102 (Y_102.1 5) ⟨n, l102, hn⟩) gX4_nextToken_X4_kindAt rfl hdX4_kindAt (Nat.le_of_ble_eq_true rfl) (Nat.le_of_ble_eq_true rfl) rfl rfl (ci := 4) (qr := 0) rfl rfl rfl [0, 1] [] [0, 1] rfl rfl (by decide) (by decide) (by decide) rfl rfl rfl (Nat.le_of_ble_eq_true rfl) dX4_nextToken_122 ⟨Nat.zero_le _, Nat.zero_le _⟩ (fun H locs hP hD hS => ?_)
                      refine lv_aload_n hx hb dX4_nextToken_125 rfl (lv_at hl 0 rfl) ?_
                      refine va_get (D := (dC, dI)) (ci := 4) (v := .int (Y_102.1 3)) (C := RX4) (T := TX4) (N := 8) hx hb hts (fun _ h => List.mem_cons_of_mem _ (List.mem_append_right _ h)) hown hK hP 0 rfl rfl 5 (by decide) (hts (.fieldLink RX4 42 "SharedLine$Text" "kind" "I") (List.mem_of_getElem? (i := 4) rfl)) (fun _ h9 => h9) rfl dX4_nextToken_126 ?_
                      refine lv_icmp_ne (tgt := 145) hx hb dX4_nextToken_129 (by decide) (fun c129 => ?_) (fun c129 => ?_)
                      · rw [if_neg c129] at hσ
                        subst hσ
                        exact vq_vret hx hb hr hlocks hK hP hD hS dX4_nextToken_145
                      · rw [if_pos c129] at hσ
                        refine lv_aload_n hx hb dX4_nextToken_132 rfl (lv_at hl 0 rfl) ?_
                        refine lv_dup hx hb dX4_nextToken_133 rfl ?_
                        refine va_get (D := (dC, dI)) (ci := 4) (v := .int (Y_102.1 5)) (C := RX4) (T := TX4) (N := 8) hx hb hts (fun _ h => List.mem_cons_of_mem _ (List.mem_append_right _ h)) hown hK hP 0 rfl rfl 7 (by decide) (hts (.fieldLink RX4 36 "SharedLine$Text" "end" "I") (List.mem_of_getElem? (i := 1) rfl)) (fun _ h9 => h9) rfl dX4_nextToken_134 ?_
                        refine lv_iconst (v := 1) hx hb dX4_nextToken_137 (by decide) ?_
                        refine lv_iadd hx hb dX4_nextToken_138 ?_
                        refine va_put (D := (dC, dI)) (ci := 4) (v := .int ((Y_102.1 5) + 1)) (ty := .int) (C := RX4) (T := TX4) (N := 8) hx hb hts (fun _ h => List.mem_cons_of_mem _ (List.mem_append_right _ h)) tyX4 tyX4_ok nmX4 hown hK hP hD hS 0 rfl rfl 7 (by decide) (hts (.fieldLink RX4 36 "SharedLine$Text" "end" "I") (List.mem_of_getElem? (i := 1) rfl)) (fun _ h9 => h9) rfl (tyX4_ok 7 (by decide)) rfl rfl (Nat.le_of_ble_eq_true rfl) dX4_nextToken_139 (fun H locs hP hD hS => ?_)
                        have hP : va_P (dC, dI) vwCl (wX cI h hp hq ((upd Y_102.1 5 ((Y_102.1 5) + 1)), Y_102.2)) H := hP
                        have hD : va_D A (wX cI h hp hq ((upd Y_102.1 5 ((Y_102.1 5) + 1)), Y_102.2)) := hD
                        refine lv_goto (tgt := 102) hx hb dX4_nextToken_142 (by decide) ?_
                        exact ih102 x1_102 ((upd Y_102.1 5 ((Y_102.1 5) + 1)), Y_102.2) ⟨k102 + 1, l102, up_s e102, (by have := up_lt e102 l102 (by omega) c114; omega), by omega⟩ hσ _ _ _ hP hD hS (lv_sub hl [0, 1] rfl)
              exact key102 121 true ((upd (upd Y_8.1 3 (sX4_kindAt Y_8 (Y_8.1 4))) 5 (Y_8.1 4)), Y_8.2) (by first | exact ⟨k8, l8, e8, hk8, by omega⟩ | exact ⟨k8 + 1, l8, up_s e8, kind_lt l8 hn e8 hk8 c61, by omega⟩) hσ _ _ _ hP hD hS (lv_sub hl [1, 0] rfl)
            · rw [if_neg c85] at hσ
              refine lv_aload_n hx hb dX4_nextToken_88 rfl (lv_at hl 0 rfl) ?_
              refine va_get (D := (dC, dI)) (ci := 4) (v := .int (sX4_kindAt Y_8 (Y_8.1 4))) (C := RX4) (T := TX4) (N := 8) hx hb hts (fun _ h => List.mem_cons_of_mem _ (List.mem_append_right _ h)) hown hK hP 0 rfl rfl 5 (by decide) (hts (.fieldLink RX4 42 "SharedLine$Text" "kind" "I") (List.mem_of_getElem? (i := 4) rfl)) (fun _ h9 => h9) rfl dX4_nextToken_89 ?_
              refine lv_iconst (v := 2) hx hb dX4_nextToken_92 (by decide) ?_
              refine lv_icmp_ne (tgt := 100) hx hb dX4_nextToken_93 (by decide) (fun c93 => ?_) (fun c93 => ?_)
              · rw [if_neg c93] at hσ
                refine lv_iconst (v := 0) hx hb dX4_nextToken_100 (by decide) ?_
                refine lv_istore_n (lv' := [(1, .int 0), (0, .ref h)]) hx hb dX4_nextToken_101 rfl hl (by decide) rfl (fun ls hl => ?_)
                have key102 : ∀ (n102 : Nat) (x1_102 : Bool) (Y_102 : LSt) , (∃ k : Nat, Y_102.1 0 = nI n ∧ Y_102.1 5 = nI k ∧ k ≤ n ∧ 120 + 1 ≤ n102 + k) → (sX4_nextToken_L102  n102 x1_102 Y_102) = σ → ∀ (H : Heap) (locs : List Loc) (ls : Array Slot), va_P (dC, dI) vwCl (wX cI h hp hq Y_102) H → va_D A (wX cI h hp hq Y_102) → va_S A s.heap H locs → lv_has ls 2 [(0, .ref h), (1, .int (bI x1_102))] → W p l e (headSpec wsX4_nextToken (rmF 2 43)).room s m ([.ref h] : List Value).toArray below meth c H locs 0 0 (MQ below (va_Qv (fun (_ : Unit) => True) (fun _ t => PoW (dC, dI) (tyC cI cZ cO) A (wX cI h hp hq σ) t) A) ([.ref h] : List Value).toArray s 0 0 A) (F0 m 102 ls []) := by
                  intro n102
                  induction n102 with
                  | zero =>
                    intro x1_102 Y_102  t102
                    exact absurd t102 (by rintro ⟨k, -, -, h1, h2⟩; omega)
                  | succ n102 ih102 =>
                    intro x1_102 Y_102  t102 hσ H locs ls hP hD hS hl
                    rw [sX4_nextToken_L102_s] at hσ
                    obtain ⟨k102, l102, e102, hk102, hn102⟩ := t102
                    refine lv_iload_n hx hb dX4_nextToken_102 rfl (lv_at hl 1 rfl) ?_
                    refine lv_if_eqB (tgt := 145) hx hb dX4_nextToken_103 (by decide) (fun c103 => ?_) (fun c103 => ?_)
                    · rw [if_neg (Bool.eq_false_iff.mp c103)] at hσ
                      subst hσ
                      exact vq_vret hx hb hr hlocks hK hP hD hS dX4_nextToken_145
                    · rw [if_pos c103] at hσ
                      refine lv_aload_n hx hb dX4_nextToken_106 rfl (lv_at hl 0 rfl) ?_
                      refine va_get (D := (dC, dI)) (ci := 4) (v := .int (Y_102.1 5)) (C := RX4) (T := TX4) (N := 8) hx hb hts (fun _ h => List.mem_cons_of_mem _ (List.mem_append_right _ h)) hown hK hP 0 rfl rfl 7 (by decide) (hts (.fieldLink RX4 36 "SharedLine$Text" "end" "I") (List.mem_of_getElem? (i := 1) rfl)) (fun _ h9 => h9) rfl dX4_nextToken_107 ?_
                      refine lv_aload_n hx hb dX4_nextToken_110 rfl (lv_at hl 0 rfl) ?_
                      refine va_get (D := (dC, dI)) (ci := 4) (v := .int (Y_102.1 0)) (C := RX4) (T := TX4) (N := 8) hx hb hts (fun _ h => List.mem_cons_of_mem _ (List.mem_append_right _ h)) hown hK hP 0 rfl rfl 1 (by decide) (hts (.fieldLink RX4 22 "SharedLine$Text" "length" "I") (List.mem_of_getElem? (i := 3) rfl)) (fun _ h9 => h9) rfl dX4_nextToken_111 ?_
                      refine lv_icmp_ge (tgt := 145) hx hb dX4_nextToken_114 (by decide) (fun c114 => ?_) (fun c114 => ?_)
                      · rw [if_pos c114] at hσ
                        subst hσ
                        exact vq_vret hx hb hr hlocks hK hP hD hS dX4_nextToken_145
                      · rw [if_neg c114] at hσ
                        refine lv_aload_n hx hb dX4_nextToken_117 rfl (lv_at hl 0 rfl) ?_
                        refine lv_aload_n hx hb dX4_nextToken_118 rfl (lv_at hl 0 rfl) ?_
                        refine va_get (D := (dC, dI)) (ci := 4) (v := .int (Y_102.1 5)) (C := RX4) (T := TX4) (N := 8) hx hb hts (fun _ h => List.mem_cons_of_mem _ (List.mem_append_right _ h)) hown hK hP 0 rfl rfl 7 (by decide) (hts (.fieldLink RX4 36 "SharedLine$Text" "end" "I") (List.mem_of_getElem? (i := 1) rfl)) (fun _ h9 => h9) rfl dX4_nextToken_119 ?_
                        refine vq_Vi (As := [.int (Y_102.1 5)]) (rest := []) (W2 := (wX cI h hp hq Y_102)) (f := (sX4_kindAt Y_102 (Y_102.1 5))) hx hb hml hown hts hK hP hD hS hA hE hl.1 (cX4_kindAt_c l ev dC dI cI cZ cO h hp hq Y_102 (Y_102.1 5) ⟨n, l102, hn⟩) gX4_nextToken_X4_kindAt rfl hdX4_kindAt (Nat.le_of_ble_eq_true rfl) (Nat.le_of_ble_eq_true rfl) rfl rfl (ci := 4) (qr := 0) rfl rfl rfl [0, 1] [] [0, 1] rfl rfl (by decide) (by decide) (by decide) rfl rfl rfl (Nat.le_of_ble_eq_true rfl) dX4_nextToken_122 ⟨Nat.zero_le _, Nat.zero_le _⟩ (fun H locs hP hD hS => ?_)
                        refine lv_aload_n hx hb dX4_nextToken_125 rfl (lv_at hl 0 rfl) ?_
                        refine va_get (D := (dC, dI)) (ci := 4) (v := .int (Y_102.1 3)) (C := RX4) (T := TX4) (N := 8) hx hb hts (fun _ h => List.mem_cons_of_mem _ (List.mem_append_right _ h)) hown hK hP 0 rfl rfl 5 (by decide) (hts (.fieldLink RX4 42 "SharedLine$Text" "kind" "I") (List.mem_of_getElem? (i := 4) rfl)) (fun _ h9 => h9) rfl dX4_nextToken_126 ?_
                        refine lv_icmp_ne (tgt := 145) hx hb dX4_nextToken_129 (by decide) (fun c129 => ?_) (fun c129 => ?_)
                        · rw [if_neg c129] at hσ
                          subst hσ
                          exact vq_vret hx hb hr hlocks hK hP hD hS dX4_nextToken_145
                        · rw [if_pos c129] at hσ
                          refine lv_aload_n hx hb dX4_nextToken_132 rfl (lv_at hl 0 rfl) ?_
                          refine lv_dup hx hb dX4_nextToken_133 rfl ?_
                          refine va_get (D := (dC, dI)) (ci := 4) (v := .int (Y_102.1 5)) (C := RX4) (T := TX4) (N := 8) hx hb hts (fun _ h => List.mem_cons_of_mem _ (List.mem_append_right _ h)) hown hK hP 0 rfl rfl 7 (by decide) (hts (.fieldLink RX4 36 "SharedLine$Text" "end" "I") (List.mem_of_getElem? (i := 1) rfl)) (fun _ h9 => h9) rfl dX4_nextToken_134 ?_
                          refine lv_iconst (v := 1) hx hb dX4_nextToken_137 (by decide) ?_
                          refine lv_iadd hx hb dX4_nextToken_138 ?_
                          refine va_put (D := (dC, dI)) (ci := 4) (v := .int ((Y_102.1 5) + 1)) (ty := .int) (C := RX4) (T := TX4) (N := 8) hx hb hts (fun _ h => List.mem_cons_of_mem _ (List.mem_append_right _ h)) tyX4 tyX4_ok nmX4 hown hK hP hD hS 0 rfl rfl 7 (by decide) (hts (.fieldLink RX4 36 "SharedLine$Text" "end" "I") (List.mem_of_getElem? (i := 1) rfl)) (fun _ h9 => h9) rfl (tyX4_ok 7 (by decide)) rfl rfl (Nat.le_of_ble_eq_true rfl) dX4_nextToken_139 (fun H locs hP hD hS => ?_)
                          have hP : va_P (dC, dI) vwCl (wX cI h hp hq ((upd Y_102.1 5 ((Y_102.1 5) + 1)), Y_102.2)) H := hP
                          have hD : va_D A (wX cI h hp hq ((upd Y_102.1 5 ((Y_102.1 5) + 1)), Y_102.2)) := hD
                          refine lv_goto (tgt := 102) hx hb dX4_nextToken_142 (by decide) ?_
                          exact ih102 x1_102 ((upd Y_102.1 5 ((Y_102.1 5) + 1)), Y_102.2) ⟨k102 + 1, l102, up_s e102, (by have := up_lt e102 l102 (by omega) c114; omega), by omega⟩ hσ _ _ _ hP hD hS (lv_sub hl [0, 1] rfl)
                exact key102 121 false ((upd (upd Y_8.1 3 (sX4_kindAt Y_8 (Y_8.1 4))) 5 (Y_8.1 4)), Y_8.2) (by first | exact ⟨k8, l8, e8, hk8, by omega⟩ | exact ⟨k8 + 1, l8, up_s e8, kind_lt l8 hn e8 hk8 c61, by omega⟩) hσ _ _ _ hP hD hS (lv_sub hl [1, 0] rfl)
              · rw [if_pos c93] at hσ
                refine lv_iconst (v := 1) hx hb dX4_nextToken_96 (by decide) ?_
                refine lv_goto (tgt := 101) hx hb dX4_nextToken_97 (by decide) ?_
                refine lv_istore_n (lv' := [(1, .int 1), (0, .ref h)]) hx hb dX4_nextToken_101 rfl hl (by decide) rfl (fun ls hl => ?_)
                have key102 : ∀ (n102 : Nat) (x1_102 : Bool) (Y_102 : LSt) , (∃ k : Nat, Y_102.1 0 = nI n ∧ Y_102.1 5 = nI k ∧ k ≤ n ∧ 120 + 1 ≤ n102 + k) → (sX4_nextToken_L102  n102 x1_102 Y_102) = σ → ∀ (H : Heap) (locs : List Loc) (ls : Array Slot), va_P (dC, dI) vwCl (wX cI h hp hq Y_102) H → va_D A (wX cI h hp hq Y_102) → va_S A s.heap H locs → lv_has ls 2 [(0, .ref h), (1, .int (bI x1_102))] → W p l e (headSpec wsX4_nextToken (rmF 2 43)).room s m ([.ref h] : List Value).toArray below meth c H locs 0 0 (MQ below (va_Qv (fun (_ : Unit) => True) (fun _ t => PoW (dC, dI) (tyC cI cZ cO) A (wX cI h hp hq σ) t) A) ([.ref h] : List Value).toArray s 0 0 A) (F0 m 102 ls []) := by
                  intro n102
                  induction n102 with
                  | zero =>
                    intro x1_102 Y_102  t102
                    exact absurd t102 (by rintro ⟨k, -, -, h1, h2⟩; omega)
                  | succ n102 ih102 =>
                    intro x1_102 Y_102  t102 hσ H locs ls hP hD hS hl
                    rw [sX4_nextToken_L102_s] at hσ
                    obtain ⟨k102, l102, e102, hk102, hn102⟩ := t102
                    refine lv_iload_n hx hb dX4_nextToken_102 rfl (lv_at hl 1 rfl) ?_
                    refine lv_if_eqB (tgt := 145) hx hb dX4_nextToken_103 (by decide) (fun c103 => ?_) (fun c103 => ?_)
                    · rw [if_neg (Bool.eq_false_iff.mp c103)] at hσ
                      subst hσ
                      exact vq_vret hx hb hr hlocks hK hP hD hS dX4_nextToken_145
                    · rw [if_pos c103] at hσ
                      refine lv_aload_n hx hb dX4_nextToken_106 rfl (lv_at hl 0 rfl) ?_
                      refine va_get (D := (dC, dI)) (ci := 4) (v := .int (Y_102.1 5)) (C := RX4) (T := TX4) (N := 8) hx hb hts (fun _ h => List.mem_cons_of_mem _ (List.mem_append_right _ h)) hown hK hP 0 rfl rfl 7 (by decide) (hts (.fieldLink RX4 36 "SharedLine$Text" "end" "I") (List.mem_of_getElem? (i := 1) rfl)) (fun _ h9 => h9) rfl dX4_nextToken_107 ?_
                      refine lv_aload_n hx hb dX4_nextToken_110 rfl (lv_at hl 0 rfl) ?_
                      refine va_get (D := (dC, dI)) (ci := 4) (v := .int (Y_102.1 0)) (C := RX4) (T := TX4) (N := 8) hx hb hts (fun _ h => List.mem_cons_of_mem _ (List.mem_append_right _ h)) hown hK hP 0 rfl rfl 1 (by decide) (hts (.fieldLink RX4 22 "SharedLine$Text" "length" "I") (List.mem_of_getElem? (i := 3) rfl)) (fun _ h9 => h9) rfl dX4_nextToken_111 ?_
                      refine lv_icmp_ge (tgt := 145) hx hb dX4_nextToken_114 (by decide) (fun c114 => ?_) (fun c114 => ?_)
                      · rw [if_pos c114] at hσ
                        subst hσ
                        exact vq_vret hx hb hr hlocks hK hP hD hS dX4_nextToken_145
                      · rw [if_neg c114] at hσ
                        refine lv_aload_n hx hb dX4_nextToken_117 rfl (lv_at hl 0 rfl) ?_
                        refine lv_aload_n hx hb dX4_nextToken_118 rfl (lv_at hl 0 rfl) ?_
                        refine va_get (D := (dC, dI)) (ci := 4) (v := .int (Y_102.1 5)) (C := RX4) (T := TX4) (N := 8) hx hb hts (fun _ h => List.mem_cons_of_mem _ (List.mem_append_right _ h)) hown hK hP 0 rfl rfl 7 (by decide) (hts (.fieldLink RX4 36 "SharedLine$Text" "end" "I") (List.mem_of_getElem? (i := 1) rfl)) (fun _ h9 => h9) rfl dX4_nextToken_119 ?_
                        refine vq_Vi (As := [.int (Y_102.1 5)]) (rest := []) (W2 := (wX cI h hp hq Y_102)) (f := (sX4_kindAt Y_102 (Y_102.1 5))) hx hb hml hown hts hK hP hD hS hA hE hl.1 (cX4_kindAt_c l ev dC dI cI cZ cO h hp hq Y_102 (Y_102.1 5) ⟨n, l102, hn⟩) gX4_nextToken_X4_kindAt rfl hdX4_kindAt (Nat.le_of_ble_eq_true rfl) (Nat.le_of_ble_eq_true rfl) rfl rfl (ci := 4) (qr := 0) rfl rfl rfl [0, 1] [] [0, 1] rfl rfl (by decide) (by decide) (by decide) rfl rfl rfl (Nat.le_of_ble_eq_true rfl) dX4_nextToken_122 ⟨Nat.zero_le _, Nat.zero_le _⟩ (fun H locs hP hD hS => ?_)
                        refine lv_aload_n hx hb dX4_nextToken_125 rfl (lv_at hl 0 rfl) ?_
                        refine va_get (D := (dC, dI)) (ci := 4) (v := .int (Y_102.1 3)) (C := RX4) (T := TX4) (N := 8) hx hb hts (fun _ h => List.mem_cons_of_mem _ (List.mem_append_right _ h)) hown hK hP 0 rfl rfl 5 (by decide) (hts (.fieldLink RX4 42 "SharedLine$Text" "kind" "I") (List.mem_of_getElem? (i := 4) rfl)) (fun _ h9 => h9) rfl dX4_nextToken_126 ?_
                        refine lv_icmp_ne (tgt := 145) hx hb dX4_nextToken_129 (by decide) (fun c129 => ?_) (fun c129 => ?_)
                        · rw [if_neg c129] at hσ
                          subst hσ
                          exact vq_vret hx hb hr hlocks hK hP hD hS dX4_nextToken_145
                        · rw [if_pos c129] at hσ
                          refine lv_aload_n hx hb dX4_nextToken_132 rfl (lv_at hl 0 rfl) ?_
                          refine lv_dup hx hb dX4_nextToken_133 rfl ?_
                          refine va_get (D := (dC, dI)) (ci := 4) (v := .int (Y_102.1 5)) (C := RX4) (T := TX4) (N := 8) hx hb hts (fun _ h => List.mem_cons_of_mem _ (List.mem_append_right _ h)) hown hK hP 0 rfl rfl 7 (by decide) (hts (.fieldLink RX4 36 "SharedLine$Text" "end" "I") (List.mem_of_getElem? (i := 1) rfl)) (fun _ h9 => h9) rfl dX4_nextToken_134 ?_
                          refine lv_iconst (v := 1) hx hb dX4_nextToken_137 (by decide) ?_
                          refine lv_iadd hx hb dX4_nextToken_138 ?_
                          refine va_put (D := (dC, dI)) (ci := 4) (v := .int ((Y_102.1 5) + 1)) (ty := .int) (C := RX4) (T := TX4) (N := 8) hx hb hts (fun _ h => List.mem_cons_of_mem _ (List.mem_append_right _ h)) tyX4 tyX4_ok nmX4 hown hK hP hD hS 0 rfl rfl 7 (by decide) (hts (.fieldLink RX4 36 "SharedLine$Text" "end" "I") (List.mem_of_getElem? (i := 1) rfl)) (fun _ h9 => h9) rfl (tyX4_ok 7 (by decide)) rfl rfl (Nat.le_of_ble_eq_true rfl) dX4_nextToken_139 (fun H locs hP hD hS => ?_)
                          have hP : va_P (dC, dI) vwCl (wX cI h hp hq ((upd Y_102.1 5 ((Y_102.1 5) + 1)), Y_102.2)) H := hP
                          have hD : va_D A (wX cI h hp hq ((upd Y_102.1 5 ((Y_102.1 5) + 1)), Y_102.2)) := hD
                          refine lv_goto (tgt := 102) hx hb dX4_nextToken_142 (by decide) ?_
                          exact ih102 x1_102 ((upd Y_102.1 5 ((Y_102.1 5) + 1)), Y_102.2) ⟨k102 + 1, l102, up_s e102, (by have := up_lt e102 l102 (by omega) c114; omega), by omega⟩ hσ _ _ _ hP hD hS (lv_sub hl [0, 1] rfl)
                exact key102 121 true ((upd (upd Y_8.1 3 (sX4_kindAt Y_8 (Y_8.1 4))) 5 (Y_8.1 4)), Y_8.2) (by first | exact ⟨k8, l8, e8, hk8, by omega⟩ | exact ⟨k8 + 1, l8, up_s e8, kind_lt l8 hn e8 hk8 c61, by omega⟩) hσ _ _ _ hP hD hS (lv_sub hl [1, 0] rfl)
        · rw [if_pos c28] at hσ
          refine lv_aload_n hx hb dX4_nextToken_31 rfl (lv_at hl 0 rfl) ?_
          refine lv_dup hx hb dX4_nextToken_32 rfl ?_
          refine va_get (D := (dC, dI)) (ci := 4) (v := .int (Y_8.1 4)) (C := RX4) (T := TX4) (N := 8) hx hb hts (fun _ h => List.mem_cons_of_mem _ (List.mem_append_right _ h)) hown hK hP 0 rfl rfl 6 (by decide) (hts (.fieldLink RX4 49 "SharedLine$Text" "start" "I") (List.mem_of_getElem? (i := 2) rfl)) (fun _ h9 => h9) rfl dX4_nextToken_33 ?_
          refine lv_iconst (v := 1) hx hb dX4_nextToken_36 (by decide) ?_
          refine lv_iadd hx hb dX4_nextToken_37 ?_
          refine va_put (D := (dC, dI)) (ci := 4) (v := .int ((Y_8.1 4) + 1)) (ty := .int) (C := RX4) (T := TX4) (N := 8) hx hb hts (fun _ h => List.mem_cons_of_mem _ (List.mem_append_right _ h)) tyX4 tyX4_ok nmX4 hown hK hP hD hS 0 rfl rfl 6 (by decide) (hts (.fieldLink RX4 49 "SharedLine$Text" "start" "I") (List.mem_of_getElem? (i := 2) rfl)) (fun _ h9 => h9) rfl (tyX4_ok 6 (by decide)) rfl rfl (Nat.le_of_ble_eq_true rfl) dX4_nextToken_38 (fun H locs hP hD hS => ?_)
          have hP : va_P (dC, dI) vwCl (wX cI h hp hq ((upd Y_8.1 4 ((Y_8.1 4) + 1)), Y_8.2)) H := hP
          have hD : va_D A (wX cI h hp hq ((upd Y_8.1 4 ((Y_8.1 4) + 1)), Y_8.2)) := hD
          refine lv_goto (tgt := 8) hx hb dX4_nextToken_41 (by decide) ?_
          exact ih8 ((upd Y_8.1 4 ((Y_8.1 4) + 1)), Y_8.2) (k8 + 1) l8 (up_s e8) (by have := up_lt e8 l8 (by omega) c16; omega) (by omega) hσ _ _ _ hP hD hS (lv_sub hl [0] rfl)
  exact key8 121 ((upd S.1 4 (S.1 5)), S.2) a en ea ha (by omega) hσ _ _ _ hP hD hS (lv_sub hl [0] rfl)
