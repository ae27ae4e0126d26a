theorem hdX6_type : yX6_type.cls = RX6 ∧ yX6_type.cls ≠ "java/lang/invoke/MethodHandle" ∧ yX6_type.cls ≠ "java/lang/invoke/VarHandle" ∧ (parseMethodDescriptor yX6_type.desc).map (fun d => d.parameters.length) = some 1 := by decide +kernel
set_option maxHeartbeats 4000000 in
set_option maxRecDepth 100000 in
theorem cX6_type_c (l : Launch) (ev : Nat → Nat) (dC : Nat → ClassId) (dI : Nat → Nat → Nat) (cI cZ cO : ClassId) (h : Nat) (g : Nat → Nat) (S : MSt) (p1 : Int32) (hN : ∃ n : Nat, S.1 2 = nI n ∧ n ≤ 120) : MetI l ev (dC, dI) (tyC cI cZ cO) yX6_type wsX6_type (rmF 1 22) [.ref h, .int p1] (wM cI cZ h g S) (sX6_type S p1).1 (wM cI cZ h g (sX6_type S p1).2) := by
  refine MetI_of (cc := cX6_type) (maxL := 2) (ret := (some .int)) (by decide) rfl (Nat.le_of_ble_eq_true rfl) ?_
  intro p e s m below meth c A ls hx hb hr hml hts hown hlocks hin hK hP hD hA hE hl
  have hown : s.vm.findClass RX6 = some m.cls := hown
  have hl : lv_has ls 2 [(0, .ref h), (1, .int p1)] := hl
  have hS : va_S A s.heap s.heap [] := va_S.rf
  obtain ⟨σ, hσ⟩ : ∃ σ, (sX6_type S p1) = σ := ⟨_, rfl⟩
  rw [hσ]
  rw [sX6_type] at hσ
  refine lv_iload_n hx hb dX6_type_0 rfl (lv_at hl 1 rfl) ?_
  refine lv_iconst (v := 0) hx hb dX6_type_1 (by decide) ?_
  refine lv_sipush (v := 255) hx hb dX6_type_2 (by decide) ?_
  refine vq_Si (As := [.int p1, .int 0, .int 255]) (rest := []) (W2 := (wM cI cZ h g S)) (f := (bI (sX6_within p1 (0 : Int32) (255 : Int32)))) hx hb hml hown hts hK hP hD hS hA hE hl.1 (cX6_within_c l ev dC dI cI cZ cO p1 (0 : Int32) (255 : Int32)) gX6_type_X6_within rfl hdX6_within (Nat.le_of_ble_eq_true rfl) (Nat.le_of_ble_eq_true rfl) rfl rfl [] [0, 1, 2, 3, 4, 5, 6, 7, 8, 9] [0, 1, 2, 3, 4, 5, 6, 7, 8, 9] rfl rfl (by decide) (by decide) (by decide) rfl rfl rfl (Nat.le_of_ble_eq_true rfl) dX6_type_5 ⟨Nat.zero_le _, Nat.zero_le _⟩ (fun H locs hP hD hS => ?_)
  refine lv_if_neB (tgt := 13) hx hb dX6_type_8 (by decide) (fun c8 => ?_) (fun c8 => ?_)
  · rw [if_pos c8] at hσ
    refine lv_aload_n hx hb dX6_type_13 rfl (lv_at hl 0 rfl) ?_
    refine va_get (D := (dC, dI)) (ci := 6) (v := .int (S.1 2)) (C := RX6) (T := TX6) (N := 15) hx hb hts (fun _ h => List.mem_cons_of_mem _ (List.mem_append_right _ h)) hown hK hP 0 rfl rfl 10 (by decide) (hts (.fieldLink RX6 46 "SharedLineModel" "letters" "I") (List.mem_of_getElem? (i := 1) rfl)) (fun _ h9 => h9) rfl dX6_type_14 ?_
    refine lv_bipush (v := 120) hx hb dX6_type_17 (by decide) ?_
    refine lv_icmp_ne (tgt := 25) hx hb dX6_type_19 (by decide) (fun c19 => ?_) (fun c19 => ?_)
    · rw [if_neg c19] at hσ
      refine lv_aload_n hx hb dX6_type_25 rfl (lv_at hl 0 rfl) ?_
      refine va_get (D := (dC, dI)) (ci := 6) (v := .ref (g 7)) (C := RX6) (T := TX6) (N := 15) hx hb hts (fun _ h => List.mem_cons_of_mem _ (List.mem_append_right _ h)) hown hK hP 0 rfl rfl 9 (by decide) (hts (.fieldLink RX6 32 "SharedLineModel" "text" "[I") (List.mem_of_getElem? (i := 2) rfl)) (fun _ h9 => h9) rfl dX6_type_26 ?_
      refine lv_aload_n hx hb dX6_type_29 rfl (lv_at hl 0 rfl) ?_
      refine va_get (D := (dC, dI)) (ci := 6) (v := .int (S.1 2)) (C := RX6) (T := TX6) (N := 15) hx hb hts (fun _ h => List.mem_cons_of_mem _ (List.mem_append_right _ h)) hown hK hP 0 rfl rfl 10 (by decide) (hts (.fieldLink RX6 46 "SharedLineModel" "letters" "I") (List.mem_of_getElem? (i := 1) rfl)) (fun _ h9 => h9) rfl dX6_type_30 ?_
      refine lv_iload_n hx hb dX6_type_33 rfl (lv_at hl 1 rfl) ?_
      refine va_iast hx hb hK hP hD hS 8 0 rfl rfl (i := (S.1 2)) (ty_ix hN c19) dX6_type_34 (fun H locs hP hD hS => ?_)
      have hP : va_P (dC, dI) vwCl (wM cI cZ h g (S.1, (updR S.2 7 (upd (S.2 7) ((S.1 2)).toNatClampNeg p1)))) H := hP
      have hD : va_D A (wM cI cZ h g (S.1, (updR S.2 7 (upd (S.2 7) ((S.1 2)).toNatClampNeg p1)))) := hD
      refine lv_aload_n hx hb dX6_type_35 rfl (lv_at hl 0 rfl) ?_
      refine lv_dup hx hb dX6_type_36 rfl ?_
      refine va_get (D := (dC, dI)) (ci := 6) (v := .int (S.1 2)) (C := RX6) (T := TX6) (N := 15) hx hb hts (fun _ h => List.mem_cons_of_mem _ (List.mem_append_right _ h)) hown hK hP 0 rfl rfl 10 (by decide) (hts (.fieldLink RX6 46 "SharedLineModel" "letters" "I") (List.mem_of_getElem? (i := 1) rfl)) (fun _ h9 => h9) rfl dX6_type_37 ?_
      refine lv_iconst (v := 1) hx hb dX6_type_40 (by decide) ?_
      refine lv_iadd hx hb dX6_type_41 ?_
      refine va_put (D := (dC, dI)) (ci := 6) (v := .int ((S.1 2) + 1)) (ty := .int) (C := RX6) (T := TX6) (N := 15) hx hb hts (fun _ h => List.mem_cons_of_mem _ (List.mem_append_right _ h)) tyX6 tyX6_ok nmX6 hown hK hP hD hS 0 rfl rfl 10 (by decide) (hts (.fieldLink RX6 46 "SharedLineModel" "letters" "I") (List.mem_of_getElem? (i := 1) rfl)) (fun _ h9 => h9) rfl (tyX6_ok 10 (by decide)) rfl rfl (Nat.le_of_ble_eq_true rfl) dX6_type_42 (fun H locs hP hD hS => ?_)
      have hP : va_P (dC, dI) vwCl (wM cI cZ h g ((upd S.1 2 ((S.1 2) + 1)), (updR S.2 7 (upd (S.2 7) ((S.1 2)).toNatClampNeg p1)))) H := hP
      have hD : va_D A (wM cI cZ h g ((upd S.1 2 ((S.1 2) + 1)), (updR S.2 7 (upd (S.2 7) ((S.1 2)).toNatClampNeg p1)))) := hD
      refine lv_aload_n hx hb dX6_type_45 rfl (lv_at hl 0 rfl) ?_
      refine va_get (D := (dC, dI)) (ci := 6) (v := .int ((S.1 2) + 1)) (C := RX6) (T := TX6) (N := 15) hx hb hts (fun _ h => List.mem_cons_of_mem _ (List.mem_append_right _ h)) hown hK hP 0 rfl rfl 10 (by decide) (hts (.fieldLink RX6 46 "SharedLineModel" "letters" "I") (List.mem_of_getElem? (i := 1) rfl)) (fun _ h9 => h9) rfl dX6_type_46 ?_
      subst hσ
      try dsimp only
      exact vq_iret hx hb hr hlocks hK hP hD hS rfl dX6_type_49
    · rw [if_pos c19] at hσ
      refine lv_bipush (v := (-3)) hx hb dX6_type_22 (by decide) ?_
      subst hσ
      try dsimp only
      exact vq_iret hx hb hr hlocks hK hP hD hS rfl dX6_type_24
  · rw [if_neg (Bool.eq_false_iff.mp c8)] at hσ
    refine lv_iconst (v := (-1)) hx hb dX6_type_11 (by decide) ?_
    subst hσ
    try dsimp only
    exact vq_iret hx hb hr hlocks hK hP hD hS rfl dX6_type_12
theorem hdX6_clear : yX6_clear.cls = RX6 ∧ yX6_clear.cls ≠ "java/lang/invoke/MethodHandle" ∧ yX6_clear.cls ≠ "java/lang/invoke/VarHandle" ∧ (parseMethodDescriptor yX6_clear.desc).map (fun d => d.parameters.length) = some 0 := by decide +kernel
set_option maxHeartbeats 4000000 in
set_option maxRecDepth 100000 in
theorem cX6_clear_c (l : Launch) (ev : Nat → Nat) (dC : Nat → ClassId) (dI : Nat → Nat → Nat) (cI cZ cO : ClassId) (h : Nat) (g : Nat → Nat) (S : MSt) : MetI l ev (dC, dI) (tyC cI cZ cO) yX6_clear wsX6_clear (rmF 0 0) [.ref h] (wM cI cZ h g S) (sX6_clear S).1 (wM cI cZ h g (sX6_clear S).2) := by
  refine MetI_of (cc := cX6_clear) (maxL := 2) (ret := (some .int)) (by decide) rfl (Nat.le_of_ble_eq_true rfl) ?_
  intro p e s m below meth c A ls hx hb hr hml hts hown hlocks hin hK hP hD hA hE hl
  have hown : s.vm.findClass RX6 = some m.cls := hown
  have hl : lv_has ls 2 [(0, .ref h)] := hl
  have hS : va_S A s.heap s.heap [] := va_S.rf
  obtain ⟨σ, hσ⟩ : ∃ σ, (sX6_clear S) = σ := ⟨_, rfl⟩
  rw [hσ]
  rw [sX6_clear] at hσ
  refine lv_aload_n hx hb dX6_clear_0 rfl (lv_at hl 0 rfl) ?_
  refine va_get (D := (dC, dI)) (ci := 6) (v := .int (S.1 2)) (C := RX6) (T := TX6) (N := 15) hx hb hts (fun _ h => List.mem_cons_of_mem _ (List.mem_append_right _ h)) hown hK hP 0 rfl rfl 10 (by decide) (hts (.fieldLink RX6 46 "SharedLineModel" "letters" "I") (List.mem_of_getElem? (i := 1) rfl)) (fun _ h9 => h9) rfl dX6_clear_1 ?_
  refine lv_istore_n (lv' := [(1, .int (S.1 2)), (0, .ref h)]) hx hb dX6_clear_4 rfl hl (by decide) rfl (fun ls hl => ?_)
  refine lv_aload_n hx hb dX6_clear_5 rfl (lv_at hl 1 rfl) ?_
  refine lv_iconst (v := 0) hx hb dX6_clear_6 (by decide) ?_
  refine va_put (D := (dC, dI)) (ci := 6) (v := .int 0) (ty := .int) (C := RX6) (T := TX6) (N := 15) hx hb hts (fun _ h => List.mem_cons_of_mem _ (List.mem_append_right _ h)) tyX6 tyX6_ok nmX6 hown hK hP hD hS 0 rfl rfl 10 (by decide) (hts (.fieldLink RX6 46 "SharedLineModel" "letters" "I") (List.mem_of_getElem? (i := 1) rfl)) (fun _ h9 => h9) rfl (tyX6_ok 10 (by decide)) rfl rfl (Nat.le_of_ble_eq_true rfl) dX6_clear_7 (fun H locs hP hD hS => ?_)
  have hP : va_P (dC, dI) vwCl (wM cI cZ h g ((upd S.1 2 0), S.2)) H := hP
  have hD : va_D A (wM cI cZ h g ((upd S.1 2 0), S.2)) := hD
  refine lv_iload_n hx hb dX6_clear_10 rfl (lv_at hl 0 rfl) ?_
  subst hσ
  try dsimp only
  exact vq_iret hx hb hr hlocks hK hP hD hS rfl dX6_clear_11
theorem hdX6_forget : yX6_forget.cls = RX6 ∧ yX6_forget.cls ≠ "java/lang/invoke/MethodHandle" ∧ yX6_forget.cls ≠ "java/lang/invoke/VarHandle" ∧ (parseMethodDescriptor yX6_forget.desc).map (fun d => d.parameters.length) = some 0 := by decide +kernel
set_option maxHeartbeats 4000000 in
set_option maxRecDepth 100000 in
theorem cX6_forget_c (l : Launch) (ev : Nat → Nat) (dC : Nat → ClassId) (dI : Nat → Nat → Nat) (cI cZ cO : ClassId) (h : Nat) (g : Nat → Nat) (S : MSt) : MetI l ev (dC, dI) (tyC cI cZ cO) yX6_forget wsX6_forget (rmF 0 0) [.ref h] (wM cI cZ h g S) (sX6_forget S).1 (wM cI cZ h g (sX6_forget S).2) := by
  refine MetI_of (cc := cX6_forget) (maxL := 2) (ret := (some .int)) (by decide) rfl (Nat.le_of_ble_eq_true rfl) ?_
  intro p e s m below meth c A ls hx hb hr hml hts hown hlocks hin hK hP hD hA hE hl
  have hown : s.vm.findClass RX6 = some m.cls := hown
  have hl : lv_has ls 2 [(0, .ref h)] := hl
  have hS : va_S A s.heap s.heap [] := va_S.rf
  obtain ⟨σ, hσ⟩ : ∃ σ, (sX6_forget S) = σ := ⟨_, rfl⟩
  rw [hσ]
  rw [sX6_forget] at hσ
  refine lv_aload_n hx hb dX6_forget_0 rfl (lv_at hl 0 rfl) ?_
  refine va_get (D := (dC, dI)) (ci := 6) (v := .int (S.1 1)) (C := RX6) (T := TX6) (N := 15) hx hb hts (fun _ h => List.mem_cons_of_mem _ (List.mem_append_right _ h)) hown hK hP 0 rfl rfl 6 (by decide) (hts (.fieldLink RX6 180 "SharedLineModel" "seen" "I") (List.mem_of_getElem? (i := 1) rfl)) (fun _ h9 => h9) rfl dX6_forget_1 ?_
  refine lv_istore_n (lv' := [(1, .int (S.1 1)), (0, .ref h)]) hx hb dX6_forget_4 rfl hl (by decide) rfl (fun ls hl => ?_)
  refine lv_aload_n hx hb dX6_forget_5 rfl (lv_at hl 1 rfl) ?_
  refine lv_iconst (v := 0) hx hb dX6_forget_6 (by decide) ?_
  refine va_put (D := (dC, dI)) (ci := 6) (v := .int 0) (ty := .int) (C := RX6) (T := TX6) (N := 15) hx hb hts (fun _ h => List.mem_cons_of_mem _ (List.mem_append_right _ h)) tyX6 tyX6_ok nmX6 hown hK hP hD hS 0 rfl rfl 6 (by decide) (hts (.fieldLink RX6 180 "SharedLineModel" "seen" "I") (List.mem_of_getElem? (i := 1) rfl)) (fun _ h9 => h9) rfl (tyX6_ok 6 (by decide)) rfl rfl (Nat.le_of_ble_eq_true rfl) dX6_forget_7 (fun H locs hP hD hS => ?_)
  have hP : va_P (dC, dI) vwCl (wM cI cZ h g ((upd S.1 1 0), S.2)) H := hP
  have hD : va_D A (wM cI cZ h g ((upd S.1 1 0), S.2)) := hD
  refine lv_iload_n hx hb dX6_forget_10 rfl (lv_at hl 0 rfl) ?_
  subst hσ
  try dsimp only
  exact vq_iret hx hb hr hlocks hK hP hD hS rfl dX6_forget_11
theorem hdX6_keeps : yX6_keeps.cls = RX6 ∧ yX6_keeps.cls ≠ "java/lang/invoke/MethodHandle" ∧ yX6_keeps.cls ≠ "java/lang/invoke/VarHandle" ∧ (parseMethodDescriptor yX6_keeps.desc).map (fun d => d.parameters.length) = some 0 := by decide +kernel
set_option maxHeartbeats 4000000 in
set_option maxRecDepth 100000 in
theorem cX6_keeps_c (l : Launch) (ev : Nat → Nat) (dC : Nat → ClassId) (dI : Nat → Nat → Nat) (cI cZ cO : ClassId) (h : Nat) (g : Nat → Nat) (S : MSt) (hU : ∃ u : Nat, S.1 0 = nI u ∧ u ≤ 6) : MetV l ev (dC, dI) (tyC cI cZ cO) yX6_keeps wsX6_keeps (rmF 0 0) [.ref h] (wM cI cZ h g S) (wM cI cZ h g (sX6_keeps S)) := by
  refine MetV_of (cc := cX6_keeps) (maxL := 2) (ret := none) (by decide) rfl (Nat.le_of_ble_eq_true rfl) ?_
  intro p e s m below meth c A ls hx hb hr hml hts hown hlocks hin hK hP hD hA hE hl
  have hown : s.vm.findClass RX6 = some m.cls := hown
  have hl : lv_has ls 2 [(0, .ref h)] := hl
  have hS : va_S A s.heap s.heap [] := va_S.rf
  obtain ⟨σ, hσ⟩ : ∃ σ, (sX6_keeps S) = σ := ⟨_, rfl⟩
  rw [hσ]
  rw [sX6_keeps] at hσ
  refine lv_aload_n hx hb dX6_keeps_0 rfl (lv_at hl 0 rfl) ?_
  refine va_get (D := (dC, dI)) (ci := 6) (v := .int (S.1 0)) (C := RX6) (T := TX6) (N := 15) hx hb hts (fun _ h => List.mem_cons_of_mem _ (List.mem_append_right _ h)) hown hK hP 0 rfl rfl 3 (by decide) (hts (.fieldLink RX6 98 "SharedLineModel" "undos" "I") (List.mem_of_getElem? (i := 1) rfl)) (fun _ h9 => h9) rfl dX6_keeps_1 ?_
  refine lv_bipush (v := 6) hx hb dX6_keeps_4 (by decide) ?_
  refine lv_icmp_ne (tgt := 48) hx hb dX6_keeps_6 (by decide) (fun c6 => ?_) (fun c6 => ?_)
  · rw [if_neg c6] at hσ
    refine lv_iconst (v := 0) hx hb dX6_keeps_48 (by decide) ?_
    refine lv_istore_n (lv' := [(1, .int 0), (0, .ref h)]) hx hb dX6_keeps_49 rfl hl (by decide) rfl (fun ls hl => ?_)
    have key50 : ∀ (n50 : Nat) (x1_50 : Int32) (Y_50 : MSt) (k50 : Nat), (x1_50 = nI k50) → (k50 ≤ 17) → (17 + 1 ≤ n50 + k50) → (∃ u : Nat, Y_50.1 0 = nI u ∧ u ≤ 5) → (sX6_keeps_L50  n50 x1_50 Y_50) = σ → ∀ (H : Heap) (locs : List Loc) (ls : Array Slot), va_P (dC, dI) vwCl (wM cI cZ h g Y_50) H → va_D A (wM cI cZ h g Y_50) → va_S A s.heap H locs → lv_has ls 2 [(0, .ref h), (1, .int x1_50)] → W p l e (headSpec wsX6_keeps (rmF 0 0)).room s m ([.ref h] : List Value).toArray below meth c H locs 0 0 (MQ below (va_Qv (fun (_ : Unit) => True) (fun _ t => PoW (dC, dI) (tyC cI cZ cO) A (wM cI cZ h g σ) t) A) ([.ref h] : List Value).toArray s 0 0 A) (F0 m 50 ls []) := by
      intro n50
      induction n50 with
      | zero =>
        intro x1_50 Y_50 k50 e50 hk50 hn50 u50
        exact absurd hn50 (by omega)
      | succ n50 ih50 =>
        intro x1_50 Y_50 k50 e50 hk50 hn50 u50 hσ H locs ls hP hD hS hl
        rw [sX6_keeps_L50_s] at hσ
        refine lv_iload_n hx hb dX6_keeps_50 rfl (lv_at hl 1 rfl) ?_
        refine lv_bipush (v := 17) hx hb dX6_keeps_51 (by decide) ?_
        refine lv_icmp_ge (tgt := 82) hx hb dX6_keeps_53 (by decide) (fun c53 => ?_) (fun c53 => ?_)
        · rw [if_pos c53] at hσ
          refine lv_aload_n hx hb dX6_keeps_82 rfl (lv_at hl 0 rfl) ?_
          refine lv_dup hx hb dX6_keeps_83 rfl ?_
          refine va_get (D := (dC, dI)) (ci := 6) (v := .int (Y_50.1 0)) (C := RX6) (T := TX6) (N := 15) hx hb hts (fun _ h => List.mem_cons_of_mem _ (List.mem_append_right _ h)) hown hK hP 0 rfl rfl 3 (by decide) (hts (.fieldLink RX6 98 "SharedLineModel" "undos" "I") (List.mem_of_getElem? (i := 1) rfl)) (fun _ h9 => h9) rfl dX6_keeps_84 ?_
          refine lv_iconst (v := 1) hx hb dX6_keeps_87 (by decide) ?_
          refine lv_iadd hx hb dX6_keeps_88 ?_
          refine va_put (D := (dC, dI)) (ci := 6) (v := .int ((Y_50.1 0) + 1)) (ty := .int) (C := RX6) (T := TX6) (N := 15) hx hb hts (fun _ h => List.mem_cons_of_mem _ (List.mem_append_right _ h)) tyX6 tyX6_ok nmX6 hown hK hP hD hS 0 rfl rfl 3 (by decide) (hts (.fieldLink RX6 98 "SharedLineModel" "undos" "I") (List.mem_of_getElem? (i := 1) rfl)) (fun _ h9 => h9) rfl (tyX6_ok 3 (by decide)) rfl rfl (Nat.le_of_ble_eq_true rfl) dX6_keeps_89 (fun H locs hP hD hS => ?_)
          have hP : va_P (dC, dI) vwCl (wM cI cZ h g ((upd Y_50.1 0 ((Y_50.1 0) + 1)), Y_50.2)) H := hP
          have hD : va_D A (wM cI cZ h g ((upd Y_50.1 0 ((Y_50.1 0) + 1)), Y_50.2)) := hD
          subst hσ
          exact vq_vret hx hb hr hlocks hK hP hD hS dX6_keeps_92
        · rw [if_neg c53] at hσ
          refine lv_aload_n hx hb dX6_keeps_56 rfl (lv_at hl 0 rfl) ?_
          refine va_get (D := (dC, dI)) (ci := 6) (v := .ref (g 2)) (C := RX6) (T := TX6) (N := 15) hx hb hts (fun _ h => List.mem_cons_of_mem _ (List.mem_append_right _ h)) hown hK hP 0 rfl rfl 2 (by decide) (hts (.fieldLink RX6 16 "SharedLineModel" "past" "[I") (List.mem_of_getElem? (i := 2) rfl)) (fun _ h9 => h9) rfl dX6_keeps_57 ?_
          refine lv_bipush (v := 17) hx hb dX6_keeps_60 (by decide) ?_
          refine lv_aload_n hx hb dX6_keeps_62 rfl (lv_at hl 0 rfl) ?_
          refine va_get (D := (dC, dI)) (ci := 6) (v := .int (Y_50.1 0)) (C := RX6) (T := TX6) (N := 15) hx hb hts (fun _ h => List.mem_cons_of_mem _ (List.mem_append_right _ h)) hown hK hP 0 rfl rfl 3 (by decide) (hts (.fieldLink RX6 98 "SharedLineModel" "undos" "I") (List.mem_of_getElem? (i := 1) rfl)) (fun _ h9 => h9) rfl dX6_keeps_63 ?_
          refine lv_imul hx hb dX6_keeps_66 ?_
          refine lv_iload_n hx hb dX6_keeps_67 rfl (lv_at hl 1 rfl) ?_
          refine lv_iadd hx hb dX6_keeps_68 ?_
          refine lv_aload_n hx hb dX6_keeps_69 rfl (lv_at hl 0 rfl) ?_
          refine va_get (D := (dC, dI)) (ci := 6) (v := .ref (g 0)) (C := RX6) (T := TX6) (N := 15) hx hb hts (fun _ h => List.mem_cons_of_mem _ (List.mem_append_right _ h)) hown hK hP 0 rfl rfl 0 (by decide) (hts (.fieldLink RX6 7 "SharedLineModel" "now" "[I") (List.mem_of_getElem? (i := 3) rfl)) (fun _ h9 => h9) rfl dX6_keeps_70 ?_
          refine lv_iload_n hx hb dX6_keeps_73 rfl (lv_at hl 1 rfl) ?_
          refine va_iald hx hb hK hP 1 0 rfl rfl (i := x1_50) (up_in e50 (up_lt e50 (show (17 : Int32) = nI 17 from rfl) (by omega) c53) (by decide)) dX6_keeps_74 ?_
          refine va_iast hx hb hK hP hD hS 3 0 rfl rfl (i := (((17 : Int32) * (Y_50.1 0)) + x1_50)) (pu_ix u50 e50 (up_lt e50 (show (17 : Int32) = nI 17 from rfl) (by omega) c53)) dX6_keeps_75 (fun H locs hP hD hS => ?_)
          have hP : va_P (dC, dI) vwCl (wM cI cZ h g (Y_50.1, (updR Y_50.2 2 (upd (Y_50.2 2) ((((17 : Int32) * (Y_50.1 0)) + x1_50)).toNatClampNeg ((Y_50.2 0) (x1_50).toNatClampNeg))))) H := hP
          have hD : va_D A (wM cI cZ h g (Y_50.1, (updR Y_50.2 2 (upd (Y_50.2 2) ((((17 : Int32) * (Y_50.1 0)) + x1_50)).toNatClampNeg ((Y_50.2 0) (x1_50).toNatClampNeg))))) := hD
          refine lv_iinc (v := (x1_50 + 1)) (lv' := [(1, .int (x1_50 + 1)), (0, .ref h)]) hx hb dX6_keeps_76 hl (k := 1) rfl rfl (by decide) rfl (fun ls hl => ?_)
          refine lv_goto (tgt := 50) hx hb dX6_keeps_79 (by decide) ?_
          exact ih50 (x1_50 + 1) (Y_50.1, (updR Y_50.2 2 (upd (Y_50.2 2) ((((17 : Int32) * (Y_50.1 0)) + x1_50)).toNatClampNeg ((Y_50.2 0) (x1_50).toNatClampNeg)))) (k50 + 1) (up_s e50) (by have := up_lt e50 (show (17 : Int32) = nI 17 from rfl) (by omega) c53; omega) (by omega) u50 hσ _ _ _ hP hD hS (lv_sub hl [1, 0] rfl)
    exact key50 18 (0 : Int32) S 0 nI_0.symm (Nat.zero_le _) (Nat.le_refl _) (by first | exact kp_u hU c6 | exact ⟨5, (show Y_11.1 0 - 1 = nI 5 by rw [u11]; rfl), by decide⟩) hσ _ _ _ hP hD hS (lv_sub hl [1, 0] rfl)
  · rw [if_pos c6] at hσ
    refine lv_iconst (v := 0) hx hb dX6_keeps_9 (by decide) ?_
    refine lv_istore_n (lv' := [(1, .int 0), (0, .ref h)]) hx hb dX6_keeps_10 rfl hl (by decide) rfl (fun ls hl => ?_)
    have key11 : ∀ (n11 : Nat) (x1_11 : Int32) (Y_11 : MSt) (k11 : Nat), (x1_11 = nI k11) → (k11 ≤ 85) → (85 + 1 ≤ n11 + k11) → (Y_11.1 0 = nI 6) → (sX6_keeps_L11  n11 x1_11 Y_11) = σ → ∀ (H : Heap) (locs : List Loc) (ls : Array Slot), va_P (dC, dI) vwCl (wM cI cZ h g Y_11) H → va_D A (wM cI cZ h g Y_11) → va_S A s.heap H locs → lv_has ls 2 [(0, .ref h), (1, .int x1_11)] → W p l e (headSpec wsX6_keeps (rmF 0 0)).room s m ([.ref h] : List Value).toArray below meth c H locs 0 0 (MQ below (va_Qv (fun (_ : Unit) => True) (fun _ t => PoW (dC, dI) (tyC cI cZ cO) A (wM cI cZ h g σ) t) A) ([.ref h] : List Value).toArray s 0 0 A) (F0 m 11 ls []) := by
      intro n11
      induction n11 with
      | zero =>
        intro x1_11 Y_11 k11 e11 hk11 hn11 u11
        exact absurd hn11 (by omega)
      | succ n11 ih11 =>
        intro x1_11 Y_11 k11 e11 hk11 hn11 u11 hσ H locs ls hP hD hS hl
        rw [sX6_keeps_L11_s] at hσ
        refine lv_iload_n hx hb dX6_keeps_11 rfl (lv_at hl 1 rfl) ?_
        refine lv_bipush (v := 85) hx hb dX6_keeps_12 (by decide) ?_
        refine lv_icmp_ge (tgt := 38) hx hb dX6_keeps_14 (by decide) (fun c14 => ?_) (fun c14 => ?_)
        · rw [if_pos c14] at hσ
          refine lv_aload_n hx hb dX6_keeps_38 rfl (lv_at hl 0 rfl) ?_
          refine lv_dup hx hb dX6_keeps_39 rfl ?_
          refine va_get (D := (dC, dI)) (ci := 6) (v := .int (Y_11.1 0)) (C := RX6) (T := TX6) (N := 15) hx hb hts (fun _ h => List.mem_cons_of_mem _ (List.mem_append_right _ h)) hown hK hP 0 rfl rfl 3 (by decide) (hts (.fieldLink RX6 98 "SharedLineModel" "undos" "I") (List.mem_of_getElem? (i := 1) rfl)) (fun _ h9 => h9) rfl dX6_keeps_40 ?_
          refine lv_iconst (v := 1) hx hb dX6_keeps_43 (by decide) ?_
          refine lv_isub hx hb dX6_keeps_44 ?_
          refine va_put (D := (dC, dI)) (ci := 6) (v := .int ((Y_11.1 0) - 1)) (ty := .int) (C := RX6) (T := TX6) (N := 15) hx hb hts (fun _ h => List.mem_cons_of_mem _ (List.mem_append_right _ h)) tyX6 tyX6_ok nmX6 hown hK hP hD hS 0 rfl rfl 3 (by decide) (hts (.fieldLink RX6 98 "SharedLineModel" "undos" "I") (List.mem_of_getElem? (i := 1) rfl)) (fun _ h9 => h9) rfl (tyX6_ok 3 (by decide)) rfl rfl (Nat.le_of_ble_eq_true rfl) dX6_keeps_45 (fun H locs hP hD hS => ?_)
          have hP : va_P (dC, dI) vwCl (wM cI cZ h g ((upd Y_11.1 0 ((Y_11.1 0) - 1)), Y_11.2)) H := hP
          have hD : va_D A (wM cI cZ h g ((upd Y_11.1 0 ((Y_11.1 0) - 1)), Y_11.2)) := hD
          refine lv_iconst (v := 0) hx hb dX6_keeps_48 (by decide) ?_
          refine lv_istore_n (lv' := [(1, .int 0), (0, .ref h)]) hx hb dX6_keeps_49 rfl hl (by decide) rfl (fun ls hl => ?_)
          have key50 : ∀ (n50 : Nat) (x1_50 : Int32) (Y_50 : MSt) (k50 : Nat), (x1_50 = nI k50) → (k50 ≤ 17) → (17 + 1 ≤ n50 + k50) → (∃ u : Nat, Y_50.1 0 = nI u ∧ u ≤ 5) → (sX6_keeps_L50  n50 x1_50 Y_50) = σ → ∀ (H : Heap) (locs : List Loc) (ls : Array Slot), va_P (dC, dI) vwCl (wM cI cZ h g Y_50) H → va_D A (wM cI cZ h g Y_50) → va_S A s.heap H locs → lv_has ls 2 [(0, .ref h), (1, .int x1_50)] → W p l e (headSpec wsX6_keeps (rmF 0 0)).room s m ([.ref h] : List Value).toArray below meth c H locs 0 0 (MQ below (va_Qv (fun (_ : Unit) => True) (fun _ t => PoW (dC, dI) (tyC cI cZ cO) A (wM cI cZ h g σ) t) A) ([.ref h] : List Value).toArray s 0 0 A) (F0 m 50 ls []) := by
            intro n50
            induction n50 with
            | zero =>
              intro x1_50 Y_50 k50 e50 hk50 hn50 u50
              exact absurd hn50 (by omega)
            | succ n50 ih50 =>
              intro x1_50 Y_50 k50 e50 hk50 hn50 u50 hσ H locs ls hP hD hS hl
              rw [sX6_keeps_L50_s] at hσ
              refine lv_iload_n hx hb dX6_keeps_50 rfl (lv_at hl 1 rfl) ?_
              refine lv_bipush (v := 17) hx hb dX6_keeps_51 (by decide) ?_
              refine lv_icmp_ge (tgt := 82) hx hb dX6_keeps_53 (by decide) (fun c53 => ?_) (fun c53 => ?_)
              · rw [if_pos c53] at hσ
                refine lv_aload_n hx hb dX6_keeps_82 rfl (lv_at hl 0 rfl) ?_
                refine lv_dup hx hb dX6_keeps_83 rfl ?_
                refine va_get (D := (dC, dI)) (ci := 6) (v := .int (Y_50.1 0)) (C := RX6) (T := TX6) (N := 15) hx hb hts (fun _ h => List.mem_cons_of_mem _ (List.mem_append_right _ h)) hown hK hP 0 rfl rfl 3 (by decide) (hts (.fieldLink RX6 98 "SharedLineModel" "undos" "I") (List.mem_of_getElem? (i := 1) rfl)) (fun _ h9 => h9) rfl dX6_keeps_84 ?_
                refine lv_iconst (v := 1) hx hb dX6_keeps_87 (by decide) ?_
                refine lv_iadd hx hb dX6_keeps_88 ?_
                refine va_put (D := (dC, dI)) (ci := 6) (v := .int ((Y_50.1 0) + 1)) (ty := .int) (C := RX6) (T := TX6) (N := 15) hx hb hts (fun _ h => List.mem_cons_of_mem _ (List.mem_append_right _ h)) tyX6 tyX6_ok nmX6 hown hK hP hD hS 0 rfl rfl 3 (by decide) (hts (.fieldLink RX6 98 "SharedLineModel" "undos" "I") (List.mem_of_getElem? (i := 1) rfl)) (fun _ h9 => h9) rfl (tyX6_ok 3 (by decide)) rfl rfl (Nat.le_of_ble_eq_true rfl) dX6_keeps_89 (fun H locs hP hD hS => ?_)
                have hP : va_P (dC, dI) vwCl (wM cI cZ h g ((upd Y_50.1 0 ((Y_50.1 0) + 1)), Y_50.2)) H := hP
                have hD : va_D A (wM cI cZ h g ((upd Y_50.1 0 ((Y_50.1 0) + 1)), Y_50.2)) := hD
                subst hσ
                exact vq_vret hx hb hr hlocks hK hP hD hS dX6_keeps_92
              · rw [if_neg c53] at hσ
                refine lv_aload_n hx hb dX6_keeps_56 rfl (lv_at hl 0 rfl) ?_
                refine va_get (D := (dC, dI)) (ci := 6) (v := .ref (g 2)) (C := RX6) (T := TX6) (N := 15) hx hb hts (fun _ h => List.mem_cons_of_mem _ (List.mem_append_right _ h)) hown hK hP 0 rfl rfl 2 (by decide) (hts (.fieldLink RX6 16 "SharedLineModel" "past" "[I") (List.mem_of_getElem? (i := 2) rfl)) (fun _ h9 => h9) rfl dX6_keeps_57 ?_
                refine lv_bipush (v := 17) hx hb dX6_keeps_60 (by decide) ?_
                refine lv_aload_n hx hb dX6_keeps_62 rfl (lv_at hl 0 rfl) ?_
                refine va_get (D := (dC, dI)) (ci := 6) (v := .int (Y_50.1 0)) (C := RX6) (T := TX6) (N := 15) hx hb hts (fun _ h => List.mem_cons_of_mem _ (List.mem_append_right _ h)) hown hK hP 0 rfl rfl 3 (by decide) (hts (.fieldLink RX6 98 "SharedLineModel" "undos" "I") (List.mem_of_getElem? (i := 1) rfl)) (fun _ h9 => h9) rfl dX6_keeps_63 ?_
                refine lv_imul hx hb dX6_keeps_66 ?_
                refine lv_iload_n hx hb dX6_keeps_67 rfl (lv_at hl 1 rfl) ?_
                refine lv_iadd hx hb dX6_keeps_68 ?_
                refine lv_aload_n hx hb dX6_keeps_69 rfl (lv_at hl 0 rfl) ?_
                refine va_get (D := (dC, dI)) (ci := 6) (v := .ref (g 0)) (C := RX6) (T := TX6) (N := 15) hx hb hts (fun _ h => List.mem_cons_of_mem _ (List.mem_append_right _ h)) hown hK hP 0 rfl rfl 0 (by decide) (hts (.fieldLink RX6 7 "SharedLineModel" "now" "[I") (List.mem_of_getElem? (i := 3) rfl)) (fun _ h9 => h9) rfl dX6_keeps_70 ?_
                refine lv_iload_n hx hb dX6_keeps_73 rfl (lv_at hl 1 rfl) ?_
                refine va_iald hx hb hK hP 1 0 rfl rfl (i := x1_50) (up_in e50 (up_lt e50 (show (17 : Int32) = nI 17 from rfl) (by omega) c53) (by decide)) dX6_keeps_74 ?_
                refine va_iast hx hb hK hP hD hS 3 0 rfl rfl (i := (((17 : Int32) * (Y_50.1 0)) + x1_50)) (pu_ix u50 e50 (up_lt e50 (show (17 : Int32) = nI 17 from rfl) (by omega) c53)) dX6_keeps_75 (fun H locs hP hD hS => ?_)
                have hP : va_P (dC, dI) vwCl (wM cI cZ h g (Y_50.1, (updR Y_50.2 2 (upd (Y_50.2 2) ((((17 : Int32) * (Y_50.1 0)) + x1_50)).toNatClampNeg ((Y_50.2 0) (x1_50).toNatClampNeg))))) H := hP
                have hD : va_D A (wM cI cZ h g (Y_50.1, (updR Y_50.2 2 (upd (Y_50.2 2) ((((17 : Int32) * (Y_50.1 0)) + x1_50)).toNatClampNeg ((Y_50.2 0) (x1_50).toNatClampNeg))))) := hD
                refine lv_iinc (v := (x1_50 + 1)) (lv' := [(1, .int (x1_50 + 1)), (0, .ref h)]) hx hb dX6_keeps_76 hl (k := 1) rfl rfl (by decide) rfl (fun ls hl => ?_)
                refine lv_goto (tgt := 50) hx hb dX6_keeps_79 (by decide) ?_
                exact ih50 (x1_50 + 1) (Y_50.1, (updR Y_50.2 2 (upd (Y_50.2 2) ((((17 : Int32) * (Y_50.1 0)) + x1_50)).toNatClampNeg ((Y_50.2 0) (x1_50).toNatClampNeg)))) (k50 + 1) (up_s e50) (by have := up_lt e50 (show (17 : Int32) = nI 17 from rfl) (by omega) c53; omega) (by omega) u50 hσ _ _ _ hP hD hS (lv_sub hl [1, 0] rfl)
          exact key50 18 (0 : Int32) ((upd Y_11.1 0 ((Y_11.1 0) - 1)), Y_11.2) 0 nI_0.symm (Nat.zero_le _) (Nat.le_refl _) (by first | exact kp_u hU c6 | exact ⟨5, (show Y_11.1 0 - 1 = nI 5 by rw [u11]; rfl), by decide⟩) hσ _ _ _ hP hD hS (lv_sub hl [1, 0] rfl)
        · rw [if_neg c14] at hσ
          refine lv_aload_n hx hb dX6_keeps_17 rfl (lv_at hl 0 rfl) ?_
          refine va_get (D := (dC, dI)) (ci := 6) (v := .ref (g 2)) (C := RX6) (T := TX6) (N := 15) hx hb hts (fun _ h => List.mem_cons_of_mem _ (List.mem_append_right _ h)) hown hK hP 0 rfl rfl 2 (by decide) (hts (.fieldLink RX6 16 "SharedLineModel" "past" "[I") (List.mem_of_getElem? (i := 2) rfl)) (fun _ h9 => h9) rfl dX6_keeps_18 ?_
          refine lv_iload_n hx hb dX6_keeps_21 rfl (lv_at hl 1 rfl) ?_
          refine lv_aload_n hx hb dX6_keeps_22 rfl (lv_at hl 0 rfl) ?_
          refine va_get (D := (dC, dI)) (ci := 6) (v := .ref (g 2)) (C := RX6) (T := TX6) (N := 15) hx hb hts (fun _ h => List.mem_cons_of_mem _ (List.mem_append_right _ h)) hown hK hP 0 rfl rfl 2 (by decide) (hts (.fieldLink RX6 16 "SharedLineModel" "past" "[I") (List.mem_of_getElem? (i := 2) rfl)) (fun _ h9 => h9) rfl dX6_keeps_23 ?_
          refine lv_iload_n hx hb dX6_keeps_26 rfl (lv_at hl 1 rfl) ?_
          refine lv_bipush (v := 17) hx hb dX6_keeps_27 (by decide) ?_
          refine lv_iadd hx hb dX6_keeps_29 ?_
          refine va_iald hx hb hK hP 3 0 rfl rfl (i := (x1_11 + 17)) (a17_ix e11 (up_lt e11 (show (85 : Int32) = nI 85 from rfl) (by omega) c14)) dX6_keeps_30 ?_
          refine va_iast hx hb hK hP hD hS 3 0 rfl rfl (i := x1_11) (up_in e11 (by have := (up_lt e11 (show (85 : Int32) = nI 85 from rfl) (by omega) c14); omega) (by decide)) dX6_keeps_31 (fun H locs hP hD hS => ?_)
          have hP : va_P (dC, dI) vwCl (wM cI cZ h g (Y_11.1, (updR Y_11.2 2 (upd (Y_11.2 2) (x1_11).toNatClampNeg ((Y_11.2 2) ((x1_11 + 17)).toNatClampNeg))))) H := hP
          have hD : va_D A (wM cI cZ h g (Y_11.1, (updR Y_11.2 2 (upd (Y_11.2 2) (x1_11).toNatClampNeg ((Y_11.2 2) ((x1_11 + 17)).toNatClampNeg))))) := hD
          refine lv_iinc (v := (x1_11 + 1)) (lv' := [(1, .int (x1_11 + 1)), (0, .ref h)]) hx hb dX6_keeps_32 hl (k := 1) rfl rfl (by decide) rfl (fun ls hl => ?_)
          refine lv_goto (tgt := 11) hx hb dX6_keeps_35 (by decide) ?_
          exact ih11 (x1_11 + 1) (Y_11.1, (updR Y_11.2 2 (upd (Y_11.2 2) (x1_11).toNatClampNeg ((Y_11.2 2) ((x1_11 + 17)).toNatClampNeg)))) (k11 + 1) (up_s e11) (by have := up_lt e11 (show (85 : Int32) = nI 85 from rfl) (by omega) c14; omega) (by omega) u11 hσ _ _ _ hP hD hS (lv_sub hl [1, 0] rfl)
    exact key11 86 (0 : Int32) S 0 nI_0.symm (Nat.zero_le _) (Nat.le_refl _) (c6.trans rfl) hσ _ _ _ hP hD hS (lv_sub hl [1, 0] rfl)
theorem hdX6_tells : yX6_tells.cls = RX6 ∧ yX6_tells.cls ≠ "java/lang/invoke/MethodHandle" ∧ yX6_tells.cls ≠ "java/lang/invoke/VarHandle" ∧ (parseMethodDescriptor yX6_tells.desc).map (fun d => d.parameters.length) = some 0 := by decide +kernel
set_option maxHeartbeats 4000000 in
set_option maxRecDepth 100000 in
theorem cX6_tells_c (l : Launch) (ev : Nat → Nat) (dC : Nat → ClassId) (dI : Nat → Nat → Nat) (cI cZ cO : ClassId) (h : Nat) (g : Nat → Nat) (S : MSt) (hN : ∃ n : Nat, S.1 2 = nI n ∧ n ≤ 120) (hU : ∃ u : Nat, S.1 0 = nI u ∧ u ≤ 6) : MetI l ev (dC, dI) (tyC cI cZ cO) yX6_tells wsX6_tells (rmF 6 130) [.ref h] (wM cI cZ h g S) (sX6_tells S).1 (wM cI cZ h g (sX6_tells S).2) := by
  refine MetI_of (cc := cX6_tells) (maxL := 3) (ret := (some .int)) (by decide) rfl (Nat.le_of_ble_eq_true rfl) ?_
  intro p e s m below meth c A ls hx hb hr hml hts hown hlocks hin hK hP hD hA hE hl
  have hown : s.vm.findClass RX6 = some m.cls := hown
  have hl : lv_has ls 3 [(0, .ref h)] := hl
  have hS : va_S A s.heap s.heap [] := va_S.rf
  obtain ⟨σ, hσ⟩ : ∃ σ, (sX6_tells S) = σ := ⟨_, rfl⟩
  rw [hσ]
  rw [sX6_tells] at hσ
  refine lv_aload_n hx hb dX6_tells_0 rfl (lv_at hl 0 rfl) ?_
  refine vq_Vi (As := []) (rest := []) (W2 := (wM cI cZ h g (sX6_reads S).2)) (f := (sX6_reads S).1) hx hb hml hown hts hK hP hD hS hA hE hl.1 (cX6_reads_c l ev dC dI cI cZ cO h g S hN) gX6_tells_X6_reads rfl hdX6_reads (Nat.le_of_ble_eq_true rfl) (Nat.le_of_ble_eq_true rfl) rfl rfl (ci := 6) (qr := 0) rfl rfl rfl [0, 1, 2, 3, 4, 5, 6, 7, 8, 9] [] [0, 1, 2, 3, 4, 5, 6, 7, 8, 9] rfl rfl (by decide) (by decide) (by decide) rfl rfl rfl (Nat.le_of_ble_eq_true rfl) dX6_tells_1 ⟨Nat.zero_le _, Nat.zero_le _⟩ (fun H locs hP hD hS => ?_)
  refine lv_istore_n (lv' := [(1, .int (sX6_reads S).1), (0, .ref h)]) hx hb dX6_tells_4 rfl hl (by decide) rfl (fun ls hl => ?_)
  refine lv_iload_n hx hb dX6_tells_5 rfl (lv_at hl 0 rfl) ?_
  refine lv_if_ge (tgt := 17) hx hb dX6_tells_6 (by decide) (fun c6 => ?_) (fun c6 => ?_)
  · rw [if_pos c6] at hσ
    refine lv_aload_n hx hb dX6_tells_17 rfl (lv_at hl 1 rfl) ?_
    refine vq_Vv (As := []) (rest := []) (W2 := (wM cI cZ h g (sX6_keeps (sX6_reads S).2))) hx hb hml hown hts hK hP hD hS hA hE hl.1 (cX6_keeps_c l ev dC dI cI cZ cO h g (sX6_reads S).2 (rs_U hN hU)) gX6_tells_X6_keeps rfl hdX6_keeps (Nat.le_of_ble_eq_true rfl) (Nat.le_of_ble_eq_true rfl) rfl rfl (ci := 6) (qr := 0) rfl rfl rfl [0, 1, 2, 3, 4, 5, 6, 7, 8, 9] [] [0, 1, 2, 3, 4, 5, 6, 7, 8, 9] rfl rfl (by decide) (by decide) (by decide) rfl rfl rfl (Nat.le_of_ble_eq_true rfl) dX6_tells_18 ⟨Nat.zero_le _, Nat.zero_le _⟩ (fun H locs hP hD hS => ?_)
    refine lv_iconst (v := 0) hx hb dX6_tells_21 (by decide) ?_
    refine lv_istore_n (lv' := [(2, .int 0), (1, .int (sX6_reads S).1), (0, .ref h)]) hx hb dX6_tells_22 rfl hl (by decide) rfl (fun ls hl => ?_)
    have key23 : ∀ (n23 : Nat) (x1_23 : Int32) (x2_23 : Int32) (Y_23 : MSt) (k23 : Nat), (x2_23 = nI k23) → (k23 ≤ 17) → (17 + 1 ≤ n23 + k23) → (sX6_tells_L23  n23 x1_23 x2_23 Y_23) = σ → ∀ (H : Heap) (locs : List Loc) (ls : Array Slot), va_P (dC, dI) vwCl (wM cI cZ h g Y_23) H → va_D A (wM cI cZ h g Y_23) → va_S A s.heap H locs → lv_has ls 3 [(0, .ref h), (1, .int x1_23), (2, .int x2_23)] → W p l e (headSpec wsX6_tells (rmF 6 130)).room s m ([.ref h] : List Value).toArray below meth c H locs 0 0 (MQ below (va_Qi (fun (x : Int32) (_ : Unit) => x = σ.1) (fun _ t => PoW (dC, dI) (tyC cI cZ cO) A (wM cI cZ h g σ.2) t) A) ([.ref h] : List Value).toArray s 0 0 A) (F0 m 23 ls []) := by
      intro n23
      induction n23 with
      | zero =>
        intro x1_23 x2_23 Y_23 k23 e23 hk23 hn23
        exact absurd hn23 (by omega)
      | succ n23 ih23 =>
        intro x1_23 x2_23 Y_23 k23 e23 hk23 hn23 hσ H locs ls hP hD hS hl
        rw [sX6_tells_L23_s] at hσ
        refine lv_iload_n hx hb dX6_tells_23 rfl (lv_at hl 2 rfl) ?_
        refine lv_bipush (v := 17) hx hb dX6_tells_24 (by decide) ?_
        refine lv_icmp_ge (tgt := 47) hx hb dX6_tells_26 (by decide) (fun c26 => ?_) (fun c26 => ?_)
        · rw [if_pos c26] at hσ
          refine lv_aload_n hx hb dX6_tells_47 rfl (lv_at hl 0 rfl) ?_
          refine lv_iconst (v := 0) hx hb dX6_tells_48 (by decide) ?_
          refine va_put (D := (dC, dI)) (ci := 6) (v := .int 0) (ty := .int) (C := RX6) (T := TX6) (N := 15) hx hb hts (fun _ h => List.mem_cons_of_mem _ (List.mem_append_right _ h)) tyX6 tyX6_ok nmX6 hown hK hP hD hS 0 rfl rfl 10 (by decide) (hts (.fieldLink RX6 46 "SharedLineModel" "letters" "I") (List.mem_of_getElem? (i := 4) rfl)) (fun _ h9 => h9) rfl (tyX6_ok 10 (by decide)) rfl rfl (Nat.le_of_ble_eq_true rfl) dX6_tells_49 (fun H locs hP hD hS => ?_)
          have hP : va_P (dC, dI) vwCl (wM cI cZ h g ((upd Y_23.1 2 0), Y_23.2)) H := hP
          have hD : va_D A (wM cI cZ h g ((upd Y_23.1 2 0), Y_23.2)) := hD
          refine lv_iload_n hx hb dX6_tells_52 rfl (lv_at hl 1 rfl) ?_
          subst hσ
          try dsimp only
          exact vq_iret hx hb hr hlocks hK hP hD hS rfl dX6_tells_53
        · rw [if_neg c26] at hσ
          refine lv_aload_n hx hb dX6_tells_29 rfl (lv_at hl 0 rfl) ?_
          refine va_get (D := (dC, dI)) (ci := 6) (v := .ref (g 0)) (C := RX6) (T := TX6) (N := 15) hx hb hts (fun _ h => List.mem_cons_of_mem _ (List.mem_append_right _ h)) hown hK hP 0 rfl rfl 0 (by decide) (hts (.fieldLink RX6 7 "SharedLineModel" "now" "[I") (List.mem_of_getElem? (i := 2) rfl)) (fun _ h9 => h9) rfl dX6_tells_30 ?_
          refine lv_iload_n hx hb dX6_tells_33 rfl (lv_at hl 2 rfl) ?_
          refine lv_aload_n hx hb dX6_tells_34 rfl (lv_at hl 0 rfl) ?_
          refine va_get (D := (dC, dI)) (ci := 6) (v := .ref (g 1)) (C := RX6) (T := TX6) (N := 15) hx hb hts (fun _ h => List.mem_cons_of_mem _ (List.mem_append_right _ h)) hown hK hP 0 rfl rfl 1 (by decide) (hts (.fieldLink RX6 13 "SharedLineModel" "fresh" "[I") (List.mem_of_getElem? (i := 3) rfl)) (fun _ h9 => h9) rfl dX6_tells_35 ?_
          refine lv_iload_n hx hb dX6_tells_38 rfl (lv_at hl 2 rfl) ?_
          refine va_iald hx hb hK hP 2 0 rfl rfl (i := x2_23) (up_in e23 (up_lt e23 (show (17 : Int32) = nI 17 from rfl) (by omega) c26) (by decide)) dX6_tells_39 ?_
          refine va_iast hx hb hK hP hD hS 1 0 rfl rfl (i := x2_23) (up_in e23 (up_lt e23 (show (17 : Int32) = nI 17 from rfl) (by omega) c26) (by decide)) dX6_tells_40 (fun H locs hP hD hS => ?_)
          have hP : va_P (dC, dI) vwCl (wM cI cZ h g (Y_23.1, (updR Y_23.2 0 (upd (Y_23.2 0) (x2_23).toNatClampNeg ((Y_23.2 1) (x2_23).toNatClampNeg))))) H := hP
          have hD : va_D A (wM cI cZ h g (Y_23.1, (updR Y_23.2 0 (upd (Y_23.2 0) (x2_23).toNatClampNeg ((Y_23.2 1) (x2_23).toNatClampNeg))))) := hD
          refine lv_iinc (v := (x2_23 + 1)) (lv' := [(2, .int (x2_23 + 1)), (0, .ref h), (1, .int x1_23)]) hx hb dX6_tells_41 hl (k := 2) rfl rfl (by decide) rfl (fun ls hl => ?_)
          refine lv_goto (tgt := 23) hx hb dX6_tells_44 (by decide) ?_
          exact ih23 x1_23 (x2_23 + 1) (Y_23.1, (updR Y_23.2 0 (upd (Y_23.2 0) (x2_23).toNatClampNeg ((Y_23.2 1) (x2_23).toNatClampNeg)))) (k23 + 1) (up_s e23) (by have := up_lt e23 (show (17 : Int32) = nI 17 from rfl) (by omega) c26; omega) (by omega) hσ _ _ _ hP hD hS (lv_sub hl [1, 2, 0] rfl)
    exact key23 18 (sX6_reads S).1 (0 : Int32) (sX6_keeps (sX6_reads S).2) 0 nI_0.symm (Nat.zero_le _) (Nat.le_refl _) hσ _ _ _ hP hD hS (lv_sub hl [2, 1, 0] rfl)
  · rw [if_neg c6] at hσ
    refine lv_bipush (v := (-10)) hx hb dX6_tells_9 (by decide) ?_
    refine lv_aload_n hx hb dX6_tells_11 rfl (lv_at hl 1 rfl) ?_
    refine va_get (D := (dC, dI)) (ci := 6) (v := .int ((sX6_reads S).2.1 4)) (C := RX6) (T := TX6) (N := 15) hx hb hts (fun _ h => List.mem_cons_of_mem _ (List.mem_append_right _ h)) hown hK hP 0 rfl rfl 12 (by decide) (hts (.fieldLink RX6 49 "SharedLineModel" "mark" "I") (List.mem_of_getElem? (i := 1) rfl)) (fun _ h9 => h9) rfl dX6_tells_12 ?_
    refine lv_isub hx hb dX6_tells_15 ?_
    subst hσ
    try dsimp only
    exact vq_iret hx hb hr hlocks hK hP hD hS rfl dX6_tells_16
theorem hdX6_gives : yX6_gives.cls = RX6 ∧ yX6_gives.cls ≠ "java/lang/invoke/MethodHandle" ∧ yX6_gives.cls ≠ "java/lang/invoke/VarHandle" ∧ (parseMethodDescriptor yX6_gives.desc).map (fun d => d.parameters.length) = some 2 := by decide +kernel
set_option maxHeartbeats 4000000 in
set_option maxRecDepth 100000 in
theorem cX6_gives_c (l : Launch) (ev : Nat → Nat) (dC : Nat → ClassId) (dI : Nat → Nat → Nat) (cI cZ cO : ClassId) (h : Nat) (g : Nat → Nat) (S : MSt) (p1 : Int32) (p2 : Int32) (hT : LOK S) (hU : ∃ u : Nat, S.1 0 = nI u ∧ u ≤ 6) : MetI l ev (dC, dI) (tyC cI cZ cO) yX6_gives wsX6_gives (rmF 4 87) [.ref h, .int p1, .int p2] (wM cI cZ h g S) (sX6_gives S p1 p2).1 (wM cI cZ h g (sX6_gives S p1 p2).2) := by
  refine MetI_of (cc := cX6_gives) (maxL := 3) (ret := (some .int)) (by decide) rfl (Nat.le_of_ble_eq_true rfl) ?_
  intro p e s m below meth c A ls hx hb hr hml hts hown hlocks hin hK hP hD hA hE hl
  have hown : s.vm.findClass RX6 = some m.cls := hown
  have hl : lv_has ls 3 [(0, .ref h), (1, .int p1), (2, .int p2)] := hl
  have hS : va_S A s.heap s.heap [] := va_S.rf
  obtain ⟨σ, hσ⟩ : ∃ σ, (sX6_gives S p1 p2) = σ := ⟨_, rfl⟩
  rw [hσ]
  rw [sX6_gives] at hσ
  refine lv_aload_n hx hb dX6_gives_0 rfl (lv_at hl 0 rfl) ?_
  refine lv_iload_n hx hb dX6_gives_1 rfl (lv_at hl 1 rfl) ?_
  refine vq_Vi (As := [.int p1]) (rest := []) (W2 := (wM cI cZ h g S)) (f := (bI (sX6_isNote S p1))) hx hb hml hown hts hK hP hD hS hA hE hl.1 (cX6_isNote_c l ev dC dI cI cZ cO h g S p1 hT) gX6_gives_X6_isNote rfl hdX6_isNote (Nat.le_of_ble_eq_true rfl) (Nat.le_of_ble_eq_true rfl) rfl rfl (ci := 6) (qr := 0) rfl rfl rfl [0, 1, 2, 3, 4, 5, 6, 7, 8, 9] [] [0, 1, 2, 3, 4, 5, 6, 7, 8, 9] rfl rfl (by decide) (by decide) (by decide) rfl rfl rfl (Nat.le_of_ble_eq_true rfl) dX6_gives_2 ⟨Nat.zero_le _, Nat.zero_le _⟩ (fun H locs hP hD hS => ?_)
  refine lv_if_eqB (tgt := 15) hx hb dX6_gives_5 (by decide) (fun c5 => ?_) (fun c5 => ?_)
  · rw [if_neg (Bool.eq_false_iff.mp c5)] at hσ
    refine lv_iconst (v := (-1)) hx hb dX6_gives_15 (by decide) ?_
    subst hσ
    try dsimp only
    exact vq_iret hx hb hr hlocks hK hP hD hS rfl dX6_gives_16
  · rw [if_pos c5] at hσ
    refine lv_iload_n hx hb dX6_gives_8 rfl (lv_at hl 2 rfl) ?_
    refine vq_Si (As := [.int p2]) (rest := []) (W2 := (wM cI cZ h g S)) (f := (bI (sX6_isHand p2))) hx hb hml hown hts hK hP hD hS hA hE hl.1 (cX6_isHand_c l ev dC dI cI cZ cO p2) gX6_gives_X6_isHand rfl hdX6_isHand (Nat.le_of_ble_eq_true rfl) (Nat.le_of_ble_eq_true rfl) rfl rfl [] [0, 1, 2, 3, 4, 5, 6, 7, 8, 9] [0, 1, 2, 3, 4, 5, 6, 7, 8, 9] rfl rfl (by decide) (by decide) (by decide) rfl rfl rfl (Nat.le_of_ble_eq_true rfl) dX6_gives_9 ⟨Nat.zero_le _, Nat.zero_le _⟩ (fun H locs hP hD hS => ?_)
    refine lv_if_neB (tgt := 17) hx hb dX6_gives_12 (by decide) (fun c12 => ?_) (fun c12 => ?_)
    · rw [if_pos c12] at hσ
      refine lv_aload_n hx hb dX6_gives_17 rfl (lv_at hl 0 rfl) ?_
      refine va_get (D := (dC, dI)) (ci := 6) (v := .ref (g 0)) (C := RX6) (T := TX6) (N := 15) hx hb hts (fun _ h => List.mem_cons_of_mem _ (List.mem_append_right _ h)) hown hK hP 0 rfl rfl 0 (by decide) (hts (.fieldLink RX6 7 "SharedLineModel" "now" "[I") (List.mem_of_getElem? (i := 1) rfl)) (fun _ h9 => h9) rfl dX6_gives_18 ?_
      refine lv_bipush (v := 16) hx hb dX6_gives_21 (by decide) ?_
      refine vq_ialdK (k := 16) hx hb hK hP 1 0 rfl rfl (by decide) (by decide) (by decide) dX6_gives_23 ?_
      refine lv_iload_n hx hb dX6_gives_24 rfl (lv_at hl 1 rfl) ?_
      refine lv_ishr hx hb dX6_gives_25 ?_
      refine lv_iconst (v := 1) hx hb dX6_gives_26 (by decide) ?_
      refine lv_iand hx hb dX6_gives_27 ?_
      refine lv_iload_n hx hb dX6_gives_28 rfl (lv_at hl 2 rfl) ?_
      refine lv_icmp_ne (tgt := 35) hx hb dX6_gives_29 (by decide) (fun c29 => ?_) (fun c29 => ?_)
      · rw [if_neg c29] at hσ
        refine lv_aload_n hx hb dX6_gives_35 rfl (lv_at hl 0 rfl) ?_
        refine vq_Vv (As := []) (rest := []) (W2 := (wM cI cZ h g (sX6_keeps S))) hx hb hml hown hts hK hP hD hS hA hE hl.1 (cX6_keeps_c l ev dC dI cI cZ cO h g S hU) gX6_gives_X6_keeps rfl hdX6_keeps (Nat.le_of_ble_eq_true rfl) (Nat.le_of_ble_eq_true rfl) rfl rfl (ci := 6) (qr := 0) rfl rfl rfl [0, 1, 2, 3, 4, 5, 6, 7, 8, 9] [] [0, 1, 2, 3, 4, 5, 6, 7, 8, 9] rfl rfl (by decide) (by decide) (by decide) rfl rfl rfl (Nat.le_of_ble_eq_true rfl) dX6_gives_36 ⟨Nat.zero_le _, Nat.zero_le _⟩ (fun H locs hP hD hS => ?_)
        refine lv_aload_n hx hb dX6_gives_39 rfl (lv_at hl 0 rfl) ?_
        refine va_get (D := (dC, dI)) (ci := 6) (v := .ref (g 0)) (C := RX6) (T := TX6) (N := 15) hx hb hts (fun _ h => List.mem_cons_of_mem _ (List.mem_append_right _ h)) hown hK hP 0 rfl rfl 0 (by decide) (hts (.fieldLink RX6 7 "SharedLineModel" "now" "[I") (List.mem_of_getElem? (i := 1) rfl)) (fun _ h9 => h9) rfl dX6_gives_40 ?_
        refine lv_bipush (v := 16) hx hb dX6_gives_43 (by decide) ?_
        refine lv_dup2_11 hx hb dX6_gives_45 rfl rfl ?_
        refine vq_ialdK (k := 16) hx hb hK hP 1 0 rfl rfl (by decide) (by decide) (by decide) dX6_gives_46 ?_
        refine lv_iconst (v := 1) hx hb dX6_gives_47 (by decide) ?_
        refine lv_iload_n hx hb dX6_gives_48 rfl (lv_at hl 1 rfl) ?_
        refine lv_ishl hx hb dX6_gives_49 ?_
        refine lv_ixor hx hb dX6_gives_50 ?_
        refine vq_iastK (k := 16) hx hb hK hP hD hS 1 0 rfl rfl (by decide) (by decide) (by decide) dX6_gives_51 (fun H locs hP hD hS => ?_)
        have hP : va_P (dC, dI) vwCl (wM cI cZ h g ((sX6_keeps S).1, (updR (sX6_keeps S).2 0 (upd ((sX6_keeps S).2 0) 16 ((((sX6_keeps S).2 0) 16) ^^^ ((1 : Int32) <<< (p1 &&& 31))))))) H := hP
        have hD : va_D A (wM cI cZ h g ((sX6_keeps S).1, (updR (sX6_keeps S).2 0 (upd ((sX6_keeps S).2 0) 16 ((((sX6_keeps S).2 0) 16) ^^^ ((1 : Int32) <<< (p1 &&& 31))))))) := hD
        refine lv_aload_n hx hb dX6_gives_52 rfl (lv_at hl 0 rfl) ?_
        refine lv_iload_n hx hb dX6_gives_53 rfl (lv_at hl 2 rfl) ?_
        refine vq_Vi (As := [.int p2]) (rest := []) (W2 := (wM cI cZ h g ((sX6_keeps S).1, (updR (sX6_keeps S).2 0 (upd ((sX6_keeps S).2 0) 16 ((((sX6_keeps S).2 0) 16) ^^^ ((1 : Int32) <<< (p1 &&& 31)))))))) (f := (sX6_ofHand ((sX6_keeps S).1, (updR (sX6_keeps S).2 0 (upd ((sX6_keeps S).2 0) 16 ((((sX6_keeps S).2 0) 16) ^^^ ((1 : Int32) <<< (p1 &&& 31)))))) p2)) hx hb hml hown hts hK hP hD hS hA hE hl.1 (cX6_ofHand_c l ev dC dI cI cZ cO h g ((sX6_keeps S).1, (updR (sX6_keeps S).2 0 (upd ((sX6_keeps S).2 0) 16 ((((sX6_keeps S).2 0) 16) ^^^ ((1 : Int32) <<< (p1 &&& 31)))))) p2 (hT.to (congrFun (kp_now hU) 0))) gX6_gives_X6_ofHand rfl hdX6_ofHand (Nat.le_of_ble_eq_true rfl) (Nat.le_of_ble_eq_true rfl) rfl rfl (ci := 6) (qr := 0) rfl rfl rfl [0, 1, 2, 3, 4, 5, 6, 7, 8, 9] [] [0, 1, 2, 3, 4, 5, 6, 7, 8, 9] rfl rfl (by decide) (by decide) (by decide) rfl rfl rfl (Nat.le_of_ble_eq_true rfl) dX6_gives_54 ⟨Nat.zero_le _, Nat.zero_le _⟩ (fun H locs hP hD hS => ?_)
        subst hσ
        try dsimp only
        exact vq_iret hx hb hr hlocks hK hP hD hS rfl dX6_gives_57
      · rw [if_pos c29] at hσ
        refine lv_bipush (v := (-2)) hx hb dX6_gives_32 (by decide) ?_
        subst hσ
        try dsimp only
        exact vq_iret hx hb hr hlocks hK hP hD hS rfl dX6_gives_34
    · rw [if_neg (Bool.eq_false_iff.mp c12)] at hσ
      refine lv_iconst (v := (-1)) hx hb dX6_gives_15 (by decide) ?_
      subst hσ
      try dsimp only
      exact vq_iret hx hb hr hlocks hK hP hD hS rfl dX6_gives_16
theorem hdX6_flips : yX6_flips.cls = RX6 ∧ yX6_flips.cls ≠ "java/lang/invoke/MethodHandle" ∧ yX6_flips.cls ≠ "java/lang/invoke/VarHandle" ∧ (parseMethodDescriptor yX6_flips.desc).map (fun d => d.parameters.length) = some 2 := by decide +kernel
set_option maxHeartbeats 4000000 in
set_option maxRecDepth 100000 in
theorem cX6_flips_c (l : Launch) (ev : Nat → Nat) (dC : Nat → ClassId) (dI : Nat → Nat → Nat) (cI cZ cO : ClassId) (h : Nat) (g : Nat → Nat) (S : MSt) (p1 : Int32) (p2 : Int32) (hT : LOK S) (hU : ∃ u : Nat, S.1 0 = nI u ∧ u ≤ 6) : MetI l ev (dC, dI) (tyC cI cZ cO) yX6_flips wsX6_flips (rmF 3 64) [.ref h, .int p1, .int p2] (wM cI cZ h g S) (sX6_flips S p1 p2).1 (wM cI cZ h g (sX6_flips S p1 p2).2) := by
  refine MetI_of (cc := cX6_flips) (maxL := 6) (ret := (some .int)) (by decide) rfl (Nat.le_of_ble_eq_true rfl) ?_
  intro p e s m below meth c A ls hx hb hr hml hts hown hlocks hin hK hP hD hA hE hl
  have hown : s.vm.findClass RX6 = some m.cls := hown
  have hl : lv_has ls 6 [(0, .ref h), (1, .int p1), (2, .int p2)] := hl
  have hS : va_S A s.heap s.heap [] := va_S.rf
  obtain ⟨σ, hσ⟩ : ∃ σ, (sX6_flips S p1 p2) = σ := ⟨_, rfl⟩
  rw [hσ]
  rw [sX6_flips] at hσ
  refine lv_aload_n hx hb dX6_flips_0 rfl (lv_at hl 0 rfl) ?_
  refine lv_iload_n hx hb dX6_flips_1 rfl (lv_at hl 1 rfl) ?_
  refine vq_Vi (As := [.int p1]) (rest := []) (W2 := (wM cI cZ h g S)) (f := (bI (sX6_isTick S p1))) hx hb hml hown hts hK hP hD hS hA hE hl.1 (cX6_isTick_c l ev dC dI cI cZ cO h g S p1) gX6_flips_X6_isTick rfl hdX6_isTick (Nat.le_of_ble_eq_true rfl) (Nat.le_of_ble_eq_true rfl) rfl rfl (ci := 6) (qr := 0) rfl rfl rfl [0, 1, 2, 3, 4, 5, 6, 7, 8, 9] [] [0, 1, 2, 3, 4, 5, 6, 7, 8, 9] rfl rfl (by decide) (by decide) (by decide) rfl rfl rfl (Nat.le_of_ble_eq_true rfl) dX6_flips_2 ⟨Nat.zero_le _, Nat.zero_le _⟩ (fun H locs hP hD hS => ?_)
  refine lv_if_eqB (tgt := 21) hx hb dX6_flips_5 (by decide) (fun c5 => ?_) (fun c5 => ?_)
  · rw [if_neg (Bool.eq_false_iff.mp c5)] at hσ
    refine lv_iconst (v := (-1)) hx hb dX6_flips_21 (by decide) ?_
    subst hσ
    try dsimp only
    exact vq_iret hx hb hr hlocks hK hP hD hS rfl dX6_flips_22
  · rw [if_pos c5] at hσ
    refine lv_aload_n hx hb dX6_flips_8 rfl (lv_at hl 0 rfl) ?_
    refine lv_iload_n hx hb dX6_flips_9 rfl (lv_at hl 2 rfl) ?_
    refine vq_Vi (As := [.int p2]) (rest := []) (W2 := (wM cI cZ h g S)) (f := (bI (sX6_isTick S p2))) hx hb hml hown hts hK hP hD hS hA hE hl.1 (cX6_isTick_c l ev dC dI cI cZ cO h g S p2) gX6_flips_X6_isTick rfl hdX6_isTick (Nat.le_of_ble_eq_true rfl) (Nat.le_of_ble_eq_true rfl) rfl rfl (ci := 6) (qr := 0) rfl rfl rfl [0, 1, 2, 3, 4, 5, 6, 7, 8, 9] [] [0, 1, 2, 3, 4, 5, 6, 7, 8, 9] rfl rfl (by decide) (by decide) (by decide) rfl rfl rfl (Nat.le_of_ble_eq_true rfl) dX6_flips_10 ⟨Nat.zero_le _, Nat.zero_le _⟩ (fun H locs hP hD hS => ?_)
    refine lv_if_eqB (tgt := 21) hx hb dX6_flips_13 (by decide) (fun c13 => ?_) (fun c13 => ?_)
    · rw [if_neg (Bool.eq_false_iff.mp c13)] at hσ
      refine lv_iconst (v := (-1)) hx hb dX6_flips_21 (by decide) ?_
      subst hσ
      try dsimp only
      exact vq_iret hx hb hr hlocks hK hP hD hS rfl dX6_flips_22
    · rw [if_pos c13] at hσ
      refine lv_iload_n hx hb dX6_flips_16 rfl (lv_at hl 2 rfl) ?_
      refine lv_iload_n hx hb dX6_flips_17 rfl (lv_at hl 1 rfl) ?_
      refine lv_icmp_ge (tgt := 23) hx hb dX6_flips_18 (by decide) (fun c18 => ?_) (fun c18 => ?_)
      · rw [if_pos c18] at hσ
        refine lv_iconst (v := 0) hx hb dX6_flips_23 (by decide) ?_
        refine lv_istore_n (lv' := [(3, .int 0), (0, .ref h), (1, .int p1), (2, .int p2)]) hx hb dX6_flips_24 rfl hl (by decide) rfl (fun ls hl => ?_)
        refine lv_iconst (v := 0) hx hb dX6_flips_25 (by decide) ?_
        refine lv_istore (lv' := [(4, .int 0), (3, .int 0), (0, .ref h), (1, .int p1), (2, .int p2)]) hx hb dX6_flips_26 hl (by decide) rfl (fun ls hl => ?_)
        refine lv_iload_n hx hb dX6_flips_28 rfl (lv_at hl 3 rfl) ?_
        refine lv_istore (lv' := [(5, .int p1), (4, .int 0), (3, .int 0), (0, .ref h), (1, .int p1), (2, .int p2)]) hx hb dX6_flips_29 hl (by decide) rfl (fun ls hl => ?_)
        obtain ⟨a, T1, ea, ha1, ha2, -⟩ := tick_in hT c5
        obtain ⟨b, T2, eb, hb1, hb2, -⟩ := tick_in hT c13
        have key31 : ∀ (n31 : Nat) (x3_31 : Int32) (x4_31 : Int32) (x5_31 : Int32)  (k31 : Nat), (x5_31 = nI k31) → (k31 ≤ 13) → (13 + 1 ≤ n31 + k31) → (sX6_flips_L31 S p2 n31 x3_31 x4_31 x5_31) = σ → ∀ (H : Heap) (locs : List Loc) (ls : Array Slot), va_P (dC, dI) vwCl (wM cI cZ h g S) H → va_D A (wM cI cZ h g S) → va_S A s.heap H locs → lv_has ls 6 [(0, .ref h), (1, .int p1), (2, .int p2), (3, .int x3_31), (4, .int x4_31), (5, .int x5_31)] → W p l e (headSpec wsX6_flips (rmF 3 64)).room s m ([.ref h, .int p1, .int p2] : List Value).toArray below meth c H locs 0 0 (MQ below (va_Qi (fun (x : Int32) (_ : Unit) => x = σ.1) (fun _ t => PoW (dC, dI) (tyC cI cZ cO) A (wM cI cZ h g σ.2) t) A) ([.ref h, .int p1, .int p2] : List Value).toArray s 0 0 A) (F0 m 31 ls []) := by
          intro n31
          induction n31 with
          | zero =>
            intro x3_31 x4_31 x5_31 k31 e31 hk31 hn31
            exact absurd hn31 (by omega)
          | succ n31 ih31 =>
            intro x3_31 x4_31 x5_31 k31 e31 hk31 hn31 hσ H locs ls hP hD hS hl
            rw [sX6_flips_L31_s] at hσ
            refine lv_iload hx hb dX6_flips_31 (lv_at hl 5 rfl) ?_
            refine lv_iload_n hx hb dX6_flips_33 rfl (lv_at hl 2 rfl) ?_
            refine lv_icmp_gt (tgt := 82) hx hb dX6_flips_34 (by decide) (fun c34 => ?_) (fun c34 => ?_)
            · rw [if_pos c34] at hσ
              refine lv_iload hx hb dX6_flips_82 (lv_at hl 4 rfl) ?_
              refine lv_if_ne (tgt := 90) hx hb dX6_flips_84 (by decide) (fun c84 => ?_) (fun c84 => ?_)
              · rw [if_neg c84] at hσ
                refine lv_aload_n hx hb dX6_flips_90 rfl (lv_at hl 0 rfl) ?_
                refine vq_Vv (As := []) (rest := []) (W2 := (wM cI cZ h g (sX6_keeps S))) hx hb hml hown hts hK hP hD hS hA hE hl.1 (cX6_keeps_c l ev dC dI cI cZ cO h g S hU) gX6_flips_X6_keeps rfl hdX6_keeps (Nat.le_of_ble_eq_true rfl) (Nat.le_of_ble_eq_true rfl) rfl rfl (ci := 6) (qr := 0) rfl rfl rfl [0, 1, 2, 3, 4, 5, 6, 7, 8, 9] [] [0, 1, 2, 3, 4, 5, 6, 7, 8, 9] rfl rfl (by decide) (by decide) (by decide) rfl rfl rfl (Nat.le_of_ble_eq_true rfl) dX6_flips_91 ⟨Nat.zero_le _, Nat.zero_le _⟩ (fun H locs hP hD hS => ?_)
                refine lv_aload_n hx hb dX6_flips_94 rfl (lv_at hl 0 rfl) ?_
                refine va_get (D := (dC, dI)) (ci := 6) (v := .ref (g 0)) (C := RX6) (T := TX6) (N := 15) hx hb hts (fun _ h => List.mem_cons_of_mem _ (List.mem_append_right _ h)) hown hK hP 0 rfl rfl 0 (by decide) (hts (.fieldLink RX6 7 "SharedLineModel" "now" "[I") (List.mem_of_getElem? (i := 1) rfl)) (fun _ h9 => h9) rfl dX6_flips_95 ?_
                refine lv_bipush (v := 16) hx hb dX6_flips_98 (by decide) ?_
                refine lv_dup2_11 hx hb dX6_flips_100 rfl rfl ?_
                refine vq_ialdK (k := 16) hx hb hK hP 1 0 rfl rfl (by decide) (by decide) (by decide) dX6_flips_101 ?_
                refine lv_iload_n hx hb dX6_flips_102 rfl (lv_at hl 3 rfl) ?_
                refine lv_ixor hx hb dX6_flips_103 ?_
                refine vq_iastK (k := 16) hx hb hK hP hD hS 1 0 rfl rfl (by decide) (by decide) (by decide) dX6_flips_104 (fun H locs hP hD hS => ?_)
                have hP : va_P (dC, dI) vwCl (wM cI cZ h g ((sX6_keeps S).1, (updR (sX6_keeps S).2 0 (upd ((sX6_keeps S).2 0) 16 ((((sX6_keeps S).2 0) 16) ^^^ x3_31))))) H := hP
                have hD : va_D A (wM cI cZ h g ((sX6_keeps S).1, (updR (sX6_keeps S).2 0 (upd ((sX6_keeps S).2 0) 16 ((((sX6_keeps S).2 0) 16) ^^^ x3_31))))) := hD
                refine lv_iload hx hb dX6_flips_105 (lv_at hl 4 rfl) ?_
                subst hσ
                try dsimp only
                exact vq_iret hx hb hr hlocks hK hP hD hS rfl dX6_flips_107
              · rw [if_pos c84] at hσ
                refine lv_bipush (v := (-2)) hx hb dX6_flips_87 (by decide) ?_
                subst hσ
                try dsimp only
                exact vq_iret hx hb hr hlocks hK hP hD hS rfl dX6_flips_89
            · rw [if_neg c34] at hσ
              refine lv_iload_n hx hb dX6_flips_37 rfl (lv_at hl 3 rfl) ?_
              refine lv_aload_n hx hb dX6_flips_38 rfl (lv_at hl 0 rfl) ?_
              refine lv_iload hx hb dX6_flips_39 (lv_at hl 5 rfl) ?_
              refine vq_Vi (As := [.int x5_31]) (rest := [.int x3_31]) (W2 := (wM cI cZ h g S)) (f := (bI (sX6_isNote S x5_31))) hx hb hml hown hts hK hP hD hS hA hE hl.1 (cX6_isNote_c l ev dC dI cI cZ cO h g S x5_31 hT) gX6_flips_X6_isNote rfl hdX6_isNote (Nat.le_of_ble_eq_true rfl) (Nat.le_of_ble_eq_true rfl) rfl rfl (ci := 6) (qr := 0) rfl rfl rfl [0, 1, 2, 3, 4, 5, 6, 7, 8, 9] [] [0, 1, 2, 3, 4, 5, 6, 7, 8, 9] rfl rfl (by decide) (by decide) (by decide) rfl rfl rfl (Nat.le_of_ble_eq_true rfl) dX6_flips_41 ⟨Nat.zero_le _, Nat.zero_le _⟩ (fun H locs hP hD hS => ?_)
              refine lv_if_eqB (tgt := 54) hx hb dX6_flips_44 (by decide) (fun c44 => ?_) (fun c44 => ?_)
              · rw [if_neg (Bool.eq_false_iff.mp c44)] at hσ
                refine lv_iconst (v := 0) hx hb dX6_flips_54 (by decide) ?_
                refine lv_ior hx hb dX6_flips_55 ?_
                refine lv_istore_n (lv' := [(3, .int (x3_31 ||| 0)), (0, .ref h), (1, .int p1), (2, .int p2), (4, .int x4_31), (5, .int x5_31)]) hx hb dX6_flips_56 rfl hl (by decide) rfl (fun ls hl => ?_)
                refine lv_iload hx hb dX6_flips_57 (lv_at hl 4 rfl) ?_
                refine lv_aload_n hx hb dX6_flips_59 rfl (lv_at hl 1 rfl) ?_
                refine lv_iload hx hb dX6_flips_60 (lv_at hl 5 rfl) ?_
                refine vq_Vi (As := [.int x5_31]) (rest := [.int x4_31]) (W2 := (wM cI cZ h g S)) (f := (bI (sX6_isNote S x5_31))) hx hb hml hown hts hK hP hD hS hA hE hl.1 (cX6_isNote_c l ev dC dI cI cZ cO h g S x5_31 hT) gX6_flips_X6_isNote rfl hdX6_isNote (Nat.le_of_ble_eq_true rfl) (Nat.le_of_ble_eq_true rfl) rfl rfl (ci := 6) (qr := 0) rfl rfl rfl [0, 1, 2, 3, 4, 5, 6, 7, 8, 9] [] [0, 1, 2, 3, 4, 5, 6, 7, 8, 9] rfl rfl (by decide) (by decide) (by decide) rfl rfl rfl (Nat.le_of_ble_eq_true rfl) dX6_flips_62 ⟨Nat.zero_le _, Nat.zero_le _⟩ (fun H locs hP hD hS => ?_)
                refine lv_if_eqB (tgt := 72) hx hb dX6_flips_65 (by decide) (fun c65 => ?_) (fun c65 => absurd c65 (Bool.eq_false_iff.mp c44))
                refine lv_iconst (v := 0) hx hb dX6_flips_72 (by decide) ?_
                refine lv_iadd hx hb dX6_flips_73 ?_
                refine lv_istore (lv' := [(4, .int (x4_31 + 0)), (3, .int (x3_31 ||| 0)), (0, .ref h), (1, .int p1), (2, .int p2), (5, .int x5_31)]) hx hb dX6_flips_74 hl (by decide) rfl (fun ls hl => ?_)
                refine lv_iinc (v := (x5_31 + 1)) (lv' := [(5, .int (x5_31 + 1)), (4, .int (x4_31 + 0)), (3, .int (x3_31 ||| 0)), (0, .ref h), (1, .int p1), (2, .int p2)]) hx hb dX6_flips_76 hl (k := 5) rfl rfl (by decide) rfl (fun ls hl => ?_)
                refine lv_goto (tgt := 31) hx hb dX6_flips_79 (by decide) ?_
                exact ih31 (x3_31 ||| 0) (x4_31 + 0) (x5_31 + 1) (k31 + 1) (up_s e31) (by have := fl_le e31 eb (by omega) (by omega) c34; omega) (by omega) hσ _ _ _ hP hD hS (lv_sub hl [3, 4, 5, 2, 1, 0] rfl)
              · rw [if_pos c44] at hσ
                refine lv_iconst (v := 1) hx hb dX6_flips_47 (by decide) ?_
                refine lv_iload hx hb dX6_flips_48 (lv_at hl 5 rfl) ?_
                refine lv_ishl hx hb dX6_flips_50 ?_
                refine lv_goto (tgt := 55) hx hb dX6_flips_51 (by decide) ?_
                refine lv_ior hx hb dX6_flips_55 ?_
                refine lv_istore_n (lv' := [(3, .int (x3_31 ||| ((1 : Int32) <<< (x5_31 &&& 31)))), (0, .ref h), (1, .int p1), (2, .int p2), (4, .int x4_31), (5, .int x5_31)]) hx hb dX6_flips_56 rfl hl (by decide) rfl (fun ls hl => ?_)
                refine lv_iload hx hb dX6_flips_57 (lv_at hl 4 rfl) ?_
                refine lv_aload_n hx hb dX6_flips_59 rfl (lv_at hl 1 rfl) ?_
                refine lv_iload hx hb dX6_flips_60 (lv_at hl 5 rfl) ?_
                refine vq_Vi (As := [.int x5_31]) (rest := [.int x4_31]) (W2 := (wM cI cZ h g S)) (f := (bI (sX6_isNote S x5_31))) hx hb hml hown hts hK hP hD hS hA hE hl.1 (cX6_isNote_c l ev dC dI cI cZ cO h g S x5_31 hT) gX6_flips_X6_isNote rfl hdX6_isNote (Nat.le_of_ble_eq_true rfl) (Nat.le_of_ble_eq_true rfl) rfl rfl (ci := 6) (qr := 0) rfl rfl rfl [0, 1, 2, 3, 4, 5, 6, 7, 8, 9] [] [0, 1, 2, 3, 4, 5, 6, 7, 8, 9] rfl rfl (by decide) (by decide) (by decide) rfl rfl rfl (Nat.le_of_ble_eq_true rfl) dX6_flips_62 ⟨Nat.zero_le _, Nat.zero_le _⟩ (fun H locs hP hD hS => ?_)
                refine lv_if_eqB (tgt := 72) hx hb dX6_flips_65 (by decide) (fun c65 => absurd c44 (Bool.eq_false_iff.mp c65)) (fun c65 => ?_)
                refine lv_iconst (v := 1) hx hb dX6_flips_68 (by decide) ?_
                refine lv_goto (tgt := 73) hx hb dX6_flips_69 (by decide) ?_
                refine lv_iadd hx hb dX6_flips_73 ?_
                refine lv_istore (lv' := [(4, .int (x4_31 + 1)), (3, .int (x3_31 ||| ((1 : Int32) <<< (x5_31 &&& 31)))), (0, .ref h), (1, .int p1), (2, .int p2), (5, .int x5_31)]) hx hb dX6_flips_74 hl (by decide) rfl (fun ls hl => ?_)
                refine lv_iinc (v := (x5_31 + 1)) (lv' := [(5, .int (x5_31 + 1)), (4, .int (x4_31 + 1)), (3, .int (x3_31 ||| ((1 : Int32) <<< (x5_31 &&& 31)))), (0, .ref h), (1, .int p1), (2, .int p2)]) hx hb dX6_flips_76 hl (k := 5) rfl rfl (by decide) rfl (fun ls hl => ?_)
                refine lv_goto (tgt := 31) hx hb dX6_flips_79 (by decide) ?_
                exact ih31 (x3_31 ||| ((1 : Int32) <<< (x5_31 &&& 31))) (x4_31 + 1) (x5_31 + 1) (k31 + 1) (up_s e31) (by have := fl_le e31 eb (by omega) (by omega) c34; omega) (by omega) hσ _ _ _ hP hD hS (lv_sub hl [3, 4, 5, 2, 1, 0] rfl)
        exact key31 14 (0 : Int32) (0 : Int32) p1 a ea (by omega) (by omega) hσ _ _ _ hP hD hS (lv_sub hl [3, 4, 5, 2, 1, 0] rfl)
      · rw [if_neg c18] at hσ
        refine lv_iconst (v := (-1)) hx hb dX6_flips_21 (by decide) ?_
        subst hσ
        try dsimp only
        exact vq_iret hx hb hr hlocks hK hP hD hS rfl dX6_flips_22
theorem hdX6_mends : yX6_mends.cls = RX6 ∧ yX6_mends.cls ≠ "java/lang/invoke/MethodHandle" ∧ yX6_mends.cls ≠ "java/lang/invoke/VarHandle" ∧ (parseMethodDescriptor yX6_mends.desc).map (fun d => d.parameters.length) = some 0 := by decide +kernel
set_option maxHeartbeats 4000000 in
set_option maxRecDepth 100000 in
theorem cX6_mends_c (l : Launch) (ev : Nat → Nat) (dC : Nat → ClassId) (dI : Nat → Nat → Nat) (cI cZ cO : ClassId) (h : Nat) (g : Nat → Nat) (S : MSt) (hT : LOK S) (hU : ∃ u : Nat, S.1 0 = nI u ∧ u ≤ 6) : MetI l ev (dC, dI) (tyC cI cZ cO) yX6_mends wsX6_mends (rmF 8 180) [.ref h] (wM cI cZ h g S) (sX6_mends S).1 (wM cI cZ h g (sX6_mends S).2) := by
  refine MetI_of (cc := cX6_mends) (maxL := 3) (ret := (some .int)) (by decide) rfl (Nat.le_of_ble_eq_true rfl) ?_
  intro p e s m below meth c A ls hx hb hr hml hts hown hlocks hin hK hP hD hA hE hl
  have hown : s.vm.findClass RX6 = some m.cls := hown
  have hl : lv_has ls 3 [(0, .ref h)] := hl
  have hS : va_S A s.heap s.heap [] := va_S.rf
  obtain ⟨σ, hσ⟩ : ∃ σ, (sX6_mends S) = σ := ⟨_, rfl⟩
  rw [hσ]
  rw [sX6_mends] at hσ
  refine lv_aload_n hx hb dX6_mends_0 rfl (lv_at hl 0 rfl) ?_
  refine lv_aload_n hx hb dX6_mends_1 rfl (lv_at hl 0 rfl) ?_
  refine va_get (D := (dC, dI)) (ci := 6) (v := .ref (g 0)) (C := RX6) (T := TX6) (N := 15) hx hb hts (fun _ h => List.mem_cons_of_mem _ (List.mem_append_right _ h)) hown hK hP 0 rfl rfl 0 (by decide) (hts (.fieldLink RX6 7 "SharedLineModel" "now" "[I") (List.mem_of_getElem? (i := 1) rfl)) (fun _ h9 => h9) rfl dX6_mends_2 ?_
  refine lv_bipush (v := 16) hx hb dX6_mends_5 (by decide) ?_
  refine vq_ialdK (k := 16) hx hb hK hP 1 0 rfl rfl (by decide) (by decide) (by decide) dX6_mends_7 ?_
  refine vq_Vi (As := [.int ((S.2 0) 16)]) (rest := []) (W2 := (wM cI cZ h g S)) (f := (bI (sX6_isLawfulNow S ((S.2 0) 16)))) hx hb hml hown hts hK hP hD hS hA hE hl.1 (cX6_isLawfulNow_c l ev dC dI cI cZ cO h g S ((S.2 0) 16) hT) gX6_mends_X6_isLawfulNow rfl hdX6_isLawfulNow (Nat.le_of_ble_eq_true rfl) (Nat.le_of_ble_eq_true rfl) rfl rfl (ci := 6) (qr := 0) rfl rfl rfl [0, 1, 2, 3, 4, 5, 6, 7, 8, 9] [] [0, 1, 2, 3, 4, 5, 6, 7, 8, 9] rfl rfl (by decide) (by decide) (by decide) rfl rfl rfl (Nat.le_of_ble_eq_true rfl) dX6_mends_8 ⟨Nat.zero_le _, Nat.zero_le _⟩ (fun H locs hP hD hS => ?_)
  refine lv_if_eqB (tgt := 19) hx hb dX6_mends_11 (by decide) (fun c11 => ?_) (fun c11 => ?_)
  · rw [if_neg (Bool.eq_false_iff.mp c11)] at hσ
    refine lv_aload_n hx hb dX6_mends_19 rfl (lv_at hl 0 rfl) ?_
    refine vq_Vi (As := []) (rest := []) (W2 := (wM cI cZ h g S)) (f := (sX6_nearest S)) hx hb hml hown hts hK hP hD hS hA hE hl.1 (cX6_nearest_c l ev dC dI cI cZ cO h g S hT) gX6_mends_X6_nearest rfl hdX6_nearest (Nat.le_of_ble_eq_true rfl) (Nat.le_of_ble_eq_true rfl) rfl rfl (ci := 6) (qr := 0) rfl rfl rfl [0, 1, 2, 3, 4, 5, 6, 7, 8, 9] [] [0, 1, 2, 3, 4, 5, 6, 7, 8, 9] rfl rfl (by decide) (by decide) (by decide) rfl rfl rfl (Nat.le_of_ble_eq_true rfl) dX6_mends_20 ⟨Nat.zero_le _, Nat.zero_le _⟩ (fun H locs hP hD hS => ?_)
    refine lv_istore_n (lv' := [(1, .int (sX6_nearest S)), (0, .ref h)]) hx hb dX6_mends_23 rfl hl (by decide) rfl (fun ls hl => ?_)
    refine lv_iload_n hx hb dX6_mends_24 rfl (lv_at hl 0 rfl) ?_
    refine lv_bipush (v := (-9)) hx hb dX6_mends_25 (by decide) ?_
    refine lv_icmp_ne (tgt := 33) hx hb dX6_mends_27 (by decide) (fun c27 => ?_) (fun c27 => ?_)
    · rw [if_neg c27] at hσ
      refine lv_aload_n hx hb dX6_mends_33 rfl (lv_at hl 1 rfl) ?_
      refine vq_Vv (As := []) (rest := []) (W2 := (wM cI cZ h g (sX6_keeps S))) hx hb hml hown hts hK hP hD hS hA hE hl.1 (cX6_keeps_c l ev dC dI cI cZ cO h g S hU) gX6_mends_X6_keeps rfl hdX6_keeps (Nat.le_of_ble_eq_true rfl) (Nat.le_of_ble_eq_true rfl) rfl rfl (ci := 6) (qr := 0) rfl rfl rfl [0, 1, 2, 3, 4, 5, 6, 7, 8, 9] [] [0, 1, 2, 3, 4, 5, 6, 7, 8, 9] rfl rfl (by decide) (by decide) (by decide) rfl rfl rfl (Nat.le_of_ble_eq_true rfl) dX6_mends_34 ⟨Nat.zero_le _, Nat.zero_le _⟩ (fun H locs hP hD hS => ?_)
      refine lv_iload_n hx hb dX6_mends_37 rfl (lv_at hl 0 rfl) ?_
      refine lv_aload_n hx hb dX6_mends_38 rfl (lv_at hl 1 rfl) ?_
      refine va_get (D := (dC, dI)) (ci := 6) (v := .ref (g 0)) (C := RX6) (T := TX6) (N := 15) hx hb hts (fun _ h => List.mem_cons_of_mem _ (List.mem_append_right _ h)) hown hK hP 0 rfl rfl 0 (by decide) (hts (.fieldLink RX6 7 "SharedLineModel" "now" "[I") (List.mem_of_getElem? (i := 1) rfl)) (fun _ h9 => h9) rfl dX6_mends_39 ?_
      refine lv_bipush (v := 16) hx hb dX6_mends_42 (by decide) ?_
      refine vq_ialdK (k := 16) hx hb hK hP 1 0 rfl rfl (by decide) (by decide) (by decide) dX6_mends_44 ?_
      refine lv_ixor hx hb dX6_mends_45 ?_
      refine vq_Si (As := [.int ((sX6_nearest S) ^^^ (((sX6_keeps S).2 0) 16))]) (rest := []) (W2 := (wM cI cZ h g (sX6_keeps S))) (f := (sX6_ones ((sX6_nearest S) ^^^ (((sX6_keeps S).2 0) 16)))) hx hb hml hown hts hK hP hD hS hA hE hl.1 (cX6_ones_c l ev dC dI cI cZ cO ((sX6_nearest S) ^^^ (((sX6_keeps S).2 0) 16))) gX6_mends_X6_ones rfl hdX6_ones (Nat.le_of_ble_eq_true rfl) (Nat.le_of_ble_eq_true rfl) rfl rfl [] [0, 1, 2, 3, 4, 5, 6, 7, 8, 9] [0, 1, 2, 3, 4, 5, 6, 7, 8, 9] rfl rfl (by decide) (by decide) (by decide) rfl rfl rfl (Nat.le_of_ble_eq_true rfl) dX6_mends_46 ⟨Nat.zero_le _, Nat.zero_le _⟩ (fun H locs hP hD hS => ?_)
      refine lv_istore_n (lv' := [(2, .int (sX6_ones ((sX6_nearest S) ^^^ (((sX6_keeps S).2 0) 16)))), (1, .int (sX6_nearest S)), (0, .ref h)]) hx hb dX6_mends_49 rfl hl (by decide) rfl (fun ls hl => ?_)
      refine lv_aload_n hx hb dX6_mends_50 rfl (lv_at hl 2 rfl) ?_
      refine va_get (D := (dC, dI)) (ci := 6) (v := .ref (g 0)) (C := RX6) (T := TX6) (N := 15) hx hb hts (fun _ h => List.mem_cons_of_mem _ (List.mem_append_right _ h)) hown hK hP 0 rfl rfl 0 (by decide) (hts (.fieldLink RX6 7 "SharedLineModel" "now" "[I") (List.mem_of_getElem? (i := 1) rfl)) (fun _ h9 => h9) rfl dX6_mends_51 ?_
      refine lv_bipush (v := 16) hx hb dX6_mends_54 (by decide) ?_
      refine lv_iload_n hx hb dX6_mends_56 rfl (lv_at hl 1 rfl) ?_
      refine vq_iastK (k := 16) hx hb hK hP hD hS 1 0 rfl rfl (by decide) (by decide) (by decide) dX6_mends_57 (fun H locs hP hD hS => ?_)
      have hP : va_P (dC, dI) vwCl (wM cI cZ h g ((sX6_keeps S).1, (updR (sX6_keeps S).2 0 (upd ((sX6_keeps S).2 0) 16 (sX6_nearest S))))) H := hP
      have hD : va_D A (wM cI cZ h g ((sX6_keeps S).1, (updR (sX6_keeps S).2 0 (upd ((sX6_keeps S).2 0) 16 (sX6_nearest S))))) := hD
      refine lv_iload_n hx hb dX6_mends_58 rfl (lv_at hl 0 rfl) ?_
      subst hσ
      try dsimp only
      exact vq_iret hx hb hr hlocks hK hP hD hS rfl dX6_mends_59
    · rw [if_pos c27] at hσ
      refine lv_bipush (v := (-2)) hx hb dX6_mends_30 (by decide) ?_
      subst hσ
      try dsimp only
      exact vq_iret hx hb hr hlocks hK hP hD hS rfl dX6_mends_32
  · rw [if_pos c11] at hσ
    refine lv_bipush (v := (-9)) hx hb dX6_mends_14 (by decide) ?_
    refine lv_goto (tgt := 23) hx hb dX6_mends_16 (by decide) ?_
    refine lv_istore_n (lv' := [(1, .int (-9)), (0, .ref h)]) hx hb dX6_mends_23 rfl hl (by decide) rfl (fun ls hl => ?_)
    refine lv_iload_n hx hb dX6_mends_24 rfl (lv_at hl 0 rfl) ?_
    refine lv_bipush (v := (-9)) hx hb dX6_mends_25 (by decide) ?_
    refine lv_icmp_ne (tgt := 33) hx hb dX6_mends_27 (by decide) (fun c27 => absurd c27 (by decide)) (fun c27 => ?_)
    refine lv_bipush (v := (-2)) hx hb dX6_mends_30 (by decide) ?_
    subst hσ
    try dsimp only
    exact vq_iret hx hb hr hlocks hK hP hD hS rfl dX6_mends_32
theorem hdX6_sets : yX6_sets.cls = RX6 ∧ yX6_sets.cls ≠ "java/lang/invoke/MethodHandle" ∧ yX6_sets.cls ≠ "java/lang/invoke/VarHandle" ∧ (parseMethodDescriptor yX6_sets.desc).map (fun d => d.parameters.length) = some 2 := by decide +kernel
set_option maxHeartbeats 4000000 in
set_option maxRecDepth 100000 in
theorem cX6_sets_c (l : Launch) (ev : Nat → Nat) (dC : Nat → ClassId) (dI : Nat → Nat → Nat) (cI cZ cO : ClassId) (h : Nat) (g : Nat → Nat) (S : MSt) (p1 : Int32) (p2 : Int32) (hU : ∃ u : Nat, S.1 0 = nI u ∧ u ≤ 6) : MetI l ev (dC, dI) (tyC cI cZ cO) yX6_sets wsX6_sets (rmF 1 22) [.ref h, .int p1, .int p2] (wM cI cZ h g S) (sX6_sets S p1 p2).1 (wM cI cZ h g (sX6_sets S p1 p2).2) := by
  refine MetI_of (cc := cX6_sets) (maxL := 4) (ret := (some .int)) (by decide) rfl (Nat.le_of_ble_eq_true rfl) ?_
  intro p e s m below meth c A ls hx hb hr hml hts hown hlocks hin hK hP hD hA hE hl
  have hown : s.vm.findClass RX6 = some m.cls := hown
  have hl : lv_has ls 4 [(0, .ref h), (1, .int p1), (2, .int p2)] := hl
  have hS : va_S A s.heap s.heap [] := va_S.rf
  obtain ⟨σ, hσ⟩ : ∃ σ, (sX6_sets S p1 p2) = σ := ⟨_, rfl⟩
  rw [hσ]
  rw [sX6_sets] at hσ
  refine lv_iload_n hx hb dX6_sets_0 rfl (lv_at hl 1 rfl) ?_
  refine lv_iconst (v := 0) hx hb dX6_sets_1 (by decide) ?_
  refine lv_iconst (v := 2) hx hb dX6_sets_2 (by decide) ?_
  refine vq_Si (As := [.int p1, .int 0, .int 2]) (rest := []) (W2 := (wM cI cZ h g S)) (f := (bI (sX6_within p1 (0 : Int32) (2 : Int32)))) hx hb hml hown hts hK hP hD hS hA hE hl.1 (cX6_within_c l ev dC dI cI cZ cO p1 (0 : Int32) (2 : Int32)) gX6_sets_X6_within rfl hdX6_within (Nat.le_of_ble_eq_true rfl) (Nat.le_of_ble_eq_true rfl) rfl rfl [] [0, 1, 2, 3, 4, 5, 6, 7, 8, 9] [0, 1, 2, 3, 4, 5, 6, 7, 8, 9] rfl rfl (by decide) (by decide) (by decide) rfl rfl rfl (Nat.le_of_ble_eq_true rfl) dX6_sets_3 ⟨Nat.zero_le _, Nat.zero_le _⟩ (fun H locs hP hD hS => ?_)
  refine lv_if_eqB (tgt := 28) hx hb dX6_sets_6 (by decide) (fun c6 => ?_) (fun c6 => ?_)
  · rw [if_neg (Bool.eq_false_iff.mp c6)] at hσ
    refine lv_iconst (v := (-1)) hx hb dX6_sets_28 (by decide) ?_
    subst hσ
    try dsimp only
    exact vq_iret hx hb hr hlocks hK hP hD hS rfl dX6_sets_29
  · rw [if_pos c6] at hσ
    refine lv_iload_n hx hb dX6_sets_9 rfl (lv_at hl 2 rfl) ?_
    refine lv_iload_n hx hb dX6_sets_10 rfl (lv_at hl 1 rfl) ?_
    refine lv_iconst (v := 1) hx hb dX6_sets_11 (by decide) ?_
    refine lv_iadd hx hb dX6_sets_12 ?_
    refine vq_Si (As := [.int (p1 + 1)]) (rest := [.int p2]) (W2 := (wM cI cZ h g S)) (f := (sX6_least (p1 + 1))) hx hb hml hown hts hK hP hD hS hA hE hl.1 (cX6_least_c l ev dC dI cI cZ cO (p1 + 1)) gX6_sets_X6_least rfl hdX6_least (Nat.le_of_ble_eq_true rfl) (Nat.le_of_ble_eq_true rfl) rfl rfl [] [0, 1, 2, 3, 4, 5, 6, 7, 8, 9] [0, 1, 2, 3, 4, 5, 6, 7, 8, 9] rfl rfl (by decide) (by decide) (by decide) rfl rfl rfl (Nat.le_of_ble_eq_true rfl) dX6_sets_13 ⟨Nat.zero_le _, Nat.zero_le _⟩ (fun H locs hP hD hS => ?_)
    refine lv_iload_n hx hb dX6_sets_16 rfl (lv_at hl 1 rfl) ?_
    refine lv_iconst (v := 1) hx hb dX6_sets_17 (by decide) ?_
    refine lv_iadd hx hb dX6_sets_18 ?_
    refine vq_Si (As := [.int (p1 + 1)]) (rest := [.int (sX6_least (p1 + 1)), .int p2]) (W2 := (wM cI cZ h g S)) (f := (sX6_greatest (p1 + 1))) hx hb hml hown hts hK hP hD hS hA hE hl.1 (cX6_greatest_c l ev dC dI cI cZ cO (p1 + 1)) gX6_sets_X6_greatest rfl hdX6_greatest (Nat.le_of_ble_eq_true rfl) (Nat.le_of_ble_eq_true rfl) rfl rfl [] [0, 1, 2, 3, 4, 5, 6, 7, 8, 9] [0, 1, 2, 3, 4, 5, 6, 7, 8, 9] rfl rfl (by decide) (by decide) (by decide) rfl rfl rfl (Nat.le_of_ble_eq_true rfl) dX6_sets_19 ⟨Nat.zero_le _, Nat.zero_le _⟩ (fun H locs hP hD hS => ?_)
    refine vq_Si (As := [.int p2, .int (sX6_least (p1 + 1)), .int (sX6_greatest (p1 + 1))]) (rest := []) (W2 := (wM cI cZ h g S)) (f := (bI (sX6_within p2 (sX6_least (p1 + 1)) (sX6_greatest (p1 + 1))))) hx hb hml hown hts hK hP hD hS hA hE hl.1 (cX6_within_c l ev dC dI cI cZ cO p2 (sX6_least (p1 + 1)) (sX6_greatest (p1 + 1))) gX6_sets_X6_within rfl hdX6_within (Nat.le_of_ble_eq_true rfl) (Nat.le_of_ble_eq_true rfl) rfl rfl [] [0, 1, 2, 3, 4, 5, 6, 7, 8, 9] [0, 1, 2, 3, 4, 5, 6, 7, 8, 9] rfl rfl (by decide) (by decide) (by decide) rfl rfl rfl (Nat.le_of_ble_eq_true rfl) dX6_sets_22 ⟨Nat.zero_le _, Nat.zero_le _⟩ (fun H locs hP hD hS => ?_)
    refine lv_if_neB (tgt := 30) hx hb dX6_sets_25 (by decide) (fun c25 => ?_) (fun c25 => ?_)
    · rw [if_pos c25] at hσ
      refine lv_aload_n hx hb dX6_sets_30 rfl (lv_at hl 0 rfl) ?_
      refine va_get (D := (dC, dI)) (ci := 6) (v := .ref (g 0)) (C := RX6) (T := TX6) (N := 15) hx hb hts (fun _ h => List.mem_cons_of_mem _ (List.mem_append_right _ h)) hown hK hP 0 rfl rfl 0 (by decide) (hts (.fieldLink RX6 7 "SharedLineModel" "now" "[I") (List.mem_of_getElem? (i := 1) rfl)) (fun _ h9 => h9) rfl dX6_sets_31 ?_
      refine lv_iload_n hx hb dX6_sets_34 rfl (lv_at hl 1 rfl) ?_
      refine lv_iconst (v := 1) hx hb dX6_sets_35 (by decide) ?_
      refine lv_iadd hx hb dX6_sets_36 ?_
      refine va_iald hx hb hK hP 1 0 rfl rfl (i := (p1 + 1)) (st_ix c6) dX6_sets_37 ?_
      refine lv_istore_n (lv' := [(3, .int ((S.2 0) ((p1 + 1)).toNatClampNeg)), (0, .ref h), (1, .int p1), (2, .int p2)]) hx hb dX6_sets_38 rfl hl (by decide) rfl (fun ls hl => ?_)
      refine lv_iload_n hx hb dX6_sets_39 rfl (lv_at hl 0 rfl) ?_
      refine lv_iload_n hx hb dX6_sets_40 rfl (lv_at hl 3 rfl) ?_
      refine lv_icmp_ne (tgt := 47) hx hb dX6_sets_41 (by decide) (fun c41 => ?_) (fun c41 => ?_)
      · rw [if_neg c41] at hσ
        refine lv_aload_n hx hb dX6_sets_47 rfl (lv_at hl 1 rfl) ?_
        refine vq_Vv (As := []) (rest := []) (W2 := (wM cI cZ h g (sX6_keeps S))) hx hb hml hown hts hK hP hD hS hA hE hl.1 (cX6_keeps_c l ev dC dI cI cZ cO h g S hU) gX6_sets_X6_keeps rfl hdX6_keeps (Nat.le_of_ble_eq_true rfl) (Nat.le_of_ble_eq_true rfl) rfl rfl (ci := 6) (qr := 0) rfl rfl rfl [0, 1, 2, 3, 4, 5, 6, 7, 8, 9] [] [0, 1, 2, 3, 4, 5, 6, 7, 8, 9] rfl rfl (by decide) (by decide) (by decide) rfl rfl rfl (Nat.le_of_ble_eq_true rfl) dX6_sets_48 ⟨Nat.zero_le _, Nat.zero_le _⟩ (fun H locs hP hD hS => ?_)
        refine lv_aload_n hx hb dX6_sets_51 rfl (lv_at hl 1 rfl) ?_
        refine va_get (D := (dC, dI)) (ci := 6) (v := .ref (g 0)) (C := RX6) (T := TX6) (N := 15) hx hb hts (fun _ h => List.mem_cons_of_mem _ (List.mem_append_right _ h)) hown hK hP 0 rfl rfl 0 (by decide) (hts (.fieldLink RX6 7 "SharedLineModel" "now" "[I") (List.mem_of_getElem? (i := 1) rfl)) (fun _ h9 => h9) rfl dX6_sets_52 ?_
        refine lv_iload_n hx hb dX6_sets_55 rfl (lv_at hl 2 rfl) ?_
        refine lv_iconst (v := 1) hx hb dX6_sets_56 (by decide) ?_
        refine lv_iadd hx hb dX6_sets_57 ?_
        refine lv_iload_n hx hb dX6_sets_58 rfl (lv_at hl 3 rfl) ?_
        refine va_iast hx hb hK hP hD hS 1 0 rfl rfl (i := (p1 + 1)) (st_ix c6) dX6_sets_59 (fun H locs hP hD hS => ?_)
        have hP : va_P (dC, dI) vwCl (wM cI cZ h g ((sX6_keeps S).1, (updR (sX6_keeps S).2 0 (upd ((sX6_keeps S).2 0) ((p1 + 1)).toNatClampNeg p2)))) H := hP
        have hD : va_D A (wM cI cZ h g ((sX6_keeps S).1, (updR (sX6_keeps S).2 0 (upd ((sX6_keeps S).2 0) ((p1 + 1)).toNatClampNeg p2)))) := hD
        refine lv_iload_n hx hb dX6_sets_60 rfl (lv_at hl 0 rfl) ?_
        subst hσ
        try dsimp only
        exact vq_iret hx hb hr hlocks hK hP hD hS rfl dX6_sets_61
      · rw [if_pos c41] at hσ
        refine lv_bipush (v := (-2)) hx hb dX6_sets_44 (by decide) ?_
        subst hσ
        try dsimp only
        exact vq_iret hx hb hr hlocks hK hP hD hS rfl dX6_sets_46
    · rw [if_neg (Bool.eq_false_iff.mp c25)] at hσ
      refine lv_iconst (v := (-1)) hx hb dX6_sets_28 (by decide) ?_
      subst hσ
      try dsimp only
      exact vq_iret hx hb hr hlocks hK hP hD hS rfl dX6_sets_29
theorem hdX6_undo : yX6_undo.cls = RX6 ∧ yX6_undo.cls ≠ "java/lang/invoke/MethodHandle" ∧ yX6_undo.cls ≠ "java/lang/invoke/VarHandle" ∧ (parseMethodDescriptor yX6_undo.desc).map (fun d => d.parameters.length) = some 0 := by decide +kernel
set_option maxHeartbeats 4000000 in
set_option maxRecDepth 100000 in
theorem cX6_undo_c (l : Launch) (ev : Nat → Nat) (dC : Nat → ClassId) (dI : Nat → Nat → Nat) (cI cZ cO : ClassId) (h : Nat) (g : Nat → Nat) (S : MSt) (hU : ∃ u : Nat, S.1 0 = nI u ∧ u ≤ 6) : MetI l ev (dC, dI) (tyC cI cZ cO) yX6_undo wsX6_undo (rmF 0 0) [.ref h] (wM cI cZ h g S) (sX6_undo S).1 (wM cI cZ h g (sX6_undo S).2) := by
  refine MetI_of (cc := cX6_undo) (maxL := 2) (ret := (some .int)) (by decide) rfl (Nat.le_of_ble_eq_true rfl) ?_
  intro p e s m below meth c A ls hx hb hr hml hts hown hlocks hin hK hP hD hA hE hl
  have hown : s.vm.findClass RX6 = some m.cls := hown
  have hl : lv_has ls 2 [(0, .ref h)] := hl
  have hS : va_S A s.heap s.heap [] := va_S.rf
  obtain ⟨σ, hσ⟩ : ∃ σ, (sX6_undo S) = σ := ⟨_, rfl⟩
  rw [hσ]
  rw [sX6_undo] at hσ
  refine lv_aload_n hx hb dX6_undo_0 rfl (lv_at hl 0 rfl) ?_
  refine va_get (D := (dC, dI)) (ci := 6) (v := .int (S.1 0)) (C := RX6) (T := TX6) (N := 15) hx hb hts (fun _ h => List.mem_cons_of_mem _ (List.mem_append_right _ h)) hown hK hP 0 rfl rfl 3 (by decide) (hts (.fieldLink RX6 98 "SharedLineModel" "undos" "I") (List.mem_of_getElem? (i := 1) rfl)) (fun _ h9 => h9) rfl dX6_undo_1 ?_
  refine lv_if_ne (tgt := 10) hx hb dX6_undo_4 (by decide) (fun c4 => ?_) (fun c4 => ?_)
  · rw [if_neg c4] at hσ
    refine lv_aload_n hx hb dX6_undo_10 rfl (lv_at hl 0 rfl) ?_
    refine lv_dup hx hb dX6_undo_11 rfl ?_
    refine va_get (D := (dC, dI)) (ci := 6) (v := .int (S.1 0)) (C := RX6) (T := TX6) (N := 15) hx hb hts (fun _ h => List.mem_cons_of_mem _ (List.mem_append_right _ h)) hown hK hP 0 rfl rfl 3 (by decide) (hts (.fieldLink RX6 98 "SharedLineModel" "undos" "I") (List.mem_of_getElem? (i := 1) rfl)) (fun _ h9 => h9) rfl dX6_undo_12 ?_
    refine lv_iconst (v := 1) hx hb dX6_undo_15 (by decide) ?_
    refine lv_isub hx hb dX6_undo_16 ?_
    refine va_put (D := (dC, dI)) (ci := 6) (v := .int ((S.1 0) - 1)) (ty := .int) (C := RX6) (T := TX6) (N := 15) hx hb hts (fun _ h => List.mem_cons_of_mem _ (List.mem_append_right _ h)) tyX6 tyX6_ok nmX6 hown hK hP hD hS 0 rfl rfl 3 (by decide) (hts (.fieldLink RX6 98 "SharedLineModel" "undos" "I") (List.mem_of_getElem? (i := 1) rfl)) (fun _ h9 => h9) rfl (tyX6_ok 3 (by decide)) rfl rfl (Nat.le_of_ble_eq_true rfl) dX6_undo_17 (fun H locs hP hD hS => ?_)
    have hP : va_P (dC, dI) vwCl (wM cI cZ h g ((upd S.1 0 ((S.1 0) - 1)), S.2)) H := hP
    have hD : va_D A (wM cI cZ h g ((upd S.1 0 ((S.1 0) - 1)), S.2)) := hD
    refine lv_iconst (v := 0) hx hb dX6_undo_20 (by decide) ?_
    refine lv_istore_n (lv' := [(1, .int 0), (0, .ref h)]) hx hb dX6_undo_21 rfl hl (by decide) rfl (fun ls hl => ?_)
    have key22 : ∀ (n22 : Nat) (x1_22 : Int32) (Y_22 : MSt) (k22 : Nat), (x1_22 = nI k22) → (k22 ≤ 17) → (17 + 1 ≤ n22 + k22) → (∃ u : Nat, Y_22.1 0 = nI u ∧ u ≤ 5) → (sX6_undo_L22  n22 x1_22 Y_22) = σ → ∀ (H : Heap) (locs : List Loc) (ls : Array Slot), va_P (dC, dI) vwCl (wM cI cZ h g Y_22) H → va_D A (wM cI cZ h g Y_22) → va_S A s.heap H locs → lv_has ls 2 [(0, .ref h), (1, .int x1_22)] → W p l e (headSpec wsX6_undo (rmF 0 0)).room s m ([.ref h] : List Value).toArray below meth c H locs 0 0 (MQ below (va_Qi (fun (x : Int32) (_ : Unit) => x = σ.1) (fun _ t => PoW (dC, dI) (tyC cI cZ cO) A (wM cI cZ h g σ.2) t) A) ([.ref h] : List Value).toArray s 0 0 A) (F0 m 22 ls []) := by
      intro n22
      induction n22 with
      | zero =>
        intro x1_22 Y_22 k22 e22 hk22 hn22 u22
        exact absurd hn22 (by omega)
      | succ n22 ih22 =>
        intro x1_22 Y_22 k22 e22 hk22 hn22 u22 hσ H locs ls hP hD hS hl
        rw [sX6_undo_L22_s] at hσ
        refine lv_iload_n hx hb dX6_undo_22 rfl (lv_at hl 1 rfl) ?_
        refine lv_bipush (v := 17) hx hb dX6_undo_23 (by decide) ?_
        refine lv_icmp_ge (tgt := 54) hx hb dX6_undo_25 (by decide) (fun c25 => ?_) (fun c25 => ?_)
        · rw [if_pos c25] at hσ
          refine lv_aload_n hx hb dX6_undo_54 rfl (lv_at hl 0 rfl) ?_
          refine va_get (D := (dC, dI)) (ci := 6) (v := .int (Y_22.1 0)) (C := RX6) (T := TX6) (N := 15) hx hb hts (fun _ h => List.mem_cons_of_mem _ (List.mem_append_right _ h)) hown hK hP 0 rfl rfl 3 (by decide) (hts (.fieldLink RX6 98 "SharedLineModel" "undos" "I") (List.mem_of_getElem? (i := 1) rfl)) (fun _ h9 => h9) rfl dX6_undo_55 ?_
          subst hσ
          try dsimp only
          exact vq_iret hx hb hr hlocks hK hP hD hS rfl dX6_undo_58
        · rw [if_neg c25] at hσ
          refine lv_aload_n hx hb dX6_undo_28 rfl (lv_at hl 0 rfl) ?_
          refine va_get (D := (dC, dI)) (ci := 6) (v := .ref (g 0)) (C := RX6) (T := TX6) (N := 15) hx hb hts (fun _ h => List.mem_cons_of_mem _ (List.mem_append_right _ h)) hown hK hP 0 rfl rfl 0 (by decide) (hts (.fieldLink RX6 7 "SharedLineModel" "now" "[I") (List.mem_of_getElem? (i := 2) rfl)) (fun _ h9 => h9) rfl dX6_undo_29 ?_
          refine lv_iload_n hx hb dX6_undo_32 rfl (lv_at hl 1 rfl) ?_
          refine lv_aload_n hx hb dX6_undo_33 rfl (lv_at hl 0 rfl) ?_
          refine va_get (D := (dC, dI)) (ci := 6) (v := .ref (g 2)) (C := RX6) (T := TX6) (N := 15) hx hb hts (fun _ h => List.mem_cons_of_mem _ (List.mem_append_right _ h)) hown hK hP 0 rfl rfl 2 (by decide) (hts (.fieldLink RX6 16 "SharedLineModel" "past" "[I") (List.mem_of_getElem? (i := 3) rfl)) (fun _ h9 => h9) rfl dX6_undo_34 ?_
          refine lv_bipush (v := 17) hx hb dX6_undo_37 (by decide) ?_
          refine lv_aload_n hx hb dX6_undo_39 rfl (lv_at hl 0 rfl) ?_
          refine va_get (D := (dC, dI)) (ci := 6) (v := .int (Y_22.1 0)) (C := RX6) (T := TX6) (N := 15) hx hb hts (fun _ h => List.mem_cons_of_mem _ (List.mem_append_right _ h)) hown hK hP 0 rfl rfl 3 (by decide) (hts (.fieldLink RX6 98 "SharedLineModel" "undos" "I") (List.mem_of_getElem? (i := 1) rfl)) (fun _ h9 => h9) rfl dX6_undo_40 ?_
          refine lv_imul hx hb dX6_undo_43 ?_
          refine lv_iload_n hx hb dX6_undo_44 rfl (lv_at hl 1 rfl) ?_
          refine lv_iadd hx hb dX6_undo_45 ?_
          refine va_iald hx hb hK hP 3 0 rfl rfl (i := (((17 : Int32) * (Y_22.1 0)) + x1_22)) (pu_ix u22 e22 (up_lt e22 (show (17 : Int32) = nI 17 from rfl) (by omega) c25)) dX6_undo_46 ?_
          refine va_iast hx hb hK hP hD hS 1 0 rfl rfl (i := x1_22) (up_in e22 (up_lt e22 (show (17 : Int32) = nI 17 from rfl) (by omega) c25) (by decide)) dX6_undo_47 (fun H locs hP hD hS => ?_)
          have hP : va_P (dC, dI) vwCl (wM cI cZ h g (Y_22.1, (updR Y_22.2 0 (upd (Y_22.2 0) (x1_22).toNatClampNeg ((Y_22.2 2) ((((17 : Int32) * (Y_22.1 0)) + x1_22)).toNatClampNeg))))) H := hP
          have hD : va_D A (wM cI cZ h g (Y_22.1, (updR Y_22.2 0 (upd (Y_22.2 0) (x1_22).toNatClampNeg ((Y_22.2 2) ((((17 : Int32) * (Y_22.1 0)) + x1_22)).toNatClampNeg))))) := hD
          refine lv_iinc (v := (x1_22 + 1)) (lv' := [(1, .int (x1_22 + 1)), (0, .ref h)]) hx hb dX6_undo_48 hl (k := 1) rfl rfl (by decide) rfl (fun ls hl => ?_)
          refine lv_goto (tgt := 22) hx hb dX6_undo_51 (by decide) ?_
          exact ih22 (x1_22 + 1) (Y_22.1, (updR Y_22.2 0 (upd (Y_22.2 0) (x1_22).toNatClampNeg ((Y_22.2 2) ((((17 : Int32) * (Y_22.1 0)) + x1_22)).toNatClampNeg)))) (k22 + 1) (up_s e22) (by have := up_lt e22 (show (17 : Int32) = nI 17 from rfl) (by omega) c25; omega) (by omega) u22 hσ _ _ _ hP hD hS (lv_sub hl [1, 0] rfl)
    exact key22 18 (0 : Int32) ((upd S.1 0 ((S.1 0) - 1)), S.2) 0 nI_0.symm (Nat.zero_le _) (Nat.le_refl _) (ud_u hU c4) hσ _ _ _ hP hD hS (lv_sub hl [1, 0] rfl)
  · rw [if_pos c4] at hσ
    refine lv_bipush (v := (-2)) hx hb dX6_undo_7 (by decide) ?_
    subst hσ
    try dsimp only
    exact vq_iret hx hb hr hlocks hK hP hD hS rfl dX6_undo_9
theorem hdX6_sees : yX6_sees.cls = RX6 ∧ yX6_sees.cls ≠ "java/lang/invoke/MethodHandle" ∧ yX6_sees.cls ≠ "java/lang/invoke/VarHandle" ∧ (parseMethodDescriptor yX6_sees.desc).map (fun d => d.parameters.length) = some 2 := by decide +kernel
set_option maxHeartbeats 4000000 in
set_option maxRecDepth 100000 in
theorem cX6_sees_c (l : Launch) (ev : Nat → Nat) (dC : Nat → ClassId) (dI : Nat → Nat → Nat) (cI cZ cO : ClassId) (h : Nat) (g : Nat → Nat) (S : MSt) (p1 : Int32) (p2 : Int32) (hSe : ∃ q : Nat, S.1 1 = nI q ∧ q ≤ 6) : MetI l ev (dC, dI) (tyC cI cZ cO) yX6_sees wsX6_sees (rmF 1 22) [.ref h, .int p1, .int p2] (wM cI cZ h g S) (sX6_sees S p1 p2).1 (wM cI cZ h g (sX6_sees S p1 p2).2) := by
  refine MetI_of (cc := cX6_sees) (maxL := 3) (ret := (some .int)) (by decide) rfl (Nat.le_of_ble_eq_true rfl) ?_
  intro p e s m below meth c A ls hx hb hr hml hts hown hlocks hin hK hP hD hA hE hl
  have hown : s.vm.findClass RX6 = some m.cls := hown
  have hl : lv_has ls 3 [(0, .ref h), (1, .int p1), (2, .int p2)] := hl
  have hS : va_S A s.heap s.heap [] := va_S.rf
  obtain ⟨σ, hσ⟩ : ∃ σ, (sX6_sees S p1 p2) = σ := ⟨_, rfl⟩
  rw [hσ]
  rw [sX6_sees] at hσ
  refine lv_iload_n hx hb dX6_sees_0 rfl (lv_at hl 1 rfl) ?_
  refine lv_iconst (v := 0) hx hb dX6_sees_1 (by decide) ?_
  refine lv_bipush (v := 11) hx hb dX6_sees_2 (by decide) ?_
  refine vq_Si (As := [.int p1, .int 0, .int 11]) (rest := []) (W2 := (wM cI cZ h g S)) (f := (bI (sX6_within p1 (0 : Int32) (11 : Int32)))) hx hb hml hown hts hK hP hD hS hA hE hl.1 (cX6_within_c l ev dC dI cI cZ cO p1 (0 : Int32) (11 : Int32)) gX6_sees_X6_within rfl hdX6_within (Nat.le_of_ble_eq_true rfl) (Nat.le_of_ble_eq_true rfl) rfl rfl [] [0, 1, 2, 3, 4, 5, 6, 7, 8, 9] [0, 1, 2, 3, 4, 5, 6, 7, 8, 9] rfl rfl (by decide) (by decide) (by decide) rfl rfl rfl (Nat.le_of_ble_eq_true rfl) dX6_sees_4 ⟨Nat.zero_le _, Nat.zero_le _⟩ (fun H locs hP hD hS => ?_)
  refine lv_if_eqB (tgt := 17) hx hb dX6_sees_7 (by decide) (fun c7 => ?_) (fun c7 => ?_)
  · rw [if_neg (Bool.eq_false_iff.mp c7)] at hσ
    refine lv_iconst (v := (-1)) hx hb dX6_sees_17 (by decide) ?_
    subst hσ
    try dsimp only
    exact vq_iret hx hb hr hlocks hK hP hD hS rfl dX6_sees_18
  · rw [if_pos c7] at hσ
    refine lv_iload_n hx hb dX6_sees_10 rfl (lv_at hl 2 rfl) ?_
    refine vq_Si (As := [.int p2]) (rest := []) (W2 := (wM cI cZ h g S)) (f := (bI (sX6_isHand p2))) hx hb hml hown hts hK hP hD hS hA hE hl.1 (cX6_isHand_c l ev dC dI cI cZ cO p2) gX6_sees_X6_isHand rfl hdX6_isHand (Nat.le_of_ble_eq_true rfl) (Nat.le_of_ble_eq_true rfl) rfl rfl [] [0, 1, 2, 3, 4, 5, 6, 7, 8, 9] [0, 1, 2, 3, 4, 5, 6, 7, 8, 9] rfl rfl (by decide) (by decide) (by decide) rfl rfl rfl (Nat.le_of_ble_eq_true rfl) dX6_sees_11 ⟨Nat.zero_le _, Nat.zero_le _⟩ (fun H locs hP hD hS => ?_)
    refine lv_if_neB (tgt := 19) hx hb dX6_sees_14 (by decide) (fun c14 => ?_) (fun c14 => ?_)
    · rw [if_pos c14] at hσ
      refine lv_aload_n hx hb dX6_sees_19 rfl (lv_at hl 0 rfl) ?_
      refine va_get (D := (dC, dI)) (ci := 6) (v := .int (S.1 1)) (C := RX6) (T := TX6) (N := 15) hx hb hts (fun _ h => List.mem_cons_of_mem _ (List.mem_append_right _ h)) hown hK hP 0 rfl rfl 6 (by decide) (hts (.fieldLink RX6 180 "SharedLineModel" "seen" "I") (List.mem_of_getElem? (i := 1) rfl)) (fun _ h9 => h9) rfl dX6_sees_20 ?_
      refine lv_bipush (v := 6) hx hb dX6_sees_23 (by decide) ?_
      refine lv_icmp_ne (tgt := 31) hx hb dX6_sees_25 (by decide) (fun c25 => ?_) (fun c25 => ?_)
      · rw [if_neg c25] at hσ
        refine lv_aload_n hx hb dX6_sees_31 rfl (lv_at hl 0 rfl) ?_
        refine va_get (D := (dC, dI)) (ci := 6) (v := .ref (g 5)) (C := RX6) (T := TX6) (N := 15) hx hb hts (fun _ h => List.mem_cons_of_mem _ (List.mem_append_right _ h)) hown hK hP 0 rfl rfl 7 (by decide) (hts (.fieldLink RX6 26 "SharedLineModel" "seenTick" "[I") (List.mem_of_getElem? (i := 2) rfl)) (fun _ h9 => h9) rfl dX6_sees_32 ?_
        refine lv_aload_n hx hb dX6_sees_35 rfl (lv_at hl 0 rfl) ?_
        refine va_get (D := (dC, dI)) (ci := 6) (v := .int (S.1 1)) (C := RX6) (T := TX6) (N := 15) hx hb hts (fun _ h => List.mem_cons_of_mem _ (List.mem_append_right _ h)) hown hK hP 0 rfl rfl 6 (by decide) (hts (.fieldLink RX6 180 "SharedLineModel" "seen" "I") (List.mem_of_getElem? (i := 1) rfl)) (fun _ h9 => h9) rfl dX6_sees_36 ?_
        refine lv_iload_n hx hb dX6_sees_39 rfl (lv_at hl 1 rfl) ?_
        refine va_iast hx hb hK hP hD hS 6 0 rfl rfl (i := (S.1 1)) (se_ix hSe c25) dX6_sees_40 (fun H locs hP hD hS => ?_)
        have hP : va_P (dC, dI) vwCl (wM cI cZ h g (S.1, (updR S.2 5 (upd (S.2 5) ((S.1 1)).toNatClampNeg p1)))) H := hP
        have hD : va_D A (wM cI cZ h g (S.1, (updR S.2 5 (upd (S.2 5) ((S.1 1)).toNatClampNeg p1)))) := hD
        refine lv_aload_n hx hb dX6_sees_41 rfl (lv_at hl 0 rfl) ?_
        refine va_get (D := (dC, dI)) (ci := 6) (v := .ref (g 6)) (C := RX6) (T := TX6) (N := 15) hx hb hts (fun _ h => List.mem_cons_of_mem _ (List.mem_append_right _ h)) hown hK hP 0 rfl rfl 8 (by decide) (hts (.fieldLink RX6 29 "SharedLineModel" "seenHand" "[I") (List.mem_of_getElem? (i := 3) rfl)) (fun _ h9 => h9) rfl dX6_sees_42 ?_
        refine lv_aload_n hx hb dX6_sees_45 rfl (lv_at hl 0 rfl) ?_
        refine va_get (D := (dC, dI)) (ci := 6) (v := .int (S.1 1)) (C := RX6) (T := TX6) (N := 15) hx hb hts (fun _ h => List.mem_cons_of_mem _ (List.mem_append_right _ h)) hown hK hP 0 rfl rfl 6 (by decide) (hts (.fieldLink RX6 180 "SharedLineModel" "seen" "I") (List.mem_of_getElem? (i := 1) rfl)) (fun _ h9 => h9) rfl dX6_sees_46 ?_
        refine lv_iload_n hx hb dX6_sees_49 rfl (lv_at hl 2 rfl) ?_
        refine va_iast hx hb hK hP hD hS 7 0 rfl rfl (i := (S.1 1)) (se_ix hSe c25) dX6_sees_50 (fun H locs hP hD hS => ?_)
        have hP : va_P (dC, dI) vwCl (wM cI cZ h g (S.1, (updR (updR S.2 5 (upd (S.2 5) ((S.1 1)).toNatClampNeg p1)) 6 (upd (S.2 6) ((S.1 1)).toNatClampNeg p2)))) H := hP
        have hD : va_D A (wM cI cZ h g (S.1, (updR (updR S.2 5 (upd (S.2 5) ((S.1 1)).toNatClampNeg p1)) 6 (upd (S.2 6) ((S.1 1)).toNatClampNeg p2)))) := hD
        refine lv_aload_n hx hb dX6_sees_51 rfl (lv_at hl 0 rfl) ?_
        refine lv_dup hx hb dX6_sees_52 rfl ?_
        refine va_get (D := (dC, dI)) (ci := 6) (v := .int (S.1 1)) (C := RX6) (T := TX6) (N := 15) hx hb hts (fun _ h => List.mem_cons_of_mem _ (List.mem_append_right _ h)) hown hK hP 0 rfl rfl 6 (by decide) (hts (.fieldLink RX6 180 "SharedLineModel" "seen" "I") (List.mem_of_getElem? (i := 1) rfl)) (fun _ h9 => h9) rfl dX6_sees_53 ?_
        refine lv_iconst (v := 1) hx hb dX6_sees_56 (by decide) ?_
        refine lv_iadd hx hb dX6_sees_57 ?_
        refine va_put (D := (dC, dI)) (ci := 6) (v := .int ((S.1 1) + 1)) (ty := .int) (C := RX6) (T := TX6) (N := 15) hx hb hts (fun _ h => List.mem_cons_of_mem _ (List.mem_append_right _ h)) tyX6 tyX6_ok nmX6 hown hK hP hD hS 0 rfl rfl 6 (by decide) (hts (.fieldLink RX6 180 "SharedLineModel" "seen" "I") (List.mem_of_getElem? (i := 1) rfl)) (fun _ h9 => h9) rfl (tyX6_ok 6 (by decide)) rfl rfl (Nat.le_of_ble_eq_true rfl) dX6_sees_58 (fun H locs hP hD hS => ?_)
        have hP : va_P (dC, dI) vwCl (wM cI cZ h g ((upd S.1 1 ((S.1 1) + 1)), (updR (updR S.2 5 (upd (S.2 5) ((S.1 1)).toNatClampNeg p1)) 6 (upd (S.2 6) ((S.1 1)).toNatClampNeg p2)))) H := hP
        have hD : va_D A (wM cI cZ h g ((upd S.1 1 ((S.1 1) + 1)), (updR (updR S.2 5 (upd (S.2 5) ((S.1 1)).toNatClampNeg p1)) 6 (upd (S.2 6) ((S.1 1)).toNatClampNeg p2)))) := hD
        refine lv_aload_n hx hb dX6_sees_61 rfl (lv_at hl 0 rfl) ?_
        refine va_get (D := (dC, dI)) (ci := 6) (v := .int ((S.1 1) + 1)) (C := RX6) (T := TX6) (N := 15) hx hb hts (fun _ h => List.mem_cons_of_mem _ (List.mem_append_right _ h)) hown hK hP 0 rfl rfl 6 (by decide) (hts (.fieldLink RX6 180 "SharedLineModel" "seen" "I") (List.mem_of_getElem? (i := 1) rfl)) (fun _ h9 => h9) rfl dX6_sees_62 ?_
        subst hσ
        try dsimp only
        exact vq_iret hx hb hr hlocks hK hP hD hS rfl dX6_sees_65
      · rw [if_pos c25] at hσ
        refine lv_bipush (v := (-3)) hx hb dX6_sees_28 (by decide) ?_
        subst hσ
        try dsimp only
        exact vq_iret hx hb hr hlocks hK hP hD hS rfl dX6_sees_30
    · rw [if_neg (Bool.eq_false_iff.mp c14)] at hσ
      refine lv_iconst (v := (-1)) hx hb dX6_sees_17 (by decide) ?_
      subst hσ
      try dsimp only
      exact vq_iret hx hb hr hlocks hK hP hD hS rfl dX6_sees_18
theorem hdX6_keep : yX6_keep.cls = RX6 ∧ yX6_keep.cls ≠ "java/lang/invoke/MethodHandle" ∧ yX6_keep.cls ≠ "java/lang/invoke/VarHandle" ∧ (parseMethodDescriptor yX6_keep.desc).map (fun d => d.parameters.length) = some 1 := by decide +kernel
set_option maxHeartbeats 4000000 in
set_option maxRecDepth 100000 in
theorem cX6_keep_c (l : Launch) (ev : Nat → Nat) (dC : Nat → ClassId) (dI : Nat → Nat → Nat) (cI cZ cO : ClassId) (h : Nat) (g : Nat → Nat) (S : MSt) (p1 : Int32) : MetI l ev (dC, dI) (tyC cI cZ cO) yX6_keep wsX6_keep (rmF 1 22) [.ref h, .int p1] (wM cI cZ h g S) (sX6_keep S p1).1 (wM cI cZ h g (sX6_keep S p1).2) := by
  refine MetI_of (cc := cX6_keep) (maxL := 3) (ret := (some .int)) (by decide) rfl (Nat.le_of_ble_eq_true rfl) ?_
  intro p e s m below meth c A ls hx hb hr hml hts hown hlocks hin hK hP hD hA hE hl
  have hown : s.vm.findClass RX6 = some m.cls := hown
  have hl : lv_has ls 3 [(0, .ref h), (1, .int p1)] := hl
  have hS : va_S A s.heap s.heap [] := va_S.rf
  obtain ⟨σ, hσ⟩ : ∃ σ, (sX6_keep S p1) = σ := ⟨_, rfl⟩
  rw [hσ]
  rw [sX6_keep] at hσ
  refine lv_iload_n hx hb dX6_keep_0 rfl (lv_at hl 1 rfl) ?_
  refine lv_iconst (v := 0) hx hb dX6_keep_1 (by decide) ?_
  refine lv_iconst (v := 1) hx hb dX6_keep_2 (by decide) ?_
  refine vq_Si (As := [.int p1, .int 0, .int 1]) (rest := []) (W2 := (wM cI cZ h g S)) (f := (bI (sX6_within p1 (0 : Int32) (1 : Int32)))) hx hb hml hown hts hK hP hD hS hA hE hl.1 (cX6_within_c l ev dC dI cI cZ cO p1 (0 : Int32) (1 : Int32)) gX6_keep_X6_within rfl hdX6_within (Nat.le_of_ble_eq_true rfl) (Nat.le_of_ble_eq_true rfl) rfl rfl [] [0, 1, 2, 3, 4, 5, 6, 7, 8, 9] [0, 1, 2, 3, 4, 5, 6, 7, 8, 9] rfl rfl (by decide) (by decide) (by decide) rfl rfl rfl (Nat.le_of_ble_eq_true rfl) dX6_keep_3 ⟨Nat.zero_le _, Nat.zero_le _⟩ (fun H locs hP hD hS => ?_)
  refine lv_if_neB (tgt := 11) hx hb dX6_keep_6 (by decide) (fun c6 => ?_) (fun c6 => ?_)
  · rw [if_pos c6] at hσ
    refine lv_iconst (v := 0) hx hb dX6_keep_11 (by decide) ?_
    refine lv_istore_n (lv' := [(2, .int 0), (0, .ref h), (1, .int p1)]) hx hb dX6_keep_12 rfl hl (by decide) rfl (fun ls hl => ?_)
    have key13 : ∀ (n13 : Nat) (x2_13 : Int32) (Y_13 : MSt) (k13 : Nat), (x2_13 = nI k13) → (k13 ≤ 17) → (17 + 1 ≤ n13 + k13) → (sX6_keep_L13 p1 n13 x2_13 Y_13) = σ → ∀ (H : Heap) (locs : List Loc) (ls : Array Slot), va_P (dC, dI) vwCl (wM cI cZ h g Y_13) H → va_D A (wM cI cZ h g Y_13) → va_S A s.heap H locs → lv_has ls 3 [(0, .ref h), (1, .int p1), (2, .int x2_13)] → W p l e (headSpec wsX6_keep (rmF 1 22)).room s m ([.ref h, .int p1] : List Value).toArray below meth c H locs 0 0 (MQ below (va_Qi (fun (x : Int32) (_ : Unit) => x = σ.1) (fun _ t => PoW (dC, dI) (tyC cI cZ cO) A (wM cI cZ h g σ.2) t) A) ([.ref h, .int p1] : List Value).toArray s 0 0 A) (F0 m 13 ls []) := by
      intro n13
      induction n13 with
      | zero =>
        intro x2_13 Y_13 k13 e13 hk13 hn13
        exact absurd hn13 (by omega)
      | succ n13 ih13 =>
        intro x2_13 Y_13 k13 e13 hk13 hn13 hσ H locs ls hP hD hS hl
        rw [sX6_keep_L13_s] at hσ
        refine lv_iload_n hx hb dX6_keep_13 rfl (lv_at hl 2 rfl) ?_
        refine lv_bipush (v := 17) hx hb dX6_keep_14 (by decide) ?_
        refine lv_icmp_ge (tgt := 42) hx hb dX6_keep_16 (by decide) (fun c16 => ?_) (fun c16 => ?_)
        · rw [if_pos c16] at hσ
          refine lv_aload_n hx hb dX6_keep_42 rfl (lv_at hl 0 rfl) ?_
          refine va_get (D := (dC, dI)) (ci := 6) (v := .ref (g 4)) (C := RX6) (T := TX6) (N := 15) hx hb hts (fun _ h => List.mem_cons_of_mem _ (List.mem_append_right _ h)) hown hK hP 0 rfl rfl 5 (by decide) (hts (.fieldLink RX6 22 "SharedLineModel" "isKept" "[Z") (List.mem_of_getElem? (i := 3) rfl)) (fun _ h9 => h9) rfl dX6_keep_43 ?_
          refine lv_iload_n hx hb dX6_keep_46 rfl (lv_at hl 1 rfl) ?_
          refine lv_iconst (v := 1) hx hb dX6_keep_47 (by decide) ?_
          refine va_zast hx hb hK hP hD hS 5 1 rfl rfl (i := p1) (im2_ix c6) dX6_keep_48 (fun H locs hP hD hS => ?_)
          have hP : va_P (dC, dI) vwCl (wM cI cZ h g (Y_13.1, (updR Y_13.2 4 (upd (Y_13.2 4) (p1).toNatClampNeg (vp_nar .boolean 1))))) H := hP
          have hD : va_D A (wM cI cZ h g (Y_13.1, (updR Y_13.2 4 (upd (Y_13.2 4) (p1).toNatClampNeg (vp_nar .boolean 1))))) := hD
          refine lv_aload_n hx hb dX6_keep_49 rfl (lv_at hl 0 rfl) ?_
          refine va_get (D := (dC, dI)) (ci := 6) (v := .ref (g 0)) (C := RX6) (T := TX6) (N := 15) hx hb hts (fun _ h => List.mem_cons_of_mem _ (List.mem_append_right _ h)) hown hK hP 0 rfl rfl 0 (by decide) (hts (.fieldLink RX6 7 "SharedLineModel" "now" "[I") (List.mem_of_getElem? (i := 2) rfl)) (fun _ h9 => h9) rfl dX6_keep_50 ?_
          refine lv_iconst (v := 0) hx hb dX6_keep_53 (by decide) ?_
          refine vq_ialdK (k := 0) hx hb hK hP 1 0 rfl rfl (by decide) (by decide) (by decide) dX6_keep_54 ?_
          subst hσ
          try dsimp only
          exact vq_iret hx hb hr hlocks hK hP hD hS rfl dX6_keep_55
        · rw [if_neg c16] at hσ
          refine lv_aload_n hx hb dX6_keep_19 rfl (lv_at hl 0 rfl) ?_
          refine va_get (D := (dC, dI)) (ci := 6) (v := .ref (g 3)) (C := RX6) (T := TX6) (N := 15) hx hb hts (fun _ h => List.mem_cons_of_mem _ (List.mem_append_right _ h)) hown hK hP 0 rfl rfl 4 (by decide) (hts (.fieldLink RX6 19 "SharedLineModel" "images" "[I") (List.mem_of_getElem? (i := 1) rfl)) (fun _ h9 => h9) rfl dX6_keep_20 ?_
          refine lv_bipush (v := 17) hx hb dX6_keep_23 (by decide) ?_
          refine lv_iload_n hx hb dX6_keep_25 rfl (lv_at hl 1 rfl) ?_
          refine lv_imul hx hb dX6_keep_26 ?_
          refine lv_iload_n hx hb dX6_keep_27 rfl (lv_at hl 2 rfl) ?_
          refine lv_iadd hx hb dX6_keep_28 ?_
          refine lv_aload_n hx hb dX6_keep_29 rfl (lv_at hl 0 rfl) ?_
          refine va_get (D := (dC, dI)) (ci := 6) (v := .ref (g 0)) (C := RX6) (T := TX6) (N := 15) hx hb hts (fun _ h => List.mem_cons_of_mem _ (List.mem_append_right _ h)) hown hK hP 0 rfl rfl 0 (by decide) (hts (.fieldLink RX6 7 "SharedLineModel" "now" "[I") (List.mem_of_getElem? (i := 2) rfl)) (fun _ h9 => h9) rfl dX6_keep_30 ?_
          refine lv_iload_n hx hb dX6_keep_33 rfl (lv_at hl 2 rfl) ?_
          refine va_iald hx hb hK hP 1 0 rfl rfl (i := x2_13) (up_in e13 (up_lt e13 (show (17 : Int32) = nI 17 from rfl) (by omega) c16) (by decide)) dX6_keep_34 ?_
          refine va_iast hx hb hK hP hD hS 4 0 rfl rfl (i := (((17 : Int32) * p1) + x2_13)) (im_ix c6 e13 (up_lt e13 (show (17 : Int32) = nI 17 from rfl) (by omega) c16)) dX6_keep_35 (fun H locs hP hD hS => ?_)
          have hP : va_P (dC, dI) vwCl (wM cI cZ h g (Y_13.1, (updR Y_13.2 3 (upd (Y_13.2 3) ((((17 : Int32) * p1) + x2_13)).toNatClampNeg ((Y_13.2 0) (x2_13).toNatClampNeg))))) H := hP
          have hD : va_D A (wM cI cZ h g (Y_13.1, (updR Y_13.2 3 (upd (Y_13.2 3) ((((17 : Int32) * p1) + x2_13)).toNatClampNeg ((Y_13.2 0) (x2_13).toNatClampNeg))))) := hD
          refine lv_iinc (v := (x2_13 + 1)) (lv' := [(2, .int (x2_13 + 1)), (0, .ref h), (1, .int p1)]) hx hb dX6_keep_36 hl (k := 2) rfl rfl (by decide) rfl (fun ls hl => ?_)
          refine lv_goto (tgt := 13) hx hb dX6_keep_39 (by decide) ?_
          exact ih13 (x2_13 + 1) (Y_13.1, (updR Y_13.2 3 (upd (Y_13.2 3) ((((17 : Int32) * p1) + x2_13)).toNatClampNeg ((Y_13.2 0) (x2_13).toNatClampNeg)))) (k13 + 1) (up_s e13) (by have := up_lt e13 (show (17 : Int32) = nI 17 from rfl) (by omega) c16; omega) (by omega) hσ _ _ _ hP hD hS (lv_sub hl [1, 2, 0] rfl)
    exact key13 18 (0 : Int32) S 0 nI_0.symm (Nat.zero_le _) (Nat.le_refl _) hσ _ _ _ hP hD hS (lv_sub hl [1, 2, 0] rfl)
  · rw [if_neg (Bool.eq_false_iff.mp c6)] at hσ
    refine lv_iconst (v := (-1)) hx hb dX6_keep_9 (by decide) ?_
    subst hσ
    try dsimp only
    exact vq_iret hx hb hr hlocks hK hP hD hS rfl dX6_keep_10
theorem hdX6_back : yX6_back.cls = RX6 ∧ yX6_back.cls ≠ "java/lang/invoke/MethodHandle" ∧ yX6_back.cls ≠ "java/lang/invoke/VarHandle" ∧ (parseMethodDescriptor yX6_back.desc).map (fun d => d.parameters.length) = some 1 := by decide +kernel
set_option maxHeartbeats 4000000 in
set_option maxRecDepth 100000 in
theorem cX6_back_c (l : Launch) (ev : Nat → Nat) (dC : Nat → ClassId) (dI : Nat → Nat → Nat) (cI cZ cO : ClassId) (h : Nat) (g : Nat → Nat) (S : MSt) (p1 : Int32) : MetI l ev (dC, dI) (tyC cI cZ cO) yX6_back wsX6_back (rmF 1 22) [.ref h, .int p1] (wM cI cZ h g S) (sX6_back S p1).1 (wM cI cZ h g (sX6_back S p1).2) := by
  refine MetI_of (cc := cX6_back) (maxL := 3) (ret := (some .int)) (by decide) rfl (Nat.le_of_ble_eq_true rfl) ?_
  intro p e s m below meth c A ls hx hb hr hml hts hown hlocks hin hK hP hD hA hE hl
  have hown : s.vm.findClass RX6 = some m.cls := hown
  have hl : lv_has ls 3 [(0, .ref h), (1, .int p1)] := hl
  have hS : va_S A s.heap s.heap [] := va_S.rf
  obtain ⟨σ, hσ⟩ : ∃ σ, (sX6_back S p1) = σ := ⟨_, rfl⟩
  rw [hσ]
  rw [sX6_back] at hσ
  refine lv_iload_n hx hb dX6_back_0 rfl (lv_at hl 1 rfl) ?_
  refine lv_iconst (v := 0) hx hb dX6_back_1 (by decide) ?_
  refine lv_iconst (v := 1) hx hb dX6_back_2 (by decide) ?_
  refine vq_Si (As := [.int p1, .int 0, .int 1]) (rest := []) (W2 := (wM cI cZ h g S)) (f := (bI (sX6_within p1 (0 : Int32) (1 : Int32)))) hx hb hml hown hts hK hP hD hS hA hE hl.1 (cX6_within_c l ev dC dI cI cZ cO p1 (0 : Int32) (1 : Int32)) gX6_back_X6_within rfl hdX6_within (Nat.le_of_ble_eq_true rfl) (Nat.le_of_ble_eq_true rfl) rfl rfl [] [0, 1, 2, 3, 4, 5, 6, 7, 8, 9] [0, 1, 2, 3, 4, 5, 6, 7, 8, 9] rfl rfl (by decide) (by decide) (by decide) rfl rfl rfl (Nat.le_of_ble_eq_true rfl) dX6_back_3 ⟨Nat.zero_le _, Nat.zero_le _⟩ (fun H locs hP hD hS => ?_)
  refine lv_if_neB (tgt := 11) hx hb dX6_back_6 (by decide) (fun c6 => ?_) (fun c6 => ?_)
  · rw [if_pos c6] at hσ
    refine lv_aload_n hx hb dX6_back_11 rfl (lv_at hl 0 rfl) ?_
    refine va_get (D := (dC, dI)) (ci := 6) (v := .ref (g 4)) (C := RX6) (T := TX6) (N := 15) hx hb hts (fun _ h => List.mem_cons_of_mem _ (List.mem_append_right _ h)) hown hK hP 0 rfl rfl 5 (by decide) (hts (.fieldLink RX6 22 "SharedLineModel" "isKept" "[Z") (List.mem_of_getElem? (i := 1) rfl)) (fun _ h9 => h9) rfl dX6_back_12 ?_
    refine lv_iload_n hx hb dX6_back_15 rfl (lv_at hl 1 rfl) ?_
    refine va_zald hx hb hK hP 5 1 rfl rfl (i := p1) (im2_ix c6) dX6_back_16 ?_
    refine lv_if_ne (tgt := 23) hx hb dX6_back_17 (by decide) (fun c17 => ?_) (fun c17 => ?_)
    · rw [if_neg c17] at hσ
      refine lv_iconst (v := 0) hx hb dX6_back_23 (by decide) ?_
      refine lv_istore_n (lv' := [(2, .int 0), (0, .ref h), (1, .int p1)]) hx hb dX6_back_24 rfl hl (by decide) rfl (fun ls hl => ?_)
      have key25 : ∀ (n25 : Nat) (x2_25 : Int32) (Y_25 : MSt) (k25 : Nat), (x2_25 = nI k25) → (k25 ≤ 17) → (17 + 1 ≤ n25 + k25) → (sX6_back_L25 p1 n25 x2_25 Y_25) = σ → ∀ (H : Heap) (locs : List Loc) (ls : Array Slot), va_P (dC, dI) vwCl (wM cI cZ h g Y_25) H → va_D A (wM cI cZ h g Y_25) → va_S A s.heap H locs → lv_has ls 3 [(0, .ref h), (1, .int p1), (2, .int x2_25)] → W p l e (headSpec wsX6_back (rmF 1 22)).room s m ([.ref h, .int p1] : List Value).toArray below meth c H locs 0 0 (MQ below (va_Qi (fun (x : Int32) (_ : Unit) => x = σ.1) (fun _ t => PoW (dC, dI) (tyC cI cZ cO) A (wM cI cZ h g σ.2) t) A) ([.ref h, .int p1] : List Value).toArray s 0 0 A) (F0 m 25 ls []) := by
        intro n25
        induction n25 with
        | zero =>
          intro x2_25 Y_25 k25 e25 hk25 hn25
          exact absurd hn25 (by omega)
        | succ n25 ih25 =>
          intro x2_25 Y_25 k25 e25 hk25 hn25 hσ H locs ls hP hD hS hl
          rw [sX6_back_L25_s] at hσ
          refine lv_iload_n hx hb dX6_back_25 rfl (lv_at hl 2 rfl) ?_
          refine lv_bipush (v := 17) hx hb dX6_back_26 (by decide) ?_
          refine lv_icmp_ge (tgt := 54) hx hb dX6_back_28 (by decide) (fun c28 => ?_) (fun c28 => ?_)
          · rw [if_pos c28] at hσ
            refine lv_aload_n hx hb dX6_back_54 rfl (lv_at hl 0 rfl) ?_
            refine lv_iconst (v := 0) hx hb dX6_back_55 (by decide) ?_
            refine va_put (D := (dC, dI)) (ci := 6) (v := .int 0) (ty := .int) (C := RX6) (T := TX6) (N := 15) hx hb hts (fun _ h => List.mem_cons_of_mem _ (List.mem_append_right _ h)) tyX6 tyX6_ok nmX6 hown hK hP hD hS 0 rfl rfl 3 (by decide) (hts (.fieldLink RX6 98 "SharedLineModel" "undos" "I") (List.mem_of_getElem? (i := 4) rfl)) (fun _ h9 => h9) rfl (tyX6_ok 3 (by decide)) rfl rfl (Nat.le_of_ble_eq_true rfl) dX6_back_56 (fun H locs hP hD hS => ?_)
            have hP : va_P (dC, dI) vwCl (wM cI cZ h g ((upd Y_25.1 0 0), Y_25.2)) H := hP
            have hD : va_D A (wM cI cZ h g ((upd Y_25.1 0 0), Y_25.2)) := hD
            refine lv_aload_n hx hb dX6_back_59 rfl (lv_at hl 0 rfl) ?_
            refine va_get (D := (dC, dI)) (ci := 6) (v := .ref (g 0)) (C := RX6) (T := TX6) (N := 15) hx hb hts (fun _ h => List.mem_cons_of_mem _ (List.mem_append_right _ h)) hown hK hP 0 rfl rfl 0 (by decide) (hts (.fieldLink RX6 7 "SharedLineModel" "now" "[I") (List.mem_of_getElem? (i := 2) rfl)) (fun _ h9 => h9) rfl dX6_back_60 ?_
            refine lv_iconst (v := 0) hx hb dX6_back_63 (by decide) ?_
            refine vq_ialdK (k := 0) hx hb hK hP 1 0 rfl rfl (by decide) (by decide) (by decide) dX6_back_64 ?_
            subst hσ
            try dsimp only
            exact vq_iret hx hb hr hlocks hK hP hD hS rfl dX6_back_65
          · rw [if_neg c28] at hσ
            refine lv_aload_n hx hb dX6_back_31 rfl (lv_at hl 0 rfl) ?_
            refine va_get (D := (dC, dI)) (ci := 6) (v := .ref (g 0)) (C := RX6) (T := TX6) (N := 15) hx hb hts (fun _ h => List.mem_cons_of_mem _ (List.mem_append_right _ h)) hown hK hP 0 rfl rfl 0 (by decide) (hts (.fieldLink RX6 7 "SharedLineModel" "now" "[I") (List.mem_of_getElem? (i := 2) rfl)) (fun _ h9 => h9) rfl dX6_back_32 ?_
            refine lv_iload_n hx hb dX6_back_35 rfl (lv_at hl 2 rfl) ?_
            refine lv_aload_n hx hb dX6_back_36 rfl (lv_at hl 0 rfl) ?_
            refine va_get (D := (dC, dI)) (ci := 6) (v := .ref (g 3)) (C := RX6) (T := TX6) (N := 15) hx hb hts (fun _ h => List.mem_cons_of_mem _ (List.mem_append_right _ h)) hown hK hP 0 rfl rfl 4 (by decide) (hts (.fieldLink RX6 19 "SharedLineModel" "images" "[I") (List.mem_of_getElem? (i := 3) rfl)) (fun _ h9 => h9) rfl dX6_back_37 ?_
            refine lv_bipush (v := 17) hx hb dX6_back_40 (by decide) ?_
            refine lv_iload_n hx hb dX6_back_42 rfl (lv_at hl 1 rfl) ?_
            refine lv_imul hx hb dX6_back_43 ?_
            refine lv_iload_n hx hb dX6_back_44 rfl (lv_at hl 2 rfl) ?_
            refine lv_iadd hx hb dX6_back_45 ?_
            refine va_iald hx hb hK hP 4 0 rfl rfl (i := (((17 : Int32) * p1) + x2_25)) (im_ix c6 e25 (up_lt e25 (show (17 : Int32) = nI 17 from rfl) (by omega) c28)) dX6_back_46 ?_
            refine va_iast hx hb hK hP hD hS 1 0 rfl rfl (i := x2_25) (up_in e25 (up_lt e25 (show (17 : Int32) = nI 17 from rfl) (by omega) c28) (by decide)) dX6_back_47 (fun H locs hP hD hS => ?_)
            have hP : va_P (dC, dI) vwCl (wM cI cZ h g (Y_25.1, (updR Y_25.2 0 (upd (Y_25.2 0) (x2_25).toNatClampNeg ((Y_25.2 3) ((((17 : Int32) * p1) + x2_25)).toNatClampNeg))))) H := hP
            have hD : va_D A (wM cI cZ h g (Y_25.1, (updR Y_25.2 0 (upd (Y_25.2 0) (x2_25).toNatClampNeg ((Y_25.2 3) ((((17 : Int32) * p1) + x2_25)).toNatClampNeg))))) := hD
            refine lv_iinc (v := (x2_25 + 1)) (lv' := [(2, .int (x2_25 + 1)), (0, .ref h), (1, .int p1)]) hx hb dX6_back_48 hl (k := 2) rfl rfl (by decide) rfl (fun ls hl => ?_)
            refine lv_goto (tgt := 25) hx hb dX6_back_51 (by decide) ?_
            exact ih25 (x2_25 + 1) (Y_25.1, (updR Y_25.2 0 (upd (Y_25.2 0) (x2_25).toNatClampNeg ((Y_25.2 3) ((((17 : Int32) * p1) + x2_25)).toNatClampNeg)))) (k25 + 1) (up_s e25) (by have := up_lt e25 (show (17 : Int32) = nI 17 from rfl) (by omega) c28; omega) (by omega) hσ _ _ _ hP hD hS (lv_sub hl [1, 2, 0] rfl)
      exact key25 18 (0 : Int32) S 0 nI_0.symm (Nat.zero_le _) (Nat.le_refl _) hσ _ _ _ hP hD hS (lv_sub hl [1, 2, 0] rfl)
    · rw [if_pos c17] at hσ
      refine lv_bipush (v := (-2)) hx hb dX6_back_20 (by decide) ?_
      subst hσ
      try dsimp only
      exact vq_iret hx hb hr hlocks hK hP hD hS rfl dX6_back_22
  · rw [if_neg (Bool.eq_false_iff.mp c6)] at hσ
    refine lv_iconst (v := (-1)) hx hb dX6_back_9 (by decide) ?_
    subst hσ
    try dsimp only
    exact vq_iret hx hb hr hlocks hK hP hD hS rfl dX6_back_10
theorem hdX6_listen : yX6_listen.cls = RX6 ∧ yX6_listen.cls ≠ "java/lang/invoke/MethodHandle" ∧ yX6_listen.cls ≠ "java/lang/invoke/VarHandle" ∧ (parseMethodDescriptor yX6_listen.desc).map (fun d => d.parameters.length) = some 0 := by decide +kernel
set_option maxHeartbeats 4000000 in
set_option maxRecDepth 100000 in
theorem cX6_listen_c (l : Launch) (ev : Nat → Nat) (dC : Nat → ClassId) (dI : Nat → Nat → Nat) (cI cZ cO : ClassId) (h : Nat) (g : Nat → Nat) (S : MSt) (hT : LOK S) (hSe : ∃ q : Nat, S.1 1 = nI q ∧ q ≤ 6) : MetI l ev (dC, dI) (tyC cI cZ cO) yX6_listen wsX6_listen (rmF 9 201) [.ref h] (wM cI cZ h g S) (sX6_listen S).1 (wM cI cZ h g (sX6_listen S).2) := by
  refine MetI_of (cc := cX6_listen) (maxL := 7) (ret := (some .int)) (by decide) rfl (Nat.le_of_ble_eq_true rfl) ?_
  intro p e s m below meth c A ls hx hb hr hml hts hown hlocks hin hK hP hD hA hE hl
  have hown : s.vm.findClass RX6 = some m.cls := hown
  have hl : lv_has ls 7 [(0, .ref h)] := hl
  have hS : va_S A s.heap s.heap [] := va_S.rf
  obtain ⟨σ, hσ⟩ : ∃ σ, (sX6_listen S) = σ := ⟨_, rfl⟩
  rw [hσ]
  rw [sX6_listen] at hσ
  refine lv_iconst (v := 0) hx hb dX6_listen_0 (by decide) ?_
  refine lv_istore_n (lv' := [(1, .int 0), (0, .ref h)]) hx hb dX6_listen_1 rfl hl (by decide) rfl (fun ls hl => ?_)
  refine lv_iconst (v := 0) hx hb dX6_listen_2 (by decide) ?_
  refine lv_istore_n (lv' := [(2, .int 0), (1, .int 0), (0, .ref h)]) hx hb dX6_listen_3 rfl hl (by decide) rfl (fun ls hl => ?_)
  have key4 : ∀ (n4 : Nat) (x2_4 : Int32) (Y_4 : MSt) (k4 : Nat), (x2_4 = nI k4) → (k4 ≤ 12) → (12 + 1 ≤ n4 + k4) → (LOK Y_4) → (∃ q : Nat, Y_4.1 1 = nI q ∧ q ≤ 6) → (sX6_listen_L4  n4 x2_4 Y_4) = σ → ∀ (H : Heap) (locs : List Loc) (ls : Array Slot), va_P (dC, dI) vwCl (wM cI cZ h g Y_4) H → va_D A (wM cI cZ h g Y_4) → va_S A s.heap H locs → lv_has ls 7 [(0, .ref h), (1, .int 0), (2, .int x2_4)] → W p l e (headSpec wsX6_listen (rmF 9 201)).room s m ([.ref h] : List Value).toArray below meth c H locs 0 0 (MQ below (va_Qi (fun (x : Int32) (_ : Unit) => x = σ.1) (fun _ t => PoW (dC, dI) (tyC cI cZ cO) A (wM cI cZ h g σ.2) t) A) ([.ref h] : List Value).toArray s 0 0 A) (F0 m 4 ls []) := by
    intro n4
    induction n4 with
    | zero =>
      intro x2_4 Y_4 k4 e4 hk4 hn4 T4 q4
      exact absurd hn4 (by omega)
    | succ n4 ih4 =>
      intro x2_4 Y_4 k4 e4 hk4 hn4 T4 q4 hσ H locs ls hP hD hS hl
      rw [sX6_listen_L4_s] at hσ
      refine lv_iload_n hx hb dX6_listen_4 rfl (lv_at hl 2 rfl) ?_
      refine lv_bipush (v := 12) hx hb dX6_listen_5 (by decide) ?_
      refine lv_icmp_ge (tgt := 23) hx hb dX6_listen_7 (by decide) (fun c7 => ?_) (fun c7 => ?_)
      · rw [if_pos c7] at hσ
        refine lv_iconst (v := 0) hx hb dX6_listen_23 (by decide) ?_
        refine lv_istore_n (lv' := [(2, .int 0), (0, .ref h), (1, .int 0)]) hx hb dX6_listen_24 rfl hl (by decide) rfl (fun ls hl => ?_)
        have key25 : ∀ (n25 : Nat) (x1_25 : Int32) (x2_25 : Int32) (Y_25 : MSt) (k25 : Nat), (x2_25 = nI k25) → (k25 ≤ 128) → (128 + 1 ≤ n25 + k25) → (LOK Y_25) → (∃ q : Nat, Y_25.1 1 = nI q ∧ q ≤ 6) → (sX6_listen_L25  n25 x1_25 x2_25 Y_25) = σ → ∀ (H : Heap) (locs : List Loc) (ls : Array Slot), va_P (dC, dI) vwCl (wM cI cZ h g Y_25) H → va_D A (wM cI cZ h g Y_25) → va_S A s.heap H locs → lv_has ls 7 [(0, .ref h), (1, .int x1_25), (2, .int x2_25)] → W p l e (headSpec wsX6_listen (rmF 9 201)).room s m ([.ref h] : List Value).toArray below meth c H locs 0 0 (MQ below (va_Qi (fun (x : Int32) (_ : Unit) => x = σ.1) (fun _ t => PoW (dC, dI) (tyC cI cZ cO) A (wM cI cZ h g σ.2) t) A) ([.ref h] : List Value).toArray s 0 0 A) (F0 m 25 ls []) := by
          intro n25
          induction n25 with
          | zero =>
            intro x1_25 x2_25 Y_25 k25 e25 hk25 hn25 T25 q25
            exact absurd hn25 (by omega)
          | succ n25 ih25 =>
            intro x1_25 x2_25 Y_25 k25 e25 hk25 hn25 T25 q25 hσ H locs ls hP hD hS hl
            rw [sX6_listen_L25_s] at hσ
            refine lv_iload_n hx hb dX6_listen_25 rfl (lv_at hl 2 rfl) ?_
            refine lv_sipush (v := 128) hx hb dX6_listen_26 (by decide) ?_
            refine lv_icmp_ge (tgt := 87) hx hb dX6_listen_29 (by decide) (fun c29 => ?_) (fun c29 => ?_)
            · rw [if_pos c29] at hσ
              refine lv_bipush (v := (-9)) hx hb dX6_listen_87 (by decide) ?_
              refine lv_istore_n (lv' := [(2, .int (-9)), (0, .ref h), (1, .int x1_25)]) hx hb dX6_listen_89 rfl hl (by decide) rfl (fun ls hl => ?_)
              refine lv_iload_n hx hb dX6_listen_90 rfl (lv_at hl 2 rfl) ?_
              refine lv_istore_n (lv' := [(3, .int x1_25), (2, .int (-9)), (0, .ref h), (1, .int x1_25)]) hx hb dX6_listen_91 rfl hl (by decide) rfl (fun ls hl => ?_)
              refine lv_aload_n hx hb dX6_listen_92 rfl (lv_at hl 2 rfl) ?_
              refine va_get (D := (dC, dI)) (ci := 6) (v := .ref (g 0)) (C := RX6) (T := TX6) (N := 15) hx hb hts (fun _ h => List.mem_cons_of_mem _ (List.mem_append_right _ h)) hown hK hP 0 rfl rfl 0 (by decide) (hts (.fieldLink RX6 7 "SharedLineModel" "now" "[I") (List.mem_of_getElem? (i := 2) rfl)) (fun _ h9 => h9) rfl dX6_listen_93 ?_
              refine lv_iconst (v := 0) hx hb dX6_listen_96 (by decide) ?_
              refine vq_ialdK (k := 0) hx hb hK hP 1 0 rfl rfl (by decide) (by decide) (by decide) dX6_listen_97 ?_
              refine lv_iconst (v := 1) hx hb dX6_listen_98 (by decide) ?_
              refine lv_isub hx hb dX6_listen_99 ?_
              refine lv_istore (lv' := [(4, .int (((Y_25.2 0) 0) - 1)), (3, .int x1_25), (2, .int (-9)), (0, .ref h), (1, .int x1_25)]) hx hb dX6_listen_100 hl (by decide) rfl (fun ls hl => ?_)
              obtain ⟨T, eT, hT1, hT2⟩ := id T25
              have key102 : ∀ (n102 : Nat) (x2_102 : Int32) (x3_102 : Int32) (x4_102 : Int32)  (k102 : Nat), (x4_102 = nI k102 - 1) → (k102 ≤ 12) → (k102 < n102) → (sX6_listen_L102 x1_25 Y_25 n102 x2_102 x3_102 x4_102) = σ → ∀ (H : Heap) (locs : List Loc) (ls : Array Slot), va_P (dC, dI) vwCl (wM cI cZ h g Y_25) H → va_D A (wM cI cZ h g Y_25) → va_S A s.heap H locs → lv_has ls 7 [(0, .ref h), (1, .int x1_25), (2, .int x2_102), (3, .int x3_102), (4, .int x4_102)] → W p l e (headSpec wsX6_listen (rmF 9 201)).room s m ([.ref h] : List Value).toArray below meth c H locs 0 0 (MQ below (va_Qi (fun (x : Int32) (_ : Unit) => x = σ.1) (fun _ t => PoW (dC, dI) (tyC cI cZ cO) A (wM cI cZ h g σ.2) t) A) ([.ref h] : List Value).toArray s 0 0 A) (F0 m 102 ls []) := by
                intro n102
                induction n102 with
                | zero =>
                  intro x2_102 x3_102 x4_102 k102 e102 hk102 hn102
                  exact absurd hn102 (Nat.not_lt_zero _)
                | succ n102 ih102 =>
                  intro x2_102 x3_102 x4_102 k102 e102 hk102 hn102 hσ H locs ls hP hD hS hl
                  rw [sX6_listen_L102_s] at hσ
                  refine lv_iload hx hb dX6_listen_102 (lv_at hl 4 rfl) ?_
                  refine lv_if_lt (tgt := 199) hx hb dX6_listen_104 (by decide) (fun c104 => ?_) (fun c104 => ?_)
                  · rw [if_pos c104] at hσ
                    refine lv_iload_n hx hb dX6_listen_199 rfl (lv_at hl 1 rfl) ?_
                    refine lv_iconst (v := 1) hx hb dX6_listen_200 (by decide) ?_
                    refine lv_icmp_le (tgt := 208) hx hb dX6_listen_201 (by decide) (fun c201 => ?_) (fun c201 => ?_)
                    · rw [if_pos c201] at hσ
                      refine lv_bipush (v := (-9)) hx hb dX6_listen_208 (by decide) ?_
                      subst hσ
                      try dsimp only
                      exact vq_iret hx hb hr hlocks hK hP hD hS rfl dX6_listen_210
                    · rw [if_neg c201] at hσ
                      refine lv_iload_n hx hb dX6_listen_204 rfl (lv_at hl 2 rfl) ?_
                      refine lv_goto (tgt := 210) hx hb dX6_listen_205 (by decide) ?_
                      subst hσ
                      try dsimp only
                      exact vq_iret hx hb hr hlocks hK hP hD hS rfl dX6_listen_210
                  · rw [if_neg c104] at hσ
                    refine lv_aload_n hx hb dX6_listen_107 rfl (lv_at hl 0 rfl) ?_
                    refine va_get (D := (dC, dI)) (ci := 6) (v := .ref (g 8)) (C := RX6) (T := TX6) (N := 15) hx hb hts (fun _ h => List.mem_cons_of_mem _ (List.mem_append_right _ h)) hown hK hP 0 rfl rfl 14 (by decide) (hts (.fieldLink RX6 35 "SharedLineModel" "second" "[I") (List.mem_of_getElem? (i := 1) rfl)) (fun _ h9 => h9) rfl dX6_listen_108 ?_
                    refine lv_iload hx hb dX6_listen_111 (lv_at hl 4 rfl) ?_
                    refine va_iald hx hb hK hP 9 0 rfl rfl (i := x4_102) (up_in (dn_b e102 hk102 (by decide) c104).2.1 (by have := (dn_b e102 hk102 (by decide) c104).1; omega) (by decide)) dX6_listen_113 ?_
                    refine lv_iload_n hx hb dX6_listen_114 rfl (lv_at hl 1 rfl) ?_
                    refine lv_aload_n hx hb dX6_listen_115 rfl (lv_at hl 0 rfl) ?_
                    refine va_get (D := (dC, dI)) (ci := 6) (v := .ref (g 8)) (C := RX6) (T := TX6) (N := 15) hx hb hts (fun _ h => List.mem_cons_of_mem _ (List.mem_append_right _ h)) hown hK hP 0 rfl rfl 14 (by decide) (hts (.fieldLink RX6 35 "SharedLineModel" "second" "[I") (List.mem_of_getElem? (i := 1) rfl)) (fun _ h9 => h9) rfl dX6_listen_116 ?_
                    refine lv_iload hx hb dX6_listen_119 (lv_at hl 4 rfl) ?_
                    refine va_iald hx hb hK hP 9 0 rfl rfl (i := x4_102) (up_in (dn_b e102 hk102 (by decide) c104).2.1 (by have := (dn_b e102 hk102 (by decide) c104).1; omega) (by decide)) dX6_listen_121 ?_
                    refine lv_isub hx hb dX6_listen_122 ?_
                    refine lv_icmp_le (tgt := 136) hx hb dX6_listen_123 (by decide) (fun c123 => ?_) (fun c123 => ?_)
                    · rw [if_pos c123] at hσ
                      refine lv_iload_n hx hb dX6_listen_136 rfl (lv_at hl 1 rfl) ?_
                      refine lv_aload_n hx hb dX6_listen_137 rfl (lv_at hl 0 rfl) ?_
                      refine va_get (D := (dC, dI)) (ci := 6) (v := .ref (g 8)) (C := RX6) (T := TX6) (N := 15) hx hb hts (fun _ h => List.mem_cons_of_mem _ (List.mem_append_right _ h)) hown hK hP 0 rfl rfl 14 (by decide) (hts (.fieldLink RX6 35 "SharedLineModel" "second" "[I") (List.mem_of_getElem? (i := 1) rfl)) (fun _ h9 => h9) rfl dX6_listen_138 ?_
                      refine lv_iload hx hb dX6_listen_141 (lv_at hl 4 rfl) ?_
                      refine va_iald hx hb hK hP 9 0 rfl rfl (i := x4_102) (up_in (dn_b e102 hk102 (by decide) c104).2.1 (by have := (dn_b e102 hk102 (by decide) c104).1; omega) (by decide)) dX6_listen_143 ?_
                      refine lv_isub hx hb dX6_listen_144 ?_
                      refine lv_istore (lv' := [(5, .int (x1_25 - ((Y_25.2 8) (x4_102).toNatClampNeg))), (0, .ref h), (1, .int x1_25), (2, .int x2_102), (3, .int x3_102), (4, .int x4_102)]) hx hb dX6_listen_145 hl (by decide) rfl (fun ls hl => ?_)
                      refine lv_aload_n hx hb dX6_listen_147 rfl (lv_at hl 1 rfl) ?_
                      refine lv_iload hx hb dX6_listen_148 (lv_at hl 5 rfl) ?_
                      refine vq_Vi (As := [.int x4_102]) (rest := []) (W2 := (wM cI cZ h g Y_25)) (f := (bI (sX6_isNote Y_25 x4_102))) hx hb hml hown hts hK hP hD hS hA hE hl.1 (cX6_isNote_c l ev dC dI cI cZ cO h g Y_25 x4_102 T25) gX6_listen_X6_isNote rfl hdX6_isNote (Nat.le_of_ble_eq_true rfl) (Nat.le_of_ble_eq_true rfl) rfl rfl (ci := 6) (qr := 0) rfl rfl rfl [0, 1, 2, 3, 4, 5, 6, 7, 8, 9] [] [0, 1, 2, 3, 4, 5, 6, 7, 8, 9] rfl rfl (by decide) (by decide) (by decide) rfl rfl rfl (Nat.le_of_ble_eq_true rfl) dX6_listen_150 ⟨Nat.zero_le _, Nat.zero_le _⟩ (fun H locs hP hD hS => ?_)
                      refine lv_if_eqB (tgt := 166) hx hb dX6_listen_153 (by decide) (fun c153 => ?_) (fun c153 => ?_)
                      · rw [if_neg (Bool.eq_false_iff.mp c153)] at hσ
                        refine lv_iconst (v := 0) hx hb dX6_listen_166 (by decide) ?_
                        refine lv_istore (lv' := [(6, .int 0), (5, .int (x1_25 - ((Y_25.2 8) (x4_102).toNatClampNeg))), (0, .ref h), (1, .int x1_25), (2, .int x2_102), (3, .int x3_102), (4, .int x4_102)]) hx hb dX6_listen_167 hl (by decide) rfl (fun ls hl => ?_)
                        refine lv_iload hx hb dX6_listen_169 (lv_at hl 0 rfl) ?_
                        refine lv_if_eq (tgt := 179) hx hb dX6_listen_171 (by decide) (fun c171 => ?_) (fun c171 => absurd c171 (by decide))
                        refine lv_iload_n hx hb dX6_listen_179 rfl (lv_at hl 4 rfl) ?_
                        refine lv_istore_n (lv' := [(2, .int x2_102), (6, .int 0), (5, .int (x1_25 - ((Y_25.2 8) (x4_102).toNatClampNeg))), (0, .ref h), (1, .int x1_25), (3, .int x3_102), (4, .int x4_102)]) hx hb dX6_listen_180 rfl hl (by decide) rfl (fun ls hl => ?_)
                        refine lv_iload hx hb dX6_listen_181 (lv_at hl 1 rfl) ?_
                        refine lv_if_eq (tgt := 191) hx hb dX6_listen_183 (by decide) (fun c183 => ?_) (fun c183 => absurd c183 (by decide))
                        refine lv_iload_n hx hb dX6_listen_191 rfl (lv_at hl 5 rfl) ?_
                        refine lv_istore_n (lv' := [(3, .int x3_102), (2, .int x2_102), (6, .int 0), (5, .int (x1_25 - ((Y_25.2 8) (x4_102).toNatClampNeg))), (0, .ref h), (1, .int x1_25), (4, .int x4_102)]) hx hb dX6_listen_192 rfl hl (by decide) rfl (fun ls hl => ?_)
                        refine lv_iinc (v := (x4_102 + (-1))) (lv' := [(4, .int (x4_102 + (-1))), (3, .int x3_102), (2, .int x2_102), (6, .int 0), (5, .int (x1_25 - ((Y_25.2 8) (x4_102).toNatClampNeg))), (0, .ref h), (1, .int x1_25)]) hx hb dX6_listen_193 hl (k := 6) rfl rfl (by decide) rfl (fun ls hl => ?_)
                        refine lv_goto (tgt := 102) hx hb dX6_listen_196 (by decide) ?_
                        exact ih102 x2_102 x3_102 (x4_102 + (-1)) (k102 - 1) (dn_b e102 hk102 (by decide) c104).2.2 (by omega) (by have := (dn_b e102 hk102 (by decide) c104).1; omega) hσ _ _ _ hP hD hS (lv_sub hl [5, 6, 2, 1, 0] rfl)
                      · rw [if_pos c153] at hσ
                        refine lv_iload hx hb dX6_listen_156 (lv_at hl 0 rfl) ?_
                        refine lv_iload_n hx hb dX6_listen_158 rfl (lv_at hl 4 rfl) ?_
                        refine lv_icmp_gt (tgt := 166) hx hb dX6_listen_159 (by decide) (fun c159 => ?_) (fun c159 => ?_)
                        · rw [if_pos c159] at hσ
                          refine lv_iconst (v := 0) hx hb dX6_listen_166 (by decide) ?_
                          refine lv_istore (lv' := [(6, .int 0), (5, .int (x1_25 - ((Y_25.2 8) (x4_102).toNatClampNeg))), (0, .ref h), (1, .int x1_25), (2, .int x2_102), (3, .int x3_102), (4, .int x4_102)]) hx hb dX6_listen_167 hl (by decide) rfl (fun ls hl => ?_)
                          refine lv_iload hx hb dX6_listen_169 (lv_at hl 0 rfl) ?_
                          refine lv_if_eq (tgt := 179) hx hb dX6_listen_171 (by decide) (fun c171 => ?_) (fun c171 => absurd c171 (by decide))
                          refine lv_iload_n hx hb dX6_listen_179 rfl (lv_at hl 4 rfl) ?_
                          refine lv_istore_n (lv' := [(2, .int x2_102), (6, .int 0), (5, .int (x1_25 - ((Y_25.2 8) (x4_102).toNatClampNeg))), (0, .ref h), (1, .int x1_25), (3, .int x3_102), (4, .int x4_102)]) hx hb dX6_listen_180 rfl hl (by decide) rfl (fun ls hl => ?_)
                          refine lv_iload hx hb dX6_listen_181 (lv_at hl 1 rfl) ?_
                          refine lv_if_eq (tgt := 191) hx hb dX6_listen_183 (by decide) (fun c183 => ?_) (fun c183 => absurd c183 (by decide))
                          refine lv_iload_n hx hb dX6_listen_191 rfl (lv_at hl 5 rfl) ?_
                          refine lv_istore_n (lv' := [(3, .int x3_102), (2, .int x2_102), (6, .int 0), (5, .int (x1_25 - ((Y_25.2 8) (x4_102).toNatClampNeg))), (0, .ref h), (1, .int x1_25), (4, .int x4_102)]) hx hb dX6_listen_192 rfl hl (by decide) rfl (fun ls hl => ?_)
                          refine lv_iinc (v := (x4_102 + (-1))) (lv' := [(4, .int (x4_102 + (-1))), (3, .int x3_102), (2, .int x2_102), (6, .int 0), (5, .int (x1_25 - ((Y_25.2 8) (x4_102).toNatClampNeg))), (0, .ref h), (1, .int x1_25)]) hx hb dX6_listen_193 hl (k := 6) rfl rfl (by decide) rfl (fun ls hl => ?_)
                          refine lv_goto (tgt := 102) hx hb dX6_listen_196 (by decide) ?_
                          exact ih102 x2_102 x3_102 (x4_102 + (-1)) (k102 - 1) (dn_b e102 hk102 (by decide) c104).2.2 (by omega) (by have := (dn_b e102 hk102 (by decide) c104).1; omega) hσ _ _ _ hP hD hS (lv_sub hl [5, 6, 2, 1, 0] rfl)
                        · rw [if_neg c159] at hσ
                          refine lv_iconst (v := 1) hx hb dX6_listen_162 (by decide) ?_
                          refine lv_goto (tgt := 167) hx hb dX6_listen_163 (by decide) ?_
                          refine lv_istore (lv' := [(6, .int 1), (5, .int (x1_25 - ((Y_25.2 8) (x4_102).toNatClampNeg))), (0, .ref h), (1, .int x1_25), (2, .int x2_102), (3, .int x3_102), (4, .int x4_102)]) hx hb dX6_listen_167 hl (by decide) rfl (fun ls hl => ?_)
                          refine lv_iload hx hb dX6_listen_169 (lv_at hl 0 rfl) ?_
                          refine lv_if_eq (tgt := 179) hx hb dX6_listen_171 (by decide) (fun c171 => absurd c171 (by decide)) (fun c171 => ?_)
                          refine lv_iload hx hb dX6_listen_174 (lv_at hl 6 rfl) ?_
                          refine lv_goto (tgt := 180) hx hb dX6_listen_176 (by decide) ?_
                          refine lv_istore_n (lv' := [(2, .int x4_102), (6, .int 1), (5, .int (x1_25 - ((Y_25.2 8) (x4_102).toNatClampNeg))), (0, .ref h), (1, .int x1_25), (3, .int x3_102), (4, .int x4_102)]) hx hb dX6_listen_180 rfl hl (by decide) rfl (fun ls hl => ?_)
                          refine lv_iload hx hb dX6_listen_181 (lv_at hl 1 rfl) ?_
                          refine lv_if_eq (tgt := 191) hx hb dX6_listen_183 (by decide) (fun c183 => absurd c183 (by decide)) (fun c183 => ?_)
                          refine lv_iload hx hb dX6_listen_186 (lv_at hl 2 rfl) ?_
                          refine lv_goto (tgt := 192) hx hb dX6_listen_188 (by decide) ?_
                          refine lv_istore_n (lv' := [(3, .int (x1_25 - ((Y_25.2 8) (x4_102).toNatClampNeg))), (2, .int x4_102), (6, .int 1), (5, .int (x1_25 - ((Y_25.2 8) (x4_102).toNatClampNeg))), (0, .ref h), (1, .int x1_25), (4, .int x4_102)]) hx hb dX6_listen_192 rfl hl (by decide) rfl (fun ls hl => ?_)
                          refine lv_iinc (v := (x4_102 + (-1))) (lv' := [(4, .int (x4_102 + (-1))), (3, .int (x1_25 - ((Y_25.2 8) (x4_102).toNatClampNeg))), (2, .int x4_102), (6, .int 1), (5, .int (x1_25 - ((Y_25.2 8) (x4_102).toNatClampNeg))), (0, .ref h), (1, .int x1_25)]) hx hb dX6_listen_193 hl (k := 6) rfl rfl (by decide) rfl (fun ls hl => ?_)
                          refine lv_goto (tgt := 102) hx hb dX6_listen_196 (by decide) ?_
                          exact ih102 x4_102 (x1_25 - ((Y_25.2 8) (x4_102).toNatClampNeg)) (x4_102 + (-1)) (k102 - 1) (dn_b e102 hk102 (by decide) c104).2.2 (by omega) (by have := (dn_b e102 hk102 (by decide) c104).1; omega) hσ _ _ _ hP hD hS (lv_sub hl [5, 6, 2, 1, 0] rfl)
                    · rw [if_neg c123] at hσ
                      refine lv_aload_n hx hb dX6_listen_126 rfl (lv_at hl 0 rfl) ?_
                      refine va_get (D := (dC, dI)) (ci := 6) (v := .ref (g 8)) (C := RX6) (T := TX6) (N := 15) hx hb hts (fun _ h => List.mem_cons_of_mem _ (List.mem_append_right _ h)) hown hK hP 0 rfl rfl 14 (by decide) (hts (.fieldLink RX6 35 "SharedLineModel" "second" "[I") (List.mem_of_getElem? (i := 1) rfl)) (fun _ h9 => h9) rfl dX6_listen_127 ?_
                      refine lv_iload hx hb dX6_listen_130 (lv_at hl 4 rfl) ?_
                      refine va_iald hx hb hK hP 9 0 rfl rfl (i := x4_102) (up_in (dn_b e102 hk102 (by decide) c104).2.1 (by have := (dn_b e102 hk102 (by decide) c104).1; omega) (by decide)) dX6_listen_132 ?_
                      refine lv_goto (tgt := 145) hx hb dX6_listen_133 (by decide) ?_
                      refine lv_istore (lv' := [(5, .int ((Y_25.2 8) (x4_102).toNatClampNeg)), (0, .ref h), (1, .int x1_25), (2, .int x2_102), (3, .int x3_102), (4, .int x4_102)]) hx hb dX6_listen_145 hl (by decide) rfl (fun ls hl => ?_)
                      refine lv_aload_n hx hb dX6_listen_147 rfl (lv_at hl 1 rfl) ?_
                      refine lv_iload hx hb dX6_listen_148 (lv_at hl 5 rfl) ?_
                      refine vq_Vi (As := [.int x4_102]) (rest := []) (W2 := (wM cI cZ h g Y_25)) (f := (bI (sX6_isNote Y_25 x4_102))) hx hb hml hown hts hK hP hD hS hA hE hl.1 (cX6_isNote_c l ev dC dI cI cZ cO h g Y_25 x4_102 T25) gX6_listen_X6_isNote rfl hdX6_isNote (Nat.le_of_ble_eq_true rfl) (Nat.le_of_ble_eq_true rfl) rfl rfl (ci := 6) (qr := 0) rfl rfl rfl [0, 1, 2, 3, 4, 5, 6, 7, 8, 9] [] [0, 1, 2, 3, 4, 5, 6, 7, 8, 9] rfl rfl (by decide) (by decide) (by decide) rfl rfl rfl (Nat.le_of_ble_eq_true rfl) dX6_listen_150 ⟨Nat.zero_le _, Nat.zero_le _⟩ (fun H locs hP hD hS => ?_)
                      refine lv_if_eqB (tgt := 166) hx hb dX6_listen_153 (by decide) (fun c153 => ?_) (fun c153 => ?_)
                      · rw [if_neg (Bool.eq_false_iff.mp c153)] at hσ
                        refine lv_iconst (v := 0) hx hb dX6_listen_166 (by decide) ?_
                        refine lv_istore (lv' := [(6, .int 0), (5, .int ((Y_25.2 8) (x4_102).toNatClampNeg)), (0, .ref h), (1, .int x1_25), (2, .int x2_102), (3, .int x3_102), (4, .int x4_102)]) hx hb dX6_listen_167 hl (by decide) rfl (fun ls hl => ?_)
                        refine lv_iload hx hb dX6_listen_169 (lv_at hl 0 rfl) ?_
                        refine lv_if_eq (tgt := 179) hx hb dX6_listen_171 (by decide) (fun c171 => ?_) (fun c171 => absurd c171 (by decide))
                        refine lv_iload_n hx hb dX6_listen_179 rfl (lv_at hl 4 rfl) ?_
                        refine lv_istore_n (lv' := [(2, .int x2_102), (6, .int 0), (5, .int ((Y_25.2 8) (x4_102).toNatClampNeg)), (0, .ref h), (1, .int x1_25), (3, .int x3_102), (4, .int x4_102)]) hx hb dX6_listen_180 rfl hl (by decide) rfl (fun ls hl => ?_)
                        refine lv_iload hx hb dX6_listen_181 (lv_at hl 1 rfl) ?_
                        refine lv_if_eq (tgt := 191) hx hb dX6_listen_183 (by decide) (fun c183 => ?_) (fun c183 => absurd c183 (by decide))
                        refine lv_iload_n hx hb dX6_listen_191 rfl (lv_at hl 5 rfl) ?_
                        refine lv_istore_n (lv' := [(3, .int x3_102), (2, .int x2_102), (6, .int 0), (5, .int ((Y_25.2 8) (x4_102).toNatClampNeg)), (0, .ref h), (1, .int x1_25), (4, .int x4_102)]) hx hb dX6_listen_192 rfl hl (by decide) rfl (fun ls hl => ?_)
                        refine lv_iinc (v := (x4_102 + (-1))) (lv' := [(4, .int (x4_102 + (-1))), (3, .int x3_102), (2, .int x2_102), (6, .int 0), (5, .int ((Y_25.2 8) (x4_102).toNatClampNeg)), (0, .ref h), (1, .int x1_25)]) hx hb dX6_listen_193 hl (k := 6) rfl rfl (by decide) rfl (fun ls hl => ?_)
                        refine lv_goto (tgt := 102) hx hb dX6_listen_196 (by decide) ?_
                        exact ih102 x2_102 x3_102 (x4_102 + (-1)) (k102 - 1) (dn_b e102 hk102 (by decide) c104).2.2 (by omega) (by have := (dn_b e102 hk102 (by decide) c104).1; omega) hσ _ _ _ hP hD hS (lv_sub hl [5, 6, 2, 1, 0] rfl)
                      · rw [if_pos c153] at hσ
                        refine lv_iload hx hb dX6_listen_156 (lv_at hl 0 rfl) ?_
                        refine lv_iload_n hx hb dX6_listen_158 rfl (lv_at hl 4 rfl) ?_
                        refine lv_icmp_gt (tgt := 166) hx hb dX6_listen_159 (by decide) (fun c159 => ?_) (fun c159 => ?_)
                        · rw [if_pos c159] at hσ
                          refine lv_iconst (v := 0) hx hb dX6_listen_166 (by decide) ?_
                          refine lv_istore (lv' := [(6, .int 0), (5, .int ((Y_25.2 8) (x4_102).toNatClampNeg)), (0, .ref h), (1, .int x1_25), (2, .int x2_102), (3, .int x3_102), (4, .int x4_102)]) hx hb dX6_listen_167 hl (by decide) rfl (fun ls hl => ?_)
                          refine lv_iload hx hb dX6_listen_169 (lv_at hl 0 rfl) ?_
                          refine lv_if_eq (tgt := 179) hx hb dX6_listen_171 (by decide) (fun c171 => ?_) (fun c171 => absurd c171 (by decide))
                          refine lv_iload_n hx hb dX6_listen_179 rfl (lv_at hl 4 rfl) ?_
                          refine lv_istore_n (lv' := [(2, .int x2_102), (6, .int 0), (5, .int ((Y_25.2 8) (x4_102).toNatClampNeg)), (0, .ref h), (1, .int x1_25), (3, .int x3_102), (4, .int x4_102)]) hx hb dX6_listen_180 rfl hl (by decide) rfl (fun ls hl => ?_)
                          refine lv_iload hx hb dX6_listen_181 (lv_at hl 1 rfl) ?_
                          refine lv_if_eq (tgt := 191) hx hb dX6_listen_183 (by decide) (fun c183 => ?_) (fun c183 => absurd c183 (by decide))
                          refine lv_iload_n hx hb dX6_listen_191 rfl (lv_at hl 5 rfl) ?_
                          refine lv_istore_n (lv' := [(3, .int x3_102), (2, .int x2_102), (6, .int 0), (5, .int ((Y_25.2 8) (x4_102).toNatClampNeg)), (0, .ref h), (1, .int x1_25), (4, .int x4_102)]) hx hb dX6_listen_192 rfl hl (by decide) rfl (fun ls hl => ?_)
                          refine lv_iinc (v := (x4_102 + (-1))) (lv' := [(4, .int (x4_102 + (-1))), (3, .int x3_102), (2, .int x2_102), (6, .int 0), (5, .int ((Y_25.2 8) (x4_102).toNatClampNeg)), (0, .ref h), (1, .int x1_25)]) hx hb dX6_listen_193 hl (k := 6) rfl rfl (by decide) rfl (fun ls hl => ?_)
                          refine lv_goto (tgt := 102) hx hb dX6_listen_196 (by decide) ?_
                          exact ih102 x2_102 x3_102 (x4_102 + (-1)) (k102 - 1) (dn_b e102 hk102 (by decide) c104).2.2 (by omega) (by have := (dn_b e102 hk102 (by decide) c104).1; omega) hσ _ _ _ hP hD hS (lv_sub hl [5, 6, 2, 1, 0] rfl)
                        · rw [if_neg c159] at hσ
                          refine lv_iconst (v := 1) hx hb dX6_listen_162 (by decide) ?_
                          refine lv_goto (tgt := 167) hx hb dX6_listen_163 (by decide) ?_
                          refine lv_istore (lv' := [(6, .int 1), (5, .int ((Y_25.2 8) (x4_102).toNatClampNeg)), (0, .ref h), (1, .int x1_25), (2, .int x2_102), (3, .int x3_102), (4, .int x4_102)]) hx hb dX6_listen_167 hl (by decide) rfl (fun ls hl => ?_)
                          refine lv_iload hx hb dX6_listen_169 (lv_at hl 0 rfl) ?_
                          refine lv_if_eq (tgt := 179) hx hb dX6_listen_171 (by decide) (fun c171 => absurd c171 (by decide)) (fun c171 => ?_)
                          refine lv_iload hx hb dX6_listen_174 (lv_at hl 6 rfl) ?_
                          refine lv_goto (tgt := 180) hx hb dX6_listen_176 (by decide) ?_
                          refine lv_istore_n (lv' := [(2, .int x4_102), (6, .int 1), (5, .int ((Y_25.2 8) (x4_102).toNatClampNeg)), (0, .ref h), (1, .int x1_25), (3, .int x3_102), (4, .int x4_102)]) hx hb dX6_listen_180 rfl hl (by decide) rfl (fun ls hl => ?_)
                          refine lv_iload hx hb dX6_listen_181 (lv_at hl 1 rfl) ?_
                          refine lv_if_eq (tgt := 191) hx hb dX6_listen_183 (by decide) (fun c183 => absurd c183 (by decide)) (fun c183 => ?_)
                          refine lv_iload hx hb dX6_listen_186 (lv_at hl 2 rfl) ?_
                          refine lv_goto (tgt := 192) hx hb dX6_listen_188 (by decide) ?_
                          refine lv_istore_n (lv' := [(3, .int ((Y_25.2 8) (x4_102).toNatClampNeg)), (2, .int x4_102), (6, .int 1), (5, .int ((Y_25.2 8) (x4_102).toNatClampNeg)), (0, .ref h), (1, .int x1_25), (4, .int x4_102)]) hx hb dX6_listen_192 rfl hl (by decide) rfl (fun ls hl => ?_)
                          refine lv_iinc (v := (x4_102 + (-1))) (lv' := [(4, .int (x4_102 + (-1))), (3, .int ((Y_25.2 8) (x4_102).toNatClampNeg)), (2, .int x4_102), (6, .int 1), (5, .int ((Y_25.2 8) (x4_102).toNatClampNeg)), (0, .ref h), (1, .int x1_25)]) hx hb dX6_listen_193 hl (k := 6) rfl rfl (by decide) rfl (fun ls hl => ?_)
                          refine lv_goto (tgt := 102) hx hb dX6_listen_196 (by decide) ?_
                          exact ih102 x4_102 ((Y_25.2 8) (x4_102).toNatClampNeg) (x4_102 + (-1)) (k102 - 1) (dn_b e102 hk102 (by decide) c104).2.2 (by omega) (by have := (dn_b e102 hk102 (by decide) c104).1; omega) hσ _ _ _ hP hD hS (lv_sub hl [5, 6, 2, 1, 0] rfl)
              exact key102 13 ((-9) : Int32) x1_25 (((Y_25.2 0) 0) - 1) T (by rw [eT]) hT2 (by omega) hσ _ _ _ hP hD hS (lv_sub hl [3, 4, 2, 1, 0] rfl)
            · rw [if_neg c29] at hσ
              refine lv_aload_n hx hb dX6_listen_32 rfl (lv_at hl 0 rfl) ?_
              refine lv_iload_n hx hb dX6_listen_33 rfl (lv_at hl 2 rfl) ?_
              refine vq_Vi (As := [.int x2_25]) (rest := []) (W2 := (wM cI cZ h g Y_25)) (f := (bI (sX6_isHeard Y_25 x2_25))) hx hb hml hown hts hK hP hD hS hA hE hl.1 (cX6_isHeard_c l ev dC dI cI cZ cO h g Y_25 x2_25 T25 q25) gX6_listen_X6_isHeard rfl hdX6_isHeard (Nat.le_of_ble_eq_true rfl) (Nat.le_of_ble_eq_true rfl) rfl rfl (ci := 6) (qr := 0) rfl rfl rfl [0, 1, 2, 3, 4, 5, 6, 7, 8, 9] [] [0, 1, 2, 3, 4, 5, 6, 7, 8, 9] rfl rfl (by decide) (by decide) (by decide) rfl rfl rfl (Nat.le_of_ble_eq_true rfl) dX6_listen_34 ⟨Nat.zero_le _, Nat.zero_le _⟩ (fun H locs hP hD hS => ?_)
              refine lv_if_eqB (tgt := 81) hx hb dX6_listen_37 (by decide) (fun c37 => ?_) (fun c37 => ?_)
              · rw [if_neg (Bool.eq_false_iff.mp c37)] at hσ
                refine lv_iinc (v := (x2_25 + 1)) (lv' := [(2, .int (x2_25 + 1)), (0, .ref h), (1, .int x1_25)]) hx hb dX6_listen_81 hl (k := 2) rfl rfl (by decide) rfl (fun ls hl => ?_)
                refine lv_goto (tgt := 25) hx hb dX6_listen_84 (by decide) ?_
                exact ih25 x1_25 (x2_25 + 1) Y_25 (k25 + 1) (up_s e25) (by have := up_lt e25 (show (128 : Int32) = nI 128 from rfl) (by omega) c29; omega) (by omega) (by first | exact T52 | exact T25) (by first | exact q52 | exact q25) hσ _ _ _ hP hD hS (lv_sub hl [1, 2, 0] rfl)
              · rw [if_pos c37] at hσ
                refine lv_iinc (v := (x1_25 + 1)) (lv' := [(1, .int (x1_25 + 1)), (0, .ref h), (2, .int x2_25)]) hx hb dX6_listen_40 hl (k := 1) rfl rfl (by decide) rfl (fun ls hl => ?_)
                refine lv_aload_n hx hb dX6_listen_43 rfl (lv_at hl 1 rfl) ?_
                refine lv_iload_n hx hb dX6_listen_44 rfl (lv_at hl 2 rfl) ?_
                refine vq_Vi (As := [.int x2_25]) (rest := []) (W2 := (wM cI cZ h g Y_25)) (f := (sX6_shareBy Y_25 x2_25)) hx hb hml hown hts hK hP hD hS hA hE hl.1 (cX6_shareBy_c l ev dC dI cI cZ cO h g Y_25 x2_25 T25) gX6_listen_X6_shareBy rfl hdX6_shareBy (Nat.le_of_ble_eq_true rfl) (Nat.le_of_ble_eq_true rfl) rfl rfl (ci := 6) (qr := 0) rfl rfl rfl [0, 1, 2, 3, 4, 5, 6, 7, 8, 9] [] [0, 1, 2, 3, 4, 5, 6, 7, 8, 9] rfl rfl (by decide) (by decide) (by decide) rfl rfl rfl (Nat.le_of_ble_eq_true rfl) dX6_listen_45 ⟨Nat.zero_le _, Nat.zero_le _⟩ (fun H locs hP hD hS => ?_)
                refine lv_istore_n (lv' := [(3, .int (sX6_shareBy Y_25 x2_25)), (1, .int (x1_25 + 1)), (0, .ref h), (2, .int x2_25)]) hx hb dX6_listen_48 rfl hl (by decide) rfl (fun ls hl => ?_)
                refine lv_iconst (v := 0) hx hb dX6_listen_49 (by decide) ?_
                refine lv_istore (lv' := [(4, .int 0), (3, .int (sX6_shareBy Y_25 x2_25)), (1, .int (x1_25 + 1)), (0, .ref h), (2, .int x2_25)]) hx hb dX6_listen_50 hl (by decide) rfl (fun ls hl => ?_)
                have key52 : ∀ (n52 : Nat) (x1_52 : Int32) (x3_52 : Int32) (x4_52 : Int32) (Y_52 : MSt) (k52 : Nat), (x4_52 = nI k52) → (k52 ≤ 12) → (12 + 1 ≤ n52 + k52) → (LOK Y_52) → (∃ q : Nat, Y_52.1 1 = nI q ∧ q ≤ 6) → (sX6_listen_L52 x2_25 (sX6_listen_L25  n25) n52 x1_52 x3_52 x4_52 Y_52) = σ → ∀ (H : Heap) (locs : List Loc) (ls : Array Slot), va_P (dC, dI) vwCl (wM cI cZ h g Y_52) H → va_D A (wM cI cZ h g Y_52) → va_S A s.heap H locs → lv_has ls 7 [(0, .ref h), (1, .int x1_52), (2, .int x2_25), (3, .int x3_52), (4, .int x4_52)] → W p l e (headSpec wsX6_listen (rmF 9 201)).room s m ([.ref h] : List Value).toArray below meth c H locs 0 0 (MQ below (va_Qi (fun (x : Int32) (_ : Unit) => x = σ.1) (fun _ t => PoW (dC, dI) (tyC cI cZ cO) A (wM cI cZ h g σ.2) t) A) ([.ref h] : List Value).toArray s 0 0 A) (F0 m 52 ls []) := by
                  intro n52
                  induction n52 with
                  | zero =>
                    intro x1_52 x3_52 x4_52 Y_52 k52 e52 hk52 hn52 T52 q52
                    exact absurd hn52 (by omega)
                  | succ n52 ih52 =>
                    intro x1_52 x3_52 x4_52 Y_52 k52 e52 hk52 hn52 T52 q52 hσ H locs ls hP hD hS hl
                    rw [sX6_listen_L52_s] at hσ
                    refine lv_iload hx hb dX6_listen_52 (lv_at hl 4 rfl) ?_
                    refine lv_bipush (v := 12) hx hb dX6_listen_54 (by decide) ?_
                    refine lv_icmp_ge (tgt := 81) hx hb dX6_listen_56 (by decide) (fun c56 => ?_) (fun c56 => ?_)
                    · rw [if_pos c56] at hσ
                      refine lv_iinc (v := (x2_25 + 1)) (lv' := [(2, .int (x2_25 + 1)), (0, .ref h), (1, .int x1_52), (3, .int x3_52), (4, .int x4_52)]) hx hb dX6_listen_81 hl (k := 2) rfl rfl (by decide) rfl (fun ls hl => ?_)
                      refine lv_goto (tgt := 25) hx hb dX6_listen_84 (by decide) ?_
                      exact ih25 x1_52 (x2_25 + 1) Y_52 (k25 + 1) (up_s e25) (by have := up_lt e25 (show (128 : Int32) = nI 128 from rfl) (by omega) c29; omega) (by omega) (by first | exact T52 | exact T25) (by first | exact q52 | exact q25) hσ _ _ _ hP hD hS (lv_sub hl [1, 2, 0] rfl)
                    · rw [if_neg c56] at hσ
                      refine lv_aload_n hx hb dX6_listen_59 rfl (lv_at hl 0 rfl) ?_
                      refine va_get (D := (dC, dI)) (ci := 6) (v := .ref (g 8)) (C := RX6) (T := TX6) (N := 15) hx hb hts (fun _ h => List.mem_cons_of_mem _ (List.mem_append_right _ h)) hown hK hP 0 rfl rfl 14 (by decide) (hts (.fieldLink RX6 35 "SharedLineModel" "second" "[I") (List.mem_of_getElem? (i := 1) rfl)) (fun _ h9 => h9) rfl dX6_listen_60 ?_
                      refine lv_iload hx hb dX6_listen_63 (lv_at hl 4 rfl) ?_
                      refine lv_dup2_11 hx hb dX6_listen_65 rfl rfl ?_
                      refine va_iald hx hb hK hP 9 0 rfl rfl (i := x4_52) (up_in e52 (up_lt e52 (show (12 : Int32) = nI 12 from rfl) (by omega) c56) (by decide)) dX6_listen_66 ?_
                      refine lv_iload_n hx hb dX6_listen_67 rfl (lv_at hl 3 rfl) ?_
                      refine lv_iload hx hb dX6_listen_68 (lv_at hl 4 rfl) ?_
                      refine lv_ishr hx hb dX6_listen_70 ?_
                      refine lv_iconst (v := 1) hx hb dX6_listen_71 (by decide) ?_
                      refine lv_iand hx hb dX6_listen_72 ?_
                      refine lv_iadd hx hb dX6_listen_73 ?_
                      refine va_iast hx hb hK hP hD hS 9 0 rfl rfl (i := x4_52) (up_in e52 (up_lt e52 (show (12 : Int32) = nI 12 from rfl) (by omega) c56) (by decide)) dX6_listen_74 (fun H locs hP hD hS => ?_)
                      have hP : va_P (dC, dI) vwCl (wM cI cZ h g (Y_52.1, (updR Y_52.2 8 (upd (Y_52.2 8) (x4_52).toNatClampNeg (((Y_52.2 8) (x4_52).toNatClampNeg) + ((x3_52 >>> (x4_52 &&& 31)) &&& 1)))))) H := hP
                      have hD : va_D A (wM cI cZ h g (Y_52.1, (updR Y_52.2 8 (upd (Y_52.2 8) (x4_52).toNatClampNeg (((Y_52.2 8) (x4_52).toNatClampNeg) + ((x3_52 >>> (x4_52 &&& 31)) &&& 1)))))) := hD
                      refine lv_iinc (v := (x4_52 + 1)) (lv' := [(4, .int (x4_52 + 1)), (0, .ref h), (1, .int x1_52), (2, .int x2_25), (3, .int x3_52)]) hx hb dX6_listen_75 hl (k := 4) rfl rfl (by decide) rfl (fun ls hl => ?_)
                      refine lv_goto (tgt := 52) hx hb dX6_listen_78 (by decide) ?_
                      exact ih52 x1_52 x3_52 (x4_52 + 1) (Y_52.1, (updR Y_52.2 8 (upd (Y_52.2 8) (x4_52).toNatClampNeg (((Y_52.2 8) (x4_52).toNatClampNeg) + ((x3_52 >>> (x4_52 &&& 31)) &&& 1))))) (k52 + 1) (up_s e52) (by have := up_lt e52 (show (12 : Int32) = nI 12 from rfl) (by omega) c56; omega) (by omega) T52 q52 hσ _ _ _ hP hD hS (lv_sub hl [1, 2, 3, 4, 0] rfl)
                exact key52 13 (x1_25 + 1) (sX6_shareBy Y_25 x2_25) (0 : Int32) Y_25 0 nI_0.symm (Nat.zero_le _) (Nat.le_refl _) T25 q25 hσ _ _ _ hP hD hS (lv_sub hl [3, 2, 4, 1, 0] rfl)
        exact key25 129 (0 : Int32) (0 : Int32) Y_4 0 nI_0.symm (Nat.zero_le _) (Nat.le_refl _) T4 q4 hσ _ _ _ hP hD hS (lv_sub hl [1, 2, 0] rfl)
      · rw [if_neg c7] at hσ
        refine lv_aload_n hx hb dX6_listen_10 rfl (lv_at hl 0 rfl) ?_
        refine va_get (D := (dC, dI)) (ci := 6) (v := .ref (g 8)) (C := RX6) (T := TX6) (N := 15) hx hb hts (fun _ h => List.mem_cons_of_mem _ (List.mem_append_right _ h)) hown hK hP 0 rfl rfl 14 (by decide) (hts (.fieldLink RX6 35 "SharedLineModel" "second" "[I") (List.mem_of_getElem? (i := 1) rfl)) (fun _ h9 => h9) rfl dX6_listen_11 ?_
        refine lv_iload_n hx hb dX6_listen_14 rfl (lv_at hl 2 rfl) ?_
        refine lv_iconst (v := 0) hx hb dX6_listen_15 (by decide) ?_
        refine va_iast hx hb hK hP hD hS 9 0 rfl rfl (i := x2_4) (up_in e4 (up_lt e4 (show (12 : Int32) = nI 12 from rfl) (by omega) c7) (by decide)) dX6_listen_16 (fun H locs hP hD hS => ?_)
        have hP : va_P (dC, dI) vwCl (wM cI cZ h g (Y_4.1, (updR Y_4.2 8 (upd (Y_4.2 8) (x2_4).toNatClampNeg 0)))) H := hP
        have hD : va_D A (wM cI cZ h g (Y_4.1, (updR Y_4.2 8 (upd (Y_4.2 8) (x2_4).toNatClampNeg 0)))) := hD
        refine lv_iinc (v := (x2_4 + 1)) (lv' := [(2, .int (x2_4 + 1)), (0, .ref h), (1, .int 0)]) hx hb dX6_listen_17 hl (k := 2) rfl rfl (by decide) rfl (fun ls hl => ?_)
        refine lv_goto (tgt := 4) hx hb dX6_listen_20 (by decide) ?_
        exact ih4 (x2_4 + 1) (Y_4.1, (updR Y_4.2 8 (upd (Y_4.2 8) (x2_4).toNatClampNeg 0))) (k4 + 1) (up_s e4) (by have := up_lt e4 (show (12 : Int32) = nI 12 from rfl) (by omega) c7; omega) (by omega) T4 q4 hσ _ _ _ hP hD hS (lv_sub hl [1, 2, 0] rfl)
  exact key4 13 (0 : Int32) S 0 nI_0.symm (Nat.zero_le _) (Nat.le_refl _) hT hSe hσ _ _ _ hP hD hS (lv_sub hl [2, 1, 0] rfl)
