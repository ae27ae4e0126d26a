theorem hdX6_readsLine : yX6_readsLine.cls = RX6 ∧ yX6_readsLine.cls ≠ "java/lang/invoke/MethodHandle" ∧ yX6_readsLine.cls ≠ "java/lang/invoke/VarHandle" ∧ (parseMethodDescriptor yX6_readsLine.desc).map (fun d => d.parameters.length) = some 0 := by decide +kernel
set_option maxHeartbeats 4000000 in
set_option maxRecDepth 100000 in
theorem cX6_readsLine_c (l : Launch) (ev : Nat → Nat) (dC : Nat → ClassId) (dI : Nat → Nat → Nat) (cI cZ cO : ClassId) (h : Nat) (g : Nat → Nat) (S : MSt) (hX : ∃ n a : Nat, S.1 2 = nI n ∧ n ≤ 120 ∧ S.1 3 = nI a ∧ a ≤ n) : MetI l ev (dC, dI) (tyC cI cZ cO) yX6_readsLine wsX6_readsLine (rmF 3 66) [.ref h] (wM cI cZ h g S) (bI (sX6_readsLine S).1) (wM cI cZ h g (sX6_readsLine S).2) := by
  refine MetI_of (cc := cX6_readsLine) (maxL := 3) (ret := (some .boolean)) (by decide) rfl (Nat.le_of_ble_eq_true rfl) ?_
  intro p e s m below meth c A ls hx hb hr hml hts hown hlocks hin hK hP hD hA hE hl
  have hown : s.vm.findClass RX6 = some m.cls := hown
  have hl : lv_has ls 3 [(0, .ref h)] := hl
  have hS : va_S A s.heap s.heap [] := va_S.rf
  obtain ⟨σ, hσ⟩ : ∃ σ, (sX6_readsLine S) = σ := ⟨_, rfl⟩
  rw [hσ]
  rw [sX6_readsLine] at hσ
  refine lv_aload_n hx hb dX6_readsLine_0 rfl (lv_at hl 0 rfl) ?_
  refine va_get (D := (dC, dI)) (ci := 6) (v := .ref (g 1)) (C := RX6) (T := TX6) (N := 15) hx hb hts (fun _ h => List.mem_cons_of_mem _ (List.mem_append_right _ h)) hown hK hP 0 rfl rfl 1 (by decide) (hts (.fieldLink RX6 13 "SharedLineModel" "fresh" "[I") (List.mem_of_getElem? (i := 1) rfl)) (fun _ h9 => h9) rfl dX6_readsLine_1 ?_
  refine lv_iconst (v := 0) hx hb dX6_readsLine_4 (by decide) ?_
  refine vq_ialdK (k := 0) hx hb hK hP 2 0 rfl rfl (by decide) (by decide) (by decide) dX6_readsLine_5 ?_
  refine lv_if_le (tgt := 13) hx hb dX6_readsLine_6 (by decide) (fun c6 => ?_) (fun c6 => ?_)
  · rw [if_pos c6] at hσ
    refine lv_aload_n hx hb dX6_readsLine_13 rfl (lv_at hl 0 rfl) ?_
    refine lv_bipush (v := 7) hx hb dX6_readsLine_14 (by decide) ?_
    refine vq_Vi (As := [.int 7]) (rest := []) (W2 := (wM cI cZ h g (sX6_figures S (7 : Int32)).2)) (f := (sX6_figures S (7 : Int32)).1) hx hb hml hown hts hK hP hD hS hA hE hl.1 (cX6_figures_c l ev dC dI cI cZ cO h g S (7 : Int32) hX) gX6_readsLine_X6_figures rfl hdX6_figures (Nat.le_of_ble_eq_true rfl) (Nat.le_of_ble_eq_true rfl) rfl rfl (ci := 6) (qr := 0) rfl rfl rfl [0, 1, 2, 3, 4, 5, 6, 7, 8, 9] [] [0, 1, 2, 3, 4, 5, 6, 7, 8, 9] rfl rfl (by decide) (by decide) (by decide) rfl rfl rfl (Nat.le_of_ble_eq_true rfl) dX6_readsLine_16 ⟨Nat.zero_le _, Nat.zero_le _⟩ (fun H locs hP hD hS => ?_)
    refine lv_istore_n (lv' := [(1, .int (sX6_figures S (7 : Int32)).1), (0, .ref h)]) hx hb dX6_readsLine_19 rfl hl (by decide) rfl (fun ls hl => ?_)
    refine lv_iload_n hx hb dX6_readsLine_20 rfl (lv_at hl 0 rfl) ?_
    refine lv_iconst (v := 1) hx hb dX6_readsLine_21 (by decide) ?_
    refine lv_bipush (v := 12) hx hb dX6_readsLine_22 (by decide) ?_
    refine vq_Si (As := [.int (sX6_figures S (7 : Int32)).1, .int 1, .int 12]) (rest := []) (W2 := (wM cI cZ h g (sX6_figures S (7 : Int32)).2)) (f := (bI (sX6_within (sX6_figures S (7 : Int32)).1 (1 : Int32) (12 : Int32)))) hx hb hml hown hts hK hP hD hS hA hE hl.1 (cX6_within_c l ev dC dI cI cZ cO (sX6_figures S (7 : Int32)).1 (1 : Int32) (12 : Int32)) gX6_readsLine_X6_within rfl hdX6_within (Nat.le_of_ble_eq_true rfl) (Nat.le_of_ble_eq_true rfl) rfl rfl [] [0, 1, 2, 3, 4, 5, 6, 7, 8, 9] [0, 1, 2, 3, 4, 5, 6, 7, 8, 9] rfl rfl (by decide) (by decide) (by decide) rfl rfl rfl (Nat.le_of_ble_eq_true rfl) dX6_readsLine_24 ⟨Nat.zero_le _, Nat.zero_le _⟩ (fun H locs hP hD hS => ?_)
    refine lv_if_neB (tgt := 32) hx hb dX6_readsLine_27 (by decide) (fun c27 => ?_) (fun c27 => ?_)
    · rw [if_pos c27] at hσ
      refine lv_aload_n hx hb dX6_readsLine_32 rfl (lv_at hl 1 rfl) ?_
      refine va_get (D := (dC, dI)) (ci := 6) (v := .ref (g 1)) (C := RX6) (T := TX6) (N := 15) hx hb hts (fun _ h => List.mem_cons_of_mem _ (List.mem_append_right _ h)) hown hK hP 0 rfl rfl 1 (by decide) (hts (.fieldLink RX6 13 "SharedLineModel" "fresh" "[I") (List.mem_of_getElem? (i := 1) rfl)) (fun _ h9 => h9) rfl dX6_readsLine_33 ?_
      refine lv_iconst (v := 0) hx hb dX6_readsLine_36 (by decide) ?_
      refine lv_iload_n hx hb dX6_readsLine_37 rfl (lv_at hl 0 rfl) ?_
      refine vq_iastK (k := 0) hx hb hK hP hD hS 2 0 rfl rfl (by decide) (by decide) (by decide) dX6_readsLine_38 (fun H locs hP hD hS => ?_)
      have hP : va_P (dC, dI) vwCl (wM cI cZ h g ((sX6_figures S (7 : Int32)).2.1, (updR (sX6_figures S (7 : Int32)).2.2 1 (upd ((sX6_figures S (7 : Int32)).2.2 1) 0 (sX6_figures S (7 : Int32)).1)))) H := hP
      have hD : va_D A (wM cI cZ h g ((sX6_figures S (7 : Int32)).2.1, (updR (sX6_figures S (7 : Int32)).2.2 1 (upd ((sX6_figures S (7 : Int32)).2.2 1) 0 (sX6_figures S (7 : Int32)).1)))) := hD
      refine lv_iconst (v := 0) hx hb dX6_readsLine_39 (by decide) ?_
      refine lv_istore_n (lv' := [(2, .int 0), (1, .int (sX6_figures S (7 : Int32)).1), (0, .ref h)]) hx hb dX6_readsLine_40 rfl hl (by decide) rfl (fun ls hl => ?_)
      obtain ⟨w, mk, ew, hw, emk, hmk⟩ := fg_w 7 hX c27
      have key41 : ∀ (n41 : Nat) (x1_41 : Int32) (x2_41 : Int32) (Y_41 : MSt) (k41 : Nat), (x2_41 = nI k41) → (k41 ≤ 12) → (12 + 1 ≤ n41 + k41) → (x1_41 = nI w) → (Y_41.1 4 = nI mk) → (sX6_readsLine_L41  n41 x1_41 x2_41 Y_41) = σ → ∀ (H : Heap) (locs : List Loc) (ls : Array Slot), va_P (dC, dI) vwCl (wM cI cZ h g Y_41) H → va_D A (wM cI cZ h g Y_41) → va_S A s.heap H locs → lv_has ls 3 [(0, .ref h), (1, .int x1_41), (2, .int x2_41)] → W p l e (headSpec wsX6_readsLine (rmF 3 66)).room s m ([.ref h] : List Value).toArray below meth c H locs 0 0 (MQ below (va_Qi (fun (x : Int32) (_ : Unit) => x = bI σ.1) (fun _ t => PoW (dC, dI) (tyC cI cZ cO) A (wM cI cZ h g σ.2) t) A) ([.ref h] : List Value).toArray s 0 0 A) (F0 m 41 ls []) := by
        intro n41
        induction n41 with
        | zero =>
          intro x1_41 x2_41 Y_41 k41 e41 hk41 hn41 w41 m41
          exact absurd hn41 (by omega)
        | succ n41 ih41 =>
          intro x1_41 x2_41 Y_41 k41 e41 hk41 hn41 w41 m41 hσ H locs ls hP hD hS hl
          rw [sX6_readsLine_L41_s] at hσ
          refine lv_iload_n hx hb dX6_readsLine_41 rfl (lv_at hl 2 rfl) ?_
          refine lv_iload_n hx hb dX6_readsLine_42 rfl (lv_at hl 1 rfl) ?_
          refine lv_icmp_ge (tgt := 74) hx hb dX6_readsLine_43 (by decide) (fun c43 => ?_) (fun c43 => ?_)
          · rw [if_pos c43] at hσ
            refine lv_iconst (v := 1) hx hb dX6_readsLine_74 (by decide) ?_
            subst hσ
            try dsimp only
            exact vq_zret hx hb hr hlocks hK hP hD hS rfl rfl dX6_readsLine_75
          · rw [if_neg c43] at hσ
            refine lv_aload_n hx hb dX6_readsLine_46 rfl (lv_at hl 0 rfl) ?_
            refine va_get (D := (dC, dI)) (ci := 6) (v := .ref (g 1)) (C := RX6) (T := TX6) (N := 15) hx hb hts (fun _ h => List.mem_cons_of_mem _ (List.mem_append_right _ h)) hown hK hP 0 rfl rfl 1 (by decide) (hts (.fieldLink RX6 13 "SharedLineModel" "fresh" "[I") (List.mem_of_getElem? (i := 1) rfl)) (fun _ h9 => h9) rfl dX6_readsLine_47 ?_
            refine lv_iconst (v := 4) hx hb dX6_readsLine_50 (by decide) ?_
            refine lv_iload_n hx hb dX6_readsLine_51 rfl (lv_at hl 2 rfl) ?_
            refine lv_iadd hx hb dX6_readsLine_52 ?_
            refine lv_aload_n hx hb dX6_readsLine_53 rfl (lv_at hl 0 rfl) ?_
            refine va_get (D := (dC, dI)) (ci := 6) (v := .ref (g 7)) (C := RX6) (T := TX6) (N := 15) hx hb hts (fun _ h => List.mem_cons_of_mem _ (List.mem_append_right _ h)) hown hK hP 0 rfl rfl 9 (by decide) (hts (.fieldLink RX6 32 "SharedLineModel" "text" "[I") (List.mem_of_getElem? (i := 2) rfl)) (fun _ h9 => h9) rfl dX6_readsLine_54 ?_
            refine lv_aload_n hx hb dX6_readsLine_57 rfl (lv_at hl 0 rfl) ?_
            refine va_get (D := (dC, dI)) (ci := 6) (v := .int (Y_41.1 4)) (C := RX6) (T := TX6) (N := 15) hx hb hts (fun _ h => List.mem_cons_of_mem _ (List.mem_append_right _ h)) hown hK hP 0 rfl rfl 12 (by decide) (hts (.fieldLink RX6 49 "SharedLineModel" "mark" "I") (List.mem_of_getElem? (i := 3) rfl)) (fun _ h9 => h9) rfl dX6_readsLine_58 ?_
            refine lv_iload_n hx hb dX6_readsLine_61 rfl (lv_at hl 2 rfl) ?_
            refine lv_iadd hx hb dX6_readsLine_62 ?_
            refine va_iald hx hb hK hP 8 0 rfl rfl (i := ((Y_41.1 4) + x2_41)) (mk_ix m41 e41 (by have := (up_lt e41 w41 (by omega) c43); omega)) dX6_readsLine_63 ?_
            refine lv_bipush (v := 48) hx hb dX6_readsLine_64 (by decide) ?_
            refine lv_isub hx hb dX6_readsLine_66 ?_
            refine va_iast hx hb hK hP hD hS 2 0 rfl rfl (i := ((4 : Int32) + x2_41)) (p4_ix e41 (by have := (up_lt e41 w41 (by omega) c43); omega)) dX6_readsLine_67 (fun H locs hP hD hS => ?_)
            have hP : va_P (dC, dI) vwCl (wM cI cZ h g (Y_41.1, (updR Y_41.2 1 (upd (Y_41.2 1) (((4 : Int32) + x2_41)).toNatClampNeg (((Y_41.2 7) (((Y_41.1 4) + x2_41)).toNatClampNeg) - 48))))) H := hP
            have hD : va_D A (wM cI cZ h g (Y_41.1, (updR Y_41.2 1 (upd (Y_41.2 1) (((4 : Int32) + x2_41)).toNatClampNeg (((Y_41.2 7) (((Y_41.1 4) + x2_41)).toNatClampNeg) - 48))))) := hD
            refine lv_iinc (v := (x2_41 + 1)) (lv' := [(2, .int (x2_41 + 1)), (0, .ref h), (1, .int x1_41)]) hx hb dX6_readsLine_68 hl (k := 2) rfl rfl (by decide) rfl (fun ls hl => ?_)
            refine lv_goto (tgt := 41) hx hb dX6_readsLine_71 (by decide) ?_
            exact ih41 x1_41 (x2_41 + 1) (Y_41.1, (updR Y_41.2 1 (upd (Y_41.2 1) (((4 : Int32) + x2_41)).toNatClampNeg (((Y_41.2 7) (((Y_41.1 4) + x2_41)).toNatClampNeg) - 48)))) (k41 + 1) (up_s e41) (by have := up_lt e41 w41 (by omega) c43; omega) (by omega) w41 m41 hσ _ _ _ hP hD hS (lv_sub hl [1, 2, 0] rfl)
      exact key41 13 (sX6_figures S (7 : Int32)).1 (0 : Int32) ((sX6_figures S (7 : Int32)).2.1, (updR (sX6_figures S (7 : Int32)).2.2 1 (upd ((sX6_figures S (7 : Int32)).2.2 1) 0 (sX6_figures S (7 : Int32)).1))) 0 nI_0.symm (Nat.zero_le _) (Nat.le_refl _) ew emk hσ _ _ _ hP hD hS (lv_sub hl [2, 1, 0] rfl)
    · rw [if_neg (Bool.eq_false_iff.mp c27)] at hσ
      refine lv_iconst (v := 0) hx hb dX6_readsLine_30 (by decide) ?_
      subst hσ
      try dsimp only
      exact vq_zret hx hb hr hlocks hK hP hD hS rfl rfl dX6_readsLine_31
  · rw [if_neg c6] at hσ
    refine lv_iconst (v := (-1)) hx hb dX6_readsLine_9 (by decide) ?_
    refine lv_goto (tgt := 19) hx hb dX6_readsLine_10 (by decide) ?_
    refine lv_istore_n (lv' := [(1, .int (-1)), (0, .ref h)]) hx hb dX6_readsLine_19 rfl hl (by decide) rfl (fun ls hl => ?_)
    refine lv_iload_n hx hb dX6_readsLine_20 rfl (lv_at hl 0 rfl) ?_
    refine lv_iconst (v := 1) hx hb dX6_readsLine_21 (by decide) ?_
    refine lv_bipush (v := 12) hx hb dX6_readsLine_22 (by decide) ?_
    refine vq_Si (As := [.int (-1), .int 1, .int 12]) (rest := []) (W2 := (wM cI cZ h g S)) (f := (bI (sX6_within ((-1) : Int32) (1 : Int32) (12 : Int32)))) hx hb hml hown hts hK hP hD hS hA hE hl.1 (cX6_within_c l ev dC dI cI cZ cO ((-1) : Int32) (1 : Int32) (12 : Int32)) gX6_readsLine_X6_within rfl hdX6_within (Nat.le_of_ble_eq_true rfl) (Nat.le_of_ble_eq_true rfl) rfl rfl [] [0, 1, 2, 3, 4, 5, 6, 7, 8, 9] [0, 1, 2, 3, 4, 5, 6, 7, 8, 9] rfl rfl (by decide) (by decide) (by decide) rfl rfl rfl (Nat.le_of_ble_eq_true rfl) dX6_readsLine_24 ⟨Nat.zero_le _, Nat.zero_le _⟩ (fun H locs hP hD hS => ?_)
    refine lv_if_neB (tgt := 32) hx hb dX6_readsLine_27 (by decide) (fun c27 => absurd c27 (by decide)) (fun c27 => ?_)
    refine lv_iconst (v := 0) hx hb dX6_readsLine_30 (by decide) ?_
    subst hσ
    try dsimp only
    exact vq_zret hx hb hr hlocks hK hP hD hS rfl rfl dX6_readsLine_31
theorem hdX6_readsHands : yX6_readsHands.cls = RX6 ∧ yX6_readsHands.cls ≠ "java/lang/invoke/MethodHandle" ∧ yX6_readsHands.cls ≠ "java/lang/invoke/VarHandle" ∧ (parseMethodDescriptor yX6_readsHands.desc).map (fun d => d.parameters.length) = some 0 := by decide +kernel
set_option maxHeartbeats 4000000 in
set_option maxRecDepth 100000 in
theorem cX6_readsHands_c (l : Launch) (ev : Nat → Nat) (dC : Nat → ClassId) (dI : Nat → Nat → Nat) (cI cZ cO : ClassId) (h : Nat) (g : Nat → Nat) (S : MSt) (hX : ∃ n a : Nat, S.1 2 = nI n ∧ n ≤ 120 ∧ S.1 3 = nI a ∧ a ≤ n) (hF : ∃ T : Nat, S.2 1 0 = nI T ∧ T ≤ 12) : MetI l ev (dC, dI) (tyC cI cZ cO) yX6_readsHands wsX6_readsHands (rmF 3 66) [.ref h] (wM cI cZ h g S) (bI (sX6_readsHands S).1) (wM cI cZ h g (sX6_readsHands S).2) := by
  refine MetI_of (cc := cX6_readsHands) (maxL := 2) (ret := (some .boolean)) (by decide) rfl (Nat.le_of_ble_eq_true rfl) ?_
  intro p e s m below meth c A ls hx hb hr hml hts hown hlocks hin hK hP hD hA hE hl
  have hown : s.vm.findClass RX6 = some m.cls := hown
  have hl : lv_has ls 2 [(0, .ref h)] := hl
  have hS : va_S A s.heap s.heap [] := va_S.rf
  obtain ⟨σ, hσ⟩ : ∃ σ, (sX6_readsHands S) = σ := ⟨_, rfl⟩
  rw [hσ]
  rw [sX6_readsHands] at hσ
  refine lv_aload_n hx hb dX6_readsHands_0 rfl (lv_at hl 0 rfl) ?_
  refine va_get (D := (dC, dI)) (ci := 6) (v := .int (S.1 5)) (C := RX6) (T := TX6) (N := 15) hx hb hts (fun _ h => List.mem_cons_of_mem _ (List.mem_append_right _ h)) hown hK hP 0 rfl rfl 13 (by decide) (hts (.fieldLink RX6 67 "SharedLineModel" "hasHands" "Z") (List.mem_of_getElem? (i := 1) rfl)) (fun _ h9 => h9) rfl dX6_readsHands_1 ?_
  refine lv_if_ne (tgt := 30) hx hb dX6_readsHands_4 (by decide) (fun c4 => ?_) (fun c4 => ?_)
  · rw [if_neg c4] at hσ
    refine lv_iconst (v := 0) hx hb dX6_readsHands_30 (by decide) ?_
    subst hσ
    try dsimp only
    exact vq_zret hx hb hr hlocks hK hP hD hS rfl rfl dX6_readsHands_31
  · rw [if_pos c4] at hσ
    refine lv_aload_n hx hb dX6_readsHands_7 rfl (lv_at hl 0 rfl) ?_
    refine va_get (D := (dC, dI)) (ci := 6) (v := .ref (g 1)) (C := RX6) (T := TX6) (N := 15) hx hb hts (fun _ h => List.mem_cons_of_mem _ (List.mem_append_right _ h)) hown hK hP 0 rfl rfl 1 (by decide) (hts (.fieldLink RX6 13 "SharedLineModel" "fresh" "[I") (List.mem_of_getElem? (i := 2) rfl)) (fun _ h9 => h9) rfl dX6_readsHands_8 ?_
    refine lv_iconst (v := 0) hx hb dX6_readsHands_11 (by decide) ?_
    refine vq_ialdK (k := 0) hx hb hK hP 2 0 rfl rfl (by decide) (by decide) (by decide) dX6_readsHands_12 ?_
    refine lv_if_eq (tgt := 30) hx hb dX6_readsHands_13 (by decide) (fun c13 => ?_) (fun c13 => ?_)
    · rw [if_pos c13] at hσ
      refine lv_iconst (v := 0) hx hb dX6_readsHands_30 (by decide) ?_
      subst hσ
      try dsimp only
      exact vq_zret hx hb hr hlocks hK hP hD hS rfl rfl dX6_readsHands_31
    · rw [if_neg c13] at hσ
      refine lv_aload_n hx hb dX6_readsHands_16 rfl (lv_at hl 0 rfl) ?_
      refine lv_iconst (v := 1) hx hb dX6_readsHands_17 (by decide) ?_
      refine vq_Vi (As := [.int 1]) (rest := []) (W2 := (wM cI cZ h g (sX6_figures S (1 : Int32)).2)) (f := (sX6_figures S (1 : Int32)).1) hx hb hml hown hts hK hP hD hS hA hE hl.1 (cX6_figures_c l ev dC dI cI cZ cO h g S (1 : Int32) hX) gX6_readsHands_X6_figures rfl hdX6_figures (Nat.le_of_ble_eq_true rfl) (Nat.le_of_ble_eq_true rfl) rfl rfl (ci := 6) (qr := 0) rfl rfl rfl [0, 1, 2, 3, 4, 5, 6, 7, 8, 9] [] [0, 1, 2, 3, 4, 5, 6, 7, 8, 9] rfl rfl (by decide) (by decide) (by decide) rfl rfl rfl (Nat.le_of_ble_eq_true rfl) dX6_readsHands_18 ⟨Nat.zero_le _, Nat.zero_le _⟩ (fun H locs hP hD hS => ?_)
      refine lv_aload_n hx hb dX6_readsHands_21 rfl (lv_at hl 0 rfl) ?_
      refine va_get (D := (dC, dI)) (ci := 6) (v := .ref (g 1)) (C := RX6) (T := TX6) (N := 15) hx hb hts (fun _ h => List.mem_cons_of_mem _ (List.mem_append_right _ h)) hown hK hP 0 rfl rfl 1 (by decide) (hts (.fieldLink RX6 13 "SharedLineModel" "fresh" "[I") (List.mem_of_getElem? (i := 2) rfl)) (fun _ h9 => h9) rfl dX6_readsHands_22 ?_
      refine lv_iconst (v := 0) hx hb dX6_readsHands_25 (by decide) ?_
      refine vq_ialdK (k := 0) hx hb hK hP 2 0 rfl rfl (by decide) (by decide) (by decide) dX6_readsHands_26 ?_
      refine lv_icmp_eq (tgt := 32) hx hb dX6_readsHands_27 (by decide) (fun c27 => ?_) (fun c27 => ?_)
      · rw [if_pos c27] at hσ
        refine lv_aload_n hx hb dX6_readsHands_32 rfl (lv_at hl 0 rfl) ?_
        refine lv_iconst (v := 1) hx hb dX6_readsHands_33 (by decide) ?_
        refine va_put (D := (dC, dI)) (ci := 6) (v := .int 1) (ty := .boolean) (C := RX6) (T := TX6) (N := 15) hx hb hts (fun _ h => List.mem_cons_of_mem _ (List.mem_append_right _ h)) tyX6 tyX6_ok nmX6 hown hK hP hD hS 0 rfl rfl 13 (by decide) (hts (.fieldLink RX6 67 "SharedLineModel" "hasHands" "Z") (List.mem_of_getElem? (i := 1) rfl)) (fun _ h9 => h9) rfl (tyX6_ok 13 (by decide)) rfl rfl (Nat.le_of_ble_eq_true rfl) dX6_readsHands_34 (fun H locs hP hD hS => ?_)
        have hP : va_P (dC, dI) vwCl (wM cI cZ h g ((upd (sX6_figures S (1 : Int32)).2.1 5 1), (sX6_figures S (1 : Int32)).2.2)) H := hP
        have hD : va_D A (wM cI cZ h g ((upd (sX6_figures S (1 : Int32)).2.1 5 1), (sX6_figures S (1 : Int32)).2.2)) := hD
        refine lv_iconst (v := 0) hx hb dX6_readsHands_37 (by decide) ?_
        refine lv_istore_n (lv' := [(1, .int 0), (0, .ref h)]) hx hb dX6_readsHands_38 rfl hl (by decide) rfl (fun ls hl => ?_)
        obtain ⟨T, mk, eT, hT, emk, hmk⟩ := rh_w hX hF c27
        have key39 : ∀ (n39 : Nat) (x1_39 : Int32) (Y_39 : MSt) (k39 : Nat), (x1_39 = nI k39) → (k39 ≤ 12) → (12 + 1 ≤ n39 + k39) → ((Y_39.2 1) 0 = nI T) → (Y_39.1 4 = nI mk) → (sX6_readsHands_L39  n39 x1_39 Y_39) = σ → ∀ (H : Heap) (locs : List Loc) (ls : Array Slot), va_P (dC, dI) vwCl (wM cI cZ h g Y_39) H → va_D A (wM cI cZ h g Y_39) → va_S A s.heap H locs → lv_has ls 2 [(0, .ref h), (1, .int x1_39)] → W p l e (headSpec wsX6_readsHands (rmF 3 66)).room s m ([.ref h] : List Value).toArray below meth c H locs 0 0 (MQ below (va_Qi (fun (x : Int32) (_ : Unit) => x = bI σ.1) (fun _ t => PoW (dC, dI) (tyC cI cZ cO) A (wM cI cZ h g σ.2) t) A) ([.ref h] : List Value).toArray s 0 0 A) (F0 m 39 ls []) := by
          intro n39
          induction n39 with
          | zero =>
            intro x1_39 Y_39 k39 e39 hk39 hn39 w39 m39
            exact absurd hn39 (by omega)
          | succ n39 ih39 =>
            intro x1_39 Y_39 k39 e39 hk39 hn39 w39 m39 hσ H locs ls hP hD hS hl
            rw [sX6_readsHands_L39_s] at hσ
            refine lv_iload_n hx hb dX6_readsHands_39 rfl (lv_at hl 1 rfl) ?_
            refine lv_aload_n hx hb dX6_readsHands_40 rfl (lv_at hl 0 rfl) ?_
            refine va_get (D := (dC, dI)) (ci := 6) (v := .ref (g 1)) (C := RX6) (T := TX6) (N := 15) hx hb hts (fun _ h => List.mem_cons_of_mem _ (List.mem_append_right _ h)) hown hK hP 0 rfl rfl 1 (by decide) (hts (.fieldLink RX6 13 "SharedLineModel" "fresh" "[I") (List.mem_of_getElem? (i := 2) rfl)) (fun _ h9 => h9) rfl dX6_readsHands_41 ?_
            refine lv_iconst (v := 0) hx hb dX6_readsHands_44 (by decide) ?_
            refine vq_ialdK (k := 0) hx hb hK hP 2 0 rfl rfl (by decide) (by decide) (by decide) dX6_readsHands_45 ?_
            refine lv_icmp_ge (tgt := 99) hx hb dX6_readsHands_46 (by decide) (fun c46 => ?_) (fun c46 => ?_)
            · rw [if_pos c46] at hσ
              refine lv_iconst (v := 1) hx hb dX6_readsHands_99 (by decide) ?_
              subst hσ
              try dsimp only
              exact vq_zret hx hb hr hlocks hK hP hD hS rfl rfl dX6_readsHands_100
            · rw [if_neg c46] at hσ
              refine lv_aload_n hx hb dX6_readsHands_49 rfl (lv_at hl 0 rfl) ?_
              refine va_get (D := (dC, dI)) (ci := 6) (v := .ref (g 1)) (C := RX6) (T := TX6) (N := 15) hx hb hts (fun _ h => List.mem_cons_of_mem _ (List.mem_append_right _ h)) hown hK hP 0 rfl rfl 1 (by decide) (hts (.fieldLink RX6 13 "SharedLineModel" "fresh" "[I") (List.mem_of_getElem? (i := 2) rfl)) (fun _ h9 => h9) rfl dX6_readsHands_50 ?_
              refine lv_bipush (v := 16) hx hb dX6_readsHands_53 (by decide) ?_
              refine lv_dup2_11 hx hb dX6_readsHands_55 rfl rfl ?_
              refine vq_ialdK (k := 16) hx hb hK hP 2 0 rfl rfl (by decide) (by decide) (by decide) dX6_readsHands_56 ?_
              refine lv_aload_n hx hb dX6_readsHands_57 rfl (lv_at hl 0 rfl) ?_
              refine va_get (D := (dC, dI)) (ci := 6) (v := .ref (g 1)) (C := RX6) (T := TX6) (N := 15) hx hb hts (fun _ h => List.mem_cons_of_mem _ (List.mem_append_right _ h)) hown hK hP 0 rfl rfl 1 (by decide) (hts (.fieldLink RX6 13 "SharedLineModel" "fresh" "[I") (List.mem_of_getElem? (i := 2) rfl)) (fun _ h9 => h9) rfl dX6_readsHands_58 ?_
              refine lv_iconst (v := 4) hx hb dX6_readsHands_61 (by decide) ?_
              refine lv_iload_n hx hb dX6_readsHands_62 rfl (lv_at hl 1 rfl) ?_
              refine lv_iadd hx hb dX6_readsHands_63 ?_
              refine va_iald hx hb hK hP 2 0 rfl rfl (i := ((4 : Int32) + x1_39)) (p4_ix e39 (by have := (up_lt e39 w39 (by omega) c46); omega)) dX6_readsHands_64 ?_
              refine lv_if_le (tgt := 90) hx hb dX6_readsHands_65 (by decide) (fun c65 => ?_) (fun c65 => ?_)
              · rw [if_pos c65] at hσ
                refine lv_iconst (v := 0) hx hb dX6_readsHands_90 (by decide) ?_
                refine lv_ior hx hb dX6_readsHands_91 ?_
                refine vq_iastK (k := 16) hx hb hK hP hD hS 2 0 rfl rfl (by decide) (by decide) (by decide) dX6_readsHands_92 (fun H locs hP hD hS => ?_)
                have hP : va_P (dC, dI) vwCl (wM cI cZ h g (Y_39.1, (updR Y_39.2 1 (upd (Y_39.2 1) 16 (((Y_39.2 1) 16) ||| 0))))) H := hP
                have hD : va_D A (wM cI cZ h g (Y_39.1, (updR Y_39.2 1 (upd (Y_39.2 1) 16 (((Y_39.2 1) 16) ||| 0))))) := hD
                refine lv_iinc (v := (x1_39 + 1)) (lv' := [(1, .int (x1_39 + 1)), (0, .ref h)]) hx hb dX6_readsHands_93 hl (k := 1) rfl rfl (by decide) rfl (fun ls hl => ?_)
                refine lv_goto (tgt := 39) hx hb dX6_readsHands_96 (by decide) ?_
                exact ih39 (x1_39 + 1) (Y_39.1, (updR Y_39.2 1 (upd (Y_39.2 1) 16 (((Y_39.2 1) 16) ||| 0)))) (k39 + 1) (up_s e39) (by have := up_lt e39 w39 (by omega) c46; omega) (by omega) w39 m39 hσ _ _ _ hP hD hS (lv_sub hl [1, 0] rfl)
              · rw [if_neg c65] at hσ
                refine lv_aload_n hx hb dX6_readsHands_68 rfl (lv_at hl 0 rfl) ?_
                refine va_get (D := (dC, dI)) (ci := 6) (v := .ref (g 7)) (C := RX6) (T := TX6) (N := 15) hx hb hts (fun _ h => List.mem_cons_of_mem _ (List.mem_append_right _ h)) hown hK hP 0 rfl rfl 9 (by decide) (hts (.fieldLink RX6 32 "SharedLineModel" "text" "[I") (List.mem_of_getElem? (i := 3) rfl)) (fun _ h9 => h9) rfl dX6_readsHands_69 ?_
                refine lv_aload_n hx hb dX6_readsHands_72 rfl (lv_at hl 0 rfl) ?_
                refine va_get (D := (dC, dI)) (ci := 6) (v := .int (Y_39.1 4)) (C := RX6) (T := TX6) (N := 15) hx hb hts (fun _ h => List.mem_cons_of_mem _ (List.mem_append_right _ h)) hown hK hP 0 rfl rfl 12 (by decide) (hts (.fieldLink RX6 49 "SharedLineModel" "mark" "I") (List.mem_of_getElem? (i := 4) rfl)) (fun _ h9 => h9) rfl dX6_readsHands_73 ?_
                refine lv_iload_n hx hb dX6_readsHands_76 rfl (lv_at hl 1 rfl) ?_
                refine lv_iadd hx hb dX6_readsHands_77 ?_
                refine va_iald hx hb hK hP 8 0 rfl rfl (i := ((Y_39.1 4) + x1_39)) (mk_ix m39 e39 (by have := (up_lt e39 w39 (by omega) c46); omega)) dX6_readsHands_78 ?_
                refine lv_bipush (v := 49) hx hb dX6_readsHands_79 (by decide) ?_
                refine lv_icmp_ne (tgt := 90) hx hb dX6_readsHands_81 (by decide) (fun c81 => ?_) (fun c81 => ?_)
                · rw [if_neg c81] at hσ
                  refine lv_iconst (v := 0) hx hb dX6_readsHands_90 (by decide) ?_
                  refine lv_ior hx hb dX6_readsHands_91 ?_
                  refine vq_iastK (k := 16) hx hb hK hP hD hS 2 0 rfl rfl (by decide) (by decide) (by decide) dX6_readsHands_92 (fun H locs hP hD hS => ?_)
                  have hP : va_P (dC, dI) vwCl (wM cI cZ h g (Y_39.1, (updR Y_39.2 1 (upd (Y_39.2 1) 16 (((Y_39.2 1) 16) ||| 0))))) H := hP
                  have hD : va_D A (wM cI cZ h g (Y_39.1, (updR Y_39.2 1 (upd (Y_39.2 1) 16 (((Y_39.2 1) 16) ||| 0))))) := hD
                  refine lv_iinc (v := (x1_39 + 1)) (lv' := [(1, .int (x1_39 + 1)), (0, .ref h)]) hx hb dX6_readsHands_93 hl (k := 1) rfl rfl (by decide) rfl (fun ls hl => ?_)
                  refine lv_goto (tgt := 39) hx hb dX6_readsHands_96 (by decide) ?_
                  exact ih39 (x1_39 + 1) (Y_39.1, (updR Y_39.2 1 (upd (Y_39.2 1) 16 (((Y_39.2 1) 16) ||| 0)))) (k39 + 1) (up_s e39) (by have := up_lt e39 w39 (by omega) c46; omega) (by omega) w39 m39 hσ _ _ _ hP hD hS (lv_sub hl [1, 0] rfl)
                · rw [if_pos c81] at hσ
                  refine lv_iconst (v := 1) hx hb dX6_readsHands_84 (by decide) ?_
                  refine lv_iload_n hx hb dX6_readsHands_85 rfl (lv_at hl 1 rfl) ?_
                  refine lv_ishl hx hb dX6_readsHands_86 ?_
                  refine lv_goto (tgt := 91) hx hb dX6_readsHands_87 (by decide) ?_
                  refine lv_ior hx hb dX6_readsHands_91 ?_
                  refine vq_iastK (k := 16) hx hb hK hP hD hS 2 0 rfl rfl (by decide) (by decide) (by decide) dX6_readsHands_92 (fun H locs hP hD hS => ?_)
                  have hP : va_P (dC, dI) vwCl (wM cI cZ h g (Y_39.1, (updR Y_39.2 1 (upd (Y_39.2 1) 16 (((Y_39.2 1) 16) ||| ((1 : Int32) <<< (x1_39 &&& 31))))))) H := hP
                  have hD : va_D A (wM cI cZ h g (Y_39.1, (updR Y_39.2 1 (upd (Y_39.2 1) 16 (((Y_39.2 1) 16) ||| ((1 : Int32) <<< (x1_39 &&& 31))))))) := hD
                  refine lv_iinc (v := (x1_39 + 1)) (lv' := [(1, .int (x1_39 + 1)), (0, .ref h)]) hx hb dX6_readsHands_93 hl (k := 1) rfl rfl (by decide) rfl (fun ls hl => ?_)
                  refine lv_goto (tgt := 39) hx hb dX6_readsHands_96 (by decide) ?_
                  exact ih39 (x1_39 + 1) (Y_39.1, (updR Y_39.2 1 (upd (Y_39.2 1) 16 (((Y_39.2 1) 16) ||| ((1 : Int32) <<< (x1_39 &&& 31)))))) (k39 + 1) (up_s e39) (by have := up_lt e39 w39 (by omega) c46; omega) (by omega) w39 m39 hσ _ _ _ hP hD hS (lv_sub hl [1, 0] rfl)
        exact key39 13 (0 : Int32) ((upd (sX6_figures S (1 : Int32)).2.1 5 1), (sX6_figures S (1 : Int32)).2.2) 0 nI_0.symm (Nat.zero_le _) (Nat.le_refl _) eT emk hσ _ _ _ hP hD hS (lv_sub hl [1, 0] rfl)
      · rw [if_neg c27] at hσ
        refine lv_iconst (v := 0) hx hb dX6_readsHands_30 (by decide) ?_
        subst hσ
        try dsimp only
        exact vq_zret hx hb hr hlocks hK hP hD hS rfl rfl dX6_readsHands_31
theorem hdX6_readsNumber : yX6_readsNumber.cls = RX6 ∧ yX6_readsNumber.cls ≠ "java/lang/invoke/MethodHandle" ∧ yX6_readsNumber.cls ≠ "java/lang/invoke/VarHandle" ∧ (parseMethodDescriptor yX6_readsNumber.desc).map (fun d => d.parameters.length) = some 1 := by decide +kernel
set_option maxHeartbeats 4000000 in
set_option maxRecDepth 100000 in
theorem cX6_readsNumber_c (l : Launch) (ev : Nat → Nat) (dC : Nat → ClassId) (dI : Nat → Nat → Nat) (cI cZ cO : ClassId) (h : Nat) (g : Nat → Nat) (S : MSt) (p1 : Int32) (hX : ∃ n a : Nat, S.1 2 = nI n ∧ n ≤ 120 ∧ S.1 3 = nI a ∧ a ≤ n) (hw : ∃ w : Nat, p1 = nI w ∧ w ≤ 3) : MetI l ev (dC, dI) (tyC cI cZ cO) yX6_readsNumber wsX6_readsNumber (rmF 3 66) [.ref h, .int p1] (wM cI cZ h g S) (bI (sX6_readsNumber S p1).1) (wM cI cZ h g (sX6_readsNumber S p1).2) := by
  refine MetI_of (cc := cX6_readsNumber) (maxL := 2) (ret := (some .boolean)) (by decide) rfl (Nat.le_of_ble_eq_true rfl) ?_
  intro p e s m below meth c A ls hx hb hr hml hts hown hlocks hin hK hP hD hA hE hl
  have hown : s.vm.findClass RX6 = some m.cls := hown
  have hl : lv_has ls 2 [(0, .ref h), (1, .int p1)] := hl
  have hS : va_S A s.heap s.heap [] := va_S.rf
  obtain ⟨σ, hσ⟩ : ∃ σ, (sX6_readsNumber S p1) = σ := ⟨_, rfl⟩
  rw [hσ]
  rw [sX6_readsNumber] at hσ
  refine lv_aload_n hx hb dX6_readsNumber_0 rfl (lv_at hl 0 rfl) ?_
  refine lv_bipush (v := 9) hx hb dX6_readsNumber_1 (by decide) ?_
  refine vq_Vi (As := [.int 9]) (rest := []) (W2 := (wM cI cZ h g (sX6_figures S (9 : Int32)).2)) (f := (sX6_figures S (9 : Int32)).1) hx hb hml hown hts hK hP hD hS hA hE hl.1 (cX6_figures_c l ev dC dI cI cZ cO h g S (9 : Int32) hX) gX6_readsNumber_X6_figures rfl hdX6_figures (Nat.le_of_ble_eq_true rfl) (Nat.le_of_ble_eq_true rfl) rfl rfl (ci := 6) (qr := 0) rfl rfl rfl [0, 1, 2, 3, 4, 5, 6, 7, 8, 9] [] [0, 1, 2, 3, 4, 5, 6, 7, 8, 9] rfl rfl (by decide) (by decide) (by decide) rfl rfl rfl (Nat.le_of_ble_eq_true rfl) dX6_readsNumber_3 ⟨Nat.zero_le _, Nat.zero_le _⟩ (fun H locs hP hD hS => ?_)
  refine lv_iconst (v := 1) hx hb dX6_readsNumber_6 (by decide) ?_
  refine lv_icmp_eq (tgt := 12) hx hb dX6_readsNumber_7 (by decide) (fun c7 => ?_) (fun c7 => ?_)
  · rw [if_pos c7] at hσ
    refine lv_aload_n hx hb dX6_readsNumber_12 rfl (lv_at hl 0 rfl) ?_
    refine va_get (D := (dC, dI)) (ci := 6) (v := .ref (g 1)) (C := RX6) (T := TX6) (N := 15) hx hb hts (fun _ h => List.mem_cons_of_mem _ (List.mem_append_right _ h)) hown hK hP 0 rfl rfl 1 (by decide) (hts (.fieldLink RX6 13 "SharedLineModel" "fresh" "[I") (List.mem_of_getElem? (i := 1) rfl)) (fun _ h9 => h9) rfl dX6_readsNumber_13 ?_
    refine lv_iload_n hx hb dX6_readsNumber_16 rfl (lv_at hl 1 rfl) ?_
    refine lv_aload_n hx hb dX6_readsNumber_17 rfl (lv_at hl 0 rfl) ?_
    refine va_get (D := (dC, dI)) (ci := 6) (v := .ref (g 7)) (C := RX6) (T := TX6) (N := 15) hx hb hts (fun _ h => List.mem_cons_of_mem _ (List.mem_append_right _ h)) hown hK hP 0 rfl rfl 9 (by decide) (hts (.fieldLink RX6 32 "SharedLineModel" "text" "[I") (List.mem_of_getElem? (i := 2) rfl)) (fun _ h9 => h9) rfl dX6_readsNumber_18 ?_
    refine lv_aload_n hx hb dX6_readsNumber_21 rfl (lv_at hl 0 rfl) ?_
    refine va_get (D := (dC, dI)) (ci := 6) (v := .int ((sX6_figures S (9 : Int32)).2.1 4)) (C := RX6) (T := TX6) (N := 15) hx hb hts (fun _ h => List.mem_cons_of_mem _ (List.mem_append_right _ h)) hown hK hP 0 rfl rfl 12 (by decide) (hts (.fieldLink RX6 49 "SharedLineModel" "mark" "I") (List.mem_of_getElem? (i := 3) rfl)) (fun _ h9 => h9) rfl dX6_readsNumber_22 ?_
    refine va_iald hx hb hK hP 8 0 rfl rfl (i := ((sX6_figures S (9 : Int32)).2.1 4)) (rn_ix hX c7) dX6_readsNumber_25 ?_
    refine lv_bipush (v := 48) hx hb dX6_readsNumber_26 (by decide) ?_
    refine lv_isub hx hb dX6_readsNumber_28 ?_
    refine va_iast hx hb hK hP hD hS 2 0 rfl rfl (i := p1) (wh_ix hw) dX6_readsNumber_29 (fun H locs hP hD hS => ?_)
    have hP : va_P (dC, dI) vwCl (wM cI cZ h g ((sX6_figures S (9 : Int32)).2.1, (updR (sX6_figures S (9 : Int32)).2.2 1 (upd ((sX6_figures S (9 : Int32)).2.2 1) (p1).toNatClampNeg ((((sX6_figures S (9 : Int32)).2.2 7) (((sX6_figures S (9 : Int32)).2.1 4)).toNatClampNeg) - 48))))) H := hP
    have hD : va_D A (wM cI cZ h g ((sX6_figures S (9 : Int32)).2.1, (updR (sX6_figures S (9 : Int32)).2.2 1 (upd ((sX6_figures S (9 : Int32)).2.2 1) (p1).toNatClampNeg ((((sX6_figures S (9 : Int32)).2.2 7) (((sX6_figures S (9 : Int32)).2.1 4)).toNatClampNeg) - 48))))) := hD
    refine lv_aload_n hx hb dX6_readsNumber_30 rfl (lv_at hl 0 rfl) ?_
    refine va_get (D := (dC, dI)) (ci := 6) (v := .ref (g 1)) (C := RX6) (T := TX6) (N := 15) hx hb hts (fun _ h => List.mem_cons_of_mem _ (List.mem_append_right _ h)) hown hK hP 0 rfl rfl 1 (by decide) (hts (.fieldLink RX6 13 "SharedLineModel" "fresh" "[I") (List.mem_of_getElem? (i := 1) rfl)) (fun _ h9 => h9) rfl dX6_readsNumber_31 ?_
    refine lv_iload_n hx hb dX6_readsNumber_34 rfl (lv_at hl 1 rfl) ?_
    refine va_iald hx hb hK hP 2 0 rfl rfl (i := p1) (wh_ix hw) dX6_readsNumber_35 ?_
    refine lv_iload_n hx hb dX6_readsNumber_36 rfl (lv_at hl 1 rfl) ?_
    refine vq_Si (As := [.int p1]) (rest := [.int ((upd ((sX6_figures S (9 : Int32)).2.2 1) (p1).toNatClampNeg ((((sX6_figures S (9 : Int32)).2.2 7) (((sX6_figures S (9 : Int32)).2.1 4)).toNatClampNeg) - 48)) (p1).toNatClampNeg)]) (W2 := (wM cI cZ h g ((sX6_figures S (9 : Int32)).2.1, (updR (sX6_figures S (9 : Int32)).2.2 1 (upd ((sX6_figures S (9 : Int32)).2.2 1) (p1).toNatClampNeg ((((sX6_figures S (9 : Int32)).2.2 7) (((sX6_figures S (9 : Int32)).2.1 4)).toNatClampNeg) - 48)))))) (f := (sX6_least p1)) hx hb hml hown hts hK hP hD hS hA hE hl.1 (cX6_least_c l ev dC dI cI cZ cO p1) gX6_readsNumber_X6_least rfl hdX6_least (Nat.le_of_ble_eq_true rfl) (Nat.le_of_ble_eq_true rfl) rfl rfl [] [0, 1, 2, 3, 4, 5, 6, 7, 8, 9] [0, 1, 2, 3, 4, 5, 6, 7, 8, 9] rfl rfl (by decide) (by decide) (by decide) rfl rfl rfl (Nat.le_of_ble_eq_true rfl) dX6_readsNumber_37 ⟨Nat.zero_le _, Nat.zero_le _⟩ (fun H locs hP hD hS => ?_)
    refine lv_iload_n hx hb dX6_readsNumber_40 rfl (lv_at hl 1 rfl) ?_
    refine vq_Si (As := [.int p1]) (rest := [.int (sX6_least p1), .int ((upd ((sX6_figures S (9 : Int32)).2.2 1) (p1).toNatClampNeg ((((sX6_figures S (9 : Int32)).2.2 7) (((sX6_figures S (9 : Int32)).2.1 4)).toNatClampNeg) - 48)) (p1).toNatClampNeg)]) (W2 := (wM cI cZ h g ((sX6_figures S (9 : Int32)).2.1, (updR (sX6_figures S (9 : Int32)).2.2 1 (upd ((sX6_figures S (9 : Int32)).2.2 1) (p1).toNatClampNeg ((((sX6_figures S (9 : Int32)).2.2 7) (((sX6_figures S (9 : Int32)).2.1 4)).toNatClampNeg) - 48)))))) (f := (sX6_greatest p1)) hx hb hml hown hts hK hP hD hS hA hE hl.1 (cX6_greatest_c l ev dC dI cI cZ cO p1) gX6_readsNumber_X6_greatest rfl hdX6_greatest (Nat.le_of_ble_eq_true rfl) (Nat.le_of_ble_eq_true rfl) rfl rfl [] [0, 1, 2, 3, 4, 5, 6, 7, 8, 9] [0, 1, 2, 3, 4, 5, 6, 7, 8, 9] rfl rfl (by decide) (by decide) (by decide) rfl rfl rfl (Nat.le_of_ble_eq_true rfl) dX6_readsNumber_41 ⟨Nat.zero_le _, Nat.zero_le _⟩ (fun H locs hP hD hS => ?_)
    refine vq_Si (As := [.int ((upd ((sX6_figures S (9 : Int32)).2.2 1) (p1).toNatClampNeg ((((sX6_figures S (9 : Int32)).2.2 7) (((sX6_figures S (9 : Int32)).2.1 4)).toNatClampNeg) - 48)) (p1).toNatClampNeg), .int (sX6_least p1), .int (sX6_greatest p1)]) (rest := []) (W2 := (wM cI cZ h g ((sX6_figures S (9 : Int32)).2.1, (updR (sX6_figures S (9 : Int32)).2.2 1 (upd ((sX6_figures S (9 : Int32)).2.2 1) (p1).toNatClampNeg ((((sX6_figures S (9 : Int32)).2.2 7) (((sX6_figures S (9 : Int32)).2.1 4)).toNatClampNeg) - 48)))))) (f := (bI (sX6_within ((upd ((sX6_figures S (9 : Int32)).2.2 1) (p1).toNatClampNeg ((((sX6_figures S (9 : Int32)).2.2 7) (((sX6_figures S (9 : Int32)).2.1 4)).toNatClampNeg) - 48)) (p1).toNatClampNeg) (sX6_least p1) (sX6_greatest p1)))) hx hb hml hown hts hK hP hD hS hA hE hl.1 (cX6_within_c l ev dC dI cI cZ cO ((upd ((sX6_figures S (9 : Int32)).2.2 1) (p1).toNatClampNeg ((((sX6_figures S (9 : Int32)).2.2 7) (((sX6_figures S (9 : Int32)).2.1 4)).toNatClampNeg) - 48)) (p1).toNatClampNeg) (sX6_least p1) (sX6_greatest p1)) gX6_readsNumber_X6_within rfl hdX6_within (Nat.le_of_ble_eq_true rfl) (Nat.le_of_ble_eq_true rfl) rfl rfl [] [0, 1, 2, 3, 4, 5, 6, 7, 8, 9] [0, 1, 2, 3, 4, 5, 6, 7, 8, 9] rfl rfl (by decide) (by decide) (by decide) rfl rfl rfl (Nat.le_of_ble_eq_true rfl) dX6_readsNumber_44 ⟨Nat.zero_le _, Nat.zero_le _⟩ (fun H locs hP hD hS => ?_)
    subst hσ
    try dsimp only
    exact vq_zret hx hb hr hlocks hK hP hD hS (nar_bI _) rfl dX6_readsNumber_47
  · rw [if_neg c7] at hσ
    refine lv_iconst (v := 0) hx hb dX6_readsNumber_10 (by decide) ?_
    subst hσ
    try dsimp only
    exact vq_zret hx hb hr hlocks hK hP hD hS rfl rfl dX6_readsNumber_11
theorem hdX6_readsItem : yX6_readsItem.cls = RX6 ∧ yX6_readsItem.cls ≠ "java/lang/invoke/MethodHandle" ∧ yX6_readsItem.cls ≠ "java/lang/invoke/VarHandle" ∧ (parseMethodDescriptor yX6_readsItem.desc).map (fun d => d.parameters.length) = some 0 := by decide +kernel
set_option maxHeartbeats 4000000 in
set_option maxRecDepth 100000 in
theorem cX6_readsItem_c (l : Launch) (ev : Nat → Nat) (dC : Nat → ClassId) (dI : Nat → Nat → Nat) (cI cZ cO : ClassId) (h : Nat) (g : Nat → Nat) (S : MSt) (hX : ∃ n a : Nat, S.1 2 = nI n ∧ n ≤ 120 ∧ S.1 3 = nI a ∧ a ≤ n) (hF : ∃ T : Nat, S.2 1 0 = nI T ∧ T ≤ 12) : MetI l ev (dC, dI) (tyC cI cZ cO) yX6_readsItem wsX6_readsItem (rmF 4 88) [.ref h] (wM cI cZ h g S) (bI (sX6_readsItem S).1) (wM cI cZ h g (sX6_readsItem S).2) := by
  refine MetI_of (cc := cX6_readsItem) (maxL := 2) (ret := (some .boolean)) (by decide) rfl (Nat.le_of_ble_eq_true rfl) ?_
  intro p e s m below meth c A ls hx hb hr hml hts hown hlocks hin hK hP hD hA hE hl
  have hown : s.vm.findClass RX6 = some m.cls := hown
  have hl : lv_has ls 2 [(0, .ref h)] := hl
  have hS : va_S A s.heap s.heap [] := va_S.rf
  obtain ⟨σ, hσ⟩ : ∃ σ, (sX6_readsItem S) = σ := ⟨_, rfl⟩
  rw [hσ]
  rw [sX6_readsItem] at hσ
  refine lv_aload_n hx hb dX6_readsItem_0 rfl (lv_at hl 0 rfl) ?_
  refine vq_Vi (As := []) (rest := []) (W2 := (wM cI cZ h g (sX6_wordPassed S).2)) (f := (sX6_wordPassed S).1) hx hb hml hown hts hK hP hD hS hA hE hl.1 (cX6_wordPassed_c l ev dC dI cI cZ cO h g S hX) gX6_readsItem_X6_wordPassed rfl hdX6_wordPassed (Nat.le_of_ble_eq_true rfl) (Nat.le_of_ble_eq_true rfl) rfl rfl (ci := 6) (qr := 0) rfl rfl rfl [0, 1, 2, 3, 4, 5, 6, 7, 8, 9] [] [0, 1, 2, 3, 4, 5, 6, 7, 8, 9] rfl rfl (by decide) (by decide) (by decide) rfl rfl rfl (Nat.le_of_ble_eq_true rfl) dX6_readsItem_1 ⟨Nat.zero_le _, Nat.zero_le _⟩ (fun H locs hP hD hS => ?_)
  refine lv_istore_n (lv' := [(1, .int (sX6_wordPassed S).1), (0, .ref h)]) hx hb dX6_readsItem_4 rfl hl (by decide) rfl (fun ls hl => ?_)
  refine lv_iload_n hx hb dX6_readsItem_5 rfl (lv_at hl 0 rfl) ?_
  refine lv_bipush (v := (-9)) hx hb dX6_readsItem_6 (by decide) ?_
  refine lv_icmp_ne (tgt := 13) hx hb dX6_readsItem_8 (by decide) (fun c8 => ?_) (fun c8 => ?_)
  · rw [if_neg c8] at hσ
    refine lv_iload_n hx hb dX6_readsItem_13 rfl (lv_at hl 0 rfl) ?_
    refine lv_if_ne (tgt := 24) hx hb dX6_readsItem_14 (by decide) (fun c14 => ?_) (fun c14 => ?_)
    · rw [if_neg c14] at hσ
      refine lv_iload_n hx hb dX6_readsItem_24 rfl (lv_at hl 0 rfl) ?_
      refine lv_iconst (v := 1) hx hb dX6_readsItem_25 (by decide) ?_
      refine lv_icmp_ne (tgt := 36) hx hb dX6_readsItem_26 (by decide) (fun c26 => ?_) (fun c26 => ?_)
      · rw [if_neg c26] at hσ
        refine lv_aload_n hx hb dX6_readsItem_36 rfl (lv_at hl 1 rfl) ?_
        refine lv_iload_n hx hb dX6_readsItem_37 rfl (lv_at hl 0 rfl) ?_
        refine lv_iconst (v := 1) hx hb dX6_readsItem_38 (by decide) ?_
        refine lv_isub hx hb dX6_readsItem_39 ?_
        refine vq_Vi (As := [.int ((sX6_wordPassed S).1 - 1)]) (rest := []) (W2 := (wM cI cZ h g (sX6_readsNumber (sX6_wordPassed S).2 ((sX6_wordPassed S).1 - 1)).2)) (f := (bI (sX6_readsNumber (sX6_wordPassed S).2 ((sX6_wordPassed S).1 - 1)).1)) hx hb hml hown hts hK hP hD hS hA hE hl.1 (cX6_readsNumber_c l ev dC dI cI cZ cO h g (sX6_wordPassed S).2 ((sX6_wordPassed S).1 - 1) (wp_X hX) (wp_w hX c8 c14 c26)) gX6_readsItem_X6_readsNumber rfl hdX6_readsNumber (Nat.le_of_ble_eq_true rfl) (Nat.le_of_ble_eq_true rfl) rfl rfl (ci := 6) (qr := 0) rfl rfl rfl [0, 1, 2, 3, 4, 5, 6, 7, 8, 9] [] [0, 1, 2, 3, 4, 5, 6, 7, 8, 9] rfl rfl (by decide) (by decide) (by decide) rfl rfl rfl (Nat.le_of_ble_eq_true rfl) dX6_readsItem_40 ⟨Nat.zero_le _, Nat.zero_le _⟩ (fun H locs hP hD hS => ?_)
        subst hσ
        try dsimp only
        exact vq_zret hx hb hr hlocks hK hP hD hS (nar_bI _) rfl dX6_readsItem_43
      · rw [if_pos c26] at hσ
        refine lv_aload_n hx hb dX6_readsItem_29 rfl (lv_at hl 1 rfl) ?_
        refine vq_Vi (As := []) (rest := []) (W2 := (wM cI cZ h g (sX6_readsHands (sX6_wordPassed S).2).2)) (f := (bI (sX6_readsHands (sX6_wordPassed S).2).1)) hx hb hml hown hts hK hP hD hS hA hE hl.1 (cX6_readsHands_c l ev dC dI cI cZ cO h g (sX6_wordPassed S).2 (wp_X hX) (wp_F hX hF)) gX6_readsItem_X6_readsHands rfl hdX6_readsHands (Nat.le_of_ble_eq_true rfl) (Nat.le_of_ble_eq_true rfl) rfl rfl (ci := 6) (qr := 0) rfl rfl rfl [0, 1, 2, 3, 4, 5, 6, 7, 8, 9] [] [0, 1, 2, 3, 4, 5, 6, 7, 8, 9] rfl rfl (by decide) (by decide) (by decide) rfl rfl rfl (Nat.le_of_ble_eq_true rfl) dX6_readsItem_30 ⟨Nat.zero_le _, Nat.zero_le _⟩ (fun H locs hP hD hS => ?_)
        refine lv_goto (tgt := 43) hx hb dX6_readsItem_33 (by decide) ?_
        subst hσ
        try dsimp only
        exact vq_zret hx hb hr hlocks hK hP hD hS (nar_bI _) rfl dX6_readsItem_43
    · rw [if_pos c14] at hσ
      refine lv_aload_n hx hb dX6_readsItem_17 rfl (lv_at hl 1 rfl) ?_
      refine vq_Vi (As := []) (rest := []) (W2 := (wM cI cZ h g (sX6_readsLine (sX6_wordPassed S).2).2)) (f := (bI (sX6_readsLine (sX6_wordPassed S).2).1)) hx hb hml hown hts hK hP hD hS hA hE hl.1 (cX6_readsLine_c l ev dC dI cI cZ cO h g (sX6_wordPassed S).2 (wp_X hX)) gX6_readsItem_X6_readsLine rfl hdX6_readsLine (Nat.le_of_ble_eq_true rfl) (Nat.le_of_ble_eq_true rfl) rfl rfl (ci := 6) (qr := 0) rfl rfl rfl [0, 1, 2, 3, 4, 5, 6, 7, 8, 9] [] [0, 1, 2, 3, 4, 5, 6, 7, 8, 9] rfl rfl (by decide) (by decide) (by decide) rfl rfl rfl (Nat.le_of_ble_eq_true rfl) dX6_readsItem_18 ⟨Nat.zero_le _, Nat.zero_le _⟩ (fun H locs hP hD hS => ?_)
      refine lv_goto (tgt := 43) hx hb dX6_readsItem_21 (by decide) ?_
      subst hσ
      try dsimp only
      exact vq_zret hx hb hr hlocks hK hP hD hS (nar_bI _) rfl dX6_readsItem_43
  · rw [if_pos c8] at hσ
    refine lv_iconst (v := 0) hx hb dX6_readsItem_11 (by decide) ?_
    subst hσ
    try dsimp only
    exact vq_zret hx hb hr hlocks hK hP hD hS rfl rfl dX6_readsItem_12
theorem hdX6_reads : yX6_reads.cls = RX6 ∧ yX6_reads.cls ≠ "java/lang/invoke/MethodHandle" ∧ yX6_reads.cls ≠ "java/lang/invoke/VarHandle" ∧ (parseMethodDescriptor yX6_reads.desc).map (fun d => d.parameters.length) = some 0 := by decide +kernel
set_option maxHeartbeats 4000000 in
set_option maxRecDepth 100000 in
theorem cX6_reads_c (l : Launch) (ev : Nat → Nat) (dC : Nat → ClassId) (dI : Nat → Nat → Nat) (cI cZ cO : ClassId) (h : Nat) (g : Nat → Nat) (S : MSt) (hN : ∃ n : Nat, S.1 2 = nI n ∧ n ≤ 120) : MetI l ev (dC, dI) (tyC cI cZ cO) yX6_reads wsX6_reads (rmF 5 109) [.ref h] (wM cI cZ h g S) (sX6_reads S).1 (wM cI cZ h g (sX6_reads S).2) := by
  refine MetI_of (cc := cX6_reads) (maxL := 2) (ret := (some .int)) (by decide) rfl (Nat.le_of_ble_eq_true rfl) ?_
  intro p e s m below meth c A ls hx hb hr hml hts hown hlocks hin hK hP hD hA hE hl
  have hown : s.vm.findClass RX6 = some m.cls := hown
  have hl : lv_has ls 2 [(0, .ref h)] := hl
  have hS : va_S A s.heap s.heap [] := va_S.rf
  obtain ⟨σ, hσ⟩ : ∃ σ, (sX6_reads S) = σ := ⟨_, rfl⟩
  rw [hσ]
  rw [sX6_reads] at hσ
  refine lv_aload_n hx hb dX6_reads_0 rfl (lv_at hl 0 rfl) ?_
  refine va_get (D := (dC, dI)) (ci := 6) (v := .ref (g 1)) (C := RX6) (T := TX6) (N := 15) hx hb hts (fun _ h => List.mem_cons_of_mem _ (List.mem_append_right _ h)) hown hK hP 0 rfl rfl 1 (by decide) (hts (.fieldLink RX6 13 "SharedLineModel" "fresh" "[I") (List.mem_of_getElem? (i := 1) rfl)) (fun _ h9 => h9) rfl dX6_reads_1 ?_
  refine vq_Sv (As := [.ref (g 1)]) (rest := []) (W2 := (wM cI cZ h g (S.1, (updR S.2 1 (sX6_bares (S.2 1)))))) hx hb hml hown hts hK hP hD hS hA hE hl.1 (cX6_bares_c l ev dC dI cI cZ cO (g 1) (S.2 1)) gX6_reads_X6_bares rfl hdX6_bares (Nat.le_of_ble_eq_true rfl) (Nat.le_of_ble_eq_true rfl) rfl rfl [2] [0, 1, 3, 4, 5, 6, 7, 8, 9] [0, 1, 9, 2, 3, 4, 5, 6, 7, 8] rfl rfl (by decide) (by decide) (by decide) rfl rfl rfl (Nat.le_of_ble_eq_true rfl) dX6_reads_4 ⟨Nat.zero_le _, Nat.zero_le _⟩ (fun H locs hP hD hS => ?_)
  refine lv_aload_n hx hb dX6_reads_7 rfl (lv_at hl 0 rfl) ?_
  refine lv_iconst (v := 0) hx hb dX6_reads_8 (by decide) ?_
  refine va_put (D := (dC, dI)) (ci := 6) (v := .int 0) (ty := .boolean) (C := RX6) (T := TX6) (N := 15) hx hb hts (fun _ h => List.mem_cons_of_mem _ (List.mem_append_right _ h)) tyX6 tyX6_ok nmX6 hown hK hP hD hS 0 rfl rfl 13 (by decide) (hts (.fieldLink RX6 67 "SharedLineModel" "hasHands" "Z") (List.mem_of_getElem? (i := 2) rfl)) (fun _ h9 => h9) rfl (tyX6_ok 13 (by decide)) rfl rfl (Nat.le_of_ble_eq_true rfl) dX6_reads_9 (fun H locs hP hD hS => ?_)
  have hP : va_P (dC, dI) vwCl (wM cI cZ h g ((upd S.1 5 0), (updR S.2 1 (sX6_bares (S.2 1))))) H := hP
  have hD : va_D A (wM cI cZ h g ((upd S.1 5 0), (updR S.2 1 (sX6_bares (S.2 1))))) := hD
  refine lv_aload_n hx hb dX6_reads_12 rfl (lv_at hl 0 rfl) ?_
  refine lv_iconst (v := 0) hx hb dX6_reads_13 (by decide) ?_
  refine va_put (D := (dC, dI)) (ci := 6) (v := .int 0) (ty := .int) (C := RX6) (T := TX6) (N := 15) hx hb hts (fun _ h => List.mem_cons_of_mem _ (List.mem_append_right _ h)) tyX6 tyX6_ok nmX6 hown hK hP hD hS 0 rfl rfl 11 (by decide) (hts (.fieldLink RX6 42 "SharedLineModel" "at" "I") (List.mem_of_getElem? (i := 3) rfl)) (fun _ h9 => h9) rfl (tyX6_ok 11 (by decide)) rfl rfl (Nat.le_of_ble_eq_true rfl) dX6_reads_14 (fun H locs hP hD hS => ?_)
  have hP : va_P (dC, dI) vwCl (wM cI cZ h g ((upd (upd S.1 5 0) 3 0), (updR S.2 1 (sX6_bares (S.2 1))))) H := hP
  have hD : va_D A (wM cI cZ h g ((upd (upd S.1 5 0) 3 0), (updR S.2 1 (sX6_bares (S.2 1))))) := hD
  refine lv_iconst (v := 0) hx hb dX6_reads_17 (by decide) ?_
  refine lv_istore_n (lv' := [(1, .int 0), (0, .ref h)]) hx hb dX6_reads_18 rfl hl (by decide) rfl (fun ls hl => ?_)
  refine lv_aload_n hx hb dX6_reads_19 rfl (lv_at hl 1 rfl) ?_
  refine vq_Vv (As := []) (rest := []) (W2 := (wM cI cZ h g (sX6_skips ((upd (upd S.1 5 0) 3 0), (updR S.2 1 (sX6_bares (S.2 1))))))) hx hb hml hown hts hK hP hD hS hA hE hl.1 (cX6_skips_c l ev dC dI cI cZ cO h g ((upd (upd S.1 5 0) 3 0), (updR S.2 1 (sX6_bares (S.2 1)))) (rs_X hN)) gX6_reads_X6_skips rfl hdX6_skips (Nat.le_of_ble_eq_true rfl) (Nat.le_of_ble_eq_true rfl) rfl rfl (ci := 6) (qr := 0) rfl rfl rfl [0, 1, 2, 3, 4, 5, 6, 7, 8, 9] [] [0, 1, 2, 3, 4, 5, 6, 7, 8, 9] rfl rfl (by decide) (by decide) (by decide) rfl rfl rfl (Nat.le_of_ble_eq_true rfl) dX6_reads_20 ⟨Nat.zero_le _, Nat.zero_le _⟩ (fun H locs hP hD hS => ?_)
  have key23 : ∀ (n23 : Nat) (x1_23 : Int32) (Y_23 : MSt) , (∃ n k : Nat, Y_23.1 2 = nI n ∧ n ≤ 120 ∧ Y_23.1 3 = nI k ∧ k ≤ n ∧ 120 + 1 ≤ n23 + k) → (∃ T : Nat, Y_23.2 1 0 = nI T ∧ T ≤ 12) → (sX6_reads_L23  n23 x1_23 Y_23) = σ → ∀ (H : Heap) (locs : List Loc) (ls : Array Slot), va_P (dC, dI) vwCl (wM cI cZ h g Y_23) H → va_D A (wM cI cZ h g Y_23) → va_S A s.heap H locs → lv_has ls 2 [(0, .ref h), (1, .int x1_23)] → W p l e (headSpec wsX6_reads (rmF 5 109)).room s m ([.ref h] : List Value).toArray below meth c H locs 0 0 (MQ below (va_Qi (fun (x : Int32) (_ : Unit) => x = σ.1) (fun _ t => PoW (dC, dI) (tyC cI cZ cO) A (wM cI cZ h g σ.2) t) A) ([.ref h] : List Value).toArray s 0 0 A) (F0 m 23 ls []) := by
    intro n23
    induction n23 with
    | zero =>
      intro x1_23 Y_23  t23 F23
      exact absurd t23 (by rintro ⟨n, k, -, -, -, h1, h2⟩; omega)
    | succ n23 ih23 =>
      intro x1_23 Y_23  t23 F23 hσ H locs ls hP hD hS hl
      rw [sX6_reads_L23_s] at hσ
      refine lv_aload_n hx hb dX6_reads_23 rfl (lv_at hl 0 rfl) ?_
      refine va_get (D := (dC, dI)) (ci := 6) (v := .int (Y_23.1 3)) (C := RX6) (T := TX6) (N := 15) hx hb hts (fun _ h => List.mem_cons_of_mem _ (List.mem_append_right _ h)) hown hK hP 0 rfl rfl 11 (by decide) (hts (.fieldLink RX6 42 "SharedLineModel" "at" "I") (List.mem_of_getElem? (i := 3) rfl)) (fun _ h9 => h9) rfl dX6_reads_24 ?_
      refine lv_aload_n hx hb dX6_reads_27 rfl (lv_at hl 0 rfl) ?_
      refine va_get (D := (dC, dI)) (ci := 6) (v := .int (Y_23.1 2)) (C := RX6) (T := TX6) (N := 15) hx hb hts (fun _ h => List.mem_cons_of_mem _ (List.mem_append_right _ h)) hown hK hP 0 rfl rfl 10 (by decide) (hts (.fieldLink RX6 46 "SharedLineModel" "letters" "I") (List.mem_of_getElem? (i := 4) rfl)) (fun _ h9 => h9) rfl dX6_reads_28 ?_
      refine lv_icmp_ge (tgt := 60) hx hb dX6_reads_31 (by decide) (fun c31 => ?_) (fun c31 => ?_)
      · rw [if_pos c31] at hσ
        refine lv_aload_n hx hb dX6_reads_60 rfl (lv_at hl 0 rfl) ?_
        refine va_get (D := (dC, dI)) (ci := 6) (v := .ref (g 1)) (C := RX6) (T := TX6) (N := 15) hx hb hts (fun _ h => List.mem_cons_of_mem _ (List.mem_append_right _ h)) hown hK hP 0 rfl rfl 1 (by decide) (hts (.fieldLink RX6 13 "SharedLineModel" "fresh" "[I") (List.mem_of_getElem? (i := 1) rfl)) (fun _ h9 => h9) rfl dX6_reads_61 ?_
        refine lv_iconst (v := 0) hx hb dX6_reads_64 (by decide) ?_
        refine vq_ialdK (k := 0) hx hb hK hP 2 0 rfl rfl (by decide) (by decide) (by decide) dX6_reads_65 ?_
        refine lv_if_le (tgt := 73) hx hb dX6_reads_66 (by decide) (fun c66 => ?_) (fun c66 => ?_)
        · rw [if_pos c66] at hσ
          refine lv_iconst (v := (-1)) hx hb dX6_reads_73 (by decide) ?_
          subst hσ
          try dsimp only
          exact vq_iret hx hb hr hlocks hK hP hD hS rfl dX6_reads_74
        · rw [if_neg c66] at hσ
          refine lv_iload_n hx hb dX6_reads_69 rfl (lv_at hl 1 rfl) ?_
          refine lv_goto (tgt := 74) hx hb dX6_reads_70 (by decide) ?_
          subst hσ
          try dsimp only
          exact vq_iret hx hb hr hlocks hK hP hD hS rfl dX6_reads_74
      · rw [if_neg c31] at hσ
        refine lv_aload_n hx hb dX6_reads_34 rfl (lv_at hl 0 rfl) ?_
        refine vq_Vi (As := []) (rest := []) (W2 := (wM cI cZ h g (sX6_readsItem Y_23).2)) (f := (bI (sX6_readsItem Y_23).1)) hx hb hml hown hts hK hP hD hS hA hE hl.1 (cX6_readsItem_c l ev dC dI cI cZ cO h g Y_23 (t_X t23) F23) gX6_reads_X6_readsItem rfl hdX6_readsItem (Nat.le_of_ble_eq_true rfl) (Nat.le_of_ble_eq_true rfl) rfl rfl (ci := 6) (qr := 0) rfl rfl rfl [0, 1, 2, 3, 4, 5, 6, 7, 8, 9] [] [0, 1, 2, 3, 4, 5, 6, 7, 8, 9] rfl rfl (by decide) (by decide) (by decide) rfl rfl rfl (Nat.le_of_ble_eq_true rfl) dX6_reads_35 ⟨Nat.zero_le _, Nat.zero_le _⟩ (fun H locs hP hD hS => ?_)
        refine lv_if_eqB (tgt := 48) hx hb dX6_reads_38 (by decide) (fun c38 => ?_) (fun c38 => ?_)
        · rw [if_neg (Bool.eq_false_iff.mp c38)] at hσ
          refine lv_iconst (v := (-1)) hx hb dX6_reads_48 (by decide) ?_
          subst hσ
          try dsimp only
          exact vq_iret hx hb hr hlocks hK hP hD hS rfl dX6_reads_49
        · rw [if_pos c38] at hσ
          refine lv_aload_n hx hb dX6_reads_41 rfl (lv_at hl 0 rfl) ?_
          refine vq_Vi (As := []) (rest := []) (W2 := (wM cI cZ h g (sX6_passesEnd (sX6_readsItem Y_23).2).2)) (f := (bI (sX6_passesEnd (sX6_readsItem Y_23).2).1)) hx hb hml hown hts hK hP hD hS hA hE hl.1 (cX6_passesEnd_c l ev dC dI cI cZ cO h g (sX6_readsItem Y_23).2 (it_X (t_X t23) F23)) gX6_reads_X6_passesEnd rfl hdX6_passesEnd (Nat.le_of_ble_eq_true rfl) (Nat.le_of_ble_eq_true rfl) rfl rfl (ci := 6) (qr := 0) rfl rfl rfl [0, 1, 2, 3, 4, 5, 6, 7, 8, 9] [] [0, 1, 2, 3, 4, 5, 6, 7, 8, 9] rfl rfl (by decide) (by decide) (by decide) rfl rfl rfl (Nat.le_of_ble_eq_true rfl) dX6_reads_42 ⟨Nat.zero_le _, Nat.zero_le _⟩ (fun H locs hP hD hS => ?_)
          refine lv_if_neB (tgt := 50) hx hb dX6_reads_45 (by decide) (fun c45 => ?_) (fun c45 => ?_)
          · rw [if_pos c45] at hσ
            refine lv_iinc (v := (x1_23 + 1)) (lv' := [(1, .int (x1_23 + 1)), (0, .ref h)]) hx hb dX6_reads_50 hl (k := 1) rfl rfl (by decide) rfl (fun ls hl => ?_)
            refine lv_aload_n hx hb dX6_reads_53 rfl (lv_at hl 1 rfl) ?_
            refine vq_Vv (As := []) (rest := []) (W2 := (wM cI cZ h g (sX6_skips (sX6_passesEnd (sX6_readsItem Y_23).2).2))) hx hb hml hown hts hK hP hD hS hA hE hl.1 (cX6_skips_c l ev dC dI cI cZ cO h g (sX6_passesEnd (sX6_readsItem Y_23).2).2 (pe_X (it_X (t_X t23) F23))) gX6_reads_X6_skips rfl hdX6_skips (Nat.le_of_ble_eq_true rfl) (Nat.le_of_ble_eq_true rfl) rfl rfl (ci := 6) (qr := 0) rfl rfl rfl [0, 1, 2, 3, 4, 5, 6, 7, 8, 9] [] [0, 1, 2, 3, 4, 5, 6, 7, 8, 9] rfl rfl (by decide) (by decide) (by decide) rfl rfl rfl (Nat.le_of_ble_eq_true rfl) dX6_reads_54 ⟨Nat.zero_le _, Nat.zero_le _⟩ (fun H locs hP hD hS => ?_)
            refine lv_goto (tgt := 23) hx hb dX6_reads_57 (by decide) ?_
            exact ih23 (x1_23 + 1) (sX6_skips (sX6_passesEnd (sX6_readsItem Y_23).2).2) (lp_t t23 F23 c45) (lp_F t23 F23) hσ _ _ _ hP hD hS (lv_sub hl [1, 0] rfl)
          · rw [if_neg (Bool.eq_false_iff.mp c45)] at hσ
            refine lv_iconst (v := (-1)) hx hb dX6_reads_48 (by decide) ?_
            subst hσ
            try dsimp only
            exact vq_iret hx hb hr hlocks hK hP hD hS rfl dX6_reads_49
  exact key23 121 (0 : Int32) (sX6_skips ((upd (upd S.1 5 0) 3 0), (updR S.2 1 (sX6_bares (S.2 1))))) (t_0 (sk_X (rs_X hN))) (rs_F hN) hσ _ _ _ hP hD hS (lv_sub hl [1, 0] rfl)
