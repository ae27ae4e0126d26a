theorem hdX4_takeLine : yX4_takeLine.cls = RX4 ∧ yX4_takeLine.cls ≠ "java/lang/invoke/MethodHandle" ∧ yX4_takeLine.cls ≠ "java/lang/invoke/VarHandle" ∧ (parseMethodDescriptor yX4_takeLine.desc).map (fun d => d.parameters.length) = some 0 := by decide +kernel
set_option maxHeartbeats 4000000 in
set_option maxRecDepth 100000 in
theorem cX4_takeLine_c (l : Launch) (ev : Nat → Nat) (dC : Nat → ClassId) (dI : Nat → Nat → Nat) (cI cZ cO : ClassId) (h : Nat) (hp : Nat) (h1 : Nat) (S : LSt) (hp1 : Nat) (S1 : LSt) (hKk : ∃ n s e : Nat, S.1 0 = nI n ∧ n ≤ 120 ∧ S.1 4 = nI s ∧ S.1 5 = nI e ∧ s ≤ e ∧ e ≤ n) : MetI l ev (dC, dI) (tyC cI cZ cO) yX4_takeLine wsX4_takeLine (rmF 2 42) [.ref h] (wX cI h hp h1 S ++ wL cI h1 hp1 S1) (bI (sX4_takeLine S S1).1) (wX cI h hp h1 (sX4_takeLine S S1).2.1 ++ wL cI h1 hp1 (sX4_takeLine S S1).2.2) := by
  refine MetI_of (cc := cX4_takeLine) (maxL := 3) (ret := (some .boolean)) (by decide) rfl (Nat.le_of_ble_eq_true rfl) ?_
  intro p e s m below meth c A ls hx hb hr hml hts hown hlocks hin hK hP hD hA hE hl
  have hown : s.vm.findClass RX4 = some m.cls := hown
  have hl : lv_has ls 3 [(0, .ref h)] := hl
  have hS : va_S A s.heap s.heap [] := va_S.rf
  obtain ⟨σ, hσ⟩ : ∃ σ, (sX4_takeLine S S1) = σ := ⟨_, rfl⟩
  rw [hσ]
  rw [sX4_takeLine] at hσ
  refine lv_aload_n hx hb dX4_takeLine_0 rfl (lv_at hl 0 rfl) ?_
  refine va_get (D := (dC, dI)) (ci := 4) (v := .int (S.1 5)) (C := RX4) (T := TX4) (N := 8) hx hb hts (fun _ h => List.mem_cons_of_mem _ (List.mem_append_left _ (List.mem_append_right _ h))) hown hK hP 0 rfl rfl 7 (by decide) (hts (.fieldLink RX4 36 "SharedLine$Text" "end" "I") (List.mem_of_getElem? (i := 1) rfl)) (fun _ h9 => h9) rfl dX4_takeLine_1 ?_
  refine lv_aload_n hx hb dX4_takeLine_4 rfl (lv_at hl 0 rfl) ?_
  refine va_get (D := (dC, dI)) (ci := 4) (v := .int (S.1 4)) (C := RX4) (T := TX4) (N := 8) hx hb hts (fun _ h => List.mem_cons_of_mem _ (List.mem_append_left _ (List.mem_append_right _ h))) hown hK hP 0 rfl rfl 6 (by decide) (hts (.fieldLink RX4 49 "SharedLine$Text" "start" "I") (List.mem_of_getElem? (i := 2) rfl)) (fun _ h9 => h9) rfl dX4_takeLine_5 ?_
  refine lv_isub hx hb dX4_takeLine_8 ?_
  refine lv_bipush (v := 12) hx hb dX4_takeLine_9 (by decide) ?_
  refine lv_icmp_le (tgt := 16) hx hb dX4_takeLine_11 (by decide) (fun c11 => ?_) (fun c11 => ?_)
  · rw [if_pos c11] at hσ
    refine lv_aload_n hx hb dX4_takeLine_16 rfl (lv_at hl 0 rfl) ?_
    refine va_get (D := (dC, dI)) (ci := 4) (v := .ref h1) (C := RX4) (T := TX4) (N := 8) hx hb hts (fun _ h => List.mem_cons_of_mem _ (List.mem_append_left _ (List.mem_append_right _ h))) hown hK hP 0 rfl rfl 0 (by decide) (hts (.fieldLink RX4 12 "SharedLine$Text" "draft" "LSharedLine$Line;") (List.mem_of_getElem? (i := 3) rfl)) (fun _ h9 => h9) rfl dX4_takeLine_17 ?_
    refine lv_aload_n hx hb dX4_takeLine_20 rfl (lv_at hl 0 rfl) ?_
    refine va_get (D := (dC, dI)) (ci := 4) (v := .int (S.1 5)) (C := RX4) (T := TX4) (N := 8) hx hb hts (fun _ h => List.mem_cons_of_mem _ (List.mem_append_left _ (List.mem_append_right _ h))) hown hK hP 0 rfl rfl 7 (by decide) (hts (.fieldLink RX4 36 "SharedLine$Text" "end" "I") (List.mem_of_getElem? (i := 1) rfl)) (fun _ h9 => h9) rfl dX4_takeLine_21 ?_
    refine lv_aload_n hx hb dX4_takeLine_24 rfl (lv_at hl 0 rfl) ?_
    refine va_get (D := (dC, dI)) (ci := 4) (v := .int (S.1 4)) (C := RX4) (T := TX4) (N := 8) hx hb hts (fun _ h => List.mem_cons_of_mem _ (List.mem_append_left _ (List.mem_append_right _ h))) hown hK hP 0 rfl rfl 6 (by decide) (hts (.fieldLink RX4 49 "SharedLine$Text" "start" "I") (List.mem_of_getElem? (i := 2) rfl)) (fun _ h9 => h9) rfl dX4_takeLine_25 ?_
    refine lv_isub hx hb dX4_takeLine_28 ?_
    refine va_put (D := (dC, dI)) (ci := 0) (v := .int ((S.1 5) - (S.1 4))) (ty := .int) (C := RX0) (T := TX0) (N := 7) hx hb hts (fun _ h => List.mem_cons_of_mem _ (List.mem_append_right _ h)) tyX0 tyX0_ok nmX0 hown hK hP hD hS 2 rfl rfl 1 (by decide) (hts (.fieldLink RX4 101 "SharedLine$Line" "ticks" "I") (List.mem_of_getElem? (i := 4) rfl)) (fun _ h9 => h9) rfl (tyX0_ok 1 (by decide)) rfl rfl (Nat.le_of_ble_eq_true rfl) dX4_takeLine_29 (fun H locs hP hD hS => ?_)
    have hP : va_P (dC, dI) vwCl (wX cI h hp h1 S ++ wL cI h1 hp1 ((upd S1.1 0 ((S.1 5) - (S.1 4))), S1.2)) H := hP
    have hD : va_D A (wX cI h hp h1 S ++ wL cI h1 hp1 ((upd S1.1 0 ((S.1 5) - (S.1 4))), S1.2)) := hD
    refine lv_iconst (v := 0) hx hb dX4_takeLine_32 (by decide) ?_
    refine lv_istore_n (lv' := [(1, .int 0), (0, .ref h)]) hx hb dX4_takeLine_33 rfl hl (by decide) rfl (fun ls hl => ?_)
    obtain ⟨w, ew, hw⟩ := line_w hKk c11
    have key34 : ∀ (n34 : Nat) (x1_34 : Int32) (Y1_34 : LSt) (k34 : Nat), (x1_34 = nI k34) → (k34 ≤ 12) → (12 + 1 ≤ n34 + k34) → (Y1_34.1 0 = nI w) → (sX4_takeLine_L34 S n34 x1_34 Y1_34) = σ → ∀ (H : Heap) (locs : List Loc) (ls : Array Slot), va_P (dC, dI) vwCl (wX cI h hp h1 S ++ wL cI h1 hp1 Y1_34) H → va_D A (wX cI h hp h1 S ++ wL cI h1 hp1 Y1_34) → va_S A s.heap H locs → lv_has ls 3 [(0, .ref h), (1, .int x1_34)] → W p l e (headSpec wsX4_takeLine (rmF 2 42)).room s m ([.ref h] : List Value).toArray below meth c H locs 0 0 (MQ below (va_Qi (fun (x : Int32) (_ : Unit) => x = bI σ.1) (fun _ t => PoW (dC, dI) (tyC cI cZ cO) A (wX cI h hp h1 σ.2.1 ++ wL cI h1 hp1 σ.2.2) t) A) ([.ref h] : List Value).toArray s 0 0 A) (F0 m 34 ls []) := by
      intro n34
      induction n34 with
      | zero =>
        intro x1_34 Y1_34 k34 e34 hk34 hn34 w34
        exact absurd hn34 (by omega)
      | succ n34 ih34 =>
        intro x1_34 Y1_34 k34 e34 hk34 hn34 w34 hσ H locs ls hP hD hS hl
        rw [sX4_takeLine_L34_s] at hσ
        refine lv_iload_n hx hb dX4_takeLine_34 rfl (lv_at hl 1 rfl) ?_
        refine lv_aload_n hx hb dX4_takeLine_35 rfl (lv_at hl 0 rfl) ?_
        refine va_get (D := (dC, dI)) (ci := 4) (v := .ref h1) (C := RX4) (T := TX4) (N := 8) hx hb hts (fun _ h => List.mem_cons_of_mem _ (List.mem_append_left _ (List.mem_append_right _ h))) hown hK hP 0 rfl rfl 0 (by decide) (hts (.fieldLink RX4 12 "SharedLine$Text" "draft" "LSharedLine$Line;") (List.mem_of_getElem? (i := 3) rfl)) (fun _ h9 => h9) rfl dX4_takeLine_36 ?_
        refine va_get (D := (dC, dI)) (ci := 0) (v := .int (Y1_34.1 0)) (C := RX0) (T := TX0) (N := 7) hx hb hts (fun _ h => List.mem_cons_of_mem _ (List.mem_append_right _ h)) hown hK hP 2 rfl rfl 1 (by decide) (hts (.fieldLink RX4 101 "SharedLine$Line" "ticks" "I") (List.mem_of_getElem? (i := 4) rfl)) (fun _ h9 => h9) rfl dX4_takeLine_39 ?_
        refine lv_icmp_ge (tgt := 79) hx hb dX4_takeLine_42 (by decide) (fun c42 => ?_) (fun c42 => ?_)
        · rw [if_pos c42] at hσ
          refine lv_aload_n hx hb dX4_takeLine_79 rfl (lv_at hl 0 rfl) ?_
          refine lv_iconst (v := 1) hx hb dX4_takeLine_80 (by decide) ?_
          refine va_put (D := (dC, dI)) (ci := 4) (v := .int 1) (ty := .boolean) (C := RX4) (T := TX4) (N := 8) hx hb hts (fun _ h => List.mem_cons_of_mem _ (List.mem_append_left _ (List.mem_append_right _ h))) tyX4 tyX4_ok nmX4 hown hK hP hD hS 0 rfl rfl 3 (by decide) (hts (.fieldLink RX4 29 "SharedLine$Text" "lineTold" "Z") (List.mem_of_getElem? (i := 5) rfl)) (fun _ h9 => h9) rfl (tyX4_ok 3 (by decide)) rfl rfl (Nat.le_of_ble_eq_true rfl) dX4_takeLine_81 (fun H locs hP hD hS => ?_)
          have hP : va_P (dC, dI) vwCl (wX cI h hp h1 ((upd S.1 1 1), S.2) ++ wL cI h1 hp1 Y1_34) H := hP
          have hD : va_D A (wX cI h hp h1 ((upd S.1 1 1), S.2) ++ wL cI h1 hp1 Y1_34) := hD
          refine lv_iconst (v := 1) hx hb dX4_takeLine_84 (by decide) ?_
          subst hσ
          exact vq_zret hx hb hr hlocks hK hP hD hS rfl rfl dX4_takeLine_85
        · rw [if_neg c42] at hσ
          refine lv_aload_n hx hb dX4_takeLine_45 rfl (lv_at hl 0 rfl) ?_
          refine lv_aload_n hx hb dX4_takeLine_46 rfl (lv_at hl 0 rfl) ?_
          refine va_get (D := (dC, dI)) (ci := 4) (v := .int (S.1 4)) (C := RX4) (T := TX4) (N := 8) hx hb hts (fun _ h => List.mem_cons_of_mem _ (List.mem_append_left _ (List.mem_append_right _ h))) hown hK hP 0 rfl rfl 6 (by decide) (hts (.fieldLink RX4 49 "SharedLine$Text" "start" "I") (List.mem_of_getElem? (i := 2) rfl)) (fun _ h9 => h9) rfl dX4_takeLine_47 ?_
          refine lv_iload_n hx hb dX4_takeLine_50 rfl (lv_at hl 1 rfl) ?_
          refine lv_iadd hx hb dX4_takeLine_51 ?_
          refine vq_Vi (As := [.int ((S.1 4) + x1_34)]) (rest := []) (W2 := (wX cI h hp h1 S ++ wL cI h1 hp1 Y1_34)) (f := (sX4_figureAt S ((S.1 4) + x1_34))) hx hb hml hown hts hK hP hD hS hA hE hl.1 (cX4_figureAt_c l ev dC dI cI cZ cO h hp h1 S ((S.1 4) + x1_34) (tk_N hKk)) gX4_takeLine_X4_figureAt rfl hdX4_figureAt (Nat.le_of_ble_eq_true rfl) (Nat.le_of_ble_eq_true rfl) rfl rfl (ci := 4) (qr := 0) rfl rfl rfl [0, 1] [2, 3] [2, 3, 0, 1] rfl rfl (by decide) (by decide) (by decide) rfl rfl rfl (Nat.le_of_ble_eq_true rfl) dX4_takeLine_52 ⟨Nat.zero_le _, Nat.zero_le _⟩ (fun H locs hP hD hS => ?_)
          refine lv_istore_n (lv' := [(2, .int (sX4_figureAt S ((S.1 4) + x1_34))), (0, .ref h), (1, .int x1_34)]) hx hb dX4_takeLine_55 rfl hl (by decide) rfl (fun ls hl => ?_)
          refine lv_iload_n hx hb dX4_takeLine_56 rfl (lv_at hl 0 rfl) ?_
          refine lv_bipush (v := 7) hx hb dX4_takeLine_57 (by decide) ?_
          refine lv_icmp_le (tgt := 64) hx hb dX4_takeLine_59 (by decide) (fun c59 => ?_) (fun c59 => ?_)
          · rw [if_pos c59] at hσ
            refine lv_aload_n hx hb dX4_takeLine_64 rfl (lv_at hl 1 rfl) ?_
            refine va_get (D := (dC, dI)) (ci := 4) (v := .ref h1) (C := RX4) (T := TX4) (N := 8) hx hb hts (fun _ h => List.mem_cons_of_mem _ (List.mem_append_left _ (List.mem_append_right _ h))) hown hK hP 0 rfl rfl 0 (by decide) (hts (.fieldLink RX4 12 "SharedLine$Text" "draft" "LSharedLine$Line;") (List.mem_of_getElem? (i := 3) rfl)) (fun _ h9 => h9) rfl dX4_takeLine_65 ?_
            refine lv_iload_n hx hb dX4_takeLine_68 rfl (lv_at hl 2 rfl) ?_
            refine lv_iload_n hx hb dX4_takeLine_69 rfl (lv_at hl 0 rfl) ?_
            refine vq_Vv (As := [.int x1_34, .int (sX4_figureAt S ((S.1 4) + x1_34))]) (rest := []) (W2 := (wX cI h hp h1 S ++ wL cI h1 hp1 (sX0_setPitch Y1_34 x1_34 (sX4_figureAt S ((S.1 4) + x1_34))))) hx hb hml hown hts hK hP hD hS hA hE hl.1 (cX0_setPitch_c l ev dC dI cI cZ cO h1 hp1 Y1_34 x1_34 (sX4_figureAt S ((S.1 4) + x1_34))) gX4_takeLine_X0_setPitch rfl hdX0_setPitch (Nat.le_of_ble_eq_true rfl) (Nat.le_of_ble_eq_true rfl) rfl rfl (ci := 0) (qr := 2) rfl rfl rfl [2, 3] [0, 1] [0, 1, 2, 3] rfl rfl (by decide) (by decide) (by decide) rfl rfl rfl (Nat.le_of_ble_eq_true rfl) dX4_takeLine_70 ⟨Nat.zero_le _, Nat.zero_le _⟩ (fun H locs hP hD hS => ?_)
            refine lv_iinc (v := (x1_34 + 1)) (lv' := [(1, .int (x1_34 + 1)), (2, .int (sX4_figureAt S ((S.1 4) + x1_34))), (0, .ref h)]) hx hb dX4_takeLine_73 hl (k := 2) rfl rfl (by decide) rfl (fun ls hl => ?_)
            refine lv_goto (tgt := 34) hx hb dX4_takeLine_76 (by decide) ?_
            exact ih34 (x1_34 + 1) (sX0_setPitch Y1_34 x1_34 (sX4_figureAt S ((S.1 4) + x1_34))) (k34 + 1) (up_s e34) (by have := up_lt e34 w34 (by omega) c42; omega) (by omega) ((sp_ticks _ _ _).trans w34) hσ _ _ _ hP hD hS (lv_sub hl [2, 0] rfl)
          · rw [if_neg c59] at hσ
            refine lv_iconst (v := 0) hx hb dX4_takeLine_62 (by decide) ?_
            subst hσ
            exact vq_zret hx hb hr hlocks hK hP hD hS rfl rfl dX4_takeLine_63
    exact key34 13 (0 : Int32) ((upd S1.1 0 ((S.1 5) - (S.1 4))), S1.2) 0 nI_0.symm (Nat.zero_le _) (Nat.le_refl _) ew hσ _ _ _ hP hD hS (lv_sub hl [1, 0] rfl)
  · rw [if_neg c11] at hσ
    refine lv_iconst (v := 0) hx hb dX4_takeLine_14 (by decide) ?_
    subst hσ
    exact vq_zret hx hb hr hlocks hK hP hD hS rfl rfl dX4_takeLine_15
theorem hdX4_takeHands : yX4_takeHands.cls = RX4 ∧ yX4_takeHands.cls ≠ "java/lang/invoke/MethodHandle" ∧ yX4_takeHands.cls ≠ "java/lang/invoke/VarHandle" ∧ (parseMethodDescriptor yX4_takeHands.desc).map (fun d => d.parameters.length) = some 0 := by decide +kernel
set_option maxHeartbeats 4000000 in
set_option maxRecDepth 100000 in
theorem cX4_takeHands_c (l : Launch) (ev : Nat → Nat) (dC : Nat → ClassId) (dI : Nat → Nat → Nat) (cI cZ cO : ClassId) (h : Nat) (hp : Nat) (h1 : Nat) (S : LSt) (hp1 : Nat) (S1 : LSt) (hKk : ∃ n s e : Nat, S.1 0 = nI n ∧ n ≤ 120 ∧ S.1 4 = nI s ∧ S.1 5 = nI e ∧ s ≤ e ∧ e ≤ n) (hT : XOK S1) : MetI l ev (dC, dI) (tyC cI cZ cO) yX4_takeHands wsX4_takeHands (rmF 2 42) [.ref h] (wX cI h hp h1 S ++ wL cI h1 hp1 S1) (bI (sX4_takeHands S S1).1) (wX cI h hp h1 (sX4_takeHands S S1).2.1 ++ wL cI h1 hp1 (sX4_takeHands S S1).2.2) := by
  refine MetI_of (cc := cX4_takeHands) (maxL := 3) (ret := (some .boolean)) (by decide) rfl (Nat.le_of_ble_eq_true rfl) ?_
  intro p e s m below meth c A ls hx hb hr hml hts hown hlocks hin hK hP hD hA hE hl
  have hown : s.vm.findClass RX4 = some m.cls := hown
  have hl : lv_has ls 3 [(0, .ref h)] := hl
  have hS : va_S A s.heap s.heap [] := va_S.rf
  obtain ⟨σ, hσ⟩ : ∃ σ, (sX4_takeHands S S1) = σ := ⟨_, rfl⟩
  rw [hσ]
  rw [sX4_takeHands] at hσ
  obtain ⟨T, eT, hT1, hT2⟩ := id hT
  refine lv_aload_n hx hb dX4_takeHands_0 rfl (lv_at hl 0 rfl) ?_
  refine va_get (D := (dC, dI)) (ci := 4) (v := .int (S.1 5)) (C := RX4) (T := TX4) (N := 8) hx hb hts (fun _ h => List.mem_cons_of_mem _ (List.mem_append_left _ (List.mem_append_right _ h))) hown hK hP 0 rfl rfl 7 (by decide) (hts (.fieldLink RX4 36 "SharedLine$Text" "end" "I") (List.mem_of_getElem? (i := 1) rfl)) (fun _ h9 => h9) rfl dX4_takeHands_1 ?_
  refine lv_aload_n hx hb dX4_takeHands_4 rfl (lv_at hl 0 rfl) ?_
  refine va_get (D := (dC, dI)) (ci := 4) (v := .int (S.1 4)) (C := RX4) (T := TX4) (N := 8) hx hb hts (fun _ h => List.mem_cons_of_mem _ (List.mem_append_left _ (List.mem_append_right _ h))) hown hK hP 0 rfl rfl 6 (by decide) (hts (.fieldLink RX4 49 "SharedLine$Text" "start" "I") (List.mem_of_getElem? (i := 2) rfl)) (fun _ h9 => h9) rfl dX4_takeHands_5 ?_
  refine lv_isub hx hb dX4_takeHands_8 ?_
  refine lv_aload_n hx hb dX4_takeHands_9 rfl (lv_at hl 0 rfl) ?_
  refine va_get (D := (dC, dI)) (ci := 4) (v := .ref h1) (C := RX4) (T := TX4) (N := 8) hx hb hts (fun _ h => List.mem_cons_of_mem _ (List.mem_append_left _ (List.mem_append_right _ h))) hown hK hP 0 rfl rfl 0 (by decide) (hts (.fieldLink RX4 12 "SharedLine$Text" "draft" "LSharedLine$Line;") (List.mem_of_getElem? (i := 3) rfl)) (fun _ h9 => h9) rfl dX4_takeHands_10 ?_
  refine va_get (D := (dC, dI)) (ci := 0) (v := .int (S1.1 0)) (C := RX0) (T := TX0) (N := 7) hx hb hts (fun _ h => List.mem_cons_of_mem _ (List.mem_append_right _ h)) hown hK hP 2 rfl rfl 1 (by decide) (hts (.fieldLink RX4 101 "SharedLine$Line" "ticks" "I") (List.mem_of_getElem? (i := 4) rfl)) (fun _ h9 => h9) rfl dX4_takeHands_13 ?_
  refine lv_icmp_eq (tgt := 21) hx hb dX4_takeHands_16 (by decide) (fun c16 => ?_) (fun c16 => ?_)
  · rw [if_pos c16] at hσ
    refine lv_iconst (v := 0) hx hb dX4_takeHands_21 (by decide) ?_
    refine lv_istore_n (lv' := [(1, .int 0), (0, .ref h)]) hx hb dX4_takeHands_22 rfl hl (by decide) rfl (fun ls hl => ?_)
    have key23 : ∀ (n23 : Nat) (x1_23 : Int32) (Y1_23 : LSt) (k23 : Nat), (x1_23 = nI k23) → (k23 ≤ 12) → (12 + 1 ≤ n23 + k23) → (Y1_23.1 0 = nI T) → (sX4_takeHands_L23 S n23 x1_23 Y1_23) = σ → ∀ (H : Heap) (locs : List Loc) (ls : Array Slot), va_P (dC, dI) vwCl (wX cI h hp h1 S ++ wL cI h1 hp1 Y1_23) H → va_D A (wX cI h hp h1 S ++ wL cI h1 hp1 Y1_23) → va_S A s.heap H locs → lv_has ls 3 [(0, .ref h), (1, .int x1_23)] → W p l e (headSpec wsX4_takeHands (rmF 2 42)).room s m ([.ref h] : List Value).toArray below meth c H locs 0 0 (MQ below (va_Qi (fun (x : Int32) (_ : Unit) => x = bI σ.1) (fun _ t => PoW (dC, dI) (tyC cI cZ cO) A (wX cI h hp h1 σ.2.1 ++ wL cI h1 hp1 σ.2.2) t) A) ([.ref h] : List Value).toArray s 0 0 A) (F0 m 23 ls []) := by
      intro n23
      induction n23 with
      | zero =>
        intro x1_23 Y1_23 k23 e23 hk23 hn23 w23
        exact absurd hn23 (by omega)
      | succ n23 ih23 =>
        intro x1_23 Y1_23 k23 e23 hk23 hn23 w23 hσ H locs ls hP hD hS hl
        rw [sX4_takeHands_L23_s] at hσ
        refine lv_iload_n hx hb dX4_takeHands_23 rfl (lv_at hl 1 rfl) ?_
        refine lv_aload_n hx hb dX4_takeHands_24 rfl (lv_at hl 0 rfl) ?_
        refine va_get (D := (dC, dI)) (ci := 4) (v := .ref h1) (C := RX4) (T := TX4) (N := 8) hx hb hts (fun _ h => List.mem_cons_of_mem _ (List.mem_append_left _ (List.mem_append_right _ h))) hown hK hP 0 rfl rfl 0 (by decide) (hts (.fieldLink RX4 12 "SharedLine$Text" "draft" "LSharedLine$Line;") (List.mem_of_getElem? (i := 3) rfl)) (fun _ h9 => h9) rfl dX4_takeHands_25 ?_
        refine va_get (D := (dC, dI)) (ci := 0) (v := .int (Y1_23.1 0)) (C := RX0) (T := TX0) (N := 7) hx hb hts (fun _ h => List.mem_cons_of_mem _ (List.mem_append_right _ h)) hown hK hP 2 rfl rfl 1 (by decide) (hts (.fieldLink RX4 101 "SharedLine$Line" "ticks" "I") (List.mem_of_getElem? (i := 4) rfl)) (fun _ h9 => h9) rfl dX4_takeHands_28 ?_
        refine lv_icmp_ge (tgt := 75) hx hb dX4_takeHands_31 (by decide) (fun c31 => ?_) (fun c31 => ?_)
        · rw [if_pos c31] at hσ
          refine lv_aload_n hx hb dX4_takeHands_75 rfl (lv_at hl 0 rfl) ?_
          refine va_get (D := (dC, dI)) (ci := 4) (v := .ref h1) (C := RX4) (T := TX4) (N := 8) hx hb hts (fun _ h => List.mem_cons_of_mem _ (List.mem_append_left _ (List.mem_append_right _ h))) hown hK hP 0 rfl rfl 0 (by decide) (hts (.fieldLink RX4 12 "SharedLine$Text" "draft" "LSharedLine$Line;") (List.mem_of_getElem? (i := 3) rfl)) (fun _ h9 => h9) rfl dX4_takeHands_76 ?_
          refine lv_dup hx hb dX4_takeHands_79 rfl ?_
          refine va_get (D := (dC, dI)) (ci := 0) (v := .int (Y1_23.1 2)) (C := RX0) (T := TX0) (N := 7) hx hb hts (fun _ h => List.mem_cons_of_mem _ (List.mem_append_right _ h)) hown hK hP 2 rfl rfl 3 (by decide) (hts (.fieldLink RX4 114 "SharedLine$Line" "hands" "I") (List.mem_of_getElem? (i := 5) rfl)) (fun _ h9 => h9) rfl dX4_takeHands_80 ?_
          refine lv_aload_n hx hb dX4_takeHands_83 rfl (lv_at hl 0 rfl) ?_
          refine va_get (D := (dC, dI)) (ci := 4) (v := .ref h1) (C := RX4) (T := TX4) (N := 8) hx hb hts (fun _ h => List.mem_cons_of_mem _ (List.mem_append_left _ (List.mem_append_right _ h))) hown hK hP 0 rfl rfl 0 (by decide) (hts (.fieldLink RX4 12 "SharedLine$Text" "draft" "LSharedLine$Line;") (List.mem_of_getElem? (i := 3) rfl)) (fun _ h9 => h9) rfl dX4_takeHands_84 ?_
          refine va_get (D := (dC, dI)) (ci := 0) (v := .int (Y1_23.1 1)) (C := RX0) (T := TX0) (N := 7) hx hb hts (fun _ h => List.mem_cons_of_mem _ (List.mem_append_right _ h)) hown hK hP 2 rfl rfl 2 (by decide) (hts (.fieldLink RX4 116 "SharedLine$Line" "notes" "I") (List.mem_of_getElem? (i := 6) rfl)) (fun _ h9 => h9) rfl dX4_takeHands_87 ?_
          refine lv_iand hx hb dX4_takeHands_90 ?_
          refine va_put (D := (dC, dI)) (ci := 0) (v := .int ((Y1_23.1 2) &&& (Y1_23.1 1))) (ty := .int) (C := RX0) (T := TX0) (N := 7) hx hb hts (fun _ h => List.mem_cons_of_mem _ (List.mem_append_right _ h)) tyX0 tyX0_ok nmX0 hown hK hP hD hS 2 rfl rfl 3 (by decide) (hts (.fieldLink RX4 114 "SharedLine$Line" "hands" "I") (List.mem_of_getElem? (i := 5) rfl)) (fun _ h9 => h9) rfl (tyX0_ok 3 (by decide)) rfl rfl (Nat.le_of_ble_eq_true rfl) dX4_takeHands_91 (fun H locs hP hD hS => ?_)
          have hP : va_P (dC, dI) vwCl (wX cI h hp h1 S ++ wL cI h1 hp1 ((upd Y1_23.1 2 ((Y1_23.1 2) &&& (Y1_23.1 1))), Y1_23.2)) H := hP
          have hD : va_D A (wX cI h hp h1 S ++ wL cI h1 hp1 ((upd Y1_23.1 2 ((Y1_23.1 2) &&& (Y1_23.1 1))), Y1_23.2)) := hD
          refine lv_aload_n hx hb dX4_takeHands_94 rfl (lv_at hl 0 rfl) ?_
          refine lv_iconst (v := 1) hx hb dX4_takeHands_95 (by decide) ?_
          refine va_put (D := (dC, dI)) (ci := 4) (v := .int 1) (ty := .boolean) (C := RX4) (T := TX4) (N := 8) hx hb hts (fun _ h => List.mem_cons_of_mem _ (List.mem_append_left _ (List.mem_append_right _ h))) tyX4 tyX4_ok nmX4 hown hK hP hD hS 0 rfl rfl 4 (by decide) (hts (.fieldLink RX4 33 "SharedLine$Text" "handsTold" "Z") (List.mem_of_getElem? (i := 7) rfl)) (fun _ h9 => h9) rfl (tyX4_ok 4 (by decide)) rfl rfl (Nat.le_of_ble_eq_true rfl) dX4_takeHands_96 (fun H locs hP hD hS => ?_)
          have hP : va_P (dC, dI) vwCl (wX cI h hp h1 ((upd S.1 2 1), S.2) ++ wL cI h1 hp1 ((upd Y1_23.1 2 ((Y1_23.1 2) &&& (Y1_23.1 1))), Y1_23.2)) H := hP
          have hD : va_D A (wX cI h hp h1 ((upd S.1 2 1), S.2) ++ wL cI h1 hp1 ((upd Y1_23.1 2 ((Y1_23.1 2) &&& (Y1_23.1 1))), Y1_23.2)) := hD
          refine lv_iconst (v := 1) hx hb dX4_takeHands_99 (by decide) ?_
          subst hσ
          exact vq_zret hx hb hr hlocks hK hP hD hS rfl rfl dX4_takeHands_100
        · rw [if_neg c31] at hσ
          refine lv_aload_n hx hb dX4_takeHands_34 rfl (lv_at hl 0 rfl) ?_
          refine lv_aload_n hx hb dX4_takeHands_35 rfl (lv_at hl 0 rfl) ?_
          refine va_get (D := (dC, dI)) (ci := 4) (v := .int (S.1 4)) (C := RX4) (T := TX4) (N := 8) hx hb hts (fun _ h => List.mem_cons_of_mem _ (List.mem_append_left _ (List.mem_append_right _ h))) hown hK hP 0 rfl rfl 6 (by decide) (hts (.fieldLink RX4 49 "SharedLine$Text" "start" "I") (List.mem_of_getElem? (i := 2) rfl)) (fun _ h9 => h9) rfl dX4_takeHands_36 ?_
          refine lv_iload_n hx hb dX4_takeHands_39 rfl (lv_at hl 1 rfl) ?_
          refine lv_iadd hx hb dX4_takeHands_40 ?_
          refine vq_Vi (As := [.int ((S.1 4) + x1_23)]) (rest := []) (W2 := (wX cI h hp h1 S ++ wL cI h1 hp1 Y1_23)) (f := (sX4_figureAt S ((S.1 4) + x1_23))) hx hb hml hown hts hK hP hD hS hA hE hl.1 (cX4_figureAt_c l ev dC dI cI cZ cO h hp h1 S ((S.1 4) + x1_23) (tk_N hKk)) gX4_takeHands_X4_figureAt rfl hdX4_figureAt (Nat.le_of_ble_eq_true rfl) (Nat.le_of_ble_eq_true rfl) rfl rfl (ci := 4) (qr := 0) rfl rfl rfl [0, 1] [2, 3] [2, 3, 0, 1] rfl rfl (by decide) (by decide) (by decide) rfl rfl rfl (Nat.le_of_ble_eq_true rfl) dX4_takeHands_41 ⟨Nat.zero_le _, Nat.zero_le _⟩ (fun H locs hP hD hS => ?_)
          refine lv_istore_n (lv' := [(2, .int (sX4_figureAt S ((S.1 4) + x1_23))), (0, .ref h), (1, .int x1_23)]) hx hb dX4_takeHands_44 rfl hl (by decide) rfl (fun ls hl => ?_)
          refine lv_iload_n hx hb dX4_takeHands_45 rfl (lv_at hl 0 rfl) ?_
          refine vq_SNi (As := [.int (sX4_figureAt S ((S.1 4) + x1_23))]) (rest := []) (W2 := (wX cI h hp h1 S ++ wL cI h1 hp1 Y1_23)) (f := (bI (sX5_isHand (sX4_figureAt S ((S.1 4) + x1_23))))) hx hb hml hown hts hK hP hD hS hA hE hl.1 (cX5_isHand_c l ev dC dI cI cZ cO (sX4_figureAt S ((S.1 4) + x1_23))) gX4_takeHands_X5_isHand_n111 hE.2.2.2.2.2.2.1 (hts (.initialized RX5) (List.mem_of_getElem? (i := 20) rfl)) (hts (.static yX5_isHand) (List.mem_of_getElem? (i := 19) rfl)) rfl hdX5_isHand (Nat.le_of_ble_eq_true rfl) (Nat.le_of_ble_eq_true rfl) rfl rfl [] [0, 1, 2, 3] [0, 1, 2, 3] rfl rfl (by decide) (by decide) (by decide) rfl rfl rfl (Nat.le_of_ble_eq_true rfl) dX4_takeHands_46 ⟨Nat.zero_le _, Nat.zero_le _⟩ (fun H locs hP hD hS => ?_)
          refine lv_if_neB (tgt := 54) hx hb dX4_takeHands_49 (by decide) (fun c49 => ?_) (fun c49 => ?_)
          · rw [if_pos c49] at hσ
            refine lv_aload_n hx hb dX4_takeHands_54 rfl (lv_at hl 1 rfl) ?_
            refine va_get (D := (dC, dI)) (ci := 4) (v := .ref h1) (C := RX4) (T := TX4) (N := 8) hx hb hts (fun _ h => List.mem_cons_of_mem _ (List.mem_append_left _ (List.mem_append_right _ h))) hown hK hP 0 rfl rfl 0 (by decide) (hts (.fieldLink RX4 12 "SharedLine$Text" "draft" "LSharedLine$Line;") (List.mem_of_getElem? (i := 3) rfl)) (fun _ h9 => h9) rfl dX4_takeHands_55 ?_
            refine lv_dup hx hb dX4_takeHands_58 rfl ?_
            refine va_get (D := (dC, dI)) (ci := 0) (v := .int (Y1_23.1 2)) (C := RX0) (T := TX0) (N := 7) hx hb hts (fun _ h => List.mem_cons_of_mem _ (List.mem_append_right _ h)) hown hK hP 2 rfl rfl 3 (by decide) (hts (.fieldLink RX4 114 "SharedLine$Line" "hands" "I") (List.mem_of_getElem? (i := 5) rfl)) (fun _ h9 => h9) rfl dX4_takeHands_59 ?_
            refine lv_iload_n hx hb dX4_takeHands_62 rfl (lv_at hl 0 rfl) ?_
            refine lv_iload_n hx hb dX4_takeHands_63 rfl (lv_at hl 2 rfl) ?_
            refine lv_ishl hx hb dX4_takeHands_64 ?_
            refine lv_ior hx hb dX4_takeHands_65 ?_
            refine va_put (D := (dC, dI)) (ci := 0) (v := .int ((Y1_23.1 2) ||| ((sX4_figureAt S ((S.1 4) + x1_23)) <<< (x1_23 &&& 31)))) (ty := .int) (C := RX0) (T := TX0) (N := 7) hx hb hts (fun _ h => List.mem_cons_of_mem _ (List.mem_append_right _ h)) tyX0 tyX0_ok nmX0 hown hK hP hD hS 2 rfl rfl 3 (by decide) (hts (.fieldLink RX4 114 "SharedLine$Line" "hands" "I") (List.mem_of_getElem? (i := 5) rfl)) (fun _ h9 => h9) rfl (tyX0_ok 3 (by decide)) rfl rfl (Nat.le_of_ble_eq_true rfl) dX4_takeHands_66 (fun H locs hP hD hS => ?_)
            have hP : va_P (dC, dI) vwCl (wX cI h hp h1 S ++ wL cI h1 hp1 ((upd Y1_23.1 2 ((Y1_23.1 2) ||| ((sX4_figureAt S ((S.1 4) + x1_23)) <<< (x1_23 &&& 31)))), Y1_23.2)) H := hP
            have hD : va_D A (wX cI h hp h1 S ++ wL cI h1 hp1 ((upd Y1_23.1 2 ((Y1_23.1 2) ||| ((sX4_figureAt S ((S.1 4) + x1_23)) <<< (x1_23 &&& 31)))), Y1_23.2)) := hD
            refine lv_iinc (v := (x1_23 + 1)) (lv' := [(1, .int (x1_23 + 1)), (2, .int (sX4_figureAt S ((S.1 4) + x1_23))), (0, .ref h)]) hx hb dX4_takeHands_69 hl (k := 2) rfl rfl (by decide) rfl (fun ls hl => ?_)
            refine lv_goto (tgt := 23) hx hb dX4_takeHands_72 (by decide) ?_
            exact ih23 (x1_23 + 1) ((upd Y1_23.1 2 ((Y1_23.1 2) ||| ((sX4_figureAt S ((S.1 4) + x1_23)) <<< (x1_23 &&& 31)))), Y1_23.2) (k23 + 1) (up_s e23) (by have := up_lt e23 w23 (by omega) c31; omega) (by omega) w23 hσ _ _ _ hP hD hS (lv_sub hl [2, 0] rfl)
          · rw [if_neg (Bool.eq_false_iff.mp c49)] at hσ
            refine lv_iconst (v := 0) hx hb dX4_takeHands_52 (by decide) ?_
            subst hσ
            exact vq_zret hx hb hr hlocks hK hP hD hS rfl rfl dX4_takeHands_53
    exact key23 13 (0 : Int32) S1 0 nI_0.symm (Nat.zero_le _) (Nat.le_refl _) eT hσ _ _ _ hP hD hS (lv_sub hl [1, 0] rfl)
  · rw [if_neg c16] at hσ
    refine lv_iconst (v := 0) hx hb dX4_takeHands_19 (by decide) ?_
    subst hσ
    exact vq_zret hx hb hr hlocks hK hP hD hS rfl rfl dX4_takeHands_20
theorem hdX4_takeNumber : yX4_takeNumber.cls = RX4 ∧ yX4_takeNumber.cls ≠ "java/lang/invoke/MethodHandle" ∧ yX4_takeNumber.cls ≠ "java/lang/invoke/VarHandle" ∧ (parseMethodDescriptor yX4_takeNumber.desc).map (fun d => d.parameters.length) = some 1 := by decide +kernel
set_option maxHeartbeats 4000000 in
set_option maxRecDepth 100000 in
theorem cX4_takeNumber_c (l : Launch) (ev : Nat → Nat) (dC : Nat → ClassId) (dI : Nat → Nat → Nat) (cI cZ cO : ClassId) (h : Nat) (hp : Nat) (h1 : Nat) (S : LSt) (hp1 : Nat) (S1 : LSt) (p1 : Int32) (hKk : ∃ n s e : Nat, S.1 0 = nI n ∧ n ≤ 120 ∧ S.1 4 = nI s ∧ S.1 5 = nI e ∧ s ≤ e ∧ e ≤ n) : MetI l ev (dC, dI) (tyC cI cZ cO) yX4_takeNumber wsX4_takeNumber (rmF 2 42) [.ref h, .int p1] (wX cI h hp h1 S ++ wL cI h1 hp1 S1) (bI (sX4_takeNumber S S1 p1).1) (wX cI h hp h1 S ++ wL cI h1 hp1 (sX4_takeNumber S S1 p1).2) := by
  refine MetI_of (cc := cX4_takeNumber) (maxL := 3) (ret := (some .boolean)) (by decide) rfl (Nat.le_of_ble_eq_true rfl) ?_
  intro p e s m below meth c A ls hx hb hr hml hts hown hlocks hin hK hP hD hA hE hl
  have hown : s.vm.findClass RX4 = some m.cls := hown
  have hl : lv_has ls 3 [(0, .ref h), (1, .int p1)] := hl
  have hS : va_S A s.heap s.heap [] := va_S.rf
  obtain ⟨σ, hσ⟩ : ∃ σ, (sX4_takeNumber S S1 p1) = σ := ⟨_, rfl⟩
  rw [hσ]
  rw [sX4_takeNumber] at hσ
  refine lv_aload_n hx hb dX4_takeNumber_0 rfl (lv_at hl 0 rfl) ?_
  refine lv_aload_n hx hb dX4_takeNumber_1 rfl (lv_at hl 0 rfl) ?_
  refine va_get (D := (dC, dI)) (ci := 4) (v := .int (S.1 4)) (C := RX4) (T := TX4) (N := 8) hx hb hts (fun _ h => List.mem_cons_of_mem _ (List.mem_append_left _ (List.mem_append_right _ h))) hown hK hP 0 rfl rfl 6 (by decide) (hts (.fieldLink RX4 49 "SharedLine$Text" "start" "I") (List.mem_of_getElem? (i := 1) rfl)) (fun _ h9 => h9) rfl dX4_takeNumber_2 ?_
  refine vq_Vi (As := [.int (S.1 4)]) (rest := []) (W2 := (wX cI h hp h1 S ++ wL cI h1 hp1 S1)) (f := (sX4_figureAt S (S.1 4))) hx hb hml hown hts hK hP hD hS hA hE hl.1 (cX4_figureAt_c l ev dC dI cI cZ cO h hp h1 S (S.1 4) (tk_N hKk)) gX4_takeNumber_X4_figureAt rfl hdX4_figureAt (Nat.le_of_ble_eq_true rfl) (Nat.le_of_ble_eq_true rfl) rfl rfl (ci := 4) (qr := 0) rfl rfl rfl [0, 1] [2, 3] [2, 3, 0, 1] rfl rfl (by decide) (by decide) (by decide) rfl rfl rfl (Nat.le_of_ble_eq_true rfl) dX4_takeNumber_5 ⟨Nat.zero_le _, Nat.zero_le _⟩ (fun H locs hP hD hS => ?_)
  refine lv_istore_n (lv' := [(2, .int (sX4_figureAt S (S.1 4))), (0, .ref h), (1, .int p1)]) hx hb dX4_takeNumber_8 rfl hl (by decide) rfl (fun ls hl => ?_)
  refine lv_aload_n hx hb dX4_takeNumber_9 rfl (lv_at hl 1 rfl) ?_
  refine va_get (D := (dC, dI)) (ci := 4) (v := .int (S.1 5)) (C := RX4) (T := TX4) (N := 8) hx hb hts (fun _ h => List.mem_cons_of_mem _ (List.mem_append_left _ (List.mem_append_right _ h))) hown hK hP 0 rfl rfl 7 (by decide) (hts (.fieldLink RX4 36 "SharedLine$Text" "end" "I") (List.mem_of_getElem? (i := 2) rfl)) (fun _ h9 => h9) rfl dX4_takeNumber_10 ?_
  refine lv_aload_n hx hb dX4_takeNumber_13 rfl (lv_at hl 1 rfl) ?_
  refine va_get (D := (dC, dI)) (ci := 4) (v := .int (S.1 4)) (C := RX4) (T := TX4) (N := 8) hx hb hts (fun _ h => List.mem_cons_of_mem _ (List.mem_append_left _ (List.mem_append_right _ h))) hown hK hP 0 rfl rfl 6 (by decide) (hts (.fieldLink RX4 49 "SharedLine$Text" "start" "I") (List.mem_of_getElem? (i := 1) rfl)) (fun _ h9 => h9) rfl dX4_takeNumber_14 ?_
  refine lv_isub hx hb dX4_takeNumber_17 ?_
  refine lv_iconst (v := 1) hx hb dX4_takeNumber_18 (by decide) ?_
  refine lv_icmp_ne (tgt := 30) hx hb dX4_takeNumber_19 (by decide) (fun c19 => ?_) (fun c19 => ?_)
  · rw [if_neg c19] at hσ
    refine lv_iconst (v := 0) hx hb dX4_takeNumber_30 (by decide) ?_
    subst hσ
    exact vq_zret hx hb hr hlocks hK hP hD hS rfl rfl dX4_takeNumber_31
  · rw [if_pos c19] at hσ
    refine lv_iload_n hx hb dX4_takeNumber_22 rfl (lv_at hl 2 rfl) ?_
    refine lv_iload_n hx hb dX4_takeNumber_23 rfl (lv_at hl 0 rfl) ?_
    refine vq_SNi (As := [.int p1, .int (sX4_figureAt S (S.1 4))]) (rest := []) (W2 := (wX cI h hp h1 S ++ wL cI h1 hp1 S1)) (f := (bI (sX5_isNumber p1 (sX4_figureAt S (S.1 4))))) hx hb hml hown hts hK hP hD hS hA hE hl.1 (cX5_isNumber_c l ev dC dI cI cZ cO p1 (sX4_figureAt S (S.1 4))) gX4_takeNumber_X5_isNumber_n119 hE.2.2.2.2.2.2.2 (hts (.initialized RX5) (List.mem_of_getElem? (i := 16) rfl)) (hts (.static yX5_isNumber) (List.mem_of_getElem? (i := 15) rfl)) rfl hdX5_isNumber (Nat.le_of_ble_eq_true rfl) (Nat.le_of_ble_eq_true rfl) rfl rfl [] [0, 1, 2, 3] [0, 1, 2, 3] rfl rfl (by decide) (by decide) (by decide) rfl rfl rfl (Nat.le_of_ble_eq_true rfl) dX4_takeNumber_24 ⟨Nat.zero_le _, Nat.zero_le _⟩ (fun H locs hP hD hS => ?_)
    refine lv_if_neB (tgt := 32) hx hb dX4_takeNumber_27 (by decide) (fun c27 => ?_) (fun c27 => ?_)
    · rw [if_pos c27] at hσ
      refine lv_aload_n hx hb dX4_takeNumber_32 rfl (lv_at hl 1 rfl) ?_
      refine va_get (D := (dC, dI)) (ci := 4) (v := .ref h1) (C := RX4) (T := TX4) (N := 8) hx hb hts (fun _ h => List.mem_cons_of_mem _ (List.mem_append_left _ (List.mem_append_right _ h))) hown hK hP 0 rfl rfl 0 (by decide) (hts (.fieldLink RX4 12 "SharedLine$Text" "draft" "LSharedLine$Line;") (List.mem_of_getElem? (i := 3) rfl)) (fun _ h9 => h9) rfl dX4_takeNumber_33 ?_
      refine lv_iload_n hx hb dX4_takeNumber_36 rfl (lv_at hl 2 rfl) ?_
      refine lv_iload_n hx hb dX4_takeNumber_37 rfl (lv_at hl 0 rfl) ?_
      refine vq_Vv (As := [.int p1, .int (sX4_figureAt S (S.1 4))]) (rest := []) (W2 := (wX cI h hp h1 S ++ wL cI h1 hp1 (sX0_setNumber S1 p1 (sX4_figureAt S (S.1 4))))) hx hb hml hown hts hK hP hD hS hA hE hl.1 (cX0_setNumber_c l ev dC dI cI cZ cO h1 hp1 S1 p1 (sX4_figureAt S (S.1 4))) gX4_takeNumber_X0_setNumber rfl hdX0_setNumber (Nat.le_of_ble_eq_true rfl) (Nat.le_of_ble_eq_true rfl) rfl rfl (ci := 0) (qr := 2) rfl rfl rfl [2, 3] [0, 1] [0, 1, 2, 3] rfl rfl (by decide) (by decide) (by decide) rfl rfl rfl (Nat.le_of_ble_eq_true rfl) dX4_takeNumber_38 ⟨Nat.zero_le _, Nat.zero_le _⟩ (fun H locs hP hD hS => ?_)
      refine lv_iconst (v := 1) hx hb dX4_takeNumber_41 (by decide) ?_
      subst hσ
      exact vq_zret hx hb hr hlocks hK hP hD hS rfl rfl dX4_takeNumber_42
    · rw [if_neg (Bool.eq_false_iff.mp c27)] at hσ
      refine lv_iconst (v := 0) hx hb dX4_takeNumber_30 (by decide) ?_
      subst hσ
      exact vq_zret hx hb hr hlocks hK hP hD hS rfl rfl dX4_takeNumber_31
theorem hdX4_takeFigures : yX4_takeFigures.cls = RX4 ∧ yX4_takeFigures.cls ≠ "java/lang/invoke/MethodHandle" ∧ yX4_takeFigures.cls ≠ "java/lang/invoke/VarHandle" ∧ (parseMethodDescriptor yX4_takeFigures.desc).map (fun d => d.parameters.length) = some 1 := by decide +kernel
set_option maxHeartbeats 4000000 in
set_option maxRecDepth 100000 in
theorem cX4_takeFigures_c (l : Launch) (ev : Nat → Nat) (dC : Nat → ClassId) (dI : Nat → Nat → Nat) (cI cZ cO : ClassId) (h : Nat) (hp : Nat) (h1 : Nat) (S : LSt) (hp1 : Nat) (S1 : LSt) (p1 : Int32) (hKk : ∃ n s e : Nat, S.1 0 = nI n ∧ n ≤ 120 ∧ S.1 4 = nI s ∧ S.1 5 = nI e ∧ s ≤ e ∧ e ≤ n) (hT : XOK S1) : MetI l ev (dC, dI) (tyC cI cZ cO) yX4_takeFigures wsX4_takeFigures (rmF 3 64) [.ref h, .int p1] (wX cI h hp h1 S ++ wL cI h1 hp1 S1) (bI (sX4_takeFigures S S1 p1).1) (wX cI h hp h1 (sX4_takeFigures S S1 p1).2.1 ++ wL cI h1 hp1 (sX4_takeFigures S S1 p1).2.2) := by
  refine MetI_of (cc := cX4_takeFigures) (maxL := 2) (ret := (some .boolean)) (by decide) rfl (Nat.le_of_ble_eq_true rfl) ?_
  intro p e s m below meth c A ls hx hb hr hml hts hown hlocks hin hK hP hD hA hE hl
  have hown : s.vm.findClass RX4 = some m.cls := hown
  have hl : lv_has ls 2 [(0, .ref h), (1, .int p1)] := hl
  have hS : va_S A s.heap s.heap [] := va_S.rf
  obtain ⟨σ, hσ⟩ : ∃ σ, (sX4_takeFigures S S1 p1) = σ := ⟨_, rfl⟩
  rw [hσ]
  rw [sX4_takeFigures] at hσ
  refine lv_iload_n hx hb dX4_takeFigures_0 rfl (lv_at hl 1 rfl) ?_
  by_cases c1_0 : p1 = 3
  · rw [if_pos c1_0] at hσ
    refine lv_lookup (x := p1) (off := 27) (tgt := 28) hx hb dX4_takeFigures_1 (by decide) (by rw [c1_0]; decide) (by decide) ?_
    refine lv_aload_n hx hb dX4_takeFigures_28 rfl (lv_at hl 0 rfl) ?_
    refine vq_Vi (As := []) (rest := []) (W2 := (wX cI h hp h1 (sX4_takeLine S S1).2.1 ++ wL cI h1 hp1 (sX4_takeLine S S1).2.2)) (f := (bI (sX4_takeLine S S1).1)) hx hb hml hown hts hK hP hD hS hA hE hl.1 (cX4_takeLine_c l ev dC dI cI cZ cO h hp h1 S hp1 S1 hKk) gX4_takeFigures_X4_takeLine rfl hdX4_takeLine (Nat.le_of_ble_eq_true rfl) (Nat.le_of_ble_eq_true rfl) rfl rfl (ci := 4) (qr := 0) rfl rfl rfl [0, 1, 2, 3] [] [0, 1, 2, 3] rfl rfl (by decide) (by decide) (by decide) rfl rfl rfl (Nat.le_of_ble_eq_true rfl) dX4_takeFigures_29 ⟨Nat.zero_le _, Nat.zero_le _⟩ (fun H locs hP hD hS => ?_)
    subst hσ
    exact vq_zret hx hb hr hlocks hK hP hD hS (nar_bI _) rfl dX4_takeFigures_32
  · rw [if_neg c1_0] at hσ
    by_cases c1_1 : p1 = 4
    · rw [if_pos c1_1] at hσ
      refine lv_lookup (x := p1) (off := 32) (tgt := 33) hx hb dX4_takeFigures_1 (by decide) (by rw [c1_1]; decide) (by decide) ?_
      refine lv_aload_n hx hb dX4_takeFigures_33 rfl (lv_at hl 0 rfl) ?_
      refine vq_Vi (As := []) (rest := []) (W2 := (wX cI h hp h1 (sX4_takeHands S S1).2.1 ++ wL cI h1 hp1 (sX4_takeHands S S1).2.2)) (f := (bI (sX4_takeHands S S1).1)) hx hb hml hown hts hK hP hD hS hA hE hl.1 (cX4_takeHands_c l ev dC dI cI cZ cO h hp h1 S hp1 S1 hKk hT) gX4_takeFigures_X4_takeHands rfl hdX4_takeHands (Nat.le_of_ble_eq_true rfl) (Nat.le_of_ble_eq_true rfl) rfl rfl (ci := 4) (qr := 0) rfl rfl rfl [0, 1, 2, 3] [] [0, 1, 2, 3] rfl rfl (by decide) (by decide) (by decide) rfl rfl rfl (Nat.le_of_ble_eq_true rfl) dX4_takeFigures_34 ⟨Nat.zero_le _, Nat.zero_le _⟩ (fun H locs hP hD hS => ?_)
      subst hσ
      exact vq_zret hx hb hr hlocks hK hP hD hS (nar_bI _) rfl dX4_takeFigures_37
    · rw [if_neg c1_1] at hσ
      refine lv_lookup (x := p1) (off := 37) (tgt := 38) hx hb dX4_takeFigures_1 (by decide) (by rw [show (#[(3, 27), (4, 32)] : Array (Int × Int)).toList = [(3, 27), (4, 32)] from rfl, lv_osw c1_0 (by decide), lv_osw c1_1 (by decide)]; rfl) (by decide) ?_
      refine lv_aload_n hx hb dX4_takeFigures_38 rfl (lv_at hl 0 rfl) ?_
      refine lv_iload_n hx hb dX4_takeFigures_39 rfl (lv_at hl 1 rfl) ?_
      refine vq_Vi (As := [.int p1]) (rest := []) (W2 := (wX cI h hp h1 S ++ wL cI h1 hp1 (sX4_takeNumber S S1 p1).2)) (f := (bI (sX4_takeNumber S S1 p1).1)) hx hb hml hown hts hK hP hD hS hA hE hl.1 (cX4_takeNumber_c l ev dC dI cI cZ cO h hp h1 S hp1 S1 p1 hKk) gX4_takeFigures_X4_takeNumber rfl hdX4_takeNumber (Nat.le_of_ble_eq_true rfl) (Nat.le_of_ble_eq_true rfl) rfl rfl (ci := 4) (qr := 0) rfl rfl rfl [0, 1, 2, 3] [] [0, 1, 2, 3] rfl rfl (by decide) (by decide) (by decide) rfl rfl rfl (Nat.le_of_ble_eq_true rfl) dX4_takeFigures_40 ⟨Nat.zero_le _, Nat.zero_le _⟩ (fun H locs hP hD hS => ?_)
      subst hσ
      exact vq_zret hx hb hr hlocks hK hP hD hS (nar_bI _) rfl dX4_takeFigures_43
theorem hdX4_readItem : yX4_readItem.cls = RX4 ∧ yX4_readItem.cls ≠ "java/lang/invoke/MethodHandle" ∧ yX4_readItem.cls ≠ "java/lang/invoke/VarHandle" ∧ (parseMethodDescriptor yX4_readItem.desc).map (fun d => d.parameters.length) = some 0 := by decide +kernel
set_option maxHeartbeats 4000000 in
set_option maxRecDepth 100000 in
theorem cX4_readItem_c (l : Launch) (ev : Nat → Nat) (dC : Nat → ClassId) (dI : Nat → Nat → Nat) (cI cZ cO : ClassId) (h : Nat) (hp : Nat) (h1 : Nat) (S : LSt) (hp1 : Nat) (S1 : LSt) (hAa : ∃ n a : Nat, S.1 0 = nI n ∧ n ≤ 120 ∧ S.1 5 = nI a ∧ a ≤ n) (hT : XOK S1) : MetI l ev (dC, dI) (tyC cI cZ cO) yX4_readItem wsX4_readItem (rmF 6 127) [.ref h] (wX cI h hp h1 S ++ wL cI h1 hp1 S1) (bI (sX4_readItem S S1).1) (wX cI h hp h1 (sX4_readItem S S1).2.1 ++ wL cI h1 hp1 (sX4_readItem S S1).2.2) := by
  refine MetI_of (cc := cX4_readItem) (maxL := 2) (ret := (some .boolean)) (by decide) rfl (Nat.le_of_ble_eq_true rfl) ?_
  intro p e s m below meth c A ls hx hb hr hml hts hown hlocks hin hK hP hD hA hE hl
  have hown : s.vm.findClass RX4 = some m.cls := hown
  have hl : lv_has ls 2 [(0, .ref h)] := hl
  have hS : va_S A s.heap s.heap [] := va_S.rf
  obtain ⟨σ, hσ⟩ : ∃ σ, (sX4_readItem S S1) = σ := ⟨_, rfl⟩
  rw [hσ]
  rw [sX4_readItem] at hσ
  refine lv_aload_n hx hb dX4_readItem_0 rfl (lv_at hl 0 rfl) ?_
  refine vq_Vi (As := []) (rest := []) (W2 := (wX cI h hp h1 S ++ wL cI h1 hp1 S1)) (f := (sX4_itemOfWord S)) hx hb hml hown hts hK hP hD hS hA hE hl.1 (cX4_itemOfWord_c l ev dC dI cI cZ cO h hp h1 S (aa_N hAa)) gX4_readItem_X4_itemOfWord rfl hdX4_itemOfWord (Nat.le_of_ble_eq_true rfl) (Nat.le_of_ble_eq_true rfl) rfl rfl (ci := 4) (qr := 0) rfl rfl rfl [0, 1] [2, 3] [2, 3, 0, 1] rfl rfl (by decide) (by decide) (by decide) rfl rfl rfl (Nat.le_of_ble_eq_true rfl) dX4_readItem_1 ⟨Nat.zero_le _, Nat.zero_le _⟩ (fun H locs hP hD hS => ?_)
  refine lv_istore_n (lv' := [(1, .int (sX4_itemOfWord S)), (0, .ref h)]) hx hb dX4_readItem_4 rfl hl (by decide) rfl (fun ls hl => ?_)
  refine lv_aload_n hx hb dX4_readItem_5 rfl (lv_at hl 1 rfl) ?_
  refine lv_iload_n hx hb dX4_readItem_6 rfl (lv_at hl 0 rfl) ?_
  refine vq_Vi (As := [.int (sX4_itemOfWord S)]) (rest := []) (W2 := (wX cI h hp h1 S ++ wL cI h1 hp1 S1)) (f := (bI (sX4_mayBegin S (sX4_itemOfWord S)))) hx hb hml hown hts hK hP hD hS hA hE hl.1 (cX4_mayBegin_c l ev dC dI cI cZ cO h hp h1 S (sX4_itemOfWord S)) gX4_readItem_X4_mayBegin rfl hdX4_mayBegin (Nat.le_of_ble_eq_true rfl) (Nat.le_of_ble_eq_true rfl) rfl rfl (ci := 4) (qr := 0) rfl rfl rfl [0, 1] [2, 3] [2, 3, 0, 1] rfl rfl (by decide) (by decide) (by decide) rfl rfl rfl (Nat.le_of_ble_eq_true rfl) dX4_readItem_7 ⟨Nat.zero_le _, Nat.zero_le _⟩ (fun H locs hP hD hS => ?_)
  refine lv_if_neB (tgt := 15) hx hb dX4_readItem_10 (by decide) (fun c10 => ?_) (fun c10 => ?_)
  · rw [if_pos c10] at hσ
    refine lv_aload_n hx hb dX4_readItem_15 rfl (lv_at hl 1 rfl) ?_
    refine vq_Vv (As := []) (rest := []) (W2 := (wX cI h hp h1 (sX4_nextToken S) ++ wL cI h1 hp1 S1)) hx hb hml hown hts hK hP hD hS hA hE hl.1 (cX4_nextToken_c l ev dC dI cI cZ cO h hp h1 S hAa) gX4_readItem_X4_nextToken rfl hdX4_nextToken (Nat.le_of_ble_eq_true rfl) (Nat.le_of_ble_eq_true rfl) rfl rfl (ci := 4) (qr := 0) rfl rfl rfl [0, 1] [2, 3] [2, 3, 0, 1] rfl rfl (by decide) (by decide) (by decide) rfl rfl rfl (Nat.le_of_ble_eq_true rfl) dX4_readItem_16 ⟨Nat.zero_le _, Nat.zero_le _⟩ (fun H locs hP hD hS => ?_)
    refine lv_aload_n hx hb dX4_readItem_19 rfl (lv_at hl 1 rfl) ?_
    refine va_get (D := (dC, dI)) (ci := 4) (v := .int ((sX4_nextToken S).1 3)) (C := RX4) (T := TX4) (N := 8) hx hb hts (fun _ h => List.mem_cons_of_mem _ (List.mem_append_left _ (List.mem_append_right _ h))) hown hK hP 0 rfl rfl 5 (by decide) (hts (.fieldLink RX4 42 "SharedLine$Text" "kind" "I") (List.mem_of_getElem? (i := 1) rfl)) (fun _ h9 => h9) rfl dX4_readItem_20 ?_
    refine lv_iconst (v := 2) hx hb dX4_readItem_23 (by decide) ?_
    refine lv_icmp_ne (tgt := 35) hx hb dX4_readItem_24 (by decide) (fun c24 => ?_) (fun c24 => ?_)
    · rw [if_neg c24] at hσ
      refine lv_iconst (v := 0) hx hb dX4_readItem_35 (by decide) ?_
      subst hσ
      exact vq_zret hx hb hr hlocks hK hP hD hS rfl rfl dX4_readItem_36
    · rw [if_pos c24] at hσ
      refine lv_aload_n hx hb dX4_readItem_27 rfl (lv_at hl 1 rfl) ?_
      refine lv_iload_n hx hb dX4_readItem_28 rfl (lv_at hl 0 rfl) ?_
      refine vq_Vi (As := [.int (sX4_itemOfWord S)]) (rest := []) (W2 := (wX cI h hp h1 (sX4_takeFigures (sX4_nextToken S) S1 (sX4_itemOfWord S)).2.1 ++ wL cI h1 hp1 (sX4_takeFigures (sX4_nextToken S) S1 (sX4_itemOfWord S)).2.2)) (f := (bI (sX4_takeFigures (sX4_nextToken S) S1 (sX4_itemOfWord S)).1)) hx hb hml hown hts hK hP hD hS hA hE hl.1 (cX4_takeFigures_c l ev dC dI cI cZ cO h hp h1 (sX4_nextToken S) hp1 S1 (sX4_itemOfWord S) (nt_K hAa) hT) gX4_readItem_X4_takeFigures rfl hdX4_takeFigures (Nat.le_of_ble_eq_true rfl) (Nat.le_of_ble_eq_true rfl) rfl rfl (ci := 4) (qr := 0) rfl rfl rfl [0, 1, 2, 3] [] [0, 1, 2, 3] rfl rfl (by decide) (by decide) (by decide) rfl rfl rfl (Nat.le_of_ble_eq_true rfl) dX4_readItem_29 ⟨Nat.zero_le _, Nat.zero_le _⟩ (fun H locs hP hD hS => ?_)
      refine lv_if_neB (tgt := 37) hx hb dX4_readItem_32 (by decide) (fun c32 => ?_) (fun c32 => ?_)
      · rw [if_pos c32] at hσ
        refine lv_aload_n hx hb dX4_readItem_37 rfl (lv_at hl 1 rfl) ?_
        refine vq_Vv (As := []) (rest := []) (W2 := (wX cI h hp h1 (sX4_nextToken (sX4_takeFigures (sX4_nextToken S) S1 (sX4_itemOfWord S)).2.1) ++ wL cI h1 hp1 (sX4_takeFigures (sX4_nextToken S) S1 (sX4_itemOfWord S)).2.2)) hx hb hml hown hts hK hP hD hS hA hE hl.1 (cX4_nextToken_c l ev dC dI cI cZ cO h hp h1 (sX4_takeFigures (sX4_nextToken S) S1 (sX4_itemOfWord S)).2.1 (tf_A (nt_K hAa) hT)) gX4_readItem_X4_nextToken rfl hdX4_nextToken (Nat.le_of_ble_eq_true rfl) (Nat.le_of_ble_eq_true rfl) rfl rfl (ci := 4) (qr := 0) rfl rfl rfl [0, 1] [2, 3] [2, 3, 0, 1] rfl rfl (by decide) (by decide) (by decide) rfl rfl rfl (Nat.le_of_ble_eq_true rfl) dX4_readItem_38 ⟨Nat.zero_le _, Nat.zero_le _⟩ (fun H locs hP hD hS => ?_)
        refine lv_aload_n hx hb dX4_readItem_41 rfl (lv_at hl 1 rfl) ?_
        refine va_get (D := (dC, dI)) (ci := 4) (v := .int ((sX4_nextToken (sX4_takeFigures (sX4_nextToken S) S1 (sX4_itemOfWord S)).2.1).1 3)) (C := RX4) (T := TX4) (N := 8) hx hb hts (fun _ h => List.mem_cons_of_mem _ (List.mem_append_left _ (List.mem_append_right _ h))) hown hK hP 0 rfl rfl 5 (by decide) (hts (.fieldLink RX4 42 "SharedLine$Text" "kind" "I") (List.mem_of_getElem? (i := 1) rfl)) (fun _ h9 => h9) rfl dX4_readItem_42 ?_
        refine lv_iconst (v := 3) hx hb dX4_readItem_45 (by decide) ?_
        refine lv_icmp_ne (tgt := 53) hx hb dX4_readItem_46 (by decide) (fun c46 => ?_) (fun c46 => ?_)
        · rw [if_neg c46] at hσ
          refine lv_iconst (v := 0) hx hb dX4_readItem_53 (by decide) ?_
          subst hσ
          exact vq_zret hx hb hr hlocks hK hP hD hS rfl rfl dX4_readItem_54
        · rw [if_pos c46] at hσ
          refine lv_iconst (v := 1) hx hb dX4_readItem_49 (by decide) ?_
          refine lv_goto (tgt := 54) hx hb dX4_readItem_50 (by decide) ?_
          subst hσ
          exact vq_zret hx hb hr hlocks hK hP hD hS rfl rfl dX4_readItem_54
      · rw [if_neg (Bool.eq_false_iff.mp c32)] at hσ
        refine lv_iconst (v := 0) hx hb dX4_readItem_35 (by decide) ?_
        subst hσ
        exact vq_zret hx hb hr hlocks hK hP hD hS rfl rfl dX4_readItem_36
  · rw [if_neg (Bool.eq_false_iff.mp c10)] at hσ
    refine lv_iconst (v := 0) hx hb dX4_readItem_13 (by decide) ?_
    subst hσ
    exact vq_zret hx hb hr hlocks hK hP hD hS rfl rfl dX4_readItem_14
theorem hdX4_read : yX4_read.cls = RX4 ∧ yX4_read.cls ≠ "java/lang/invoke/MethodHandle" ∧ yX4_read.cls ≠ "java/lang/invoke/VarHandle" ∧ (parseMethodDescriptor yX4_read.desc).map (fun d => d.parameters.length) = some 0 := by decide +kernel
set_option maxHeartbeats 4000000 in
set_option maxRecDepth 100000 in
theorem cX4_read_c (l : Launch) (ev : Nat → Nat) (dC : Nat → ClassId) (dI : Nat → Nat → Nat) (cI cZ cO : ClassId) (h : Nat) (hp : Nat) (h1 : Nat) (S : LSt) (hp1 : Nat) (S1 : LSt) (hN : ∃ n : Nat, S.1 0 = nI n ∧ n ≤ 120) : MetI l ev (dC, dI) (tyC cI cZ cO) yX4_read wsX4_read (rmF 7 148) [.ref h] (wX cI h hp h1 S ++ wL cI h1 hp1 S1) (sX4_read S S1).1 (wX cI h hp h1 (sX4_read S S1).2.1 ++ wL cI h1 hp1 (sX4_read S S1).2.2) := by
  refine MetI_of (cc := cX4_read) (maxL := 2) (ret := (some .int)) (by decide) rfl (Nat.le_of_ble_eq_true rfl) ?_
  intro p e s m below meth c A ls hx hb hr hml hts hown hlocks hin hK hP hD hA hE hl
  have hown : s.vm.findClass RX4 = some m.cls := hown
  have hl : lv_has ls 2 [(0, .ref h)] := hl
  have hS : va_S A s.heap s.heap [] := va_S.rf
  obtain ⟨σ, hσ⟩ : ∃ σ, (sX4_read S S1) = σ := ⟨_, rfl⟩
  rw [hσ]
  rw [sX4_read] at hσ
  refine lv_aload_n hx hb dX4_read_0 rfl (lv_at hl 0 rfl) ?_
  refine va_get (D := (dC, dI)) (ci := 4) (v := .ref h1) (C := RX4) (T := TX4) (N := 8) hx hb hts (fun _ h => List.mem_cons_of_mem _ (List.mem_append_left _ (List.mem_append_right _ h))) hown hK hP 0 rfl rfl 0 (by decide) (hts (.fieldLink RX4 12 "SharedLine$Text" "draft" "LSharedLine$Line;") (List.mem_of_getElem? (i := 1) rfl)) (fun _ h9 => h9) rfl dX4_read_1 ?_
  refine vq_Vv (As := []) (rest := []) (W2 := (wX cI h hp h1 S ++ wL cI h1 hp1 (sX0_makeNew S1))) hx hb hml hown hts hK hP hD hS hA hE hl.1 (cX0_makeNew_c l ev dC dI cI cZ cO h1 hp1 S1) gX4_read_X0_makeNew rfl hdX0_makeNew (Nat.le_of_ble_eq_true rfl) (Nat.le_of_ble_eq_true rfl) rfl rfl (ci := 0) (qr := 2) rfl rfl rfl [2, 3] [0, 1] [0, 1, 2, 3] rfl rfl (by decide) (by decide) (by decide) rfl rfl rfl (Nat.le_of_ble_eq_true rfl) dX4_read_4 ⟨Nat.zero_le _, Nat.zero_le _⟩ (fun H locs hP hD hS => ?_)
  refine lv_aload_n hx hb dX4_read_7 rfl (lv_at hl 0 rfl) ?_
  refine lv_iconst (v := 0) hx hb dX4_read_8 (by decide) ?_
  refine va_put (D := (dC, dI)) (ci := 4) (v := .int 0) (ty := .boolean) (C := RX4) (T := TX4) (N := 8) hx hb hts (fun _ h => List.mem_cons_of_mem _ (List.mem_append_left _ (List.mem_append_right _ h))) tyX4 tyX4_ok nmX4 hown hK hP hD hS 0 rfl rfl 3 (by decide) (hts (.fieldLink RX4 29 "SharedLine$Text" "lineTold" "Z") (List.mem_of_getElem? (i := 2) rfl)) (fun _ h9 => h9) rfl (tyX4_ok 3 (by decide)) rfl rfl (Nat.le_of_ble_eq_true rfl) dX4_read_9 (fun H locs hP hD hS => ?_)
  have hP : va_P (dC, dI) vwCl (wX cI h hp h1 ((upd S.1 1 0), S.2) ++ wL cI h1 hp1 (sX0_makeNew S1)) H := hP
  have hD : va_D A (wX cI h hp h1 ((upd S.1 1 0), S.2) ++ wL cI h1 hp1 (sX0_makeNew S1)) := hD
  refine lv_aload_n hx hb dX4_read_12 rfl (lv_at hl 0 rfl) ?_
  refine lv_iconst (v := 0) hx hb dX4_read_13 (by decide) ?_
  refine va_put (D := (dC, dI)) (ci := 4) (v := .int 0) (ty := .boolean) (C := RX4) (T := TX4) (N := 8) hx hb hts (fun _ h => List.mem_cons_of_mem _ (List.mem_append_left _ (List.mem_append_right _ h))) tyX4 tyX4_ok nmX4 hown hK hP hD hS 0 rfl rfl 4 (by decide) (hts (.fieldLink RX4 33 "SharedLine$Text" "handsTold" "Z") (List.mem_of_getElem? (i := 3) rfl)) (fun _ h9 => h9) rfl (tyX4_ok 4 (by decide)) rfl rfl (Nat.le_of_ble_eq_true rfl) dX4_read_14 (fun H locs hP hD hS => ?_)
  have hP : va_P (dC, dI) vwCl (wX cI h hp h1 ((upd (upd S.1 1 0) 2 0), S.2) ++ wL cI h1 hp1 (sX0_makeNew S1)) H := hP
  have hD : va_D A (wX cI h hp h1 ((upd (upd S.1 1 0) 2 0), S.2) ++ wL cI h1 hp1 (sX0_makeNew S1)) := hD
  refine lv_aload_n hx hb dX4_read_17 rfl (lv_at hl 0 rfl) ?_
  refine lv_iconst (v := 0) hx hb dX4_read_18 (by decide) ?_
  refine va_put (D := (dC, dI)) (ci := 4) (v := .int 0) (ty := .int) (C := RX4) (T := TX4) (N := 8) hx hb hts (fun _ h => List.mem_cons_of_mem _ (List.mem_append_left _ (List.mem_append_right _ h))) tyX4 tyX4_ok nmX4 hown hK hP hD hS 0 rfl rfl 7 (by decide) (hts (.fieldLink RX4 36 "SharedLine$Text" "end" "I") (List.mem_of_getElem? (i := 4) rfl)) (fun _ h9 => h9) rfl (tyX4_ok 7 (by decide)) rfl rfl (Nat.le_of_ble_eq_true rfl) dX4_read_19 (fun H locs hP hD hS => ?_)
  have hP : va_P (dC, dI) vwCl (wX cI h hp h1 ((upd (upd (upd S.1 1 0) 2 0) 5 0), S.2) ++ wL cI h1 hp1 (sX0_makeNew S1)) H := hP
  have hD : va_D A (wX cI h hp h1 ((upd (upd (upd S.1 1 0) 2 0) 5 0), S.2) ++ wL cI h1 hp1 (sX0_makeNew S1)) := hD
  refine lv_iconst (v := 0) hx hb dX4_read_22 (by decide) ?_
  refine lv_istore_n (lv' := [(1, .int 0), (0, .ref h)]) hx hb dX4_read_23 rfl hl (by decide) rfl (fun ls hl => ?_)
  have key24 : ∀ (n24 : Nat) (x1_24 : Int32) (Y0_24 : LSt) (Y1_24 : LSt) (k24 : Nat), (x1_24 = nI k24) → (k24 ≤ 121) → (121 + 1 ≤ n24 + k24) → (∃ n a : Nat, Y0_24.1 0 = nI n ∧ n ≤ 120 ∧ Y0_24.1 5 = nI a ∧ a ≤ n) → (XOK Y1_24) → (sX4_read_L24  n24 x1_24 Y0_24 Y1_24) = σ → ∀ (H : Heap) (locs : List Loc) (ls : Array Slot), va_P (dC, dI) vwCl (wX cI h hp h1 Y0_24 ++ wL cI h1 hp1 Y1_24) H → va_D A (wX cI h hp h1 Y0_24 ++ wL cI h1 hp1 Y1_24) → va_S A s.heap H locs → lv_has ls 2 [(0, .ref h), (1, .int x1_24)] → W p l e (headSpec wsX4_read (rmF 7 148)).room s m ([.ref h] : List Value).toArray below meth c H locs 0 0 (MQ below (va_Qi (fun (x : Int32) (_ : Unit) => x = σ.1) (fun _ t => PoW (dC, dI) (tyC cI cZ cO) A (wX cI h hp h1 σ.2.1 ++ wL cI h1 hp1 σ.2.2) t) A) ([.ref h] : List Value).toArray s 0 0 A) (F0 m 24 ls []) := by
    intro n24
    induction n24 with
    | zero =>
      intro x1_24 Y0_24 Y1_24 k24 e24 hk24 hn24 t24 T24
      exact absurd hn24 (by omega)
    | succ n24 ih24 =>
      intro x1_24 Y0_24 Y1_24 k24 e24 hk24 hn24 t24 T24 hσ H locs ls hP hD hS hl
      rw [sX4_read_L24_s] at hσ
      refine lv_iload_n hx hb dX4_read_24 rfl (lv_at hl 1 rfl) ?_
      refine lv_bipush (v := 120) hx hb dX4_read_25 (by decide) ?_
      refine lv_icmp_gt (tgt := 66) hx hb dX4_read_27 (by decide) (fun c27 => ?_) (fun c27 => ?_)
      · rw [if_pos c27] at hσ
        refine lv_bipush (v := (-10)) hx hb dX4_read_66 (by decide) ?_
        refine lv_aload_n hx hb dX4_read_68 rfl (lv_at hl 0 rfl) ?_
        refine va_get (D := (dC, dI)) (ci := 4) (v := .int (Y0_24.1 4)) (C := RX4) (T := TX4) (N := 8) hx hb hts (fun _ h => List.mem_cons_of_mem _ (List.mem_append_left _ (List.mem_append_right _ h))) hown hK hP 0 rfl rfl 6 (by decide) (hts (.fieldLink RX4 49 "SharedLine$Text" "start" "I") (List.mem_of_getElem? (i := 6) rfl)) (fun _ h9 => h9) rfl dX4_read_69 ?_
        refine lv_isub hx hb dX4_read_72 ?_
        subst hσ
        exact vq_iret hx hb hr hlocks hK hP hD hS rfl dX4_read_73
      · rw [if_neg c27] at hσ
        refine lv_aload_n hx hb dX4_read_30 rfl (lv_at hl 0 rfl) ?_
        refine vq_Vv (As := []) (rest := []) (W2 := (wX cI h hp h1 (sX4_nextToken Y0_24) ++ wL cI h1 hp1 Y1_24)) hx hb hml hown hts hK hP hD hS hA hE hl.1 (cX4_nextToken_c l ev dC dI cI cZ cO h hp h1 Y0_24 t24) gX4_read_X4_nextToken rfl hdX4_nextToken (Nat.le_of_ble_eq_true rfl) (Nat.le_of_ble_eq_true rfl) rfl rfl (ci := 4) (qr := 0) rfl rfl rfl [0, 1] [2, 3] [2, 3, 0, 1] rfl rfl (by decide) (by decide) (by decide) rfl rfl rfl (Nat.le_of_ble_eq_true rfl) dX4_read_31 ⟨Nat.zero_le _, Nat.zero_le _⟩ (fun H locs hP hD hS => ?_)
        refine lv_aload_n hx hb dX4_read_34 rfl (lv_at hl 0 rfl) ?_
        refine va_get (D := (dC, dI)) (ci := 4) (v := .int ((sX4_nextToken Y0_24).1 3)) (C := RX4) (T := TX4) (N := 8) hx hb hts (fun _ h => List.mem_cons_of_mem _ (List.mem_append_left _ (List.mem_append_right _ h))) hown hK hP 0 rfl rfl 5 (by decide) (hts (.fieldLink RX4 42 "SharedLine$Text" "kind" "I") (List.mem_of_getElem? (i := 5) rfl)) (fun _ h9 => h9) rfl dX4_read_35 ?_
        refine lv_if_ne (tgt := 50) hx hb dX4_read_38 (by decide) (fun c38 => ?_) (fun c38 => ?_)
        · rw [if_neg c38] at hσ
          refine lv_aload_n hx hb dX4_read_50 rfl (lv_at hl 0 rfl) ?_
          refine vq_Vi (As := []) (rest := []) (W2 := (wX cI h hp h1 (sX4_readItem (sX4_nextToken Y0_24) Y1_24).2.1 ++ wL cI h1 hp1 (sX4_readItem (sX4_nextToken Y0_24) Y1_24).2.2)) (f := (bI (sX4_readItem (sX4_nextToken Y0_24) Y1_24).1)) hx hb hml hown hts hK hP hD hS hA hE hl.1 (cX4_readItem_c l ev dC dI cI cZ cO h hp h1 (sX4_nextToken Y0_24) hp1 Y1_24 (nt_A t24) T24) gX4_read_X4_readItem rfl hdX4_readItem (Nat.le_of_ble_eq_true rfl) (Nat.le_of_ble_eq_true rfl) rfl rfl (ci := 4) (qr := 0) rfl rfl rfl [0, 1, 2, 3] [] [0, 1, 2, 3] rfl rfl (by decide) (by decide) (by decide) rfl rfl rfl (Nat.le_of_ble_eq_true rfl) dX4_read_51 ⟨Nat.zero_le _, Nat.zero_le _⟩ (fun H locs hP hD hS => ?_)
          refine lv_if_neB (tgt := 60) hx hb dX4_read_54 (by decide) (fun c54 => ?_) (fun c54 => ?_)
          · rw [if_pos c54] at hσ
            refine lv_iinc (v := (x1_24 + 1)) (lv' := [(1, .int (x1_24 + 1)), (0, .ref h)]) hx hb dX4_read_60 hl (k := 1) rfl rfl (by decide) rfl (fun ls hl => ?_)
            refine lv_goto (tgt := 24) hx hb dX4_read_63 (by decide) ?_
            exact ih24 (x1_24 + 1) (sX4_readItem (sX4_nextToken Y0_24) Y1_24).2.1 (sX4_readItem (sX4_nextToken Y0_24) Y1_24).2.2 (k24 + 1) (up_s e24) (by have := le_120 e24 (by omega) c27; omega) (by omega) (ri_A (nt_A t24) T24) (ri_T (nt_A t24) T24) hσ _ _ _ hP hD hS (lv_sub hl [1, 0] rfl)
          · rw [if_neg (Bool.eq_false_iff.mp c54)] at hσ
            refine lv_goto (tgt := 66) hx hb dX4_read_57 (by decide) ?_
            refine lv_bipush (v := (-10)) hx hb dX4_read_66 (by decide) ?_
            refine lv_aload_n hx hb dX4_read_68 rfl (lv_at hl 0 rfl) ?_
            refine va_get (D := (dC, dI)) (ci := 4) (v := .int ((sX4_readItem (sX4_nextToken Y0_24) Y1_24).2.1.1 4)) (C := RX4) (T := TX4) (N := 8) hx hb hts (fun _ h => List.mem_cons_of_mem _ (List.mem_append_left _ (List.mem_append_right _ h))) hown hK hP 0 rfl rfl 6 (by decide) (hts (.fieldLink RX4 49 "SharedLine$Text" "start" "I") (List.mem_of_getElem? (i := 6) rfl)) (fun _ h9 => h9) rfl dX4_read_69 ?_
            refine lv_isub hx hb dX4_read_72 ?_
            subst hσ
            exact vq_iret hx hb hr hlocks hK hP hD hS rfl dX4_read_73
        · rw [if_pos c38] at hσ
          refine lv_aload_n hx hb dX4_read_41 rfl (lv_at hl 0 rfl) ?_
          refine va_get (D := (dC, dI)) (ci := 4) (v := .int ((sX4_nextToken Y0_24).1 1)) (C := RX4) (T := TX4) (N := 8) hx hb hts (fun _ h => List.mem_cons_of_mem _ (List.mem_append_left _ (List.mem_append_right _ h))) hown hK hP 0 rfl rfl 3 (by decide) (hts (.fieldLink RX4 29 "SharedLine$Text" "lineTold" "Z") (List.mem_of_getElem? (i := 2) rfl)) (fun _ h9 => h9) rfl dX4_read_42 ?_
          refine lv_if_eq (tgt := 50) hx hb dX4_read_45 (by decide) (fun c45 => ?_) (fun c45 => ?_)
          · rw [if_pos c45] at hσ
            refine lv_aload_n hx hb dX4_read_50 rfl (lv_at hl 0 rfl) ?_
            refine vq_Vi (As := []) (rest := []) (W2 := (wX cI h hp h1 (sX4_readItem (sX4_nextToken Y0_24) Y1_24).2.1 ++ wL cI h1 hp1 (sX4_readItem (sX4_nextToken Y0_24) Y1_24).2.2)) (f := (bI (sX4_readItem (sX4_nextToken Y0_24) Y1_24).1)) hx hb hml hown hts hK hP hD hS hA hE hl.1 (cX4_readItem_c l ev dC dI cI cZ cO h hp h1 (sX4_nextToken Y0_24) hp1 Y1_24 (nt_A t24) T24) gX4_read_X4_readItem rfl hdX4_readItem (Nat.le_of_ble_eq_true rfl) (Nat.le_of_ble_eq_true rfl) rfl rfl (ci := 4) (qr := 0) rfl rfl rfl [0, 1, 2, 3] [] [0, 1, 2, 3] rfl rfl (by decide) (by decide) (by decide) rfl rfl rfl (Nat.le_of_ble_eq_true rfl) dX4_read_51 ⟨Nat.zero_le _, Nat.zero_le _⟩ (fun H locs hP hD hS => ?_)
            refine lv_if_neB (tgt := 60) hx hb dX4_read_54 (by decide) (fun c54 => ?_) (fun c54 => ?_)
            · rw [if_pos c54] at hσ
              refine lv_iinc (v := (x1_24 + 1)) (lv' := [(1, .int (x1_24 + 1)), (0, .ref h)]) hx hb dX4_read_60 hl (k := 1) rfl rfl (by decide) rfl (fun ls hl => ?_)
              refine lv_goto (tgt := 24) hx hb dX4_read_63 (by decide) ?_
              exact ih24 (x1_24 + 1) (sX4_readItem (sX4_nextToken Y0_24) Y1_24).2.1 (sX4_readItem (sX4_nextToken Y0_24) Y1_24).2.2 (k24 + 1) (up_s e24) (by have := le_120 e24 (by omega) c27; omega) (by omega) (ri_A (nt_A t24) T24) (ri_T (nt_A t24) T24) hσ _ _ _ hP hD hS (lv_sub hl [1, 0] rfl)
            · rw [if_neg (Bool.eq_false_iff.mp c54)] at hσ
              refine lv_goto (tgt := 66) hx hb dX4_read_57 (by decide) ?_
              refine lv_bipush (v := (-10)) hx hb dX4_read_66 (by decide) ?_
              refine lv_aload_n hx hb dX4_read_68 rfl (lv_at hl 0 rfl) ?_
              refine va_get (D := (dC, dI)) (ci := 4) (v := .int ((sX4_readItem (sX4_nextToken Y0_24) Y1_24).2.1.1 4)) (C := RX4) (T := TX4) (N := 8) hx hb hts (fun _ h => List.mem_cons_of_mem _ (List.mem_append_left _ (List.mem_append_right _ h))) hown hK hP 0 rfl rfl 6 (by decide) (hts (.fieldLink RX4 49 "SharedLine$Text" "start" "I") (List.mem_of_getElem? (i := 6) rfl)) (fun _ h9 => h9) rfl dX4_read_69 ?_
              refine lv_isub hx hb dX4_read_72 ?_
              subst hσ
              exact vq_iret hx hb hr hlocks hK hP hD hS rfl dX4_read_73
          · rw [if_neg c45] at hσ
            refine lv_iload_n hx hb dX4_read_48 rfl (lv_at hl 1 rfl) ?_
            subst hσ
            exact vq_iret hx hb hr hlocks hK hP hD hS rfl dX4_read_49
  exact key24 122 (0 : Int32) ((upd (upd (upd S.1 1 0) 2 0) 5 0), S.2) (sX0_makeNew S1) 0 nI_0.symm (by decide) (by decide) (rd_A hN) (mk_T _) hσ _ _ _ hP hD hS (lv_sub hl [1, 0] rfl)
