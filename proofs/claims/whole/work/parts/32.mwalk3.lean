theorem hdX6_bares : yX6_bares.cls ≠ "java/lang/invoke/MethodHandle" ∧ yX6_bares.cls ≠ "java/lang/invoke/VarHandle" ∧ (parseMethodDescriptor yX6_bares.desc).map (fun d => d.parameters.length) = some 1 := by decide +kernel
set_option maxHeartbeats 4000000 in
set_option maxRecDepth 100000 in
theorem cX6_bares_c (l : Launch) (ev : Nat → Nat) (dC : Nat → ClassId) (dI : Nat → Nat → Nat) (cI cZ cO : ClassId) (h : Nat) (S : (Nat → Int32)) : MetV l ev (dC, dI) (tyC cI cZ cO) yX6_bares wsX6_bares (rmF 0 0) [.ref h] (wA cI h 17 S) (wA cI h 17 (sX6_bares S)) := by
  refine MetV_of (cc := cX6_bares) (maxL := 2) (ret := none) (by decide) rfl (Nat.le_of_ble_eq_true rfl) ?_
  intro p e s m below meth c A ls hx hb hr hml hts hown hlocks hin hK hP hD hA hE hl
  have hown : s.vm.findClass RX6 = some m.cls := hown
  have hl : lv_has ls 2 [(0, .ref h)] := hl
  have hS : va_S A s.heap s.heap [] := va_S.rf
  obtain ⟨σ, hσ⟩ : ∃ σ, (sX6_bares S) = σ := ⟨_, rfl⟩
  rw [hσ]
  rw [sX6_bares] at hσ
  refine lv_iconst (v := 0) hx hb dX6_bares_0 (by decide) ?_
  refine lv_istore_n (lv' := [(1, .int 0), (0, .ref h)]) hx hb dX6_bares_1 rfl hl (by decide) rfl (fun ls hl => ?_)
  have key2 : ∀ (n2 : Nat) (x1_2 : Int32) (Y_2 : (Nat → Int32)) (k2 : Nat), (x1_2 = nI k2) → (k2 ≤ 17) → (17 + 1 ≤ n2 + k2) → (sX6_bares_L2  n2 x1_2 Y_2) = σ → ∀ (H : Heap) (locs : List Loc) (ls : Array Slot), va_P (dC, dI) vwCl (wA cI h 17 Y_2) H → va_D A (wA cI h 17 Y_2) → va_S A s.heap H locs → lv_has ls 2 [(0, .ref h), (1, .int x1_2)] → W p l e (headSpec wsX6_bares (rmF 0 0)).room s m ([.ref h] : List Value).toArray below meth c H locs 0 0 (MQ below (va_Qv (fun (_ : Unit) => True) (fun _ t => PoW (dC, dI) (tyC cI cZ cO) A (wA cI h 17 σ) t) A) ([.ref h] : List Value).toArray s 0 0 A) (F0 m 2 ls []) := by
    intro n2
    induction n2 with
    | zero =>
      intro x1_2 Y_2 k2 e2 hk2 hn2
      exact absurd hn2 (by omega)
    | succ n2 ih2 =>
      intro x1_2 Y_2 k2 e2 hk2 hn2 hσ H locs ls hP hD hS hl
      rw [sX6_bares_L2_s] at hσ
      refine lv_iload_n hx hb dX6_bares_2 rfl (lv_at hl 1 rfl) ?_
      refine lv_bipush (v := 17) hx hb dX6_bares_3 (by decide) ?_
      refine lv_icmp_ge (tgt := 18) hx hb dX6_bares_5 (by decide) (fun c5 => ?_) (fun c5 => ?_)
      · rw [if_pos c5] at hσ
        refine lv_aload_n hx hb dX6_bares_18 rfl (lv_at hl 0 rfl) ?_
        refine lv_iconst (v := 1) hx hb dX6_bares_19 (by decide) ?_
        refine lv_iconst (v := 2) hx hb dX6_bares_20 (by decide) ?_
        refine vq_iastK (k := 1) hx hb hK hP hD hS 0 0 rfl rfl (by decide) (by decide) (by decide) dX6_bares_21 (fun H locs hP hD hS => ?_)
        have hP : va_P (dC, dI) vwCl (wA cI h 17 (upd Y_2 1 2)) H := hP
        have hD : va_D A (wA cI h 17 (upd Y_2 1 2)) := hD
        refine lv_aload_n hx hb dX6_bares_22 rfl (lv_at hl 0 rfl) ?_
        refine lv_iconst (v := 2) hx hb dX6_bares_23 (by decide) ?_
        refine lv_iconst (v := 2) hx hb dX6_bares_24 (by decide) ?_
        refine vq_iastK (k := 2) hx hb hK hP hD hS 0 0 rfl rfl (by decide) (by decide) (by decide) dX6_bares_25 (fun H locs hP hD hS => ?_)
        have hP : va_P (dC, dI) vwCl (wA cI h 17 (upd (upd Y_2 1 2) 2 2)) H := hP
        have hD : va_D A (wA cI h 17 (upd (upd Y_2 1 2) 2 2)) := hD
        refine lv_aload_n hx hb dX6_bares_26 rfl (lv_at hl 0 rfl) ?_
        refine lv_iconst (v := 3) hx hb dX6_bares_27 (by decide) ?_
        refine lv_iconst (v := 4) hx hb dX6_bares_28 (by decide) ?_
        refine vq_iastK (k := 3) hx hb hK hP hD hS 0 0 rfl rfl (by decide) (by decide) (by decide) dX6_bares_29 (fun H locs hP hD hS => ?_)
        have hP : va_P (dC, dI) vwCl (wA cI h 17 (upd (upd (upd Y_2 1 2) 2 2) 3 4)) H := hP
        have hD : va_D A (wA cI h 17 (upd (upd (upd Y_2 1 2) 2 2) 3 4)) := hD
        subst hσ
        exact vq_vret hx hb hr hlocks hK hP hD hS dX6_bares_30
      · rw [if_neg c5] at hσ
        refine lv_aload_n hx hb dX6_bares_8 rfl (lv_at hl 0 rfl) ?_
        refine lv_iload_n hx hb dX6_bares_9 rfl (lv_at hl 1 rfl) ?_
        refine lv_iconst (v := 0) hx hb dX6_bares_10 (by decide) ?_
        refine va_iast hx hb hK hP hD hS 0 0 rfl rfl (i := x1_2) (up_in e2 (up_lt e2 (show (17 : Int32) = nI 17 from rfl) (by omega) c5) (by decide)) dX6_bares_11 (fun H locs hP hD hS => ?_)
        have hP : va_P (dC, dI) vwCl (wA cI h 17 (upd Y_2 (x1_2).toNatClampNeg 0)) H := hP
        have hD : va_D A (wA cI h 17 (upd Y_2 (x1_2).toNatClampNeg 0)) := hD
        refine lv_iinc (v := (x1_2 + 1)) (lv' := [(1, .int (x1_2 + 1)), (0, .ref h)]) hx hb dX6_bares_12 hl (k := 1) rfl rfl (by decide) rfl (fun ls hl => ?_)
        refine lv_goto (tgt := 2) hx hb dX6_bares_15 (by decide) ?_
        exact ih2 (x1_2 + 1) (upd Y_2 (x1_2).toNatClampNeg 0) (k2 + 1) (up_s e2) (by have := up_lt e2 (show (17 : Int32) = nI 17 from rfl) (by omega) c5; omega) (by omega) hσ _ _ _ hP hD hS (lv_sub hl [1, 0] rfl)
  exact key2 18 (0 : Int32) S 0 nI_0.symm (Nat.zero_le _) (Nat.le_refl _) hσ _ _ _ hP hD hS (lv_sub hl [1, 0] rfl)
theorem hdX6_skips : yX6_skips.cls = RX6 ∧ yX6_skips.cls ≠ "java/lang/invoke/MethodHandle" ∧ yX6_skips.cls ≠ "java/lang/invoke/VarHandle" ∧ (parseMethodDescriptor yX6_skips.desc).map (fun d => d.parameters.length) = some 0 := by decide +kernel
set_option maxHeartbeats 4000000 in
set_option maxRecDepth 100000 in
theorem cX6_skips_c (l : Launch) (ev : Nat → Nat) (dC : Nat → ClassId) (dI : Nat → Nat → Nat) (cI cZ cO : ClassId) (h : Nat) (g : Nat → Nat) (S : MSt) (hX : ∃ n a : Nat, S.1 2 = nI n ∧ n ≤ 120 ∧ S.1 3 = nI a ∧ a ≤ n) : MetV l ev (dC, dI) (tyC cI cZ cO) yX6_skips wsX6_skips (rmF 0 0) [.ref h] (wM cI cZ h g S) (wM cI cZ h g (sX6_skips S)) := by
  refine MetV_of (cc := cX6_skips) (maxL := 1) (ret := none) (by decide) rfl (Nat.le_of_ble_eq_true rfl) ?_
  intro p e s m below meth c A ls hx hb hr hml hts hown hlocks hin hK hP hD hA hE hl
  have hown : s.vm.findClass RX6 = some m.cls := hown
  have hl : lv_has ls 1 [(0, .ref h)] := hl
  have hS : va_S A s.heap s.heap [] := va_S.rf
  obtain ⟨σ, hσ⟩ : ∃ σ, (sX6_skips S) = σ := ⟨_, rfl⟩
  rw [hσ]
  rw [sX6_skips] at hσ
  obtain ⟨n, a, en, hn, ea, ha⟩ := hX
  have key0 : ∀ (n0 : Nat)  (Y_0 : MSt) (k0 : Nat), (Y_0.1 2 = nI n) → (Y_0.1 3 = nI k0) → (k0 ≤ n) → (120 + 1 ≤ n0 + k0) → (sX6_skips_L0  n0 Y_0) = σ → ∀ (H : Heap) (locs : List Loc) (ls : Array Slot), va_P (dC, dI) vwCl (wM cI cZ h g Y_0) H → va_D A (wM cI cZ h g Y_0) → va_S A s.heap H locs → lv_has ls 1 [(0, .ref h)] → W p l e (headSpec wsX6_skips (rmF 0 0)).room s m ([.ref h] : List Value).toArray below meth c H locs 0 0 (MQ below (va_Qv (fun (_ : Unit) => True) (fun _ t => PoW (dC, dI) (tyC cI cZ cO) A (wM cI cZ h g σ) t) A) ([.ref h] : List Value).toArray s 0 0 A) (F0 m 0 ls []) := by
    intro n0
    induction n0 with
    | zero =>
      intro Y_0 k0 l0 e0 hk0 hn0
      exact absurd hn0 (by omega)
    | succ n0 ih0 =>
      intro Y_0 k0 l0 e0 hk0 hn0 hσ H locs ls hP hD hS hl
      rw [sX6_skips_L0_s] at hσ
      refine lv_aload_n hx hb dX6_skips_0 rfl (lv_at hl 0 rfl) ?_
      refine va_get (D := (dC, dI)) (ci := 6) (v := .int (Y_0.1 3)) (C := RX6) (T := TX6) (N := 15) hx hb hts (fun _ h => List.mem_cons_of_mem _ (List.mem_append_right _ h)) hown hK hP 0 rfl rfl 11 (by decide) (hts (.fieldLink RX6 42 "SharedLineModel" "at" "I") (List.mem_of_getElem? (i := 1) rfl)) (fun _ h9 => h9) rfl dX6_skips_1 ?_
      refine lv_aload_n hx hb dX6_skips_4 rfl (lv_at hl 0 rfl) ?_
      refine va_get (D := (dC, dI)) (ci := 6) (v := .int (Y_0.1 2)) (C := RX6) (T := TX6) (N := 15) hx hb hts (fun _ h => List.mem_cons_of_mem _ (List.mem_append_right _ h)) hown hK hP 0 rfl rfl 10 (by decide) (hts (.fieldLink RX6 46 "SharedLineModel" "letters" "I") (List.mem_of_getElem? (i := 2) rfl)) (fun _ h9 => h9) rfl dX6_skips_5 ?_
      refine lv_icmp_ge (tgt := 38) hx hb dX6_skips_8 (by decide) (fun c8 => ?_) (fun c8 => ?_)
      · rw [if_pos c8] at hσ
        refine lv_aload_n hx hb dX6_skips_38 rfl (lv_at hl 0 rfl) ?_
        refine lv_aload_n hx hb dX6_skips_39 rfl (lv_at hl 0 rfl) ?_
        refine va_get (D := (dC, dI)) (ci := 6) (v := .int (Y_0.1 3)) (C := RX6) (T := TX6) (N := 15) hx hb hts (fun _ h => List.mem_cons_of_mem _ (List.mem_append_right _ h)) hown hK hP 0 rfl rfl 11 (by decide) (hts (.fieldLink RX6 42 "SharedLineModel" "at" "I") (List.mem_of_getElem? (i := 1) rfl)) (fun _ h9 => h9) rfl dX6_skips_40 ?_
        refine va_put (D := (dC, dI)) (ci := 6) (v := .int (Y_0.1 3)) (ty := .int) (C := RX6) (T := TX6) (N := 15) hx hb hts (fun _ h => List.mem_cons_of_mem _ (List.mem_append_right _ h)) tyX6 tyX6_ok nmX6 hown hK hP hD hS 0 rfl rfl 12 (by decide) (hts (.fieldLink RX6 49 "SharedLineModel" "mark" "I") (List.mem_of_getElem? (i := 4) rfl)) (fun _ h9 => h9) rfl (tyX6_ok 12 (by decide)) rfl rfl (Nat.le_of_ble_eq_true rfl) dX6_skips_43 (fun H locs hP hD hS => ?_)
        have hP : va_P (dC, dI) vwCl (wM cI cZ h g ((upd Y_0.1 4 (Y_0.1 3)), Y_0.2)) H := hP
        have hD : va_D A (wM cI cZ h g ((upd Y_0.1 4 (Y_0.1 3)), Y_0.2)) := hD
        subst hσ
        exact vq_vret hx hb hr hlocks hK hP hD hS dX6_skips_46
      · rw [if_neg c8] at hσ
        refine lv_aload_n hx hb dX6_skips_11 rfl (lv_at hl 0 rfl) ?_
        refine va_get (D := (dC, dI)) (ci := 6) (v := .ref (g 7)) (C := RX6) (T := TX6) (N := 15) hx hb hts (fun _ h => List.mem_cons_of_mem _ (List.mem_append_right _ h)) hown hK hP 0 rfl rfl 9 (by decide) (hts (.fieldLink RX6 32 "SharedLineModel" "text" "[I") (List.mem_of_getElem? (i := 3) rfl)) (fun _ h9 => h9) rfl dX6_skips_12 ?_
        refine lv_aload_n hx hb dX6_skips_15 rfl (lv_at hl 0 rfl) ?_
        refine va_get (D := (dC, dI)) (ci := 6) (v := .int (Y_0.1 3)) (C := RX6) (T := TX6) (N := 15) hx hb hts (fun _ h => List.mem_cons_of_mem _ (List.mem_append_right _ h)) hown hK hP 0 rfl rfl 11 (by decide) (hts (.fieldLink RX6 42 "SharedLineModel" "at" "I") (List.mem_of_getElem? (i := 1) rfl)) (fun _ h9 => h9) rfl dX6_skips_16 ?_
        refine va_iald hx hb hK hP 8 0 rfl rfl (i := (Y_0.1 3)) (up_in e0 (by have := up_lt e0 l0 (by omega) c8; omega) (by decide)) dX6_skips_19 ?_
        refine lv_bipush (v := 32) hx hb dX6_skips_20 (by decide) ?_
        refine lv_icmp_ne (tgt := 38) hx hb dX6_skips_22 (by decide) (fun c22 => ?_) (fun c22 => ?_)
        · rw [if_neg c22] at hσ
          refine lv_aload_n hx hb dX6_skips_38 rfl (lv_at hl 0 rfl) ?_
          refine lv_aload_n hx hb dX6_skips_39 rfl (lv_at hl 0 rfl) ?_
          refine va_get (D := (dC, dI)) (ci := 6) (v := .int (Y_0.1 3)) (C := RX6) (T := TX6) (N := 15) hx hb hts (fun _ h => List.mem_cons_of_mem _ (List.mem_append_right _ h)) hown hK hP 0 rfl rfl 11 (by decide) (hts (.fieldLink RX6 42 "SharedLineModel" "at" "I") (List.mem_of_getElem? (i := 1) rfl)) (fun _ h9 => h9) rfl dX6_skips_40 ?_
          refine va_put (D := (dC, dI)) (ci := 6) (v := .int (Y_0.1 3)) (ty := .int) (C := RX6) (T := TX6) (N := 15) hx hb hts (fun _ h => List.mem_cons_of_mem _ (List.mem_append_right _ h)) tyX6 tyX6_ok nmX6 hown hK hP hD hS 0 rfl rfl 12 (by decide) (hts (.fieldLink RX6 49 "SharedLineModel" "mark" "I") (List.mem_of_getElem? (i := 4) rfl)) (fun _ h9 => h9) rfl (tyX6_ok 12 (by decide)) rfl rfl (Nat.le_of_ble_eq_true rfl) dX6_skips_43 (fun H locs hP hD hS => ?_)
          have hP : va_P (dC, dI) vwCl (wM cI cZ h g ((upd Y_0.1 4 (Y_0.1 3)), Y_0.2)) H := hP
          have hD : va_D A (wM cI cZ h g ((upd Y_0.1 4 (Y_0.1 3)), Y_0.2)) := hD
          subst hσ
          exact vq_vret hx hb hr hlocks hK hP hD hS dX6_skips_46
        · rw [if_pos c22] at hσ
          refine lv_aload_n hx hb dX6_skips_25 rfl (lv_at hl 0 rfl) ?_
          refine lv_dup hx hb dX6_skips_26 rfl ?_
          refine va_get (D := (dC, dI)) (ci := 6) (v := .int (Y_0.1 3)) (C := RX6) (T := TX6) (N := 15) hx hb hts (fun _ h => List.mem_cons_of_mem _ (List.mem_append_right _ h)) hown hK hP 0 rfl rfl 11 (by decide) (hts (.fieldLink RX6 42 "SharedLineModel" "at" "I") (List.mem_of_getElem? (i := 1) rfl)) (fun _ h9 => h9) rfl dX6_skips_27 ?_
          refine lv_iconst (v := 1) hx hb dX6_skips_30 (by decide) ?_
          refine lv_iadd hx hb dX6_skips_31 ?_
          refine va_put (D := (dC, dI)) (ci := 6) (v := .int ((Y_0.1 3) + 1)) (ty := .int) (C := RX6) (T := TX6) (N := 15) hx hb hts (fun _ h => List.mem_cons_of_mem _ (List.mem_append_right _ h)) tyX6 tyX6_ok nmX6 hown hK hP hD hS 0 rfl rfl 11 (by decide) (hts (.fieldLink RX6 42 "SharedLineModel" "at" "I") (List.mem_of_getElem? (i := 1) rfl)) (fun _ h9 => h9) rfl (tyX6_ok 11 (by decide)) rfl rfl (Nat.le_of_ble_eq_true rfl) dX6_skips_32 (fun H locs hP hD hS => ?_)
          have hP : va_P (dC, dI) vwCl (wM cI cZ h g ((upd Y_0.1 3 ((Y_0.1 3) + 1)), Y_0.2)) H := hP
          have hD : va_D A (wM cI cZ h g ((upd Y_0.1 3 ((Y_0.1 3) + 1)), Y_0.2)) := hD
          refine lv_goto (tgt := 0) hx hb dX6_skips_35 (by decide) ?_
          exact ih0 ((upd Y_0.1 3 ((Y_0.1 3) + 1)), Y_0.2) (k0 + 1) l0 (up_s e0) (by have := up_lt e0 l0 (by omega) c8; omega) (by omega) hσ _ _ _ hP hD hS (lv_sub hl [0] rfl)
  exact key0 121 S a en ea ha (by omega) hσ _ _ _ hP hD hS (lv_sub hl [0] rfl)
theorem hdX6_isAt : yX6_isAt.cls = RX6 ∧ yX6_isAt.cls ≠ "java/lang/invoke/MethodHandle" ∧ yX6_isAt.cls ≠ "java/lang/invoke/VarHandle" ∧ (parseMethodDescriptor yX6_isAt.desc).map (fun d => d.parameters.length) = some 2 := by decide +kernel
set_option maxHeartbeats 4000000 in
set_option maxRecDepth 100000 in
theorem cX6_isAt_c (l : Launch) (ev : Nat → Nat) (dC : Nat → ClassId) (dI : Nat → Nat → Nat) (cI cZ cO : ClassId) (h : Nat) (g : Nat → Nat) (S : MSt) (p1 : Int32) (p2 : Int32) (hX : ∃ n a : Nat, S.1 2 = nI n ∧ n ≤ 120 ∧ S.1 3 = nI a ∧ a ≤ n) : MetI l ev (dC, dI) (tyC cI cZ cO) yX6_isAt wsX6_isAt (rmF 1 22) [.ref h, .int p1, .int p2] (wM cI cZ h g S) (bI (sX6_isAt S p1 p2)) (wM cI cZ h g S) := by
  refine MetI_of (cc := cX6_isAt) (maxL := 3) (ret := (some .boolean)) (by decide) rfl (Nat.le_of_ble_eq_true rfl) ?_
  intro p e s m below meth c A ls hx hb hr hml hts hown hlocks hin hK hP hD hA hE hl
  have hown : s.vm.findClass RX6 = some m.cls := hown
  have hl : lv_has ls 3 [(0, .ref h), (1, .int p1), (2, .int p2)] := hl
  have hS : va_S A s.heap s.heap [] := va_S.rf
  obtain ⟨σ, hσ⟩ : ∃ σ, (sX6_isAt S p1 p2) = σ := ⟨_, rfl⟩
  rw [hσ]
  rw [sX6_isAt] at hσ
  refine lv_aload_n hx hb dX6_isAt_0 rfl (lv_at hl 0 rfl) ?_
  refine va_get (D := (dC, dI)) (ci := 6) (v := .int (S.1 3)) (C := RX6) (T := TX6) (N := 15) hx hb hts (fun _ h => List.mem_cons_of_mem _ (List.mem_append_right _ h)) hown hK hP 0 rfl rfl 11 (by decide) (hts (.fieldLink RX6 42 "SharedLineModel" "at" "I") (List.mem_of_getElem? (i := 1) rfl)) (fun _ h9 => h9) rfl dX6_isAt_1 ?_
  refine lv_aload_n hx hb dX6_isAt_4 rfl (lv_at hl 0 rfl) ?_
  refine va_get (D := (dC, dI)) (ci := 6) (v := .int (S.1 2)) (C := RX6) (T := TX6) (N := 15) hx hb hts (fun _ h => List.mem_cons_of_mem _ (List.mem_append_right _ h)) hown hK hP 0 rfl rfl 10 (by decide) (hts (.fieldLink RX6 46 "SharedLineModel" "letters" "I") (List.mem_of_getElem? (i := 2) rfl)) (fun _ h9 => h9) rfl dX6_isAt_5 ?_
  refine lv_icmp_ge (tgt := 32) hx hb dX6_isAt_8 (by decide) (fun c8 => ?_) (fun c8 => ?_)
  · rw [if_pos c8] at hσ
    refine lv_iconst (v := 0) hx hb dX6_isAt_32 (by decide) ?_
    subst hσ
    exact vq_zret hx hb hr hlocks hK hP hD hS rfl rfl dX6_isAt_33
  · rw [if_neg c8] at hσ
    refine lv_aload_n hx hb dX6_isAt_11 rfl (lv_at hl 0 rfl) ?_
    refine va_get (D := (dC, dI)) (ci := 6) (v := .ref (g 7)) (C := RX6) (T := TX6) (N := 15) hx hb hts (fun _ h => List.mem_cons_of_mem _ (List.mem_append_right _ h)) hown hK hP 0 rfl rfl 9 (by decide) (hts (.fieldLink RX6 32 "SharedLineModel" "text" "[I") (List.mem_of_getElem? (i := 3) rfl)) (fun _ h9 => h9) rfl dX6_isAt_12 ?_
    refine lv_aload_n hx hb dX6_isAt_15 rfl (lv_at hl 0 rfl) ?_
    refine va_get (D := (dC, dI)) (ci := 6) (v := .int (S.1 3)) (C := RX6) (T := TX6) (N := 15) hx hb hts (fun _ h => List.mem_cons_of_mem _ (List.mem_append_right _ h)) hown hK hP 0 rfl rfl 11 (by decide) (hts (.fieldLink RX6 42 "SharedLineModel" "at" "I") (List.mem_of_getElem? (i := 1) rfl)) (fun _ h9 => h9) rfl dX6_isAt_16 ?_
    refine va_iald hx hb hK hP 8 0 rfl rfl (i := (S.1 3)) (at_ix hX c8) dX6_isAt_19 ?_
    refine lv_iload_n hx hb dX6_isAt_20 rfl (lv_at hl 1 rfl) ?_
    refine lv_iload_n hx hb dX6_isAt_21 rfl (lv_at hl 2 rfl) ?_
    refine vq_Si (As := [.int ((S.2 7) ((S.1 3)).toNatClampNeg), .int p1, .int p2]) (rest := []) (W2 := (wM cI cZ h g S)) (f := (bI (sX6_within ((S.2 7) ((S.1 3)).toNatClampNeg) p1 p2))) hx hb hml hown hts hK hP hD hS hA hE hl.1 (cX6_within_c l ev dC dI cI cZ cO ((S.2 7) ((S.1 3)).toNatClampNeg) p1 p2) gX6_isAt_X6_within rfl hdX6_within (Nat.le_of_ble_eq_true rfl) (Nat.le_of_ble_eq_true rfl) rfl rfl [] [0, 1, 2, 3, 4, 5, 6, 7, 8, 9] [0, 1, 2, 3, 4, 5, 6, 7, 8, 9] rfl rfl (by decide) (by decide) (by decide) rfl rfl rfl (Nat.le_of_ble_eq_true rfl) dX6_isAt_22 ⟨Nat.zero_le _, Nat.zero_le _⟩ (fun H locs hP hD hS => ?_)
    refine lv_if_eqB (tgt := 32) hx hb dX6_isAt_25 (by decide) (fun c25 => ?_) (fun c25 => ?_)
    · rw [if_neg (Bool.eq_false_iff.mp c25)] at hσ
      refine lv_iconst (v := 0) hx hb dX6_isAt_32 (by decide) ?_
      subst hσ
      exact vq_zret hx hb hr hlocks hK hP hD hS rfl rfl dX6_isAt_33
    · rw [if_pos c25] at hσ
      refine lv_iconst (v := 1) hx hb dX6_isAt_28 (by decide) ?_
      refine lv_goto (tgt := 33) hx hb dX6_isAt_29 (by decide) ?_
      subst hσ
      exact vq_zret hx hb hr hlocks hK hP hD hS rfl rfl dX6_isAt_33
theorem hdX6_passesEnd : yX6_passesEnd.cls = RX6 ∧ yX6_passesEnd.cls ≠ "java/lang/invoke/MethodHandle" ∧ yX6_passesEnd.cls ≠ "java/lang/invoke/VarHandle" ∧ (parseMethodDescriptor yX6_passesEnd.desc).map (fun d => d.parameters.length) = some 0 := by decide +kernel
set_option maxHeartbeats 4000000 in
set_option maxRecDepth 100000 in
theorem cX6_passesEnd_c (l : Launch) (ev : Nat → Nat) (dC : Nat → ClassId) (dI : Nat → Nat → Nat) (cI cZ cO : ClassId) (h : Nat) (g : Nat → Nat) (S : MSt) (hX : ∃ n a : Nat, S.1 2 = nI n ∧ n ≤ 120 ∧ S.1 3 = nI a ∧ a ≤ n) : MetI l ev (dC, dI) (tyC cI cZ cO) yX6_passesEnd wsX6_passesEnd (rmF 2 44) [.ref h] (wM cI cZ h g S) (bI (sX6_passesEnd S).1) (wM cI cZ h g (sX6_passesEnd S).2) := by
  refine MetI_of (cc := cX6_passesEnd) (maxL := 2) (ret := (some .boolean)) (by decide) rfl (Nat.le_of_ble_eq_true rfl) ?_
  intro p e s m below meth c A ls hx hb hr hml hts hown hlocks hin hK hP hD hA hE hl
  have hown : s.vm.findClass RX6 = some m.cls := hown
  have hl : lv_has ls 2 [(0, .ref h)] := hl
  have hS : va_S A s.heap s.heap [] := va_S.rf
  obtain ⟨σ, hσ⟩ : ∃ σ, (sX6_passesEnd S) = σ := ⟨_, rfl⟩
  rw [hσ]
  rw [sX6_passesEnd] at hσ
  refine lv_aload_n hx hb dX6_passesEnd_0 rfl (lv_at hl 0 rfl) ?_
  refine vq_Vv (As := []) (rest := []) (W2 := (wM cI cZ h g (sX6_skips S))) hx hb hml hown hts hK hP hD hS hA hE hl.1 (cX6_skips_c l ev dC dI cI cZ cO h g S hX) gX6_passesEnd_X6_skips rfl hdX6_skips (Nat.le_of_ble_eq_true rfl) (Nat.le_of_ble_eq_true rfl) rfl rfl (ci := 6) (qr := 0) rfl rfl rfl [0, 1, 2, 3, 4, 5, 6, 7, 8, 9] [] [0, 1, 2, 3, 4, 5, 6, 7, 8, 9] rfl rfl (by decide) (by decide) (by decide) rfl rfl rfl (Nat.le_of_ble_eq_true rfl) dX6_passesEnd_1 ⟨Nat.zero_le _, Nat.zero_le _⟩ (fun H locs hP hD hS => ?_)
  refine lv_aload_n hx hb dX6_passesEnd_4 rfl (lv_at hl 0 rfl) ?_
  refine lv_bipush (v := 59) hx hb dX6_passesEnd_5 (by decide) ?_
  refine lv_bipush (v := 59) hx hb dX6_passesEnd_7 (by decide) ?_
  refine vq_Vi (As := [.int 59, .int 59]) (rest := []) (W2 := (wM cI cZ h g (sX6_skips S))) (f := (bI (sX6_isAt (sX6_skips S) (59 : Int32) (59 : Int32)))) hx hb hml hown hts hK hP hD hS hA hE hl.1 (cX6_isAt_c l ev dC dI cI cZ cO h g (sX6_skips S) (59 : Int32) (59 : Int32) (sk_X hX)) gX6_passesEnd_X6_isAt rfl hdX6_isAt (Nat.le_of_ble_eq_true rfl) (Nat.le_of_ble_eq_true rfl) rfl rfl (ci := 6) (qr := 0) rfl rfl rfl [0, 1, 2, 3, 4, 5, 6, 7, 8, 9] [] [0, 1, 2, 3, 4, 5, 6, 7, 8, 9] rfl rfl (by decide) (by decide) (by decide) rfl rfl rfl (Nat.le_of_ble_eq_true rfl) dX6_passesEnd_9 ⟨Nat.zero_le _, Nat.zero_le _⟩ (fun H locs hP hD hS => ?_)
  refine lv_istore_n (lv' := [(1, .int (bI (sX6_isAt (sX6_skips S) (59 : Int32) (59 : Int32)))), (0, .ref h)]) hx hb dX6_passesEnd_12 rfl hl (by decide) rfl (fun ls hl => ?_)
  refine lv_aload_n hx hb dX6_passesEnd_13 rfl (lv_at hl 1 rfl) ?_
  refine lv_dup hx hb dX6_passesEnd_14 rfl ?_
  refine va_get (D := (dC, dI)) (ci := 6) (v := .int ((sX6_skips S).1 3)) (C := RX6) (T := TX6) (N := 15) hx hb hts (fun _ h => List.mem_cons_of_mem _ (List.mem_append_right _ h)) hown hK hP 0 rfl rfl 11 (by decide) (hts (.fieldLink RX6 42 "SharedLineModel" "at" "I") (List.mem_of_getElem? (i := 1) rfl)) (fun _ h9 => h9) rfl dX6_passesEnd_15 ?_
  refine lv_iload_n hx hb dX6_passesEnd_18 rfl (lv_at hl 0 rfl) ?_
  refine lv_if_eqB (tgt := 26) hx hb dX6_passesEnd_19 (by decide) (fun c19 => ?_) (fun c19 => ?_)
  · rw [if_neg (Bool.eq_false_iff.mp c19)] at hσ
    refine lv_iconst (v := 0) hx hb dX6_passesEnd_26 (by decide) ?_
    refine lv_iadd hx hb dX6_passesEnd_27 ?_
    refine va_put (D := (dC, dI)) (ci := 6) (v := .int (((sX6_skips S).1 3) + 0)) (ty := .int) (C := RX6) (T := TX6) (N := 15) hx hb hts (fun _ h => List.mem_cons_of_mem _ (List.mem_append_right _ h)) tyX6 tyX6_ok nmX6 hown hK hP hD hS 0 rfl rfl 11 (by decide) (hts (.fieldLink RX6 42 "SharedLineModel" "at" "I") (List.mem_of_getElem? (i := 1) rfl)) (fun _ h9 => h9) rfl (tyX6_ok 11 (by decide)) rfl rfl (Nat.le_of_ble_eq_true rfl) dX6_passesEnd_28 (fun H locs hP hD hS => ?_)
    have hP : va_P (dC, dI) vwCl (wM cI cZ h g ((upd (sX6_skips S).1 3 (((sX6_skips S).1 3) + 0)), (sX6_skips S).2)) H := hP
    have hD : va_D A (wM cI cZ h g ((upd (sX6_skips S).1 3 (((sX6_skips S).1 3) + 0)), (sX6_skips S).2)) := hD
    refine lv_iload_n hx hb dX6_passesEnd_31 rfl (lv_at hl 0 rfl) ?_
    subst hσ
    exact vq_zret hx hb hr hlocks hK hP hD hS (nar_bI _) rfl dX6_passesEnd_32
  · rw [if_pos c19] at hσ
    refine lv_iconst (v := 1) hx hb dX6_passesEnd_22 (by decide) ?_
    refine lv_goto (tgt := 27) hx hb dX6_passesEnd_23 (by decide) ?_
    refine lv_iadd hx hb dX6_passesEnd_27 ?_
    refine va_put (D := (dC, dI)) (ci := 6) (v := .int (((sX6_skips S).1 3) + 1)) (ty := .int) (C := RX6) (T := TX6) (N := 15) hx hb hts (fun _ h => List.mem_cons_of_mem _ (List.mem_append_right _ h)) tyX6 tyX6_ok nmX6 hown hK hP hD hS 0 rfl rfl 11 (by decide) (hts (.fieldLink RX6 42 "SharedLineModel" "at" "I") (List.mem_of_getElem? (i := 1) rfl)) (fun _ h9 => h9) rfl (tyX6_ok 11 (by decide)) rfl rfl (Nat.le_of_ble_eq_true rfl) dX6_passesEnd_28 (fun H locs hP hD hS => ?_)
    have hP : va_P (dC, dI) vwCl (wM cI cZ h g ((upd (sX6_skips S).1 3 (((sX6_skips S).1 3) + 1)), (sX6_skips S).2)) H := hP
    have hD : va_D A (wM cI cZ h g ((upd (sX6_skips S).1 3 (((sX6_skips S).1 3) + 1)), (sX6_skips S).2)) := hD
    refine lv_iload_n hx hb dX6_passesEnd_31 rfl (lv_at hl 0 rfl) ?_
    subst hσ
    exact vq_zret hx hb hr hlocks hK hP hD hS (nar_bI _) rfl dX6_passesEnd_32
theorem hdX6_figures : yX6_figures.cls = RX6 ∧ yX6_figures.cls ≠ "java/lang/invoke/MethodHandle" ∧ yX6_figures.cls ≠ "java/lang/invoke/VarHandle" ∧ (parseMethodDescriptor yX6_figures.desc).map (fun d => d.parameters.length) = some 1 := by decide +kernel
set_option maxHeartbeats 4000000 in
set_option maxRecDepth 100000 in
theorem cX6_figures_c (l : Launch) (ev : Nat → Nat) (dC : Nat → ClassId) (dI : Nat → Nat → Nat) (cI cZ cO : ClassId) (h : Nat) (g : Nat → Nat) (S : MSt) (p1 : Int32) (hX : ∃ n a : Nat, S.1 2 = nI n ∧ n ≤ 120 ∧ S.1 3 = nI a ∧ a ≤ n) : MetI l ev (dC, dI) (tyC cI cZ cO) yX6_figures wsX6_figures (rmF 2 44) [.ref h, .int p1] (wM cI cZ h g S) (sX6_figures S p1).1 (wM cI cZ h g (sX6_figures S p1).2) := by
  refine MetI_of (cc := cX6_figures) (maxL := 3) (ret := (some .int)) (by decide) rfl (Nat.le_of_ble_eq_true rfl) ?_
  intro p e s m below meth c A ls hx hb hr hml hts hown hlocks hin hK hP hD hA hE hl
  have hown : s.vm.findClass RX6 = some m.cls := hown
  have hl : lv_has ls 3 [(0, .ref h), (1, .int p1)] := hl
  have hS : va_S A s.heap s.heap [] := va_S.rf
  obtain ⟨σ, hσ⟩ : ∃ σ, (sX6_figures S p1) = σ := ⟨_, rfl⟩
  rw [hσ]
  rw [sX6_figures] at hσ
  refine lv_aload_n hx hb dX6_figures_0 rfl (lv_at hl 0 rfl) ?_
  refine vq_Vv (As := []) (rest := []) (W2 := (wM cI cZ h g (sX6_skips S))) hx hb hml hown hts hK hP hD hS hA hE hl.1 (cX6_skips_c l ev dC dI cI cZ cO h g S hX) gX6_figures_X6_skips rfl hdX6_skips (Nat.le_of_ble_eq_true rfl) (Nat.le_of_ble_eq_true rfl) rfl rfl (ci := 6) (qr := 0) rfl rfl rfl [0, 1, 2, 3, 4, 5, 6, 7, 8, 9] [] [0, 1, 2, 3, 4, 5, 6, 7, 8, 9] rfl rfl (by decide) (by decide) (by decide) rfl rfl rfl (Nat.le_of_ble_eq_true rfl) dX6_figures_1 ⟨Nat.zero_le _, Nat.zero_le _⟩ (fun H locs hP hD hS => ?_)
  refine lv_iconst (v := 1) hx hb dX6_figures_4 (by decide) ?_
  refine lv_istore_n (lv' := [(2, .int 1), (0, .ref h), (1, .int p1)]) hx hb dX6_figures_5 rfl hl (by decide) rfl (fun ls hl => ?_)
  have key6 : ∀ (n6 : Nat) (x2_6 : Bool) (Y_6 : MSt) , (∃ n k : Nat, Y_6.1 2 = nI n ∧ n ≤ 120 ∧ Y_6.1 3 = nI k ∧ k ≤ n ∧ 120 + 1 ≤ n6 + k) → (sX6_figures_L6 p1 n6 x2_6 Y_6) = σ → ∀ (H : Heap) (locs : List Loc) (ls : Array Slot), va_P (dC, dI) vwCl (wM cI cZ h g Y_6) H → va_D A (wM cI cZ h g Y_6) → va_S A s.heap H locs → lv_has ls 3 [(0, .ref h), (1, .int p1), (2, .int (bI x2_6))] → W p l e (headSpec wsX6_figures (rmF 2 44)).room s m ([.ref h, .int p1] : List Value).toArray below meth c H locs 0 0 (MQ below (va_Qi (fun (x : Int32) (_ : Unit) => x = σ.1) (fun _ t => PoW (dC, dI) (tyC cI cZ cO) A (wM cI cZ h g σ.2) t) A) ([.ref h, .int p1] : List Value).toArray s 0 0 A) (F0 m 6 ls []) := by
    intro n6
    induction n6 with
    | zero =>
      intro x2_6 Y_6  t6
      exact absurd t6 (by rintro ⟨n, k, -, -, -, h1, h2⟩; omega)
    | succ n6 ih6 =>
      intro x2_6 Y_6  t6 hσ H locs ls hP hD hS hl
      rw [sX6_figures_L6_s] at hσ
      refine lv_aload_n hx hb dX6_figures_6 rfl (lv_at hl 0 rfl) ?_
      refine lv_bipush (v := 48) hx hb dX6_figures_7 (by decide) ?_
      refine lv_bipush (v := 57) hx hb dX6_figures_9 (by decide) ?_
      refine vq_Vi (As := [.int 48, .int 57]) (rest := []) (W2 := (wM cI cZ h g Y_6)) (f := (bI (sX6_isAt Y_6 (48 : Int32) (57 : Int32)))) hx hb hml hown hts hK hP hD hS hA hE hl.1 (cX6_isAt_c l ev dC dI cI cZ cO h g Y_6 (48 : Int32) (57 : Int32) (t_X t6)) gX6_figures_X6_isAt rfl hdX6_isAt (Nat.le_of_ble_eq_true rfl) (Nat.le_of_ble_eq_true rfl) rfl rfl (ci := 6) (qr := 0) rfl rfl rfl [0, 1, 2, 3, 4, 5, 6, 7, 8, 9] [] [0, 1, 2, 3, 4, 5, 6, 7, 8, 9] rfl rfl (by decide) (by decide) (by decide) rfl rfl rfl (Nat.le_of_ble_eq_true rfl) dX6_figures_11 ⟨Nat.zero_le _, Nat.zero_le _⟩ (fun H locs hP hD hS => ?_)
      refine lv_if_eqB (tgt := 56) hx hb dX6_figures_14 (by decide) (fun c14 => ?_) (fun c14 => ?_)
      · rw [if_neg (Bool.eq_false_iff.mp c14)] at hσ
        refine lv_iload_n hx hb dX6_figures_56 rfl (lv_at hl 2 rfl) ?_
        refine lv_if_eqB (tgt := 83) hx hb dX6_figures_57 (by decide) (fun c57 => ?_) (fun c57 => ?_)
        · rw [if_neg (Bool.eq_false_iff.mp c57)] at hσ
          refine lv_iconst (v := (-1)) hx hb dX6_figures_83 (by decide) ?_
          subst hσ
          exact vq_iret hx hb hr hlocks hK hP hD hS rfl dX6_figures_84
        · rw [if_pos c57] at hσ
          refine lv_aload_n hx hb dX6_figures_60 rfl (lv_at hl 0 rfl) ?_
          refine va_get (D := (dC, dI)) (ci := 6) (v := .int (Y_6.1 3)) (C := RX6) (T := TX6) (N := 15) hx hb hts (fun _ h => List.mem_cons_of_mem _ (List.mem_append_right _ h)) hown hK hP 0 rfl rfl 11 (by decide) (hts (.fieldLink RX6 42 "SharedLineModel" "at" "I") (List.mem_of_getElem? (i := 2) rfl)) (fun _ h9 => h9) rfl dX6_figures_61 ?_
          refine lv_aload_n hx hb dX6_figures_64 rfl (lv_at hl 0 rfl) ?_
          refine va_get (D := (dC, dI)) (ci := 6) (v := .int (Y_6.1 4)) (C := RX6) (T := TX6) (N := 15) hx hb hts (fun _ h => List.mem_cons_of_mem _ (List.mem_append_right _ h)) hown hK hP 0 rfl rfl 12 (by decide) (hts (.fieldLink RX6 49 "SharedLineModel" "mark" "I") (List.mem_of_getElem? (i := 3) rfl)) (fun _ h9 => h9) rfl dX6_figures_65 ?_
          refine lv_icmp_le (tgt := 83) hx hb dX6_figures_68 (by decide) (fun c68 => ?_) (fun c68 => ?_)
          · rw [if_pos c68] at hσ
            refine lv_iconst (v := (-1)) hx hb dX6_figures_83 (by decide) ?_
            subst hσ
            exact vq_iret hx hb hr hlocks hK hP hD hS rfl dX6_figures_84
          · rw [if_neg c68] at hσ
            refine lv_aload_n hx hb dX6_figures_71 rfl (lv_at hl 0 rfl) ?_
            refine va_get (D := (dC, dI)) (ci := 6) (v := .int (Y_6.1 3)) (C := RX6) (T := TX6) (N := 15) hx hb hts (fun _ h => List.mem_cons_of_mem _ (List.mem_append_right _ h)) hown hK hP 0 rfl rfl 11 (by decide) (hts (.fieldLink RX6 42 "SharedLineModel" "at" "I") (List.mem_of_getElem? (i := 2) rfl)) (fun _ h9 => h9) rfl dX6_figures_72 ?_
            refine lv_aload_n hx hb dX6_figures_75 rfl (lv_at hl 0 rfl) ?_
            refine va_get (D := (dC, dI)) (ci := 6) (v := .int (Y_6.1 4)) (C := RX6) (T := TX6) (N := 15) hx hb hts (fun _ h => List.mem_cons_of_mem _ (List.mem_append_right _ h)) hown hK hP 0 rfl rfl 12 (by decide) (hts (.fieldLink RX6 49 "SharedLineModel" "mark" "I") (List.mem_of_getElem? (i := 3) rfl)) (fun _ h9 => h9) rfl dX6_figures_76 ?_
            refine lv_isub hx hb dX6_figures_79 ?_
            refine lv_goto (tgt := 84) hx hb dX6_figures_80 (by decide) ?_
            subst hσ
            exact vq_iret hx hb hr hlocks hK hP hD hS rfl dX6_figures_84
      · rw [if_pos c14] at hσ
        refine lv_iload_n hx hb dX6_figures_17 rfl (lv_at hl 2 rfl) ?_
        refine lv_if_eqB (tgt := 41) hx hb dX6_figures_18 (by decide) (fun c18 => ?_) (fun c18 => ?_)
        · rw [if_neg (Bool.eq_false_iff.mp c18)] at hσ
          refine lv_iconst (v := 0) hx hb dX6_figures_41 (by decide) ?_
          refine lv_istore_n (lv' := [(2, .int 0), (0, .ref h), (1, .int p1)]) hx hb dX6_figures_42 rfl hl (by decide) rfl (fun ls hl => ?_)
          refine lv_aload_n hx hb dX6_figures_43 rfl (lv_at hl 1 rfl) ?_
          refine lv_dup hx hb dX6_figures_44 rfl ?_
          refine va_get (D := (dC, dI)) (ci := 6) (v := .int (Y_6.1 3)) (C := RX6) (T := TX6) (N := 15) hx hb hts (fun _ h => List.mem_cons_of_mem _ (List.mem_append_right _ h)) hown hK hP 0 rfl rfl 11 (by decide) (hts (.fieldLink RX6 42 "SharedLineModel" "at" "I") (List.mem_of_getElem? (i := 2) rfl)) (fun _ h9 => h9) rfl dX6_figures_45 ?_
          refine lv_iconst (v := 1) hx hb dX6_figures_48 (by decide) ?_
          refine lv_iadd hx hb dX6_figures_49 ?_
          refine va_put (D := (dC, dI)) (ci := 6) (v := .int ((Y_6.1 3) + 1)) (ty := .int) (C := RX6) (T := TX6) (N := 15) hx hb hts (fun _ h => List.mem_cons_of_mem _ (List.mem_append_right _ h)) tyX6 tyX6_ok nmX6 hown hK hP hD hS 0 rfl rfl 11 (by decide) (hts (.fieldLink RX6 42 "SharedLineModel" "at" "I") (List.mem_of_getElem? (i := 2) rfl)) (fun _ h9 => h9) rfl (tyX6_ok 11 (by decide)) rfl rfl (Nat.le_of_ble_eq_true rfl) dX6_figures_50 (fun H locs hP hD hS => ?_)
          have hP : va_P (dC, dI) vwCl (wM cI cZ h g ((upd Y_6.1 3 ((Y_6.1 3) + 1)), Y_6.2)) H := hP
          have hD : va_D A (wM cI cZ h g ((upd Y_6.1 3 ((Y_6.1 3) + 1)), Y_6.2)) := hD
          refine lv_goto (tgt := 6) hx hb dX6_figures_53 (by decide) ?_
          exact ih6 false ((upd Y_6.1 3 ((Y_6.1 3) + 1)), Y_6.2) (t_s t6 c14) hσ _ _ _ hP hD hS (lv_sub hl [1, 2, 0] rfl)
        · rw [if_pos c18] at hσ
          refine lv_aload_n hx hb dX6_figures_21 rfl (lv_at hl 0 rfl) ?_
          refine va_get (D := (dC, dI)) (ci := 6) (v := .ref (g 7)) (C := RX6) (T := TX6) (N := 15) hx hb hts (fun _ h => List.mem_cons_of_mem _ (List.mem_append_right _ h)) hown hK hP 0 rfl rfl 9 (by decide) (hts (.fieldLink RX6 32 "SharedLineModel" "text" "[I") (List.mem_of_getElem? (i := 1) rfl)) (fun _ h9 => h9) rfl dX6_figures_22 ?_
          refine lv_aload_n hx hb dX6_figures_25 rfl (lv_at hl 0 rfl) ?_
          refine va_get (D := (dC, dI)) (ci := 6) (v := .int (Y_6.1 3)) (C := RX6) (T := TX6) (N := 15) hx hb hts (fun _ h => List.mem_cons_of_mem _ (List.mem_append_right _ h)) hown hK hP 0 rfl rfl 11 (by decide) (hts (.fieldLink RX6 42 "SharedLineModel" "at" "I") (List.mem_of_getElem? (i := 2) rfl)) (fun _ h9 => h9) rfl dX6_figures_26 ?_
          refine va_iald hx hb hK hP 8 0 rfl rfl (i := (Y_6.1 3)) (at_ix2 (t_X t6) c14) dX6_figures_29 ?_
          refine lv_bipush (v := 48) hx hb dX6_figures_30 (by decide) ?_
          refine lv_isub hx hb dX6_figures_32 ?_
          refine lv_iload_n hx hb dX6_figures_33 rfl (lv_at hl 1 rfl) ?_
          refine lv_icmp_gt (tgt := 41) hx hb dX6_figures_34 (by decide) (fun c34 => ?_) (fun c34 => ?_)
          · rw [if_pos c34] at hσ
            refine lv_iconst (v := 0) hx hb dX6_figures_41 (by decide) ?_
            refine lv_istore_n (lv' := [(2, .int 0), (0, .ref h), (1, .int p1)]) hx hb dX6_figures_42 rfl hl (by decide) rfl (fun ls hl => ?_)
            refine lv_aload_n hx hb dX6_figures_43 rfl (lv_at hl 1 rfl) ?_
            refine lv_dup hx hb dX6_figures_44 rfl ?_
            refine va_get (D := (dC, dI)) (ci := 6) (v := .int (Y_6.1 3)) (C := RX6) (T := TX6) (N := 15) hx hb hts (fun _ h => List.mem_cons_of_mem _ (List.mem_append_right _ h)) hown hK hP 0 rfl rfl 11 (by decide) (hts (.fieldLink RX6 42 "SharedLineModel" "at" "I") (List.mem_of_getElem? (i := 2) rfl)) (fun _ h9 => h9) rfl dX6_figures_45 ?_
            refine lv_iconst (v := 1) hx hb dX6_figures_48 (by decide) ?_
            refine lv_iadd hx hb dX6_figures_49 ?_
            refine va_put (D := (dC, dI)) (ci := 6) (v := .int ((Y_6.1 3) + 1)) (ty := .int) (C := RX6) (T := TX6) (N := 15) hx hb hts (fun _ h => List.mem_cons_of_mem _ (List.mem_append_right _ h)) tyX6 tyX6_ok nmX6 hown hK hP hD hS 0 rfl rfl 11 (by decide) (hts (.fieldLink RX6 42 "SharedLineModel" "at" "I") (List.mem_of_getElem? (i := 2) rfl)) (fun _ h9 => h9) rfl (tyX6_ok 11 (by decide)) rfl rfl (Nat.le_of_ble_eq_true rfl) dX6_figures_50 (fun H locs hP hD hS => ?_)
            have hP : va_P (dC, dI) vwCl (wM cI cZ h g ((upd Y_6.1 3 ((Y_6.1 3) + 1)), Y_6.2)) H := hP
            have hD : va_D A (wM cI cZ h g ((upd Y_6.1 3 ((Y_6.1 3) + 1)), Y_6.2)) := hD
            refine lv_goto (tgt := 6) hx hb dX6_figures_53 (by decide) ?_
            exact ih6 false ((upd Y_6.1 3 ((Y_6.1 3) + 1)), Y_6.2) (t_s t6 c14) hσ _ _ _ hP hD hS (lv_sub hl [1, 2, 0] rfl)
          · rw [if_neg c34] at hσ
            refine lv_iconst (v := 1) hx hb dX6_figures_37 (by decide) ?_
            refine lv_goto (tgt := 42) hx hb dX6_figures_38 (by decide) ?_
            refine lv_istore_n (lv' := [(2, .int 1), (0, .ref h), (1, .int p1)]) hx hb dX6_figures_42 rfl hl (by decide) rfl (fun ls hl => ?_)
            refine lv_aload_n hx hb dX6_figures_43 rfl (lv_at hl 1 rfl) ?_
            refine lv_dup hx hb dX6_figures_44 rfl ?_
            refine va_get (D := (dC, dI)) (ci := 6) (v := .int (Y_6.1 3)) (C := RX6) (T := TX6) (N := 15) hx hb hts (fun _ h => List.mem_cons_of_mem _ (List.mem_append_right _ h)) hown hK hP 0 rfl rfl 11 (by decide) (hts (.fieldLink RX6 42 "SharedLineModel" "at" "I") (List.mem_of_getElem? (i := 2) rfl)) (fun _ h9 => h9) rfl dX6_figures_45 ?_
            refine lv_iconst (v := 1) hx hb dX6_figures_48 (by decide) ?_
            refine lv_iadd hx hb dX6_figures_49 ?_
            refine va_put (D := (dC, dI)) (ci := 6) (v := .int ((Y_6.1 3) + 1)) (ty := .int) (C := RX6) (T := TX6) (N := 15) hx hb hts (fun _ h => List.mem_cons_of_mem _ (List.mem_append_right _ h)) tyX6 tyX6_ok nmX6 hown hK hP hD hS 0 rfl rfl 11 (by decide) (hts (.fieldLink RX6 42 "SharedLineModel" "at" "I") (List.mem_of_getElem? (i := 2) rfl)) (fun _ h9 => h9) rfl (tyX6_ok 11 (by decide)) rfl rfl (Nat.le_of_ble_eq_true rfl) dX6_figures_50 (fun H locs hP hD hS => ?_)
            have hP : va_P (dC, dI) vwCl (wM cI cZ h g ((upd Y_6.1 3 ((Y_6.1 3) + 1)), Y_6.2)) H := hP
            have hD : va_D A (wM cI cZ h g ((upd Y_6.1 3 ((Y_6.1 3) + 1)), Y_6.2)) := hD
            refine lv_goto (tgt := 6) hx hb dX6_figures_53 (by decide) ?_
            exact ih6 true ((upd Y_6.1 3 ((Y_6.1 3) + 1)), Y_6.2) (t_s t6 c14) hσ _ _ _ hP hD hS (lv_sub hl [1, 2, 0] rfl)
  exact key6 121 true (sX6_skips S) (t_0 (sk_X hX)) hσ _ _ _ hP hD hS (lv_sub hl [1, 2, 0] rfl)
theorem hdX6_wordPassed : yX6_wordPassed.cls = RX6 ∧ yX6_wordPassed.cls ≠ "java/lang/invoke/MethodHandle" ∧ yX6_wordPassed.cls ≠ "java/lang/invoke/VarHandle" ∧ (parseMethodDescriptor yX6_wordPassed.desc).map (fun d => d.parameters.length) = some 0 := by decide +kernel
set_option maxHeartbeats 4000000 in
set_option maxRecDepth 100000 in
theorem cX6_wordPassed_c (l : Launch) (ev : Nat → Nat) (dC : Nat → ClassId) (dI : Nat → Nat → Nat) (cI cZ cO : ClassId) (h : Nat) (g : Nat → Nat) (S : MSt) (hX : ∃ n a : Nat, S.1 2 = nI n ∧ n ≤ 120 ∧ S.1 3 = nI a ∧ a ≤ n) : MetI l ev (dC, dI) (tyC cI cZ cO) yX6_wordPassed wsX6_wordPassed (rmF 2 44) [.ref h] (wM cI cZ h g S) (sX6_wordPassed S).1 (wM cI cZ h g (sX6_wordPassed S).2) := by
  refine MetI_of (cc := cX6_wordPassed) (maxL := 2) (ret := (some .int)) (by decide) rfl (Nat.le_of_ble_eq_true rfl) ?_
  intro p e s m below meth c A ls hx hb hr hml hts hown hlocks hin hK hP hD hA hE hl
  have hown : s.vm.findClass RX6 = some m.cls := hown
  have hl : lv_has ls 2 [(0, .ref h)] := hl
  have hS : va_S A s.heap s.heap [] := va_S.rf
  obtain ⟨σ, hσ⟩ : ∃ σ, (sX6_wordPassed S) = σ := ⟨_, rfl⟩
  rw [hσ]
  rw [sX6_wordPassed] at hσ
  refine lv_aload_n hx hb dX6_wordPassed_0 rfl (lv_at hl 0 rfl) ?_
  refine vq_Vv (As := []) (rest := []) (W2 := (wM cI cZ h g (sX6_skips S))) hx hb hml hown hts hK hP hD hS hA hE hl.1 (cX6_skips_c l ev dC dI cI cZ cO h g S hX) gX6_wordPassed_X6_skips rfl hdX6_skips (Nat.le_of_ble_eq_true rfl) (Nat.le_of_ble_eq_true rfl) rfl rfl (ci := 6) (qr := 0) rfl rfl rfl [0, 1, 2, 3, 4, 5, 6, 7, 8, 9] [] [0, 1, 2, 3, 4, 5, 6, 7, 8, 9] rfl rfl (by decide) (by decide) (by decide) rfl rfl rfl (Nat.le_of_ble_eq_true rfl) dX6_wordPassed_1 ⟨Nat.zero_le _, Nat.zero_le _⟩ (fun H locs hP hD hS => ?_)
  refine lv_iconst (v := 0) hx hb dX6_wordPassed_4 (by decide) ?_
  refine lv_istore_n (lv' := [(1, .int 0), (0, .ref h)]) hx hb dX6_wordPassed_5 rfl hl (by decide) rfl (fun ls hl => ?_)
  have key6 : ∀ (n6 : Nat) (x1_6 : Int32) (Y_6 : MSt) , (∃ n k : Nat, Y_6.1 2 = nI n ∧ n ≤ 120 ∧ Y_6.1 3 = nI k ∧ k ≤ n ∧ 120 + 1 ≤ n6 + k) → (sX6_wordPassed_L6  n6 x1_6 Y_6) = σ → ∀ (H : Heap) (locs : List Loc) (ls : Array Slot), va_P (dC, dI) vwCl (wM cI cZ h g Y_6) H → va_D A (wM cI cZ h g Y_6) → va_S A s.heap H locs → lv_has ls 2 [(0, .ref h), (1, .int x1_6)] → W p l e (headSpec wsX6_wordPassed (rmF 2 44)).room s m ([.ref h] : List Value).toArray below meth c H locs 0 0 (MQ below (va_Qi (fun (x : Int32) (_ : Unit) => x = σ.1) (fun _ t => PoW (dC, dI) (tyC cI cZ cO) A (wM cI cZ h g σ.2) t) A) ([.ref h] : List Value).toArray s 0 0 A) (F0 m 6 ls []) := by
    intro n6
    induction n6 with
    | zero =>
      intro x1_6 Y_6  t6
      exact absurd t6 (by rintro ⟨n, k, -, -, -, h1, h2⟩; omega)
    | succ n6 ih6 =>
      intro x1_6 Y_6  t6 hσ H locs ls hP hD hS hl
      rw [sX6_wordPassed_L6_s] at hσ
      refine lv_aload_n hx hb dX6_wordPassed_6 rfl (lv_at hl 0 rfl) ?_
      refine lv_bipush (v := 97) hx hb dX6_wordPassed_7 (by decide) ?_
      refine lv_bipush (v := 122) hx hb dX6_wordPassed_9 (by decide) ?_
      refine vq_Vi (As := [.int 97, .int 122]) (rest := []) (W2 := (wM cI cZ h g Y_6)) (f := (bI (sX6_isAt Y_6 (97 : Int32) (122 : Int32)))) hx hb hml hown hts hK hP hD hS hA hE hl.1 (cX6_isAt_c l ev dC dI cI cZ cO h g Y_6 (97 : Int32) (122 : Int32) (t_X t6)) gX6_wordPassed_X6_isAt rfl hdX6_isAt (Nat.le_of_ble_eq_true rfl) (Nat.le_of_ble_eq_true rfl) rfl rfl (ci := 6) (qr := 0) rfl rfl rfl [0, 1, 2, 3, 4, 5, 6, 7, 8, 9] [] [0, 1, 2, 3, 4, 5, 6, 7, 8, 9] rfl rfl (by decide) (by decide) (by decide) rfl rfl rfl (Nat.le_of_ble_eq_true rfl) dX6_wordPassed_11 ⟨Nat.zero_le _, Nat.zero_le _⟩ (fun H locs hP hD hS => ?_)
      refine lv_if_eqB (tgt := 67) hx hb dX6_wordPassed_14 (by decide) (fun c14 => ?_) (fun c14 => ?_)
      · rw [if_neg (Bool.eq_false_iff.mp c14)] at hσ
        refine lv_aload_n hx hb dX6_wordPassed_67 rfl (lv_at hl 0 rfl) ?_
        refine va_get (D := (dC, dI)) (ci := 6) (v := .int (Y_6.1 3)) (C := RX6) (T := TX6) (N := 15) hx hb hts (fun _ h => List.mem_cons_of_mem _ (List.mem_append_right _ h)) hown hK hP 0 rfl rfl 11 (by decide) (hts (.fieldLink RX6 42 "SharedLineModel" "at" "I") (List.mem_of_getElem? (i := 1) rfl)) (fun _ h9 => h9) rfl dX6_wordPassed_68 ?_
        refine lv_aload_n hx hb dX6_wordPassed_71 rfl (lv_at hl 0 rfl) ?_
        refine va_get (D := (dC, dI)) (ci := 6) (v := .int (Y_6.1 4)) (C := RX6) (T := TX6) (N := 15) hx hb hts (fun _ h => List.mem_cons_of_mem _ (List.mem_append_right _ h)) hown hK hP 0 rfl rfl 12 (by decide) (hts (.fieldLink RX6 49 "SharedLineModel" "mark" "I") (List.mem_of_getElem? (i := 2) rfl)) (fun _ h9 => h9) rfl dX6_wordPassed_72 ?_
        refine lv_isub hx hb dX6_wordPassed_75 ?_
        refine lv_iconst (v := 5) hx hb dX6_wordPassed_76 (by decide) ?_
        refine lv_icmp_le (tgt := 84) hx hb dX6_wordPassed_77 (by decide) (fun c77 => ?_) (fun c77 => ?_)
        · rw [if_pos c77] at hσ
          refine lv_iload_n hx hb dX6_wordPassed_84 rfl (lv_at hl 1 rfl) ?_
          by_cases c85_0 : x1_6 = 1503
          · rw [if_pos c85_0] at hσ
            refine lv_lookup (x := x1_6) (off := 59) (tgt := 144) hx hb dX6_wordPassed_85 (by decide) (by rw [c85_0]; decide) (by decide) ?_
            refine lv_iconst (v := 4) hx hb dX6_wordPassed_144 (by decide) ?_
            subst hσ
            exact vq_iret hx hb hr hlocks hK hP hD hS rfl dX6_wordPassed_145
          · rw [if_neg c85_0] at hσ
            by_cases c85_1 : x1_6 = 243140
            · rw [if_pos c85_1] at hσ
              refine lv_lookup (x := x1_6) (off := 51) (tgt := 136) hx hb dX6_wordPassed_85 (by decide) (by rw [c85_1]; decide) (by decide) ?_
              refine lv_iconst (v := 0) hx hb dX6_wordPassed_136 (by decide) ?_
              subst hσ
              exact vq_iret hx hb hr hlocks hK hP hD hS rfl dX6_wordPassed_137
            · rw [if_neg c85_1] at hσ
              by_cases c85_2 : x1_6 = 453701
              · rw [if_pos c85_2] at hσ
                refine lv_lookup (x := x1_6) (off := 55) (tgt := 140) hx hb dX6_wordPassed_85 (by decide) (by rw [c85_2]; decide) (by decide) ?_
                refine lv_iconst (v := 2) hx hb dX6_wordPassed_140 (by decide) ?_
                subst hσ
                exact vq_iret hx hb hr hlocks hK hP hD hS rfl dX6_wordPassed_141
              · rw [if_neg c85_2] at hσ
                by_cases c85_3 : x1_6 = 4281544
                · rw [if_pos c85_3] at hσ
                  refine lv_lookup (x := x1_6) (off := 53) (tgt := 138) hx hb dX6_wordPassed_85 (by decide) (by rw [c85_3]; decide) (by decide) ?_
                  refine lv_iconst (v := 1) hx hb dX6_wordPassed_138 (by decide) ?_
                  subst hσ
                  exact vq_iret hx hb hr hlocks hK hP hD hS rfl dX6_wordPassed_139
                · rw [if_neg c85_3] at hσ
                  by_cases c85_4 : x1_6 = 9665171
                  · rw [if_pos c85_4] at hσ
                    refine lv_lookup (x := x1_6) (off := 57) (tgt := 142) hx hb dX6_wordPassed_85 (by decide) (by rw [c85_4]; decide) (by decide) ?_
                    refine lv_iconst (v := 3) hx hb dX6_wordPassed_142 (by decide) ?_
                    subst hσ
                    exact vq_iret hx hb hr hlocks hK hP hD hS rfl dX6_wordPassed_143
                  · rw [if_neg c85_4] at hσ
                    refine lv_lookup (x := x1_6) (off := 61) (tgt := 146) hx hb dX6_wordPassed_85 (by decide) (by rw [show (#[(1503, 59), (243140, 51), (453701, 55), (4281544, 53), (9665171, 57)] : Array (Int × Int)).toList = [(1503, 59), (243140, 51), (453701, 55), (4281544, 53), (9665171, 57)] from rfl, lv_osw c85_0 (by decide), lv_osw c85_1 (by decide), lv_osw c85_2 (by decide), lv_osw c85_3 (by decide), lv_osw c85_4 (by decide)]; rfl) (by decide) ?_
                    refine lv_bipush (v := (-9)) hx hb dX6_wordPassed_146 (by decide) ?_
                    subst hσ
                    exact vq_iret hx hb hr hlocks hK hP hD hS rfl dX6_wordPassed_148
        · rw [if_neg c77] at hσ
          refine lv_iconst (v := 0) hx hb dX6_wordPassed_80 (by decide) ?_
          refine lv_goto (tgt := 85) hx hb dX6_wordPassed_81 (by decide) ?_
          refine lv_lookup (x := 0) (off := 61) (tgt := 146) hx hb dX6_wordPassed_85 (by decide) (by decide) (by decide) ?_
          refine lv_bipush (v := (-9)) hx hb dX6_wordPassed_146 (by decide) ?_
          subst hσ
          exact vq_iret hx hb hr hlocks hK hP hD hS rfl dX6_wordPassed_148
      · rw [if_pos c14] at hσ
        refine lv_aload_n hx hb dX6_wordPassed_17 rfl (lv_at hl 0 rfl) ?_
        refine va_get (D := (dC, dI)) (ci := 6) (v := .int (Y_6.1 3)) (C := RX6) (T := TX6) (N := 15) hx hb hts (fun _ h => List.mem_cons_of_mem _ (List.mem_append_right _ h)) hown hK hP 0 rfl rfl 11 (by decide) (hts (.fieldLink RX6 42 "SharedLineModel" "at" "I") (List.mem_of_getElem? (i := 1) rfl)) (fun _ h9 => h9) rfl dX6_wordPassed_18 ?_
        refine lv_aload_n hx hb dX6_wordPassed_21 rfl (lv_at hl 0 rfl) ?_
        refine va_get (D := (dC, dI)) (ci := 6) (v := .int (Y_6.1 4)) (C := RX6) (T := TX6) (N := 15) hx hb hts (fun _ h => List.mem_cons_of_mem _ (List.mem_append_right _ h)) hown hK hP 0 rfl rfl 12 (by decide) (hts (.fieldLink RX6 49 "SharedLineModel" "mark" "I") (List.mem_of_getElem? (i := 2) rfl)) (fun _ h9 => h9) rfl dX6_wordPassed_22 ?_
        refine lv_isub hx hb dX6_wordPassed_25 ?_
        refine lv_iconst (v := 4) hx hb dX6_wordPassed_26 (by decide) ?_
        refine lv_icmp_le (tgt := 34) hx hb dX6_wordPassed_27 (by decide) (fun c27 => ?_) (fun c27 => ?_)
        · rw [if_pos c27] at hσ
          refine lv_bipush (v := 27) hx hb dX6_wordPassed_34 (by decide) ?_
          refine lv_iload_n hx hb dX6_wordPassed_36 rfl (lv_at hl 1 rfl) ?_
          refine lv_imul hx hb dX6_wordPassed_37 ?_
          refine lv_aload_n hx hb dX6_wordPassed_38 rfl (lv_at hl 0 rfl) ?_
          refine va_get (D := (dC, dI)) (ci := 6) (v := .ref (g 7)) (C := RX6) (T := TX6) (N := 15) hx hb hts (fun _ h => List.mem_cons_of_mem _ (List.mem_append_right _ h)) hown hK hP 0 rfl rfl 9 (by decide) (hts (.fieldLink RX6 32 "SharedLineModel" "text" "[I") (List.mem_of_getElem? (i := 3) rfl)) (fun _ h9 => h9) rfl dX6_wordPassed_39 ?_
          refine lv_aload_n hx hb dX6_wordPassed_42 rfl (lv_at hl 0 rfl) ?_
          refine va_get (D := (dC, dI)) (ci := 6) (v := .int (Y_6.1 3)) (C := RX6) (T := TX6) (N := 15) hx hb hts (fun _ h => List.mem_cons_of_mem _ (List.mem_append_right _ h)) hown hK hP 0 rfl rfl 11 (by decide) (hts (.fieldLink RX6 42 "SharedLineModel" "at" "I") (List.mem_of_getElem? (i := 1) rfl)) (fun _ h9 => h9) rfl dX6_wordPassed_43 ?_
          refine va_iald hx hb hK hP 8 0 rfl rfl (i := (Y_6.1 3)) (at_ix2 (t_X t6) c14) dX6_wordPassed_46 ?_
          refine lv_iadd hx hb dX6_wordPassed_47 ?_
          refine lv_bipush (v := 97) hx hb dX6_wordPassed_48 (by decide) ?_
          refine lv_isub hx hb dX6_wordPassed_50 ?_
          refine lv_iconst (v := 1) hx hb dX6_wordPassed_51 (by decide) ?_
          refine lv_iadd hx hb dX6_wordPassed_52 ?_
          refine lv_istore_n (lv' := [(1, .int (((((27 : Int32) * x1_6) + ((Y_6.2 7) ((Y_6.1 3)).toNatClampNeg)) - 97) + 1)), (0, .ref h)]) hx hb dX6_wordPassed_53 rfl hl (by decide) rfl (fun ls hl => ?_)
          refine lv_aload_n hx hb dX6_wordPassed_54 rfl (lv_at hl 1 rfl) ?_
          refine lv_dup hx hb dX6_wordPassed_55 rfl ?_
          refine va_get (D := (dC, dI)) (ci := 6) (v := .int (Y_6.1 3)) (C := RX6) (T := TX6) (N := 15) hx hb hts (fun _ h => List.mem_cons_of_mem _ (List.mem_append_right _ h)) hown hK hP 0 rfl rfl 11 (by decide) (hts (.fieldLink RX6 42 "SharedLineModel" "at" "I") (List.mem_of_getElem? (i := 1) rfl)) (fun _ h9 => h9) rfl dX6_wordPassed_56 ?_
          refine lv_iconst (v := 1) hx hb dX6_wordPassed_59 (by decide) ?_
          refine lv_iadd hx hb dX6_wordPassed_60 ?_
          refine va_put (D := (dC, dI)) (ci := 6) (v := .int ((Y_6.1 3) + 1)) (ty := .int) (C := RX6) (T := TX6) (N := 15) hx hb hts (fun _ h => List.mem_cons_of_mem _ (List.mem_append_right _ h)) tyX6 tyX6_ok nmX6 hown hK hP hD hS 0 rfl rfl 11 (by decide) (hts (.fieldLink RX6 42 "SharedLineModel" "at" "I") (List.mem_of_getElem? (i := 1) rfl)) (fun _ h9 => h9) rfl (tyX6_ok 11 (by decide)) rfl rfl (Nat.le_of_ble_eq_true rfl) dX6_wordPassed_61 (fun H locs hP hD hS => ?_)
          have hP : va_P (dC, dI) vwCl (wM cI cZ h g ((upd Y_6.1 3 ((Y_6.1 3) + 1)), Y_6.2)) H := hP
          have hD : va_D A (wM cI cZ h g ((upd Y_6.1 3 ((Y_6.1 3) + 1)), Y_6.2)) := hD
          refine lv_goto (tgt := 6) hx hb dX6_wordPassed_64 (by decide) ?_
          exact ih6 (((((27 : Int32) * x1_6) + ((Y_6.2 7) ((Y_6.1 3)).toNatClampNeg)) - 97) + 1) ((upd Y_6.1 3 ((Y_6.1 3) + 1)), Y_6.2) (t_s t6 c14) hσ _ _ _ hP hD hS (lv_sub hl [1, 0] rfl)
        · rw [if_neg c27] at hσ
          refine lv_iconst (v := 0) hx hb dX6_wordPassed_30 (by decide) ?_
          refine lv_goto (tgt := 53) hx hb dX6_wordPassed_31 (by decide) ?_
          refine lv_istore_n (lv' := [(1, .int 0), (0, .ref h)]) hx hb dX6_wordPassed_53 rfl hl (by decide) rfl (fun ls hl => ?_)
          refine lv_aload_n hx hb dX6_wordPassed_54 rfl (lv_at hl 1 rfl) ?_
          refine lv_dup hx hb dX6_wordPassed_55 rfl ?_
          refine va_get (D := (dC, dI)) (ci := 6) (v := .int (Y_6.1 3)) (C := RX6) (T := TX6) (N := 15) hx hb hts (fun _ h => List.mem_cons_of_mem _ (List.mem_append_right _ h)) hown hK hP 0 rfl rfl 11 (by decide) (hts (.fieldLink RX6 42 "SharedLineModel" "at" "I") (List.mem_of_getElem? (i := 1) rfl)) (fun _ h9 => h9) rfl dX6_wordPassed_56 ?_
          refine lv_iconst (v := 1) hx hb dX6_wordPassed_59 (by decide) ?_
          refine lv_iadd hx hb dX6_wordPassed_60 ?_
          refine va_put (D := (dC, dI)) (ci := 6) (v := .int ((Y_6.1 3) + 1)) (ty := .int) (C := RX6) (T := TX6) (N := 15) hx hb hts (fun _ h => List.mem_cons_of_mem _ (List.mem_append_right _ h)) tyX6 tyX6_ok nmX6 hown hK hP hD hS 0 rfl rfl 11 (by decide) (hts (.fieldLink RX6 42 "SharedLineModel" "at" "I") (List.mem_of_getElem? (i := 1) rfl)) (fun _ h9 => h9) rfl (tyX6_ok 11 (by decide)) rfl rfl (Nat.le_of_ble_eq_true rfl) dX6_wordPassed_61 (fun H locs hP hD hS => ?_)
          have hP : va_P (dC, dI) vwCl (wM cI cZ h g ((upd Y_6.1 3 ((Y_6.1 3) + 1)), Y_6.2)) H := hP
          have hD : va_D A (wM cI cZ h g ((upd Y_6.1 3 ((Y_6.1 3) + 1)), Y_6.2)) := hD
          refine lv_goto (tgt := 6) hx hb dX6_wordPassed_64 (by decide) ?_
          exact ih6 (0 : Int32) ((upd Y_6.1 3 ((Y_6.1 3) + 1)), Y_6.2) (t_s t6 c14) hσ _ _ _ hP hD hS (lv_sub hl [1, 0] rfl)
  exact key6 121 (0 : Int32) (sX6_skips S) (t_0 (sk_X hX)) hσ _ _ _ hP hD hS (lv_sub hl [1, 0] rfl)
