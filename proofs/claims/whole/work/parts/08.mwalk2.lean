theorem hdX6_busyAt : yX6_busyAt.cls = RX6 ∧ yX6_busyAt.cls ≠ "java/lang/invoke/MethodHandle" ∧ yX6_busyAt.cls ≠ "java/lang/invoke/VarHandle" ∧ (parseMethodDescriptor yX6_busyAt.desc).map (fun d => d.parameters.length) = some 2 := by decide +kernel
set_option maxHeartbeats 4000000 in
set_option maxRecDepth 100000 in
theorem cX6_busyAt_c (l : Launch) (ev : Nat → Nat) (dC : Nat → ClassId) (dI : Nat → Nat → Nat) (cI cZ cO : ClassId) (h : Nat) (g : Nat → Nat) (S : MSt) (p1 : Int32) (p2 : Int32) (hT : LOK S) (hB : ∃ b : Nat, S.2 0 3 = nI b ∧ b ≤ 6) (hf : ∃ f : Nat, p2 = nI f ∧ f ≤ 12) : MetI l ev (dC, dI) (tyC cI cZ cO) yX6_busyAt wsX6_busyAt (rmF 3 64) [.ref h, .int p1, .int p2] (wM cI cZ h g S) (sX6_busyAt S p1 p2) (wM cI cZ h g S) := by
  refine MetI_of (cc := cX6_busyAt) (maxL := 5) (ret := (some .int)) (by decide) rfl (Nat.le_of_ble_eq_true rfl) ?_
  intro p e s m below meth c A ls hx hb hr hml hts hown hlocks hin hK hP hD hA hE hl
  have hown : s.vm.findClass RX6 = some m.cls := hown
  have hl : lv_has ls 5 [(0, .ref h), (1, .int p1), (2, .int p2)] := hl
  have hS : va_S A s.heap s.heap [] := va_S.rf
  obtain ⟨σ, hσ⟩ : ∃ σ, (sX6_busyAt S p1 p2) = σ := ⟨_, rfl⟩
  rw [hσ]
  rw [sX6_busyAt] at hσ
  obtain ⟨b, eb, hb6⟩ := hB
  obtain ⟨f, ef, hf12⟩ := hf
  have ebf : p2 + S.2 0 3 = nI (f + b) := by rw [ef, eb]; exact nI_add f b
  refine lv_iconst (v := 0) hx hb dX6_busyAt_0 (by decide) ?_
  refine lv_istore_n (lv' := [(3, .int 0), (0, .ref h), (1, .int p1), (2, .int p2)]) hx hb dX6_busyAt_1 rfl hl (by decide) rfl (fun ls hl => ?_)
  refine lv_iload_n hx hb dX6_busyAt_2 rfl (lv_at hl 3 rfl) ?_
  refine lv_istore (lv' := [(4, .int p2), (3, .int 0), (0, .ref h), (1, .int p1), (2, .int p2)]) hx hb dX6_busyAt_3 hl (by decide) rfl (fun ls hl => ?_)
  have key5 : ∀ (n5 : Nat) (x3_5 : Int32) (x4_5 : Int32)  (k5 : Nat), (x4_5 = nI k5) → (k5 ≤ 18) → (18 + 1 ≤ n5 + k5) → (sX6_busyAt_L5 S p1 p2 n5 x3_5 x4_5) = σ → ∀ (H : Heap) (locs : List Loc) (ls : Array Slot), va_P (dC, dI) vwCl (wM cI cZ h g S) H → va_D A (wM cI cZ h g S) → va_S A s.heap H locs → lv_has ls 5 [(0, .ref h), (1, .int p1), (2, .int p2), (3, .int x3_5), (4, .int x4_5)] → W p l e (headSpec wsX6_busyAt (rmF 3 64)).room s m ([.ref h, .int p1, .int p2] : List Value).toArray below meth c H locs 0 0 (MQ below (va_Qi (fun (x : Int32) (_ : Unit) => x = σ) (fun _ t => PoW (dC, dI) (tyC cI cZ cO) A (wM cI cZ h g S) t) A) ([.ref h, .int p1, .int p2] : List Value).toArray s 0 0 A) (F0 m 5 ls []) := by
    intro n5
    induction n5 with
    | zero =>
      intro x3_5 x4_5 k5 e5 hk5 hn5
      exact absurd hn5 (by omega)
    | succ n5 ih5 =>
      intro x3_5 x4_5 k5 e5 hk5 hn5 hσ H locs ls hP hD hS hl
      rw [sX6_busyAt_L5_s] at hσ
      refine lv_iload hx hb dX6_busyAt_5 (lv_at hl 4 rfl) ?_
      refine lv_iload_n hx hb dX6_busyAt_7 rfl (lv_at hl 2 rfl) ?_
      refine lv_aload_n hx hb dX6_busyAt_8 rfl (lv_at hl 0 rfl) ?_
      refine va_get (D := (dC, dI)) (ci := 6) (v := .ref (g 0)) (C := RX6) (T := TX6) (N := 15) hx hb hts (fun _ h => List.mem_cons_of_mem _ (List.mem_append_right _ h)) hown hK hP 0 rfl rfl 0 (by decide) (hts (.fieldLink RX6 7 "SharedLineModel" "now" "[I") (List.mem_of_getElem? (i := 1) rfl)) (fun _ h9 => h9) rfl dX6_busyAt_9 ?_
      refine lv_iconst (v := 3) hx hb dX6_busyAt_12 (by decide) ?_
      refine vq_ialdK (k := 3) hx hb hK hP 1 0 rfl rfl (by decide) (by decide) (by decide) dX6_busyAt_13 ?_
      refine lv_iadd hx hb dX6_busyAt_14 ?_
      refine lv_icmp_ge (tgt := 57) hx hb dX6_busyAt_15 (by decide) (fun c15 => ?_) (fun c15 => ?_)
      · rw [if_pos c15] at hσ
        refine lv_iload_n hx hb dX6_busyAt_57 rfl (lv_at hl 3 rfl) ?_
        subst hσ
        exact vq_iret hx hb hr hlocks hK hP hD hS rfl dX6_busyAt_58
      · rw [if_neg c15] at hσ
        refine lv_iload_n hx hb dX6_busyAt_18 rfl (lv_at hl 3 rfl) ?_
        refine lv_aload_n hx hb dX6_busyAt_19 rfl (lv_at hl 0 rfl) ?_
        refine lv_iload hx hb dX6_busyAt_20 (lv_at hl 4 rfl) ?_
        refine vq_Vi (As := [.int x4_5]) (rest := [.int x3_5]) (W2 := (wM cI cZ h g S)) (f := (bI (sX6_isNote S x4_5))) hx hb hml hown hts hK hP hD hS hA hE hl.1 (cX6_isNote_c l ev dC dI cI cZ cO h g S x4_5 hT) gX6_busyAt_X6_isNote rfl hdX6_isNote (Nat.le_of_ble_eq_true rfl) (Nat.le_of_ble_eq_true rfl) rfl rfl (ci := 6) (qr := 0) rfl rfl rfl [0, 1, 2, 3, 4, 5, 6, 7, 8, 9] [] [0, 1, 2, 3, 4, 5, 6, 7, 8, 9] rfl rfl (by decide) (by decide) (by decide) rfl rfl rfl (Nat.le_of_ble_eq_true rfl) dX6_busyAt_22 ⟨Nat.zero_le _, Nat.zero_le _⟩ (fun H locs hP hD hS => ?_)
        refine lv_if_eqB (tgt := 48) hx hb dX6_busyAt_25 (by decide) (fun c25 => ?_) (fun c25 => ?_)
        · rw [if_neg (Bool.eq_false_iff.mp c25)] at hσ
          refine lv_iconst (v := 0) hx hb dX6_busyAt_48 (by decide) ?_
          refine lv_iadd hx hb dX6_busyAt_49 ?_
          refine lv_istore_n (lv' := [(3, .int (x3_5 + 0)), (0, .ref h), (1, .int p1), (2, .int p2), (4, .int x4_5)]) hx hb dX6_busyAt_50 rfl hl (by decide) rfl (fun ls hl => ?_)
          refine lv_iinc (v := (x4_5 + 1)) (lv' := [(4, .int (x4_5 + 1)), (3, .int (x3_5 + 0)), (0, .ref h), (1, .int p1), (2, .int p2)]) hx hb dX6_busyAt_51 hl (k := 4) rfl rfl (by decide) rfl (fun ls hl => ?_)
          refine lv_goto (tgt := 5) hx hb dX6_busyAt_54 (by decide) ?_
          exact ih5 (x3_5 + 0) (x4_5 + 1) (k5 + 1) (up_s e5) (by have := up_lt e5 ebf (by omega) c15; omega) (by omega) hσ _ _ _ hP hD hS (lv_sub hl [2, 3, 4, 1, 0] rfl)
        · rw [if_pos c25] at hσ
          refine lv_aload_n hx hb dX6_busyAt_28 rfl (lv_at hl 0 rfl) ?_
          refine va_get (D := (dC, dI)) (ci := 6) (v := .ref (g 0)) (C := RX6) (T := TX6) (N := 15) hx hb hts (fun _ h => List.mem_cons_of_mem _ (List.mem_append_right _ h)) hown hK hP 0 rfl rfl 0 (by decide) (hts (.fieldLink RX6 7 "SharedLineModel" "now" "[I") (List.mem_of_getElem? (i := 1) rfl)) (fun _ h9 => h9) rfl dX6_busyAt_29 ?_
          refine lv_bipush (v := 16) hx hb dX6_busyAt_32 (by decide) ?_
          refine vq_ialdK (k := 16) hx hb hK hP 1 0 rfl rfl (by decide) (by decide) (by decide) dX6_busyAt_34 ?_
          refine lv_iload hx hb dX6_busyAt_35 (lv_at hl 4 rfl) ?_
          refine lv_ishr hx hb dX6_busyAt_37 ?_
          refine lv_iconst (v := 1) hx hb dX6_busyAt_38 (by decide) ?_
          refine lv_iand hx hb dX6_busyAt_39 ?_
          refine lv_iload_n hx hb dX6_busyAt_40 rfl (lv_at hl 1 rfl) ?_
          refine lv_icmp_ne (tgt := 48) hx hb dX6_busyAt_41 (by decide) (fun c41 => ?_) (fun c41 => ?_)
          · rw [if_neg c41] at hσ
            refine lv_iconst (v := 0) hx hb dX6_busyAt_48 (by decide) ?_
            refine lv_iadd hx hb dX6_busyAt_49 ?_
            refine lv_istore_n (lv' := [(3, .int (x3_5 + 0)), (0, .ref h), (1, .int p1), (2, .int p2), (4, .int x4_5)]) hx hb dX6_busyAt_50 rfl hl (by decide) rfl (fun ls hl => ?_)
            refine lv_iinc (v := (x4_5 + 1)) (lv' := [(4, .int (x4_5 + 1)), (3, .int (x3_5 + 0)), (0, .ref h), (1, .int p1), (2, .int p2)]) hx hb dX6_busyAt_51 hl (k := 4) rfl rfl (by decide) rfl (fun ls hl => ?_)
            refine lv_goto (tgt := 5) hx hb dX6_busyAt_54 (by decide) ?_
            exact ih5 (x3_5 + 0) (x4_5 + 1) (k5 + 1) (up_s e5) (by have := up_lt e5 ebf (by omega) c15; omega) (by omega) hσ _ _ _ hP hD hS (lv_sub hl [2, 3, 4, 1, 0] rfl)
          · rw [if_pos c41] at hσ
            refine lv_iconst (v := 1) hx hb dX6_busyAt_44 (by decide) ?_
            refine lv_goto (tgt := 49) hx hb dX6_busyAt_45 (by decide) ?_
            refine lv_iadd hx hb dX6_busyAt_49 ?_
            refine lv_istore_n (lv' := [(3, .int (x3_5 + 1)), (0, .ref h), (1, .int p1), (2, .int p2), (4, .int x4_5)]) hx hb dX6_busyAt_50 rfl hl (by decide) rfl (fun ls hl => ?_)
            refine lv_iinc (v := (x4_5 + 1)) (lv' := [(4, .int (x4_5 + 1)), (3, .int (x3_5 + 1)), (0, .ref h), (1, .int p1), (2, .int p2)]) hx hb dX6_busyAt_51 hl (k := 4) rfl rfl (by decide) rfl (fun ls hl => ?_)
            refine lv_goto (tgt := 5) hx hb dX6_busyAt_54 (by decide) ?_
            exact ih5 (x3_5 + 1) (x4_5 + 1) (k5 + 1) (up_s e5) (by have := up_lt e5 ebf (by omega) c15; omega) (by omega) hσ _ _ _ hP hD hS (lv_sub hl [2, 3, 4, 1, 0] rfl)
  exact key5 19 (0 : Int32) p2 f ef (by omega) (by omega) hσ _ _ _ hP hD hS (lv_sub hl [2, 3, 4, 1, 0] rfl)
theorem hdX6_busiest : yX6_busiest.cls = RX6 ∧ yX6_busiest.cls ≠ "java/lang/invoke/MethodHandle" ∧ yX6_busiest.cls ≠ "java/lang/invoke/VarHandle" ∧ (parseMethodDescriptor yX6_busiest.desc).map (fun d => d.parameters.length) = some 2 := by decide +kernel
set_option maxHeartbeats 4000000 in
set_option maxRecDepth 100000 in
theorem cX6_busiest_c (l : Launch) (ev : Nat → Nat) (dC : Nat → ClassId) (dI : Nat → Nat → Nat) (cI cZ cO : ClassId) (h : Nat) (g : Nat → Nat) (S : MSt) (p1 : Int32) (p2 : Int32) (hT : LOK S) (hB : ∃ b : Nat, S.2 0 3 = nI b ∧ b ≤ 6) : MetI l ev (dC, dI) (tyC cI cZ cO) yX6_busiest wsX6_busiest (rmF 4 88) [.ref h, .int p1, .int p2] (wM cI cZ h g S) (sX6_busiest S p1 p2) (wM cI cZ h g S) := by
  refine MetI_of (cc := cX6_busiest) (maxL := 5) (ret := (some .int)) (by decide) rfl (Nat.le_of_ble_eq_true rfl) ?_
  intro p e s m below meth c A ls hx hb hr hml hts hown hlocks hin hK hP hD hA hE hl
  have hown : s.vm.findClass RX6 = some m.cls := hown
  have hl : lv_has ls 5 [(0, .ref h), (1, .int p1), (2, .int p2)] := hl
  have hS : va_S A s.heap s.heap [] := va_S.rf
  obtain ⟨σ, hσ⟩ : ∃ σ, (sX6_busiest S p1 p2) = σ := ⟨_, rfl⟩
  rw [hσ]
  rw [sX6_busiest] at hσ
  obtain ⟨T, eT, hT1, hT2⟩ := id hT
  refine lv_iload_n hx hb dX6_busiest_0 rfl (lv_at hl 1 rfl) ?_
  refine vq_Si (As := [.int p1]) (rest := []) (W2 := (wM cI cZ h g S)) (f := (bI (sX6_isHand p1))) hx hb hml hown hts hK hP hD hS hA hE hl.1 (cX6_isHand_c l ev dC dI cI cZ cO p1) gX6_busiest_X6_isHand rfl hdX6_isHand (Nat.le_of_ble_eq_true rfl) (Nat.le_of_ble_eq_true rfl) rfl rfl [] [0, 1, 2, 3, 4, 5, 6, 7, 8, 9] [0, 1, 2, 3, 4, 5, 6, 7, 8, 9] rfl rfl (by decide) (by decide) (by decide) rfl rfl rfl (Nat.le_of_ble_eq_true rfl) dX6_busiest_1 ⟨Nat.zero_le _, Nat.zero_le _⟩ (fun H locs hP hD hS => ?_)
  refine lv_if_eqB (tgt := 16) hx hb dX6_busiest_4 (by decide) (fun c4 => ?_) (fun c4 => ?_)
  · rw [if_neg (Bool.eq_false_iff.mp c4)] at hσ
    refine lv_iconst (v := (-1)) hx hb dX6_busiest_16 (by decide) ?_
    subst hσ
    exact vq_iret hx hb hr hlocks hK hP hD hS rfl dX6_busiest_17
  · rw [if_pos c4] at hσ
    refine lv_iload_n hx hb dX6_busiest_7 rfl (lv_at hl 2 rfl) ?_
    refine lv_iconst (v := 0) hx hb dX6_busiest_8 (by decide) ?_
    refine lv_iconst (v := 1) hx hb dX6_busiest_9 (by decide) ?_
    refine vq_Si (As := [.int p2, .int 0, .int 1]) (rest := []) (W2 := (wM cI cZ h g S)) (f := (bI (sX6_within p2 (0 : Int32) (1 : Int32)))) hx hb hml hown hts hK hP hD hS hA hE hl.1 (cX6_within_c l ev dC dI cI cZ cO p2 (0 : Int32) (1 : Int32)) gX6_busiest_X6_within rfl hdX6_within (Nat.le_of_ble_eq_true rfl) (Nat.le_of_ble_eq_true rfl) rfl rfl [] [0, 1, 2, 3, 4, 5, 6, 7, 8, 9] [0, 1, 2, 3, 4, 5, 6, 7, 8, 9] rfl rfl (by decide) (by decide) (by decide) rfl rfl rfl (Nat.le_of_ble_eq_true rfl) dX6_busiest_10 ⟨Nat.zero_le _, Nat.zero_le _⟩ (fun H locs hP hD hS => ?_)
    refine lv_if_neB (tgt := 18) hx hb dX6_busiest_13 (by decide) (fun c13 => ?_) (fun c13 => ?_)
    · rw [if_pos c13] at hσ
      refine lv_iconst (v := 0) hx hb dX6_busiest_18 (by decide) ?_
      refine lv_istore_n (lv' := [(3, .int 0), (0, .ref h), (1, .int p1), (2, .int p2)]) hx hb dX6_busiest_19 rfl hl (by decide) rfl (fun ls hl => ?_)
      refine lv_iconst (v := 1) hx hb dX6_busiest_20 (by decide) ?_
      refine lv_istore (lv' := [(4, .int 1), (3, .int 0), (0, .ref h), (1, .int p1), (2, .int p2)]) hx hb dX6_busiest_21 hl (by decide) rfl (fun ls hl => ?_)
      have key23 : ∀ (n23 : Nat) (x3_23 : Int32) (x4_23 : Int32)  (k23 : Nat), (x4_23 = nI k23) → (k23 ≤ 12) → (12 + 1 ≤ n23 + k23) → (∃ f : Nat, x3_23 = nI f ∧ f ≤ 12) → (sX6_busiest_L23 S p1 p2 n23 x3_23 x4_23) = σ → ∀ (H : Heap) (locs : List Loc) (ls : Array Slot), va_P (dC, dI) vwCl (wM cI cZ h g S) H → va_D A (wM cI cZ h g S) → va_S A s.heap H locs → lv_has ls 5 [(0, .ref h), (1, .int p1), (2, .int p2), (3, .int x3_23), (4, .int x4_23)] → W p l e (headSpec wsX6_busiest (rmF 4 88)).room s m ([.ref h, .int p1, .int p2] : List Value).toArray below meth c H locs 0 0 (MQ below (va_Qi (fun (x : Int32) (_ : Unit) => x = σ) (fun _ t => PoW (dC, dI) (tyC cI cZ cO) A (wM cI cZ h g S) t) A) ([.ref h, .int p1, .int p2] : List Value).toArray s 0 0 A) (F0 m 23 ls []) := by
        intro n23
        induction n23 with
        | zero =>
          intro x3_23 x4_23 k23 e23 hk23 hn23 hb23
          exact absurd hn23 (by omega)
        | succ n23 ih23 =>
          intro x3_23 x4_23 k23 e23 hk23 hn23 hb23 hσ H locs ls hP hD hS hl
          rw [sX6_busiest_L23_s] at hσ
          refine lv_iload hx hb dX6_busiest_23 (lv_at hl 4 rfl) ?_
          refine lv_aload_n hx hb dX6_busiest_25 rfl (lv_at hl 0 rfl) ?_
          refine va_get (D := (dC, dI)) (ci := 6) (v := .ref (g 0)) (C := RX6) (T := TX6) (N := 15) hx hb hts (fun _ h => List.mem_cons_of_mem _ (List.mem_append_right _ h)) hown hK hP 0 rfl rfl 0 (by decide) (hts (.fieldLink RX6 7 "SharedLineModel" "now" "[I") (List.mem_of_getElem? (i := 1) rfl)) (fun _ h9 => h9) rfl dX6_busiest_26 ?_
          refine lv_iconst (v := 0) hx hb dX6_busiest_29 (by decide) ?_
          refine vq_ialdK (k := 0) hx hb hK hP 1 0 rfl rfl (by decide) (by decide) (by decide) dX6_busiest_30 ?_
          refine lv_icmp_ge (tgt := 63) hx hb dX6_busiest_31 (by decide) (fun c31 => ?_) (fun c31 => ?_)
          · rw [if_pos c31] at hσ
            refine lv_iload_n hx hb dX6_busiest_63 rfl (lv_at hl 2 rfl) ?_
            refine lv_if_ne (tgt := 71) hx hb dX6_busiest_64 (by decide) (fun c64 => ?_) (fun c64 => ?_)
            · rw [if_neg c64] at hσ
              refine lv_aload_n hx hb dX6_busiest_71 rfl (lv_at hl 0 rfl) ?_
              refine lv_iload_n hx hb dX6_busiest_72 rfl (lv_at hl 1 rfl) ?_
              refine lv_iload_n hx hb dX6_busiest_73 rfl (lv_at hl 3 rfl) ?_
              refine vq_Vi (As := [.int p1, .int x3_23]) (rest := []) (W2 := (wM cI cZ h g S)) (f := (sX6_busyAt S p1 x3_23)) hx hb hml hown hts hK hP hD hS hA hE hl.1 (cX6_busyAt_c l ev dC dI cI cZ cO h g S p1 x3_23 hT hB hb23) gX6_busiest_X6_busyAt rfl hdX6_busyAt (Nat.le_of_ble_eq_true rfl) (Nat.le_of_ble_eq_true rfl) rfl rfl (ci := 6) (qr := 0) rfl rfl rfl [0, 1, 2, 3, 4, 5, 6, 7, 8, 9] [] [0, 1, 2, 3, 4, 5, 6, 7, 8, 9] rfl rfl (by decide) (by decide) (by decide) rfl rfl rfl (Nat.le_of_ble_eq_true rfl) dX6_busiest_74 ⟨Nat.zero_le _, Nat.zero_le _⟩ (fun H locs hP hD hS => ?_)
              subst hσ
              exact vq_iret hx hb hr hlocks hK hP hD hS rfl dX6_busiest_77
            · rw [if_pos c64] at hσ
              refine lv_iload_n hx hb dX6_busiest_67 rfl (lv_at hl 3 rfl) ?_
              refine lv_goto (tgt := 77) hx hb dX6_busiest_68 (by decide) ?_
              subst hσ
              exact vq_iret hx hb hr hlocks hK hP hD hS rfl dX6_busiest_77
          · rw [if_neg c31] at hσ
            refine lv_aload_n hx hb dX6_busiest_34 rfl (lv_at hl 0 rfl) ?_
            refine lv_iload_n hx hb dX6_busiest_35 rfl (lv_at hl 1 rfl) ?_
            refine lv_iload hx hb dX6_busiest_36 (lv_at hl 4 rfl) ?_
            refine vq_Vi (As := [.int p1, .int x4_23]) (rest := []) (W2 := (wM cI cZ h g S)) (f := (sX6_busyAt S p1 x4_23)) hx hb hml hown hts hK hP hD hS hA hE hl.1 (cX6_busyAt_c l ev dC dI cI cZ cO h g S p1 x4_23 hT hB ⟨k23, e23, by omega⟩) gX6_busiest_X6_busyAt rfl hdX6_busyAt (Nat.le_of_ble_eq_true rfl) (Nat.le_of_ble_eq_true rfl) rfl rfl (ci := 6) (qr := 0) rfl rfl rfl [0, 1, 2, 3, 4, 5, 6, 7, 8, 9] [] [0, 1, 2, 3, 4, 5, 6, 7, 8, 9] rfl rfl (by decide) (by decide) (by decide) rfl rfl rfl (Nat.le_of_ble_eq_true rfl) dX6_busiest_38 ⟨Nat.zero_le _, Nat.zero_le _⟩ (fun H locs hP hD hS => ?_)
            refine lv_aload_n hx hb dX6_busiest_41 rfl (lv_at hl 0 rfl) ?_
            refine lv_iload_n hx hb dX6_busiest_42 rfl (lv_at hl 1 rfl) ?_
            refine lv_iload_n hx hb dX6_busiest_43 rfl (lv_at hl 3 rfl) ?_
            refine vq_Vi (As := [.int p1, .int x3_23]) (rest := [.int (sX6_busyAt S p1 x4_23)]) (W2 := (wM cI cZ h g S)) (f := (sX6_busyAt S p1 x3_23)) hx hb hml hown hts hK hP hD hS hA hE hl.1 (cX6_busyAt_c l ev dC dI cI cZ cO h g S p1 x3_23 hT hB hb23) gX6_busiest_X6_busyAt rfl hdX6_busyAt (Nat.le_of_ble_eq_true rfl) (Nat.le_of_ble_eq_true rfl) rfl rfl (ci := 6) (qr := 0) rfl rfl rfl [0, 1, 2, 3, 4, 5, 6, 7, 8, 9] [] [0, 1, 2, 3, 4, 5, 6, 7, 8, 9] rfl rfl (by decide) (by decide) (by decide) rfl rfl rfl (Nat.le_of_ble_eq_true rfl) dX6_busiest_44 ⟨Nat.zero_le _, Nat.zero_le _⟩ (fun H locs hP hD hS => ?_)
            refine lv_icmp_le (tgt := 55) hx hb dX6_busiest_47 (by decide) (fun c47 => ?_) (fun c47 => ?_)
            · rw [if_pos c47] at hσ
              refine lv_iload_n hx hb dX6_busiest_55 rfl (lv_at hl 3 rfl) ?_
              refine lv_istore_n (lv' := [(3, .int x3_23), (0, .ref h), (1, .int p1), (2, .int p2), (4, .int x4_23)]) hx hb dX6_busiest_56 rfl hl (by decide) rfl (fun ls hl => ?_)
              refine lv_iinc (v := (x4_23 + 1)) (lv' := [(4, .int (x4_23 + 1)), (3, .int x3_23), (0, .ref h), (1, .int p1), (2, .int p2)]) hx hb dX6_busiest_57 hl (k := 4) rfl rfl (by decide) rfl (fun ls hl => ?_)
              refine lv_goto (tgt := 23) hx hb dX6_busiest_60 (by decide) ?_
              exact ih23 x3_23 (x4_23 + 1) (k23 + 1) (up_s e23) (by have := up_lt e23 eT (by omega) c31; omega) (by omega) (by first | exact hb23 | exact ⟨k23, e23, by omega⟩) hσ _ _ _ hP hD hS (lv_sub hl [2, 3, 4, 1, 0] rfl)
            · rw [if_neg c47] at hσ
              refine lv_iload hx hb dX6_busiest_50 (lv_at hl 4 rfl) ?_
              refine lv_goto (tgt := 56) hx hb dX6_busiest_52 (by decide) ?_
              refine lv_istore_n (lv' := [(3, .int x4_23), (0, .ref h), (1, .int p1), (2, .int p2), (4, .int x4_23)]) hx hb dX6_busiest_56 rfl hl (by decide) rfl (fun ls hl => ?_)
              refine lv_iinc (v := (x4_23 + 1)) (lv' := [(4, .int (x4_23 + 1)), (3, .int x4_23), (0, .ref h), (1, .int p1), (2, .int p2)]) hx hb dX6_busiest_57 hl (k := 4) rfl rfl (by decide) rfl (fun ls hl => ?_)
              refine lv_goto (tgt := 23) hx hb dX6_busiest_60 (by decide) ?_
              exact ih23 x4_23 (x4_23 + 1) (k23 + 1) (up_s e23) (by have := up_lt e23 eT (by omega) c31; omega) (by omega) (by first | exact hb23 | exact ⟨k23, e23, by omega⟩) hσ _ _ _ hP hD hS (lv_sub hl [2, 3, 4, 1, 0] rfl)
      exact key23 13 (0 : Int32) (1 : Int32) 1 rfl (by decide) (by decide) ⟨0, rfl, by decide⟩ hσ _ _ _ hP hD hS (lv_sub hl [2, 3, 4, 1, 0] rfl)
    · rw [if_neg (Bool.eq_false_iff.mp c13)] at hσ
      refine lv_iconst (v := (-1)) hx hb dX6_busiest_16 (by decide) ?_
      subst hσ
      exact vq_iret hx hb hr hlocks hK hP hD hS rfl dX6_busiest_17
theorem hdX6_nearest : yX6_nearest.cls = RX6 ∧ yX6_nearest.cls ≠ "java/lang/invoke/MethodHandle" ∧ yX6_nearest.cls ≠ "java/lang/invoke/VarHandle" ∧ (parseMethodDescriptor yX6_nearest.desc).map (fun d => d.parameters.length) = some 0 := by decide +kernel
set_option maxHeartbeats 4000000 in
set_option maxRecDepth 100000 in
theorem cX6_nearest_c (l : Launch) (ev : Nat → Nat) (dC : Nat → ClassId) (dI : Nat → Nat → Nat) (cI cZ cO : ClassId) (h : Nat) (g : Nat → Nat) (S : MSt) (hT : LOK S) : MetI l ev (dC, dI) (tyC cI cZ cO) yX6_nearest wsX6_nearest (rmF 7 156) [.ref h] (wM cI cZ h g S) (sX6_nearest S) (wM cI cZ h g S) := by
  refine MetI_of (cc := cX6_nearest) (maxL := 5) (ret := (some .int)) (by decide) rfl (Nat.le_of_ble_eq_true rfl) ?_
  intro p e s m below meth c A ls hx hb hr hml hts hown hlocks hin hK hP hD hA hE hl
  have hown : s.vm.findClass RX6 = some m.cls := hown
  have hl : lv_has ls 5 [(0, .ref h)] := hl
  have hS : va_S A s.heap s.heap [] := va_S.rf
  obtain ⟨σ, hσ⟩ : ∃ σ, (sX6_nearest S) = σ := ⟨_, rfl⟩
  rw [hσ]
  rw [sX6_nearest] at hσ
  obtain ⟨C, eC, hC⟩ := pow_notes hT
  refine lv_bipush (v := (-9)) hx hb dX6_nearest_0 (by decide) ?_
  refine lv_istore_n (lv' := [(1, .int (-9)), (0, .ref h)]) hx hb dX6_nearest_2 rfl hl (by decide) rfl (fun ls hl => ?_)
  refine lv_iconst (v := 0) hx hb dX6_nearest_3 (by decide) ?_
  refine lv_istore_n (lv' := [(2, .int 0), (1, .int (-9)), (0, .ref h)]) hx hb dX6_nearest_4 rfl hl (by decide) rfl (fun ls hl => ?_)
  have key5 : ∀ (n5 : Nat) (x1_5 : Int32) (x2_5 : Int32)  (k5 : Nat), (x2_5 = nI k5) → (k5 ≤ 4096) → (4096 + 1 ≤ n5 + k5) → (sX6_nearest_L5 S n5 x1_5 x2_5) = σ → ∀ (H : Heap) (locs : List Loc) (ls : Array Slot), va_P (dC, dI) vwCl (wM cI cZ h g S) H → va_D A (wM cI cZ h g S) → va_S A s.heap H locs → lv_has ls 5 [(0, .ref h), (1, .int x1_5), (2, .int x2_5)] → W p l e (headSpec wsX6_nearest (rmF 7 156)).room s m ([.ref h] : List Value).toArray below meth c H locs 0 0 (MQ below (va_Qi (fun (x : Int32) (_ : Unit) => x = σ) (fun _ t => PoW (dC, dI) (tyC cI cZ cO) A (wM cI cZ h g S) t) A) ([.ref h] : List Value).toArray s 0 0 A) (F0 m 5 ls []) := by
    intro n5
    induction n5 with
    | zero =>
      intro x1_5 x2_5 k5 e5 hk5 hn5
      exact absurd hn5 (by omega)
    | succ n5 ih5 =>
      intro x1_5 x2_5 k5 e5 hk5 hn5 hσ H locs ls hP hD hS hl
      rw [sX6_nearest_L5_s] at hσ
      refine lv_iload_n hx hb dX6_nearest_5 rfl (lv_at hl 2 rfl) ?_
      refine lv_iconst (v := 1) hx hb dX6_nearest_6 (by decide) ?_
      refine lv_aload_n hx hb dX6_nearest_7 rfl (lv_at hl 0 rfl) ?_
      refine vq_Vi (As := []) (rest := [.int 1, .int x2_5]) (W2 := (wM cI cZ h g S)) (f := (sX6_notes S)) hx hb hml hown hts hK hP hD hS hA hE hl.1 (cX6_notes_c l ev dC dI cI cZ cO h g S hT) gX6_nearest_X6_notes rfl hdX6_notes (Nat.le_of_ble_eq_true rfl) (Nat.le_of_ble_eq_true rfl) rfl rfl (ci := 6) (qr := 0) rfl rfl rfl [0, 1, 2, 3, 4, 5, 6, 7, 8, 9] [] [0, 1, 2, 3, 4, 5, 6, 7, 8, 9] rfl rfl (by decide) (by decide) (by decide) rfl rfl rfl (Nat.le_of_ble_eq_true rfl) dX6_nearest_8 ⟨Nat.zero_le _, Nat.zero_le _⟩ (fun H locs hP hD hS => ?_)
      refine lv_ishl hx hb dX6_nearest_11 ?_
      refine lv_icmp_ge (tgt := 86) hx hb dX6_nearest_12 (by decide) (fun c12 => ?_) (fun c12 => ?_)
      · rw [if_pos c12] at hσ
        refine lv_iload_n hx hb dX6_nearest_86 rfl (lv_at hl 1 rfl) ?_
        subst hσ
        exact vq_iret hx hb hr hlocks hK hP hD hS rfl dX6_nearest_87
      · rw [if_neg c12] at hσ
        refine lv_aload_n hx hb dX6_nearest_15 rfl (lv_at hl 0 rfl) ?_
        refine lv_iload_n hx hb dX6_nearest_16 rfl (lv_at hl 2 rfl) ?_
        refine vq_Vi (As := [.int x2_5]) (rest := []) (W2 := (wM cI cZ h g S)) (f := (sX6_shareOf S x2_5)) hx hb hml hown hts hK hP hD hS hA hE hl.1 (cX6_shareOf_c l ev dC dI cI cZ cO h g S x2_5 hT) gX6_nearest_X6_shareOf rfl hdX6_shareOf (Nat.le_of_ble_eq_true rfl) (Nat.le_of_ble_eq_true rfl) rfl rfl (ci := 6) (qr := 0) rfl rfl rfl [0, 1, 2, 3, 4, 5, 6, 7, 8, 9] [] [0, 1, 2, 3, 4, 5, 6, 7, 8, 9] rfl rfl (by decide) (by decide) (by decide) rfl rfl rfl (Nat.le_of_ble_eq_true rfl) dX6_nearest_17 ⟨Nat.zero_le _, Nat.zero_le _⟩ (fun H locs hP hD hS => ?_)
        refine lv_istore_n (lv' := [(3, .int (sX6_shareOf S x2_5)), (0, .ref h), (1, .int x1_5), (2, .int x2_5)]) hx hb dX6_nearest_20 rfl hl (by decide) rfl (fun ls hl => ?_)
        refine lv_iload_n hx hb dX6_nearest_21 rfl (lv_at hl 2 rfl) ?_
        refine lv_bipush (v := (-9)) hx hb dX6_nearest_22 (by decide) ?_
        refine lv_icmp_eq (tgt := 54) hx hb dX6_nearest_24 (by decide) (fun c24 => ?_) (fun c24 => ?_)
        · rw [if_pos c24] at hσ
          refine lv_iconst (v := 1) hx hb dX6_nearest_54 (by decide) ?_
          refine lv_goto (tgt := 59) hx hb dX6_nearest_55 (by decide) ?_
          refine lv_istore (lv' := [(4, .int 1), (3, .int (sX6_shareOf S x2_5)), (0, .ref h), (1, .int x1_5), (2, .int x2_5)]) hx hb dX6_nearest_59 hl (by decide) rfl (fun ls hl => ?_)
          refine lv_iload hx hb dX6_nearest_61 (lv_at hl 0 rfl) ?_
          refine lv_if_eq (tgt := 78) hx hb dX6_nearest_63 (by decide) (fun c63 => absurd c63 (by decide)) (fun c63 => ?_)
          refine lv_aload_n hx hb dX6_nearest_66 rfl (lv_at hl 2 rfl) ?_
          refine lv_iload_n hx hb dX6_nearest_67 rfl (lv_at hl 1 rfl) ?_
          refine vq_Vi (As := [.int (sX6_shareOf S x2_5)]) (rest := []) (W2 := (wM cI cZ h g S)) (f := (bI (sX6_isLawfulNow S (sX6_shareOf S x2_5)))) hx hb hml hown hts hK hP hD hS hA hE hl.1 (cX6_isLawfulNow_c l ev dC dI cI cZ cO h g S (sX6_shareOf S x2_5) hT) gX6_nearest_X6_isLawfulNow rfl hdX6_isLawfulNow (Nat.le_of_ble_eq_true rfl) (Nat.le_of_ble_eq_true rfl) rfl rfl (ci := 6) (qr := 0) rfl rfl rfl [0, 1, 2, 3, 4, 5, 6, 7, 8, 9] [] [0, 1, 2, 3, 4, 5, 6, 7, 8, 9] rfl rfl (by decide) (by decide) (by decide) rfl rfl rfl (Nat.le_of_ble_eq_true rfl) dX6_nearest_68 ⟨Nat.zero_le _, Nat.zero_le _⟩ (fun H locs hP hD hS => ?_)
          refine lv_if_eqB (tgt := 78) hx hb dX6_nearest_71 (by decide) (fun c71 => ?_) (fun c71 => ?_)
          · rw [if_neg (Bool.eq_false_iff.mp c71)] at hσ
            refine lv_iload_n hx hb dX6_nearest_78 rfl (lv_at hl 3 rfl) ?_
            refine lv_istore_n (lv' := [(1, .int x1_5), (4, .int 1), (3, .int (sX6_shareOf S x2_5)), (0, .ref h), (2, .int x2_5)]) hx hb dX6_nearest_79 rfl hl (by decide) rfl (fun ls hl => ?_)
            refine lv_iinc (v := (x2_5 + 1)) (lv' := [(2, .int (x2_5 + 1)), (1, .int x1_5), (4, .int 1), (3, .int (sX6_shareOf S x2_5)), (0, .ref h)]) hx hb dX6_nearest_80 hl (k := 4) rfl rfl (by decide) rfl (fun ls hl => ?_)
            refine lv_goto (tgt := 5) hx hb dX6_nearest_83 (by decide) ?_
            exact ih5 x1_5 (x2_5 + 1) (k5 + 1) (up_s e5) (by have := up_lt e5 eC (by omega) c12; omega) (by omega) hσ _ _ _ hP hD hS (lv_sub hl [4, 1, 0] rfl)
          · rw [if_pos c71] at hσ
            refine lv_iload_n hx hb dX6_nearest_74 rfl (lv_at hl 1 rfl) ?_
            refine lv_goto (tgt := 79) hx hb dX6_nearest_75 (by decide) ?_
            refine lv_istore_n (lv' := [(1, .int (sX6_shareOf S x2_5)), (4, .int 1), (3, .int (sX6_shareOf S x2_5)), (0, .ref h), (2, .int x2_5)]) hx hb dX6_nearest_79 rfl hl (by decide) rfl (fun ls hl => ?_)
            refine lv_iinc (v := (x2_5 + 1)) (lv' := [(2, .int (x2_5 + 1)), (1, .int (sX6_shareOf S x2_5)), (4, .int 1), (3, .int (sX6_shareOf S x2_5)), (0, .ref h)]) hx hb dX6_nearest_80 hl (k := 4) rfl rfl (by decide) rfl (fun ls hl => ?_)
            refine lv_goto (tgt := 5) hx hb dX6_nearest_83 (by decide) ?_
            exact ih5 (sX6_shareOf S x2_5) (x2_5 + 1) (k5 + 1) (up_s e5) (by have := up_lt e5 eC (by omega) c12; omega) (by omega) hσ _ _ _ hP hD hS (lv_sub hl [4, 1, 0] rfl)
        · rw [if_neg c24] at hσ
          refine lv_iload_n hx hb dX6_nearest_27 rfl (lv_at hl 0 rfl) ?_
          refine lv_aload_n hx hb dX6_nearest_28 rfl (lv_at hl 1 rfl) ?_
          refine va_get (D := (dC, dI)) (ci := 6) (v := .ref (g 0)) (C := RX6) (T := TX6) (N := 15) hx hb hts (fun _ h => List.mem_cons_of_mem _ (List.mem_append_right _ h)) hown hK hP 0 rfl rfl 0 (by decide) (hts (.fieldLink RX6 7 "SharedLineModel" "now" "[I") (List.mem_of_getElem? (i := 1) rfl)) (fun _ h9 => h9) rfl dX6_nearest_29 ?_
          refine lv_bipush (v := 16) hx hb dX6_nearest_32 (by decide) ?_
          refine vq_ialdK (k := 16) hx hb hK hP 1 0 rfl rfl (by decide) (by decide) (by decide) dX6_nearest_34 ?_
          refine lv_ixor hx hb dX6_nearest_35 ?_
          refine vq_Si (As := [.int ((sX6_shareOf S x2_5) ^^^ ((S.2 0) 16))]) (rest := []) (W2 := (wM cI cZ h g S)) (f := (sX6_ones ((sX6_shareOf S x2_5) ^^^ ((S.2 0) 16)))) hx hb hml hown hts hK hP hD hS hA hE hl.1 (cX6_ones_c l ev dC dI cI cZ cO ((sX6_shareOf S x2_5) ^^^ ((S.2 0) 16))) gX6_nearest_X6_ones rfl hdX6_ones (Nat.le_of_ble_eq_true rfl) (Nat.le_of_ble_eq_true rfl) rfl rfl [] [0, 1, 2, 3, 4, 5, 6, 7, 8, 9] [0, 1, 2, 3, 4, 5, 6, 7, 8, 9] rfl rfl (by decide) (by decide) (by decide) rfl rfl rfl (Nat.le_of_ble_eq_true rfl) dX6_nearest_36 ⟨Nat.zero_le _, Nat.zero_le _⟩ (fun H locs hP hD hS => ?_)
          refine lv_iload_n hx hb dX6_nearest_39 rfl (lv_at hl 2 rfl) ?_
          refine lv_aload_n hx hb dX6_nearest_40 rfl (lv_at hl 1 rfl) ?_
          refine va_get (D := (dC, dI)) (ci := 6) (v := .ref (g 0)) (C := RX6) (T := TX6) (N := 15) hx hb hts (fun _ h => List.mem_cons_of_mem _ (List.mem_append_right _ h)) hown hK hP 0 rfl rfl 0 (by decide) (hts (.fieldLink RX6 7 "SharedLineModel" "now" "[I") (List.mem_of_getElem? (i := 1) rfl)) (fun _ h9 => h9) rfl dX6_nearest_41 ?_
          refine lv_bipush (v := 16) hx hb dX6_nearest_44 (by decide) ?_
          refine vq_ialdK (k := 16) hx hb hK hP 1 0 rfl rfl (by decide) (by decide) (by decide) dX6_nearest_46 ?_
          refine lv_ixor hx hb dX6_nearest_47 ?_
          refine vq_Si (As := [.int (x1_5 ^^^ ((S.2 0) 16))]) (rest := [.int (sX6_ones ((sX6_shareOf S x2_5) ^^^ ((S.2 0) 16)))]) (W2 := (wM cI cZ h g S)) (f := (sX6_ones (x1_5 ^^^ ((S.2 0) 16)))) hx hb hml hown hts hK hP hD hS hA hE hl.1 (cX6_ones_c l ev dC dI cI cZ cO (x1_5 ^^^ ((S.2 0) 16))) gX6_nearest_X6_ones rfl hdX6_ones (Nat.le_of_ble_eq_true rfl) (Nat.le_of_ble_eq_true rfl) rfl rfl [] [0, 1, 2, 3, 4, 5, 6, 7, 8, 9] [0, 1, 2, 3, 4, 5, 6, 7, 8, 9] rfl rfl (by decide) (by decide) (by decide) rfl rfl rfl (Nat.le_of_ble_eq_true rfl) dX6_nearest_48 ⟨Nat.zero_le _, Nat.zero_le _⟩ (fun H locs hP hD hS => ?_)
          refine lv_icmp_ge (tgt := 58) hx hb dX6_nearest_51 (by decide) (fun c51 => ?_) (fun c51 => ?_)
          · rw [if_pos c51] at hσ
            refine lv_iconst (v := 0) hx hb dX6_nearest_58 (by decide) ?_
            refine lv_istore (lv' := [(4, .int 0), (3, .int (sX6_shareOf S x2_5)), (0, .ref h), (1, .int x1_5), (2, .int x2_5)]) hx hb dX6_nearest_59 hl (by decide) rfl (fun ls hl => ?_)
            refine lv_iload hx hb dX6_nearest_61 (lv_at hl 0 rfl) ?_
            refine lv_if_eq (tgt := 78) hx hb dX6_nearest_63 (by decide) (fun c63 => ?_) (fun c63 => absurd c63 (by decide))
            refine lv_iload_n hx hb dX6_nearest_78 rfl (lv_at hl 3 rfl) ?_
            refine lv_istore_n (lv' := [(1, .int x1_5), (4, .int 0), (3, .int (sX6_shareOf S x2_5)), (0, .ref h), (2, .int x2_5)]) hx hb dX6_nearest_79 rfl hl (by decide) rfl (fun ls hl => ?_)
            refine lv_iinc (v := (x2_5 + 1)) (lv' := [(2, .int (x2_5 + 1)), (1, .int x1_5), (4, .int 0), (3, .int (sX6_shareOf S x2_5)), (0, .ref h)]) hx hb dX6_nearest_80 hl (k := 4) rfl rfl (by decide) rfl (fun ls hl => ?_)
            refine lv_goto (tgt := 5) hx hb dX6_nearest_83 (by decide) ?_
            exact ih5 x1_5 (x2_5 + 1) (k5 + 1) (up_s e5) (by have := up_lt e5 eC (by omega) c12; omega) (by omega) hσ _ _ _ hP hD hS (lv_sub hl [4, 1, 0] rfl)
          · rw [if_neg c51] at hσ
            refine lv_iconst (v := 1) hx hb dX6_nearest_54 (by decide) ?_
            refine lv_goto (tgt := 59) hx hb dX6_nearest_55 (by decide) ?_
            refine lv_istore (lv' := [(4, .int 1), (3, .int (sX6_shareOf S x2_5)), (0, .ref h), (1, .int x1_5), (2, .int x2_5)]) hx hb dX6_nearest_59 hl (by decide) rfl (fun ls hl => ?_)
            refine lv_iload hx hb dX6_nearest_61 (lv_at hl 0 rfl) ?_
            refine lv_if_eq (tgt := 78) hx hb dX6_nearest_63 (by decide) (fun c63 => absurd c63 (by decide)) (fun c63 => ?_)
            refine lv_aload_n hx hb dX6_nearest_66 rfl (lv_at hl 2 rfl) ?_
            refine lv_iload_n hx hb dX6_nearest_67 rfl (lv_at hl 1 rfl) ?_
            refine vq_Vi (As := [.int (sX6_shareOf S x2_5)]) (rest := []) (W2 := (wM cI cZ h g S)) (f := (bI (sX6_isLawfulNow S (sX6_shareOf S x2_5)))) hx hb hml hown hts hK hP hD hS hA hE hl.1 (cX6_isLawfulNow_c l ev dC dI cI cZ cO h g S (sX6_shareOf S x2_5) hT) gX6_nearest_X6_isLawfulNow rfl hdX6_isLawfulNow (Nat.le_of_ble_eq_true rfl) (Nat.le_of_ble_eq_true rfl) rfl rfl (ci := 6) (qr := 0) rfl rfl rfl [0, 1, 2, 3, 4, 5, 6, 7, 8, 9] [] [0, 1, 2, 3, 4, 5, 6, 7, 8, 9] rfl rfl (by decide) (by decide) (by decide) rfl rfl rfl (Nat.le_of_ble_eq_true rfl) dX6_nearest_68 ⟨Nat.zero_le _, Nat.zero_le _⟩ (fun H locs hP hD hS => ?_)
            refine lv_if_eqB (tgt := 78) hx hb dX6_nearest_71 (by decide) (fun c71 => ?_) (fun c71 => ?_)
            · rw [if_neg (Bool.eq_false_iff.mp c71)] at hσ
              refine lv_iload_n hx hb dX6_nearest_78 rfl (lv_at hl 3 rfl) ?_
              refine lv_istore_n (lv' := [(1, .int x1_5), (4, .int 1), (3, .int (sX6_shareOf S x2_5)), (0, .ref h), (2, .int x2_5)]) hx hb dX6_nearest_79 rfl hl (by decide) rfl (fun ls hl => ?_)
              refine lv_iinc (v := (x2_5 + 1)) (lv' := [(2, .int (x2_5 + 1)), (1, .int x1_5), (4, .int 1), (3, .int (sX6_shareOf S x2_5)), (0, .ref h)]) hx hb dX6_nearest_80 hl (k := 4) rfl rfl (by decide) rfl (fun ls hl => ?_)
              refine lv_goto (tgt := 5) hx hb dX6_nearest_83 (by decide) ?_
              exact ih5 x1_5 (x2_5 + 1) (k5 + 1) (up_s e5) (by have := up_lt e5 eC (by omega) c12; omega) (by omega) hσ _ _ _ hP hD hS (lv_sub hl [4, 1, 0] rfl)
            · rw [if_pos c71] at hσ
              refine lv_iload_n hx hb dX6_nearest_74 rfl (lv_at hl 1 rfl) ?_
              refine lv_goto (tgt := 79) hx hb dX6_nearest_75 (by decide) ?_
              refine lv_istore_n (lv' := [(1, .int (sX6_shareOf S x2_5)), (4, .int 1), (3, .int (sX6_shareOf S x2_5)), (0, .ref h), (2, .int x2_5)]) hx hb dX6_nearest_79 rfl hl (by decide) rfl (fun ls hl => ?_)
              refine lv_iinc (v := (x2_5 + 1)) (lv' := [(2, .int (x2_5 + 1)), (1, .int (sX6_shareOf S x2_5)), (4, .int 1), (3, .int (sX6_shareOf S x2_5)), (0, .ref h)]) hx hb dX6_nearest_80 hl (k := 4) rfl rfl (by decide) rfl (fun ls hl => ?_)
              refine lv_goto (tgt := 5) hx hb dX6_nearest_83 (by decide) ?_
              exact ih5 (sX6_shareOf S x2_5) (x2_5 + 1) (k5 + 1) (up_s e5) (by have := up_lt e5 eC (by omega) c12; omega) (by omega) hσ _ _ _ hP hD hS (lv_sub hl [4, 1, 0] rfl)
  exact key5 4097 ((-9) : Int32) (0 : Int32) 0 nI_0.symm (Nat.zero_le _) (Nat.le_refl _) hσ _ _ _ hP hD hS (lv_sub hl [2, 1, 0] rfl)
theorem hdX6_best : yX6_best.cls = RX6 ∧ yX6_best.cls ≠ "java/lang/invoke/MethodHandle" ∧ yX6_best.cls ≠ "java/lang/invoke/VarHandle" ∧ (parseMethodDescriptor yX6_best.desc).map (fun d => d.parameters.length) = some 1 := by decide +kernel
set_option maxHeartbeats 4000000 in
set_option maxRecDepth 100000 in
theorem cX6_best_c (l : Launch) (ev : Nat → Nat) (dC : Nat → ClassId) (dI : Nat → Nat → Nat) (cI cZ cO : ClassId) (h : Nat) (g : Nat → Nat) (S : MSt) (p1 : Int32) (hT : LOK S) : MetI l ev (dC, dI) (tyC cI cZ cO) yX6_best wsX6_best (rmF 7 156) [.ref h, .int p1] (wM cI cZ h g S) (sX6_best S p1) (wM cI cZ h g S) := by
  refine MetI_of (cc := cX6_best) (maxL := 5) (ret := (some .int)) (by decide) rfl (Nat.le_of_ble_eq_true rfl) ?_
  intro p e s m below meth c A ls hx hb hr hml hts hown hlocks hin hK hP hD hA hE hl
  have hown : s.vm.findClass RX6 = some m.cls := hown
  have hl : lv_has ls 5 [(0, .ref h), (1, .int p1)] := hl
  have hS : va_S A s.heap s.heap [] := va_S.rf
  obtain ⟨σ, hσ⟩ : ∃ σ, (sX6_best S p1) = σ := ⟨_, rfl⟩
  rw [hσ]
  rw [sX6_best] at hσ
  obtain ⟨C, eC, hC⟩ := pow_notes hT
  refine lv_iload_n hx hb dX6_best_0 rfl (lv_at hl 1 rfl) ?_
  refine lv_iconst (v := 0) hx hb dX6_best_1 (by decide) ?_
  refine lv_iconst (v := 2) hx hb dX6_best_2 (by decide) ?_
  refine vq_Si (As := [.int p1, .int 0, .int 2]) (rest := []) (W2 := (wM cI cZ h g S)) (f := (bI (sX6_within p1 (0 : Int32) (2 : Int32)))) hx hb hml hown hts hK hP hD hS hA hE hl.1 (cX6_within_c l ev dC dI cI cZ cO p1 (0 : Int32) (2 : Int32)) gX6_best_X6_within rfl hdX6_within (Nat.le_of_ble_eq_true rfl) (Nat.le_of_ble_eq_true rfl) rfl rfl [] [0, 1, 2, 3, 4, 5, 6, 7, 8, 9] [0, 1, 2, 3, 4, 5, 6, 7, 8, 9] rfl rfl (by decide) (by decide) (by decide) rfl rfl rfl (Nat.le_of_ble_eq_true rfl) dX6_best_3 ⟨Nat.zero_le _, Nat.zero_le _⟩ (fun H locs hP hD hS => ?_)
  refine lv_if_neB (tgt := 12) hx hb dX6_best_6 (by decide) (fun c6 => ?_) (fun c6 => ?_)
  · rw [if_pos c6] at hσ
    refine lv_bipush (v := (-9)) hx hb dX6_best_12 (by decide) ?_
    refine lv_istore_n (lv' := [(2, .int (-9)), (0, .ref h), (1, .int p1)]) hx hb dX6_best_14 rfl hl (by decide) rfl (fun ls hl => ?_)
    refine lv_iconst (v := 0) hx hb dX6_best_15 (by decide) ?_
    refine lv_istore_n (lv' := [(3, .int 0), (2, .int (-9)), (0, .ref h), (1, .int p1)]) hx hb dX6_best_16 rfl hl (by decide) rfl (fun ls hl => ?_)
    have key17 : ∀ (n17 : Nat) (x2_17 : Int32) (x3_17 : Int32)  (k17 : Nat), (x3_17 = nI k17) → (k17 ≤ 4096) → (4096 + 1 ≤ n17 + k17) → (sX6_best_L17 S p1 n17 x2_17 x3_17) = σ → ∀ (H : Heap) (locs : List Loc) (ls : Array Slot), va_P (dC, dI) vwCl (wM cI cZ h g S) H → va_D A (wM cI cZ h g S) → va_S A s.heap H locs → lv_has ls 5 [(0, .ref h), (1, .int p1), (2, .int x2_17), (3, .int x3_17)] → W p l e (headSpec wsX6_best (rmF 7 156)).room s m ([.ref h, .int p1] : List Value).toArray below meth c H locs 0 0 (MQ below (va_Qi (fun (x : Int32) (_ : Unit) => x = σ) (fun _ t => PoW (dC, dI) (tyC cI cZ cO) A (wM cI cZ h g S) t) A) ([.ref h, .int p1] : List Value).toArray s 0 0 A) (F0 m 17 ls []) := by
      intro n17
      induction n17 with
      | zero =>
        intro x2_17 x3_17 k17 e17 hk17 hn17
        exact absurd hn17 (by omega)
      | succ n17 ih17 =>
        intro x2_17 x3_17 k17 e17 hk17 hn17 hσ H locs ls hP hD hS hl
        rw [sX6_best_L17_s] at hσ
        refine lv_iload_n hx hb dX6_best_17 rfl (lv_at hl 3 rfl) ?_
        refine lv_iconst (v := 1) hx hb dX6_best_18 (by decide) ?_
        refine lv_aload_n hx hb dX6_best_19 rfl (lv_at hl 0 rfl) ?_
        refine vq_Vi (As := []) (rest := [.int 1, .int x3_17]) (W2 := (wM cI cZ h g S)) (f := (sX6_notes S)) hx hb hml hown hts hK hP hD hS hA hE hl.1 (cX6_notes_c l ev dC dI cI cZ cO h g S hT) gX6_best_X6_notes rfl hdX6_notes (Nat.le_of_ble_eq_true rfl) (Nat.le_of_ble_eq_true rfl) rfl rfl (ci := 6) (qr := 0) rfl rfl rfl [0, 1, 2, 3, 4, 5, 6, 7, 8, 9] [] [0, 1, 2, 3, 4, 5, 6, 7, 8, 9] rfl rfl (by decide) (by decide) (by decide) rfl rfl rfl (Nat.le_of_ble_eq_true rfl) dX6_best_20 ⟨Nat.zero_le _, Nat.zero_le _⟩ (fun H locs hP hD hS => ?_)
        refine lv_ishl hx hb dX6_best_23 ?_
        refine lv_icmp_ge (tgt := 72) hx hb dX6_best_24 (by decide) (fun c24 => ?_) (fun c24 => ?_)
        · rw [if_pos c24] at hσ
          refine lv_iload_n hx hb dX6_best_72 rfl (lv_at hl 2 rfl) ?_
          refine lv_bipush (v := (-9)) hx hb dX6_best_73 (by decide) ?_
          refine lv_icmp_ne (tgt := 81) hx hb dX6_best_75 (by decide) (fun c75 => ?_) (fun c75 => ?_)
          · rw [if_neg c75] at hσ
            refine lv_iload_n hx hb dX6_best_81 rfl (lv_at hl 1 rfl) ?_
            refine lv_if_ne (tgt := 93) hx hb dX6_best_82 (by decide) (fun c82 => ?_) (fun c82 => ?_)
            · rw [if_neg c82] at hσ
              refine lv_iload_n hx hb dX6_best_93 rfl (lv_at hl 1 rfl) ?_
              refine lv_iconst (v := 1) hx hb dX6_best_94 (by decide) ?_
              refine lv_icmp_ne (tgt := 106) hx hb dX6_best_95 (by decide) (fun c95 => ?_) (fun c95 => ?_)
              · rw [if_neg c95] at hσ
                refine lv_iload_n hx hb dX6_best_106 rfl (lv_at hl 2 rfl) ?_
                subst hσ
                exact vq_iret hx hb hr hlocks hK hP hD hS rfl dX6_best_107
              · rw [if_pos c95] at hσ
                refine lv_aload_n hx hb dX6_best_98 rfl (lv_at hl 0 rfl) ?_
                refine lv_iload_n hx hb dX6_best_99 rfl (lv_at hl 2 rfl) ?_
                refine vq_Vi (As := [.int x2_17]) (rest := []) (W2 := (wM cI cZ h g S)) (f := (sX6_tilt S x2_17)) hx hb hml hown hts hK hP hD hS hA hE hl.1 (cX6_tilt_c l ev dC dI cI cZ cO h g S x2_17 hT) gX6_best_X6_tilt rfl hdX6_tilt (Nat.le_of_ble_eq_true rfl) (Nat.le_of_ble_eq_true rfl) rfl rfl (ci := 6) (qr := 0) rfl rfl rfl [0, 1, 2, 3, 4, 5, 6, 7, 8, 9] [] [0, 1, 2, 3, 4, 5, 6, 7, 8, 9] rfl rfl (by decide) (by decide) (by decide) rfl rfl rfl (Nat.le_of_ble_eq_true rfl) dX6_best_100 ⟨Nat.zero_le _, Nat.zero_le _⟩ (fun H locs hP hD hS => ?_)
                refine lv_goto (tgt := 107) hx hb dX6_best_103 (by decide) ?_
                subst hσ
                exact vq_iret hx hb hr hlocks hK hP hD hS rfl dX6_best_107
            · rw [if_pos c82] at hσ
              refine lv_aload_n hx hb dX6_best_85 rfl (lv_at hl 0 rfl) ?_
              refine lv_iload_n hx hb dX6_best_86 rfl (lv_at hl 2 rfl) ?_
              refine vq_Vi (As := [.int x2_17]) (rest := []) (W2 := (wM cI cZ h g S)) (f := (sX6_likeness S x2_17)) hx hb hml hown hts hK hP hD hS hA hE hl.1 (cX6_likeness_c l ev dC dI cI cZ cO h g S x2_17 hT) gX6_best_X6_likeness rfl hdX6_likeness (Nat.le_of_ble_eq_true rfl) (Nat.le_of_ble_eq_true rfl) rfl rfl (ci := 6) (qr := 0) rfl rfl rfl [0, 1, 2, 3, 4, 5, 6, 7, 8, 9] [] [0, 1, 2, 3, 4, 5, 6, 7, 8, 9] rfl rfl (by decide) (by decide) (by decide) rfl rfl rfl (Nat.le_of_ble_eq_true rfl) dX6_best_87 ⟨Nat.zero_le _, Nat.zero_le _⟩ (fun H locs hP hD hS => ?_)
              refine lv_goto (tgt := 107) hx hb dX6_best_90 (by decide) ?_
              subst hσ
              exact vq_iret hx hb hr hlocks hK hP hD hS rfl dX6_best_107
          · rw [if_pos c75] at hσ
            refine lv_ldc (v := (-2000000)) hx hb hown (hts (.constant RX6 167 (-2000000)) (List.mem_of_getElem? (i := 2) rfl)) dX6_best_78 ?_
            subst hσ
            exact vq_iret hx hb hr hlocks hK hP hD hS rfl dX6_best_80
        · rw [if_neg c24] at hσ
          refine lv_aload_n hx hb dX6_best_27 rfl (lv_at hl 0 rfl) ?_
          refine lv_iload_n hx hb dX6_best_28 rfl (lv_at hl 3 rfl) ?_
          refine vq_Vi (As := [.int x3_17]) (rest := []) (W2 := (wM cI cZ h g S)) (f := (sX6_shareOf S x3_17)) hx hb hml hown hts hK hP hD hS hA hE hl.1 (cX6_shareOf_c l ev dC dI cI cZ cO h g S x3_17 hT) gX6_best_X6_shareOf rfl hdX6_shareOf (Nat.le_of_ble_eq_true rfl) (Nat.le_of_ble_eq_true rfl) rfl rfl (ci := 6) (qr := 0) rfl rfl rfl [0, 1, 2, 3, 4, 5, 6, 7, 8, 9] [] [0, 1, 2, 3, 4, 5, 6, 7, 8, 9] rfl rfl (by decide) (by decide) (by decide) rfl rfl rfl (Nat.le_of_ble_eq_true rfl) dX6_best_29 ⟨Nat.zero_le _, Nat.zero_le _⟩ (fun H locs hP hD hS => ?_)
          refine lv_istore (lv' := [(4, .int (sX6_shareOf S x3_17)), (0, .ref h), (1, .int p1), (2, .int x2_17), (3, .int x3_17)]) hx hb dX6_best_32 hl (by decide) rfl (fun ls hl => ?_)
          refine lv_aload_n hx hb dX6_best_34 rfl (lv_at hl 1 rfl) ?_
          refine lv_iload hx hb dX6_best_35 (lv_at hl 0 rfl) ?_
          refine vq_Vi (As := [.int (sX6_shareOf S x3_17)]) (rest := []) (W2 := (wM cI cZ h g S)) (f := (bI (sX6_isLawfulNow S (sX6_shareOf S x3_17)))) hx hb hml hown hts hK hP hD hS hA hE hl.1 (cX6_isLawfulNow_c l ev dC dI cI cZ cO h g S (sX6_shareOf S x3_17) hT) gX6_best_X6_isLawfulNow rfl hdX6_isLawfulNow (Nat.le_of_ble_eq_true rfl) (Nat.le_of_ble_eq_true rfl) rfl rfl (ci := 6) (qr := 0) rfl rfl rfl [0, 1, 2, 3, 4, 5, 6, 7, 8, 9] [] [0, 1, 2, 3, 4, 5, 6, 7, 8, 9] rfl rfl (by decide) (by decide) (by decide) rfl rfl rfl (Nat.le_of_ble_eq_true rfl) dX6_best_37 ⟨Nat.zero_le _, Nat.zero_le _⟩ (fun H locs hP hD hS => ?_)
          refine lv_if_eqB (tgt := 64) hx hb dX6_best_40 (by decide) (fun c40 => ?_) (fun c40 => ?_)
          · rw [if_neg (Bool.eq_false_iff.mp c40)] at hσ
            refine lv_iload_n hx hb dX6_best_64 rfl (lv_at hl 3 rfl) ?_
            refine lv_istore_n (lv' := [(2, .int x2_17), (4, .int (sX6_shareOf S x3_17)), (0, .ref h), (1, .int p1), (3, .int x3_17)]) hx hb dX6_best_65 rfl hl (by decide) rfl (fun ls hl => ?_)
            refine lv_iinc (v := (x3_17 + 1)) (lv' := [(3, .int (x3_17 + 1)), (2, .int x2_17), (4, .int (sX6_shareOf S x3_17)), (0, .ref h), (1, .int p1)]) hx hb dX6_best_66 hl (k := 4) rfl rfl (by decide) rfl (fun ls hl => ?_)
            refine lv_goto (tgt := 17) hx hb dX6_best_69 (by decide) ?_
            exact ih17 x2_17 (x3_17 + 1) (k17 + 1) (up_s e17) (by have := up_lt e17 eC (by omega) c24; omega) (by omega) hσ _ _ _ hP hD hS (lv_sub hl [3, 4, 1, 0] rfl)
          · rw [if_pos c40] at hσ
            refine lv_iload_n hx hb dX6_best_43 rfl (lv_at hl 3 rfl) ?_
            refine lv_bipush (v := (-9)) hx hb dX6_best_44 (by decide) ?_
            refine lv_icmp_eq (tgt := 59) hx hb dX6_best_46 (by decide) (fun c46 => ?_) (fun c46 => ?_)
            · rw [if_pos c46] at hσ
              refine lv_iload hx hb dX6_best_59 (lv_at hl 0 rfl) ?_
              refine lv_goto (tgt := 65) hx hb dX6_best_61 (by decide) ?_
              refine lv_istore_n (lv' := [(2, .int (sX6_shareOf S x3_17)), (4, .int (sX6_shareOf S x3_17)), (0, .ref h), (1, .int p1), (3, .int x3_17)]) hx hb dX6_best_65 rfl hl (by decide) rfl (fun ls hl => ?_)
              refine lv_iinc (v := (x3_17 + 1)) (lv' := [(3, .int (x3_17 + 1)), (2, .int (sX6_shareOf S x3_17)), (4, .int (sX6_shareOf S x3_17)), (0, .ref h), (1, .int p1)]) hx hb dX6_best_66 hl (k := 4) rfl rfl (by decide) rfl (fun ls hl => ?_)
              refine lv_goto (tgt := 17) hx hb dX6_best_69 (by decide) ?_
              exact ih17 (sX6_shareOf S x3_17) (x3_17 + 1) (k17 + 1) (up_s e17) (by have := up_lt e17 eC (by omega) c24; omega) (by omega) hσ _ _ _ hP hD hS (lv_sub hl [3, 4, 1, 0] rfl)
            · rw [if_neg c46] at hσ
              refine lv_aload_n hx hb dX6_best_49 rfl (lv_at hl 1 rfl) ?_
              refine lv_iload hx hb dX6_best_50 (lv_at hl 0 rfl) ?_
              refine lv_iload_n hx hb dX6_best_52 rfl (lv_at hl 3 rfl) ?_
              refine vq_Vi (As := [.int (sX6_shareOf S x3_17), .int x2_17]) (rest := []) (W2 := (wM cI cZ h g S)) (f := (bI (sX6_isBetter S (sX6_shareOf S x3_17) x2_17))) hx hb hml hown hts hK hP hD hS hA hE hl.1 (cX6_isBetter_c l ev dC dI cI cZ cO h g S (sX6_shareOf S x3_17) x2_17 hT) gX6_best_X6_isBetter rfl hdX6_isBetter (Nat.le_of_ble_eq_true rfl) (Nat.le_of_ble_eq_true rfl) rfl rfl (ci := 6) (qr := 0) rfl rfl rfl [0, 1, 2, 3, 4, 5, 6, 7, 8, 9] [] [0, 1, 2, 3, 4, 5, 6, 7, 8, 9] rfl rfl (by decide) (by decide) (by decide) rfl rfl rfl (Nat.le_of_ble_eq_true rfl) dX6_best_53 ⟨Nat.zero_le _, Nat.zero_le _⟩ (fun H locs hP hD hS => ?_)
              refine lv_if_eqB (tgt := 64) hx hb dX6_best_56 (by decide) (fun c56 => ?_) (fun c56 => ?_)
              · rw [if_neg (Bool.eq_false_iff.mp c56)] at hσ
                refine lv_iload_n hx hb dX6_best_64 rfl (lv_at hl 3 rfl) ?_
                refine lv_istore_n (lv' := [(2, .int x2_17), (4, .int (sX6_shareOf S x3_17)), (0, .ref h), (1, .int p1), (3, .int x3_17)]) hx hb dX6_best_65 rfl hl (by decide) rfl (fun ls hl => ?_)
                refine lv_iinc (v := (x3_17 + 1)) (lv' := [(3, .int (x3_17 + 1)), (2, .int x2_17), (4, .int (sX6_shareOf S x3_17)), (0, .ref h), (1, .int p1)]) hx hb dX6_best_66 hl (k := 4) rfl rfl (by decide) rfl (fun ls hl => ?_)
                refine lv_goto (tgt := 17) hx hb dX6_best_69 (by decide) ?_
                exact ih17 x2_17 (x3_17 + 1) (k17 + 1) (up_s e17) (by have := up_lt e17 eC (by omega) c24; omega) (by omega) hσ _ _ _ hP hD hS (lv_sub hl [3, 4, 1, 0] rfl)
              · rw [if_pos c56] at hσ
                refine lv_iload hx hb dX6_best_59 (lv_at hl 0 rfl) ?_
                refine lv_goto (tgt := 65) hx hb dX6_best_61 (by decide) ?_
                refine lv_istore_n (lv' := [(2, .int (sX6_shareOf S x3_17)), (4, .int (sX6_shareOf S x3_17)), (0, .ref h), (1, .int p1), (3, .int x3_17)]) hx hb dX6_best_65 rfl hl (by decide) rfl (fun ls hl => ?_)
                refine lv_iinc (v := (x3_17 + 1)) (lv' := [(3, .int (x3_17 + 1)), (2, .int (sX6_shareOf S x3_17)), (4, .int (sX6_shareOf S x3_17)), (0, .ref h), (1, .int p1)]) hx hb dX6_best_66 hl (k := 4) rfl rfl (by decide) rfl (fun ls hl => ?_)
                refine lv_goto (tgt := 17) hx hb dX6_best_69 (by decide) ?_
                exact ih17 (sX6_shareOf S x3_17) (x3_17 + 1) (k17 + 1) (up_s e17) (by have := up_lt e17 eC (by omega) c24; omega) (by omega) hσ _ _ _ hP hD hS (lv_sub hl [3, 4, 1, 0] rfl)
    exact key17 4097 ((-9) : Int32) (0 : Int32) 0 nI_0.symm (Nat.zero_le _) (Nat.le_refl _) hσ _ _ _ hP hD hS (lv_sub hl [2, 3, 1, 0] rfl)
  · rw [if_neg (Bool.eq_false_iff.mp c6)] at hσ
    refine lv_ldc (v := (-1000000)) hx hb hown (hts (.constant RX6 160 (-1000000)) (List.mem_of_getElem? (i := 1) rfl)) dX6_best_9 ?_
    subst hσ
    exact vq_iret hx hb hr hlocks hK hP hD hS rfl dX6_best_11
theorem hdX6_change : yX6_change.cls = RX6 ∧ yX6_change.cls ≠ "java/lang/invoke/MethodHandle" ∧ yX6_change.cls ≠ "java/lang/invoke/VarHandle" ∧ (parseMethodDescriptor yX6_change.desc).map (fun d => d.parameters.length) = some 0 := by decide +kernel
set_option maxHeartbeats 4000000 in
set_option maxRecDepth 100000 in
theorem cX6_change_c (l : Launch) (ev : Nat → Nat) (dC : Nat → ClassId) (dI : Nat → Nat → Nat) (cI cZ cO : ClassId) (h : Nat) (g : Nat → Nat) (S : MSt) (hT : LOK S) : MetI l ev (dC, dI) (tyC cI cZ cO) yX6_change wsX6_change (rmF 8 180) [.ref h] (wM cI cZ h g S) (sX6_change S) (wM cI cZ h g S) := by
  refine MetI_of (cc := cX6_change) (maxL := 2) (ret := (some .int)) (by decide) rfl (Nat.le_of_ble_eq_true rfl) ?_
  intro p e s m below meth c A ls hx hb hr hml hts hown hlocks hin hK hP hD hA hE hl
  have hown : s.vm.findClass RX6 = some m.cls := hown
  have hl : lv_has ls 2 [(0, .ref h)] := hl
  have hS : va_S A s.heap s.heap [] := va_S.rf
  obtain ⟨σ, hσ⟩ : ∃ σ, (sX6_change S) = σ := ⟨_, rfl⟩
  rw [hσ]
  rw [sX6_change] at hσ
  refine lv_aload_n hx hb dX6_change_0 rfl (lv_at hl 0 rfl) ?_
  refine vq_Vi (As := []) (rest := []) (W2 := (wM cI cZ h g S)) (f := (sX6_nearest S)) hx hb hml hown hts hK hP hD hS hA hE hl.1 (cX6_nearest_c l ev dC dI cI cZ cO h g S hT) gX6_change_X6_nearest rfl hdX6_nearest (Nat.le_of_ble_eq_true rfl) (Nat.le_of_ble_eq_true rfl) rfl rfl (ci := 6) (qr := 0) rfl rfl rfl [0, 1, 2, 3, 4, 5, 6, 7, 8, 9] [] [0, 1, 2, 3, 4, 5, 6, 7, 8, 9] rfl rfl (by decide) (by decide) (by decide) rfl rfl rfl (Nat.le_of_ble_eq_true rfl) dX6_change_1 ⟨Nat.zero_le _, Nat.zero_le _⟩ (fun H locs hP hD hS => ?_)
  refine lv_istore_n (lv' := [(1, .int (sX6_nearest S)), (0, .ref h)]) hx hb dX6_change_4 rfl hl (by decide) rfl (fun ls hl => ?_)
  refine lv_iload_n hx hb dX6_change_5 rfl (lv_at hl 0 rfl) ?_
  refine lv_bipush (v := (-9)) hx hb dX6_change_6 (by decide) ?_
  refine lv_icmp_ne (tgt := 16) hx hb dX6_change_8 (by decide) (fun c8 => ?_) (fun c8 => ?_)
  · rw [if_neg c8] at hσ
    refine lv_iload_n hx hb dX6_change_16 rfl (lv_at hl 0 rfl) ?_
    refine lv_aload_n hx hb dX6_change_17 rfl (lv_at hl 1 rfl) ?_
    refine va_get (D := (dC, dI)) (ci := 6) (v := .ref (g 0)) (C := RX6) (T := TX6) (N := 15) hx hb hts (fun _ h => List.mem_cons_of_mem _ (List.mem_append_right _ h)) hown hK hP 0 rfl rfl 0 (by decide) (hts (.fieldLink RX6 7 "SharedLineModel" "now" "[I") (List.mem_of_getElem? (i := 1) rfl)) (fun _ h9 => h9) rfl dX6_change_18 ?_
    refine lv_bipush (v := 16) hx hb dX6_change_21 (by decide) ?_
    refine vq_ialdK (k := 16) hx hb hK hP 1 0 rfl rfl (by decide) (by decide) (by decide) dX6_change_23 ?_
    refine lv_ixor hx hb dX6_change_24 ?_
    refine vq_Si (As := [.int ((sX6_nearest S) ^^^ ((S.2 0) 16))]) (rest := []) (W2 := (wM cI cZ h g S)) (f := (sX6_ones ((sX6_nearest S) ^^^ ((S.2 0) 16)))) hx hb hml hown hts hK hP hD hS hA hE hl.1 (cX6_ones_c l ev dC dI cI cZ cO ((sX6_nearest S) ^^^ ((S.2 0) 16))) gX6_change_X6_ones rfl hdX6_ones (Nat.le_of_ble_eq_true rfl) (Nat.le_of_ble_eq_true rfl) rfl rfl [] [0, 1, 2, 3, 4, 5, 6, 7, 8, 9] [0, 1, 2, 3, 4, 5, 6, 7, 8, 9] rfl rfl (by decide) (by decide) (by decide) rfl rfl rfl (Nat.le_of_ble_eq_true rfl) dX6_change_25 ⟨Nat.zero_le _, Nat.zero_le _⟩ (fun H locs hP hD hS => ?_)
    subst hσ
    exact vq_iret hx hb hr hlocks hK hP hD hS rfl dX6_change_28
  · rw [if_pos c8] at hσ
    refine lv_bipush (v := (-9)) hx hb dX6_change_11 (by decide) ?_
    refine lv_goto (tgt := 28) hx hb dX6_change_13 (by decide) ?_
    subst hσ
    exact vq_iret hx hb hr hlocks hK hP hD hS rfl dX6_change_28
theorem hdX6_slowest : yX6_slowest.cls = RX6 ∧ yX6_slowest.cls ≠ "java/lang/invoke/MethodHandle" ∧ yX6_slowest.cls ≠ "java/lang/invoke/VarHandle" ∧ (parseMethodDescriptor yX6_slowest.desc).map (fun d => d.parameters.length) = some 0 := by decide +kernel
set_option maxHeartbeats 4000000 in
set_option maxRecDepth 100000 in
theorem cX6_slowest_c (l : Launch) (ev : Nat → Nat) (dC : Nat → ClassId) (dI : Nat → Nat → Nat) (cI cZ cO : ClassId) (h : Nat) (g : Nat → Nat) (S : MSt) (hT : LOK S) : MetI l ev (dC, dI) (tyC cI cZ cO) yX6_slowest wsX6_slowest (rmF 6 135) [.ref h] (wM cI cZ h g S) (sX6_slowest S) (wM cI cZ h g S) := by
  refine MetI_of (cc := cX6_slowest) (maxL := 3) (ret := (some .int)) (by decide) rfl (Nat.le_of_ble_eq_true rfl) ?_
  intro p e s m below meth c A ls hx hb hr hml hts hown hlocks hin hK hP hD hA hE hl
  have hown : s.vm.findClass RX6 = some m.cls := hown
  have hl : lv_has ls 3 [(0, .ref h)] := hl
  have hS : va_S A s.heap s.heap [] := va_S.rf
  obtain ⟨σ, hσ⟩ : ∃ σ, (sX6_slowest S) = σ := ⟨_, rfl⟩
  rw [hσ]
  rw [sX6_slowest] at hσ
  obtain ⟨C, eC, hC⟩ := pow_notes hT
  refine lv_iconst (v := 5) hx hb dX6_slowest_0 (by decide) ?_
  refine lv_istore_n (lv' := [(1, .int 5), (0, .ref h)]) hx hb dX6_slowest_1 rfl hl (by decide) rfl (fun ls hl => ?_)
  have key2 : ∀ (n2 : Nat) (x1_2 : Int32)  (k2 : Nat), (x1_2 = nI k2) → (k2 ≤ 5) → (k2 < n2) → (sX6_slowest_L2 S n2 x1_2) = σ → ∀ (H : Heap) (locs : List Loc) (ls : Array Slot), va_P (dC, dI) vwCl (wM cI cZ h g S) H → va_D A (wM cI cZ h g S) → va_S A s.heap H locs → lv_has ls 3 [(0, .ref h), (1, .int x1_2)] → W p l e (headSpec wsX6_slowest (rmF 6 135)).room s m ([.ref h] : List Value).toArray below meth c H locs 0 0 (MQ below (va_Qi (fun (x : Int32) (_ : Unit) => x = σ) (fun _ t => PoW (dC, dI) (tyC cI cZ cO) A (wM cI cZ h g S) t) A) ([.ref h] : List Value).toArray s 0 0 A) (F0 m 2 ls []) := by
    intro n2
    induction n2 with
    | zero =>
      intro x1_2 k2 e2 hk2 hn2
      exact absurd hn2 (Nat.not_lt_zero _)
    | succ n2 ih2 =>
      intro x1_2 k2 e2 hk2 hn2 hσ H locs ls hP hD hS hl
      rw [sX6_slowest_L2_s] at hσ
      refine lv_iload_n hx hb dX6_slowest_2 rfl (lv_at hl 1 rfl) ?_
      refine lv_if_le (tgt := 45) hx hb dX6_slowest_3 (by decide) (fun c3 => ?_) (fun c3 => ?_)
      · rw [if_pos c3] at hσ
        refine lv_bipush (v := (-9)) hx hb dX6_slowest_45 (by decide) ?_
        subst hσ
        exact vq_iret hx hb hr hlocks hK hP hD hS rfl dX6_slowest_47
      · rw [if_neg c3] at hσ
        refine lv_iconst (v := 0) hx hb dX6_slowest_6 (by decide) ?_
        refine lv_istore_n (lv' := [(2, .int 0), (0, .ref h), (1, .int x1_2)]) hx hb dX6_slowest_7 rfl hl (by decide) rfl (fun ls hl => ?_)
        have key8 : ∀ (n8 : Nat) (x2_8 : Int32)  (k8 : Nat), (x2_8 = nI k8) → (k8 ≤ 4096) → (4096 + 1 ≤ n8 + k8) → (sX6_slowest_L8 S x1_2 (sX6_slowest_L2 S n2) n8 x2_8) = σ → ∀ (H : Heap) (locs : List Loc) (ls : Array Slot), va_P (dC, dI) vwCl (wM cI cZ h g S) H → va_D A (wM cI cZ h g S) → va_S A s.heap H locs → lv_has ls 3 [(0, .ref h), (1, .int x1_2), (2, .int x2_8)] → W p l e (headSpec wsX6_slowest (rmF 6 135)).room s m ([.ref h] : List Value).toArray below meth c H locs 0 0 (MQ below (va_Qi (fun (x : Int32) (_ : Unit) => x = σ) (fun _ t => PoW (dC, dI) (tyC cI cZ cO) A (wM cI cZ h g S) t) A) ([.ref h] : List Value).toArray s 0 0 A) (F0 m 8 ls []) := by
          intro n8
          induction n8 with
          | zero =>
            intro x2_8 k8 e8 hk8 hn8
            exact absurd hn8 (by omega)
          | succ n8 ih8 =>
            intro x2_8 k8 e8 hk8 hn8 hσ H locs ls hP hD hS hl
            rw [sX6_slowest_L8_s] at hσ
            refine lv_iload_n hx hb dX6_slowest_8 rfl (lv_at hl 2 rfl) ?_
            refine lv_iconst (v := 1) hx hb dX6_slowest_9 (by decide) ?_
            refine lv_aload_n hx hb dX6_slowest_10 rfl (lv_at hl 0 rfl) ?_
            refine vq_Vi (As := []) (rest := [.int 1, .int x2_8]) (W2 := (wM cI cZ h g S)) (f := (sX6_notes S)) hx hb hml hown hts hK hP hD hS hA hE hl.1 (cX6_notes_c l ev dC dI cI cZ cO h g S hT) gX6_slowest_X6_notes rfl hdX6_notes (Nat.le_of_ble_eq_true rfl) (Nat.le_of_ble_eq_true rfl) rfl rfl (ci := 6) (qr := 0) rfl rfl rfl [0, 1, 2, 3, 4, 5, 6, 7, 8, 9] [] [0, 1, 2, 3, 4, 5, 6, 7, 8, 9] rfl rfl (by decide) (by decide) (by decide) rfl rfl rfl (Nat.le_of_ble_eq_true rfl) dX6_slowest_11 ⟨Nat.zero_le _, Nat.zero_le _⟩ (fun H locs hP hD hS => ?_)
            refine lv_ishl hx hb dX6_slowest_14 ?_
            refine lv_icmp_ge (tgt := 39) hx hb dX6_slowest_15 (by decide) (fun c15 => ?_) (fun c15 => ?_)
            · rw [if_pos c15] at hσ
              refine lv_iinc (v := (x1_2 + (-1))) (lv' := [(1, .int (x1_2 + (-1))), (0, .ref h), (2, .int x2_8)]) hx hb dX6_slowest_39 hl (k := 1) rfl rfl (by decide) rfl (fun ls hl => ?_)
              refine lv_goto (tgt := 2) hx hb dX6_slowest_42 (by decide) ?_
              exact ih2 (x1_2 + (-1)) (k2 - 1) (dn1 e2 c3).2 (by omega) (by have := (dn1 e2 c3).1; omega) hσ _ _ _ hP hD hS (lv_sub hl [1, 0] rfl)
            · rw [if_neg c15] at hσ
              refine lv_aload_n hx hb dX6_slowest_18 rfl (lv_at hl 0 rfl) ?_
              refine lv_aload_n hx hb dX6_slowest_19 rfl (lv_at hl 0 rfl) ?_
              refine lv_iload_n hx hb dX6_slowest_20 rfl (lv_at hl 2 rfl) ?_
              refine vq_Vi (As := [.int x2_8]) (rest := [.ref h]) (W2 := (wM cI cZ h g S)) (f := (sX6_shareOf S x2_8)) hx hb hml hown hts hK hP hD hS hA hE hl.1 (cX6_shareOf_c l ev dC dI cI cZ cO h g S x2_8 hT) gX6_slowest_X6_shareOf rfl hdX6_shareOf (Nat.le_of_ble_eq_true rfl) (Nat.le_of_ble_eq_true rfl) rfl rfl (ci := 6) (qr := 0) rfl rfl rfl [0, 1, 2, 3, 4, 5, 6, 7, 8, 9] [] [0, 1, 2, 3, 4, 5, 6, 7, 8, 9] rfl rfl (by decide) (by decide) (by decide) rfl rfl rfl (Nat.le_of_ble_eq_true rfl) dX6_slowest_21 ⟨Nat.zero_le _, Nat.zero_le _⟩ (fun H locs hP hD hS => ?_)
              refine lv_iload_n hx hb dX6_slowest_24 rfl (lv_at hl 1 rfl) ?_
              refine vq_Vi (As := [.int (sX6_shareOf S x2_8), .int x1_2]) (rest := []) (W2 := (wM cI cZ h g S)) (f := (bI (sX6_isLawful S (sX6_shareOf S x2_8) x1_2))) hx hb hml hown hts hK hP hD hS hA hE hl.1 (cX6_isLawful_c l ev dC dI cI cZ cO h g S (sX6_shareOf S x2_8) x1_2 hT) gX6_slowest_X6_isLawful rfl hdX6_isLawful (Nat.le_of_ble_eq_true rfl) (Nat.le_of_ble_eq_true rfl) rfl rfl (ci := 6) (qr := 0) rfl rfl rfl [0, 1, 2, 3, 4, 5, 6, 7, 8, 9] [] [0, 1, 2, 3, 4, 5, 6, 7, 8, 9] rfl rfl (by decide) (by decide) (by decide) rfl rfl rfl (Nat.le_of_ble_eq_true rfl) dX6_slowest_25 ⟨Nat.zero_le _, Nat.zero_le _⟩ (fun H locs hP hD hS => ?_)
              refine lv_if_eqB (tgt := 33) hx hb dX6_slowest_28 (by decide) (fun c28 => ?_) (fun c28 => ?_)
              · rw [if_neg (Bool.eq_false_iff.mp c28)] at hσ
                refine lv_iinc (v := (x2_8 + 1)) (lv' := [(2, .int (x2_8 + 1)), (0, .ref h), (1, .int x1_2)]) hx hb dX6_slowest_33 hl (k := 2) rfl rfl (by decide) rfl (fun ls hl => ?_)
                refine lv_goto (tgt := 8) hx hb dX6_slowest_36 (by decide) ?_
                exact ih8 (x2_8 + 1) (k8 + 1) (up_s e8) (by have := up_lt e8 eC (by omega) c15; omega) (by omega) hσ _ _ _ hP hD hS (lv_sub hl [1, 2, 0] rfl)
              · rw [if_pos c28] at hσ
                refine lv_iload_n hx hb dX6_slowest_31 rfl (lv_at hl 1 rfl) ?_
                subst hσ
                exact vq_iret hx hb hr hlocks hK hP hD hS rfl dX6_slowest_32
        exact key8 4097 (0 : Int32) 0 nI_0.symm (Nat.zero_le _) (Nat.le_refl _) hσ _ _ _ hP hD hS (lv_sub hl [1, 2, 0] rfl)
  exact key2 6 (5 : Int32) 5 rfl (by decide) (by decide) hσ _ _ _ hP hD hS (lv_sub hl [1, 0] rfl)
theorem hdX6_isHeard : yX6_isHeard.cls = RX6 ∧ yX6_isHeard.cls ≠ "java/lang/invoke/MethodHandle" ∧ yX6_isHeard.cls ≠ "java/lang/invoke/VarHandle" ∧ (parseMethodDescriptor yX6_isHeard.desc).map (fun d => d.parameters.length) = some 1 := by decide +kernel
set_option maxHeartbeats 4000000 in
set_option maxRecDepth 100000 in
theorem cX6_isHeard_c (l : Launch) (ev : Nat → Nat) (dC : Nat → ClassId) (dI : Nat → Nat → Nat) (cI cZ cO : ClassId) (h : Nat) (g : Nat → Nat) (S : MSt) (p1 : Int32) (hT : LOK S) (hSe : ∃ q : Nat, S.1 1 = nI q ∧ q ≤ 6) : MetI l ev (dC, dI) (tyC cI cZ cO) yX6_isHeard wsX6_isHeard (rmF 8 177) [.ref h, .int p1] (wM cI cZ h g S) (bI (sX6_isHeard S p1)) (wM cI cZ h g S) := by
  refine MetI_of (cc := cX6_isHeard) (maxL := 5) (ret := (some .boolean)) (by decide) rfl (Nat.le_of_ble_eq_true rfl) ?_
  intro p e s m below meth c A ls hx hb hr hml hts hown hlocks hin hK hP hD hA hE hl
  have hown : s.vm.findClass RX6 = some m.cls := hown
  have hl : lv_has ls 5 [(0, .ref h), (1, .int p1)] := hl
  have hS : va_S A s.heap s.heap [] := va_S.rf
  obtain ⟨σ, hσ⟩ : ∃ σ, (sX6_isHeard S p1) = σ := ⟨_, rfl⟩
  rw [hσ]
  rw [sX6_isHeard] at hσ
  obtain ⟨q, eq, hq⟩ := hSe
  refine lv_aload_n hx hb dX6_isHeard_0 rfl (lv_at hl 0 rfl) ?_
  refine lv_iload_n hx hb dX6_isHeard_1 rfl (lv_at hl 1 rfl) ?_
  refine vq_Vi (As := [.int p1]) (rest := []) (W2 := (wM cI cZ h g S)) (f := (sX6_shareBy S p1)) hx hb hml hown hts hK hP hD hS hA hE hl.1 (cX6_shareBy_c l ev dC dI cI cZ cO h g S p1 hT) gX6_isHeard_X6_shareBy rfl hdX6_shareBy (Nat.le_of_ble_eq_true rfl) (Nat.le_of_ble_eq_true rfl) rfl rfl (ci := 6) (qr := 0) rfl rfl rfl [0, 1, 2, 3, 4, 5, 6, 7, 8, 9] [] [0, 1, 2, 3, 4, 5, 6, 7, 8, 9] rfl rfl (by decide) (by decide) (by decide) rfl rfl rfl (Nat.le_of_ble_eq_true rfl) dX6_isHeard_2 ⟨Nat.zero_le _, Nat.zero_le _⟩ (fun H locs hP hD hS => ?_)
  refine lv_istore_n (lv' := [(2, .int (sX6_shareBy S p1)), (0, .ref h), (1, .int p1)]) hx hb dX6_isHeard_5 rfl hl (by decide) rfl (fun ls hl => ?_)
  refine lv_aload_n hx hb dX6_isHeard_6 rfl (lv_at hl 1 rfl) ?_
  refine lv_iload_n hx hb dX6_isHeard_7 rfl (lv_at hl 2 rfl) ?_
  refine vq_Vi (As := [.int p1]) (rest := []) (W2 := (wM cI cZ h g S)) (f := (bI (sX6_isTable S p1))) hx hb hml hown hts hK hP hD hS hA hE hl.1 (cX6_isTable_c l ev dC dI cI cZ cO h g S p1 hT) gX6_isHeard_X6_isTable rfl hdX6_isTable (Nat.le_of_ble_eq_true rfl) (Nat.le_of_ble_eq_true rfl) rfl rfl (ci := 6) (qr := 0) rfl rfl rfl [0, 1, 2, 3, 4, 5, 6, 7, 8, 9] [] [0, 1, 2, 3, 4, 5, 6, 7, 8, 9] rfl rfl (by decide) (by decide) (by decide) rfl rfl rfl (Nat.le_of_ble_eq_true rfl) dX6_isHeard_8 ⟨Nat.zero_le _, Nat.zero_le _⟩ (fun H locs hP hD hS => ?_)
  refine lv_istore_n (lv' := [(3, .int (bI (sX6_isTable S p1))), (2, .int (sX6_shareBy S p1)), (0, .ref h), (1, .int p1)]) hx hb dX6_isHeard_11 rfl hl (by decide) rfl (fun ls hl => ?_)
  refine lv_iconst (v := 0) hx hb dX6_isHeard_12 (by decide) ?_
  refine lv_istore (lv' := [(4, .int 0), (3, .int (bI (sX6_isTable S p1))), (2, .int (sX6_shareBy S p1)), (0, .ref h), (1, .int p1)]) hx hb dX6_isHeard_13 hl (by decide) rfl (fun ls hl => ?_)
  have key15 : ∀ (n15 : Nat) (x2_15 : Int32) (x3_15 : Bool) (x4_15 : Int32)  (k15 : Nat), (x4_15 = nI k15) → (k15 ≤ 6) → (6 + 1 ≤ n15 + k15) → (sX6_isHeard_L15 S n15 x2_15 x3_15 x4_15) = σ → ∀ (H : Heap) (locs : List Loc) (ls : Array Slot), va_P (dC, dI) vwCl (wM cI cZ h g S) H → va_D A (wM cI cZ h g S) → va_S A s.heap H locs → lv_has ls 5 [(0, .ref h), (1, .int p1), (2, .int x2_15), (3, .int (bI x3_15)), (4, .int x4_15)] → W p l e (headSpec wsX6_isHeard (rmF 8 177)).room s m ([.ref h, .int p1] : List Value).toArray below meth c H locs 0 0 (MQ below (va_Qi (fun (x : Int32) (_ : Unit) => x = bI σ) (fun _ t => PoW (dC, dI) (tyC cI cZ cO) A (wM cI cZ h g S) t) A) ([.ref h, .int p1] : List Value).toArray s 0 0 A) (F0 m 15 ls []) := by
    intro n15
    induction n15 with
    | zero =>
      intro x2_15 x3_15 x4_15 k15 e15 hk15 hn15
      exact absurd hn15 (by omega)
    | succ n15 ih15 =>
      intro x2_15 x3_15 x4_15 k15 e15 hk15 hn15 hσ H locs ls hP hD hS hl
      rw [sX6_isHeard_L15_s] at hσ
      refine lv_iload hx hb dX6_isHeard_15 (lv_at hl 4 rfl) ?_
      refine lv_aload_n hx hb dX6_isHeard_17 rfl (lv_at hl 0 rfl) ?_
      refine va_get (D := (dC, dI)) (ci := 6) (v := .int (S.1 1)) (C := RX6) (T := TX6) (N := 15) hx hb hts (fun _ h => List.mem_cons_of_mem _ (List.mem_append_right _ h)) hown hK hP 0 rfl rfl 6 (by decide) (hts (.fieldLink RX6 180 "SharedLineModel" "seen" "I") (List.mem_of_getElem? (i := 1) rfl)) (fun _ h9 => h9) rfl dX6_isHeard_18 ?_
      refine lv_icmp_ge (tgt := 75) hx hb dX6_isHeard_21 (by decide) (fun c21 => ?_) (fun c21 => ?_)
      · rw [if_pos c21] at hσ
        refine lv_iload_n hx hb dX6_isHeard_75 rfl (lv_at hl 3 rfl) ?_
        subst hσ
        exact vq_zret hx hb hr hlocks hK hP hD hS (nar_bI _) rfl dX6_isHeard_76
      · rw [if_neg c21] at hσ
        refine lv_iload_n hx hb dX6_isHeard_24 rfl (lv_at hl 3 rfl) ?_
        refine lv_if_eqB (tgt := 67) hx hb dX6_isHeard_25 (by decide) (fun c25 => ?_) (fun c25 => ?_)
        · rw [if_neg (Bool.eq_false_iff.mp c25)] at hσ
          refine lv_iconst (v := 0) hx hb dX6_isHeard_67 (by decide) ?_
          refine lv_istore_n (lv' := [(3, .int 0), (0, .ref h), (1, .int p1), (2, .int x2_15), (4, .int x4_15)]) hx hb dX6_isHeard_68 rfl hl (by decide) rfl (fun ls hl => ?_)
          refine lv_iinc (v := (x4_15 + 1)) (lv' := [(4, .int (x4_15 + 1)), (3, .int 0), (0, .ref h), (1, .int p1), (2, .int x2_15)]) hx hb dX6_isHeard_69 hl (k := 4) rfl rfl (by decide) rfl (fun ls hl => ?_)
          refine lv_goto (tgt := 15) hx hb dX6_isHeard_72 (by decide) ?_
          exact ih15 x2_15 false (x4_15 + 1) (k15 + 1) (up_s e15) (by have := up_lt e15 eq (by omega) c21; omega) (by omega) hσ _ _ _ hP hD hS (lv_sub hl [2, 3, 4, 1, 0] rfl)
        · rw [if_pos c25] at hσ
          refine lv_aload_n hx hb dX6_isHeard_28 rfl (lv_at hl 0 rfl) ?_
          refine lv_aload_n hx hb dX6_isHeard_29 rfl (lv_at hl 0 rfl) ?_
          refine va_get (D := (dC, dI)) (ci := 6) (v := .ref (g 5)) (C := RX6) (T := TX6) (N := 15) hx hb hts (fun _ h => List.mem_cons_of_mem _ (List.mem_append_right _ h)) hown hK hP 0 rfl rfl 7 (by decide) (hts (.fieldLink RX6 26 "SharedLineModel" "seenTick" "[I") (List.mem_of_getElem? (i := 2) rfl)) (fun _ h9 => h9) rfl dX6_isHeard_30 ?_
          refine lv_iload hx hb dX6_isHeard_33 (lv_at hl 4 rfl) ?_
          refine va_iald hx hb hK hP 6 0 rfl rfl (i := x4_15) (up_in e15 (by have := (up_lt e15 eq (by omega) c21); omega) (by decide)) dX6_isHeard_35 ?_
          refine vq_Vi (As := [.int ((S.2 5) (x4_15).toNatClampNeg)]) (rest := []) (W2 := (wM cI cZ h g S)) (f := (bI (sX6_isNote S ((S.2 5) (x4_15).toNatClampNeg)))) hx hb hml hown hts hK hP hD hS hA hE hl.1 (cX6_isNote_c l ev dC dI cI cZ cO h g S ((S.2 5) (x4_15).toNatClampNeg) hT) gX6_isHeard_X6_isNote rfl hdX6_isNote (Nat.le_of_ble_eq_true rfl) (Nat.le_of_ble_eq_true rfl) rfl rfl (ci := 6) (qr := 0) rfl rfl rfl [0, 1, 2, 3, 4, 5, 6, 7, 8, 9] [] [0, 1, 2, 3, 4, 5, 6, 7, 8, 9] rfl rfl (by decide) (by decide) (by decide) rfl rfl rfl (Nat.le_of_ble_eq_true rfl) dX6_isHeard_36 ⟨Nat.zero_le _, Nat.zero_le _⟩ (fun H locs hP hD hS => ?_)
          refine lv_if_eqB (tgt := 67) hx hb dX6_isHeard_39 (by decide) (fun c39 => ?_) (fun c39 => ?_)
          · rw [if_neg (Bool.eq_false_iff.mp c39)] at hσ
            refine lv_iconst (v := 0) hx hb dX6_isHeard_67 (by decide) ?_
            refine lv_istore_n (lv' := [(3, .int 0), (0, .ref h), (1, .int p1), (2, .int x2_15), (4, .int x4_15)]) hx hb dX6_isHeard_68 rfl hl (by decide) rfl (fun ls hl => ?_)
            refine lv_iinc (v := (x4_15 + 1)) (lv' := [(4, .int (x4_15 + 1)), (3, .int 0), (0, .ref h), (1, .int p1), (2, .int x2_15)]) hx hb dX6_isHeard_69 hl (k := 4) rfl rfl (by decide) rfl (fun ls hl => ?_)
            refine lv_goto (tgt := 15) hx hb dX6_isHeard_72 (by decide) ?_
            exact ih15 x2_15 false (x4_15 + 1) (k15 + 1) (up_s e15) (by have := up_lt e15 eq (by omega) c21; omega) (by omega) hσ _ _ _ hP hD hS (lv_sub hl [2, 3, 4, 1, 0] rfl)
          · rw [if_pos c39] at hσ
            refine lv_iload_n hx hb dX6_isHeard_42 rfl (lv_at hl 2 rfl) ?_
            refine lv_aload_n hx hb dX6_isHeard_43 rfl (lv_at hl 0 rfl) ?_
            refine va_get (D := (dC, dI)) (ci := 6) (v := .ref (g 5)) (C := RX6) (T := TX6) (N := 15) hx hb hts (fun _ h => List.mem_cons_of_mem _ (List.mem_append_right _ h)) hown hK hP 0 rfl rfl 7 (by decide) (hts (.fieldLink RX6 26 "SharedLineModel" "seenTick" "[I") (List.mem_of_getElem? (i := 2) rfl)) (fun _ h9 => h9) rfl dX6_isHeard_44 ?_
            refine lv_iload hx hb dX6_isHeard_47 (lv_at hl 4 rfl) ?_
            refine va_iald hx hb hK hP 6 0 rfl rfl (i := x4_15) (up_in e15 (by have := (up_lt e15 eq (by omega) c21); omega) (by decide)) dX6_isHeard_49 ?_
            refine lv_ishr hx hb dX6_isHeard_50 ?_
            refine lv_iconst (v := 1) hx hb dX6_isHeard_51 (by decide) ?_
            refine lv_iand hx hb dX6_isHeard_52 ?_
            refine lv_aload_n hx hb dX6_isHeard_53 rfl (lv_at hl 0 rfl) ?_
            refine va_get (D := (dC, dI)) (ci := 6) (v := .ref (g 6)) (C := RX6) (T := TX6) (N := 15) hx hb hts (fun _ h => List.mem_cons_of_mem _ (List.mem_append_right _ h)) hown hK hP 0 rfl rfl 8 (by decide) (hts (.fieldLink RX6 29 "SharedLineModel" "seenHand" "[I") (List.mem_of_getElem? (i := 3) rfl)) (fun _ h9 => h9) rfl dX6_isHeard_54 ?_
            refine lv_iload hx hb dX6_isHeard_57 (lv_at hl 4 rfl) ?_
            refine va_iald hx hb hK hP 7 0 rfl rfl (i := x4_15) (up_in e15 (by have := (up_lt e15 eq (by omega) c21); omega) (by decide)) dX6_isHeard_59 ?_
            refine lv_icmp_ne (tgt := 67) hx hb dX6_isHeard_60 (by decide) (fun c60 => ?_) (fun c60 => ?_)
            · rw [if_neg c60] at hσ
              refine lv_iconst (v := 0) hx hb dX6_isHeard_67 (by decide) ?_
              refine lv_istore_n (lv' := [(3, .int 0), (0, .ref h), (1, .int p1), (2, .int x2_15), (4, .int x4_15)]) hx hb dX6_isHeard_68 rfl hl (by decide) rfl (fun ls hl => ?_)
              refine lv_iinc (v := (x4_15 + 1)) (lv' := [(4, .int (x4_15 + 1)), (3, .int 0), (0, .ref h), (1, .int p1), (2, .int x2_15)]) hx hb dX6_isHeard_69 hl (k := 4) rfl rfl (by decide) rfl (fun ls hl => ?_)
              refine lv_goto (tgt := 15) hx hb dX6_isHeard_72 (by decide) ?_
              exact ih15 x2_15 false (x4_15 + 1) (k15 + 1) (up_s e15) (by have := up_lt e15 eq (by omega) c21; omega) (by omega) hσ _ _ _ hP hD hS (lv_sub hl [2, 3, 4, 1, 0] rfl)
            · rw [if_pos c60] at hσ
              refine lv_iconst (v := 1) hx hb dX6_isHeard_63 (by decide) ?_
              refine lv_goto (tgt := 68) hx hb dX6_isHeard_64 (by decide) ?_
              refine lv_istore_n (lv' := [(3, .int 1), (0, .ref h), (1, .int p1), (2, .int x2_15), (4, .int x4_15)]) hx hb dX6_isHeard_68 rfl hl (by decide) rfl (fun ls hl => ?_)
              refine lv_iinc (v := (x4_15 + 1)) (lv' := [(4, .int (x4_15 + 1)), (3, .int 1), (0, .ref h), (1, .int p1), (2, .int x2_15)]) hx hb dX6_isHeard_69 hl (k := 4) rfl rfl (by decide) rfl (fun ls hl => ?_)
              refine lv_goto (tgt := 15) hx hb dX6_isHeard_72 (by decide) ?_
              exact ih15 x2_15 true (x4_15 + 1) (k15 + 1) (up_s e15) (by have := up_lt e15 eq (by omega) c21; omega) (by omega) hσ _ _ _ hP hD hS (lv_sub hl [2, 3, 4, 1, 0] rfl)
  exact key15 7 (sX6_shareBy S p1) (sX6_isTable S p1) (0 : Int32) 0 nI_0.symm (Nat.zero_le _) (Nat.le_refl _) hσ _ _ _ hP hD hS (lv_sub hl [3, 4, 2, 1, 0] rfl)
theorem hdX6_tellTables : yX6_tellTables.cls = RX6 ∧ yX6_tellTables.cls ≠ "java/lang/invoke/MethodHandle" ∧ yX6_tellTables.cls ≠ "java/lang/invoke/VarHandle" ∧ (parseMethodDescriptor yX6_tellTables.desc).map (fun d => d.parameters.length) = some 2 := by decide +kernel
set_option maxHeartbeats 4000000 in
set_option maxRecDepth 100000 in
theorem cX6_tellTables_c (l : Launch) (ev : Nat → Nat) (dC : Nat → ClassId) (dI : Nat → Nat → Nat) (cI cZ cO : ClassId) (h : Nat) (g : Nat → Nat) (S : MSt) (p1 : Int32) (p2 : Bool) (hT : LOK S) (hSe : ∃ q : Nat, S.1 1 = nI q ∧ q ≤ 6) : MetI l ev (dC, dI) (tyC cI cZ cO) yX6_tellTables wsX6_tellTables (rmF 9 201) [.ref h, .int p1, .int (bI p2)] (wM cI cZ h g S) (sX6_tellTables S p1 p2) (wM cI cZ h g S) := by
  refine MetI_of (cc := cX6_tellTables) (maxL := 7) (ret := (some .int)) (by decide) rfl (Nat.le_of_ble_eq_true rfl) ?_
  intro p e s m below meth c A ls hx hb hr hml hts hown hlocks hin hK hP hD hA hE hl
  have hown : s.vm.findClass RX6 = some m.cls := hown
  have hl : lv_has ls 7 [(0, .ref h), (1, .int p1), (2, .int (bI p2))] := hl
  have hS : va_S A s.heap s.heap [] := va_S.rf
  obtain ⟨σ, hσ⟩ : ∃ σ, (sX6_tellTables S p1 p2) = σ := ⟨_, rfl⟩
  rw [hσ]
  rw [sX6_tellTables] at hσ
  refine lv_iconst (v := 0) hx hb dX6_tellTables_0 (by decide) ?_
  refine lv_istore_n (lv' := [(3, .int 0), (0, .ref h), (1, .int p1), (2, .int (bI p2))]) hx hb dX6_tellTables_1 rfl hl (by decide) rfl (fun ls hl => ?_)
  refine lv_bipush (v := (-9)) hx hb dX6_tellTables_2 (by decide) ?_
  refine lv_istore (lv' := [(4, .int (-9)), (3, .int 0), (0, .ref h), (1, .int p1), (2, .int (bI p2))]) hx hb dX6_tellTables_4 hl (by decide) rfl (fun ls hl => ?_)
  refine lv_bipush (v := 127) hx hb dX6_tellTables_6 (by decide) ?_
  refine lv_istore (lv' := [(5, .int 127), (4, .int (-9)), (3, .int 0), (0, .ref h), (1, .int p1), (2, .int (bI p2))]) hx hb dX6_tellTables_8 hl (by decide) rfl (fun ls hl => ?_)
  have key10 : ∀ (n10 : Nat) (x3_10 : Int32) (x4_10 : Int32) (x5_10 : Int32)  (k10 : Nat), (x5_10 = nI k10 - 1) → (k10 ≤ 128) → (k10 < n10) → (sX6_tellTables_L10 S p1 p2 n10 x3_10 x4_10 x5_10) = σ → ∀ (H : Heap) (locs : List Loc) (ls : Array Slot), va_P (dC, dI) vwCl (wM cI cZ h g S) H → va_D A (wM cI cZ h g S) → va_S A s.heap H locs → lv_has ls 7 [(0, .ref h), (1, .int p1), (2, .int (bI p2)), (3, .int x3_10), (4, .int x4_10), (5, .int x5_10)] → W p l e (headSpec wsX6_tellTables (rmF 9 201)).room s m ([.ref h, .int p1, .int (bI p2)] : List Value).toArray below meth c H locs 0 0 (MQ below (va_Qi (fun (x : Int32) (_ : Unit) => x = σ) (fun _ t => PoW (dC, dI) (tyC cI cZ cO) A (wM cI cZ h g S) t) A) ([.ref h, .int p1, .int (bI p2)] : List Value).toArray s 0 0 A) (F0 m 10 ls []) := by
    intro n10
    induction n10 with
    | zero =>
      intro x3_10 x4_10 x5_10 k10 e10 hk10 hn10
      exact absurd hn10 (Nat.not_lt_zero _)
    | succ n10 ih10 =>
      intro x3_10 x4_10 x5_10 k10 e10 hk10 hn10 hσ H locs ls hP hD hS hl
      rw [sX6_tellTables_L10_s] at hσ
      refine lv_iload hx hb dX6_tellTables_10 (lv_at hl 5 rfl) ?_
      refine lv_if_lt (tgt := 69) hx hb dX6_tellTables_12 (by decide) (fun c12 => ?_) (fun c12 => ?_)
      · rw [if_pos c12] at hσ
        refine lv_iload_n hx hb dX6_tellTables_69 rfl (lv_at hl 1 rfl) ?_
        refine lv_if_ne (tgt := 77) hx hb dX6_tellTables_70 (by decide) (fun c70 => ?_) (fun c70 => ?_)
        · rw [if_neg c70] at hσ
          refine lv_iload_n hx hb dX6_tellTables_77 rfl (lv_at hl 1 rfl) ?_
          refine lv_iconst (v := 1) hx hb dX6_tellTables_78 (by decide) ?_
          refine lv_icmp_ne (tgt := 87) hx hb dX6_tellTables_79 (by decide) (fun c79 => ?_) (fun c79 => ?_)
          · rw [if_neg c79] at hσ
            refine lv_iconst (v := (-1)) hx hb dX6_tellTables_87 (by decide) ?_
            subst hσ
            exact vq_iret hx hb hr hlocks hK hP hD hS rfl dX6_tellTables_88
          · rw [if_pos c79] at hσ
            refine lv_iload hx hb dX6_tellTables_82 (lv_at hl 4 rfl) ?_
            refine lv_goto (tgt := 88) hx hb dX6_tellTables_84 (by decide) ?_
            subst hσ
            exact vq_iret hx hb hr hlocks hK hP hD hS rfl dX6_tellTables_88
        · rw [if_pos c70] at hσ
          refine lv_iload_n hx hb dX6_tellTables_73 rfl (lv_at hl 3 rfl) ?_
          refine lv_goto (tgt := 88) hx hb dX6_tellTables_74 (by decide) ?_
          subst hσ
          exact vq_iret hx hb hr hlocks hK hP hD hS rfl dX6_tellTables_88
      · rw [if_neg c12] at hσ
        refine lv_iload_n hx hb dX6_tellTables_15 rfl (lv_at hl 2 rfl) ?_
        refine lv_if_eqB (tgt := 28) hx hb dX6_tellTables_16 (by decide) (fun c16 => ?_) (fun c16 => ?_)
        · rw [if_neg (Bool.eq_false_iff.mp c16)] at hσ
          refine lv_aload_n hx hb dX6_tellTables_28 rfl (lv_at hl 0 rfl) ?_
          refine lv_iload hx hb dX6_tellTables_29 (lv_at hl 5 rfl) ?_
          refine vq_Vi (As := [.int x5_10]) (rest := []) (W2 := (wM cI cZ h g S)) (f := (bI (sX6_isTable S x5_10))) hx hb hml hown hts hK hP hD hS hA hE hl.1 (cX6_isTable_c l ev dC dI cI cZ cO h g S x5_10 hT) gX6_tellTables_X6_isTable rfl hdX6_isTable (Nat.le_of_ble_eq_true rfl) (Nat.le_of_ble_eq_true rfl) rfl rfl (ci := 6) (qr := 0) rfl rfl rfl [0, 1, 2, 3, 4, 5, 6, 7, 8, 9] [] [0, 1, 2, 3, 4, 5, 6, 7, 8, 9] rfl rfl (by decide) (by decide) (by decide) rfl rfl rfl (Nat.le_of_ble_eq_true rfl) dX6_tellTables_31 ⟨Nat.zero_le _, Nat.zero_le _⟩ (fun H locs hP hD hS => ?_)
          refine lv_istore (lv' := [(6, .int (bI (sX6_isTable S x5_10))), (0, .ref h), (1, .int p1), (2, .int (bI p2)), (3, .int x3_10), (4, .int x4_10), (5, .int x5_10)]) hx hb dX6_tellTables_34 hl (by decide) rfl (fun ls hl => ?_)
          refine lv_iload_n hx hb dX6_tellTables_36 rfl (lv_at hl 4 rfl) ?_
          refine lv_iload hx hb dX6_tellTables_37 (lv_at hl 0 rfl) ?_
          refine lv_if_eqB (tgt := 46) hx hb dX6_tellTables_39 (by decide) (fun c39 => ?_) (fun c39 => ?_)
          · rw [if_neg (Bool.eq_false_iff.mp c39)] at hσ
            refine lv_iconst (v := 0) hx hb dX6_tellTables_46 (by decide) ?_
            refine lv_iadd hx hb dX6_tellTables_47 ?_
            refine lv_istore_n (lv' := [(3, .int (x3_10 + 0)), (6, .int (bI (sX6_isTable S x5_10))), (0, .ref h), (1, .int p1), (2, .int (bI p2)), (4, .int x4_10), (5, .int x5_10)]) hx hb dX6_tellTables_48 rfl hl (by decide) rfl (fun ls hl => ?_)
            refine lv_iload hx hb dX6_tellTables_49 (lv_at hl 1 rfl) ?_
            refine lv_if_eqB (tgt := 59) hx hb dX6_tellTables_51 (by decide) (fun c51 => ?_) (fun c51 => absurd c51 (Bool.eq_false_iff.mp c39))
            refine lv_iload hx hb dX6_tellTables_59 (lv_at hl 5 rfl) ?_
            refine lv_istore (lv' := [(4, .int x4_10), (3, .int (x3_10 + 0)), (6, .int (bI (sX6_isTable S x5_10))), (0, .ref h), (1, .int p1), (2, .int (bI p2)), (5, .int x5_10)]) hx hb dX6_tellTables_61 hl (by decide) rfl (fun ls hl => ?_)
            refine lv_iinc (v := (x5_10 + (-1))) (lv' := [(5, .int (x5_10 + (-1))), (4, .int x4_10), (3, .int (x3_10 + 0)), (6, .int (bI (sX6_isTable S x5_10))), (0, .ref h), (1, .int p1), (2, .int (bI p2))]) hx hb dX6_tellTables_63 hl (k := 6) rfl rfl (by decide) rfl (fun ls hl => ?_)
            refine lv_goto (tgt := 10) hx hb dX6_tellTables_66 (by decide) ?_
            exact ih10 (x3_10 + 0) x4_10 (x5_10 + (-1)) (k10 - 1) (dn_b e10 hk10 (by decide) c12).2.2 (by omega) (by have := (dn_b e10 hk10 (by decide) c12).1; omega) hσ _ _ _ hP hD hS (lv_sub hl [4, 5, 6, 2, 1, 0] rfl)
          · rw [if_pos c39] at hσ
            refine lv_iconst (v := 1) hx hb dX6_tellTables_42 (by decide) ?_
            refine lv_goto (tgt := 47) hx hb dX6_tellTables_43 (by decide) ?_
            refine lv_iadd hx hb dX6_tellTables_47 ?_
            refine lv_istore_n (lv' := [(3, .int (x3_10 + 1)), (6, .int (bI (sX6_isTable S x5_10))), (0, .ref h), (1, .int p1), (2, .int (bI p2)), (4, .int x4_10), (5, .int x5_10)]) hx hb dX6_tellTables_48 rfl hl (by decide) rfl (fun ls hl => ?_)
            refine lv_iload hx hb dX6_tellTables_49 (lv_at hl 1 rfl) ?_
            refine lv_if_eqB (tgt := 59) hx hb dX6_tellTables_51 (by decide) (fun c51 => absurd c39 (Bool.eq_false_iff.mp c51)) (fun c51 => ?_)
            refine lv_iload hx hb dX6_tellTables_54 (lv_at hl 6 rfl) ?_
            refine lv_goto (tgt := 61) hx hb dX6_tellTables_56 (by decide) ?_
            refine lv_istore (lv' := [(4, .int x5_10), (3, .int (x3_10 + 1)), (6, .int (bI (sX6_isTable S x5_10))), (0, .ref h), (1, .int p1), (2, .int (bI p2)), (5, .int x5_10)]) hx hb dX6_tellTables_61 hl (by decide) rfl (fun ls hl => ?_)
            refine lv_iinc (v := (x5_10 + (-1))) (lv' := [(5, .int (x5_10 + (-1))), (4, .int x5_10), (3, .int (x3_10 + 1)), (6, .int (bI (sX6_isTable S x5_10))), (0, .ref h), (1, .int p1), (2, .int (bI p2))]) hx hb dX6_tellTables_63 hl (k := 6) rfl rfl (by decide) rfl (fun ls hl => ?_)
            refine lv_goto (tgt := 10) hx hb dX6_tellTables_66 (by decide) ?_
            exact ih10 (x3_10 + 1) x5_10 (x5_10 + (-1)) (k10 - 1) (dn_b e10 hk10 (by decide) c12).2.2 (by omega) (by have := (dn_b e10 hk10 (by decide) c12).1; omega) hσ _ _ _ hP hD hS (lv_sub hl [4, 5, 6, 2, 1, 0] rfl)
        · rw [if_pos c16] at hσ
          refine lv_aload_n hx hb dX6_tellTables_19 rfl (lv_at hl 0 rfl) ?_
          refine lv_iload hx hb dX6_tellTables_20 (lv_at hl 5 rfl) ?_
          refine vq_Vi (As := [.int x5_10]) (rest := []) (W2 := (wM cI cZ h g S)) (f := (bI (sX6_isHeard S x5_10))) hx hb hml hown hts hK hP hD hS hA hE hl.1 (cX6_isHeard_c l ev dC dI cI cZ cO h g S x5_10 hT hSe) gX6_tellTables_X6_isHeard rfl hdX6_isHeard (Nat.le_of_ble_eq_true rfl) (Nat.le_of_ble_eq_true rfl) rfl rfl (ci := 6) (qr := 0) rfl rfl rfl [0, 1, 2, 3, 4, 5, 6, 7, 8, 9] [] [0, 1, 2, 3, 4, 5, 6, 7, 8, 9] rfl rfl (by decide) (by decide) (by decide) rfl rfl rfl (Nat.le_of_ble_eq_true rfl) dX6_tellTables_22 ⟨Nat.zero_le _, Nat.zero_le _⟩ (fun H locs hP hD hS => ?_)
          refine lv_goto (tgt := 34) hx hb dX6_tellTables_25 (by decide) ?_
          refine lv_istore (lv' := [(6, .int (bI (sX6_isHeard S x5_10))), (0, .ref h), (1, .int p1), (2, .int (bI p2)), (3, .int x3_10), (4, .int x4_10), (5, .int x5_10)]) hx hb dX6_tellTables_34 hl (by decide) rfl (fun ls hl => ?_)
          refine lv_iload_n hx hb dX6_tellTables_36 rfl (lv_at hl 4 rfl) ?_
          refine lv_iload hx hb dX6_tellTables_37 (lv_at hl 0 rfl) ?_
          refine lv_if_eqB (tgt := 46) hx hb dX6_tellTables_39 (by decide) (fun c39 => ?_) (fun c39 => ?_)
          · rw [if_neg (Bool.eq_false_iff.mp c39)] at hσ
            refine lv_iconst (v := 0) hx hb dX6_tellTables_46 (by decide) ?_
            refine lv_iadd hx hb dX6_tellTables_47 ?_
            refine lv_istore_n (lv' := [(3, .int (x3_10 + 0)), (6, .int (bI (sX6_isHeard S x5_10))), (0, .ref h), (1, .int p1), (2, .int (bI p2)), (4, .int x4_10), (5, .int x5_10)]) hx hb dX6_tellTables_48 rfl hl (by decide) rfl (fun ls hl => ?_)
            refine lv_iload hx hb dX6_tellTables_49 (lv_at hl 1 rfl) ?_
            refine lv_if_eqB (tgt := 59) hx hb dX6_tellTables_51 (by decide) (fun c51 => ?_) (fun c51 => absurd c51 (Bool.eq_false_iff.mp c39))
            refine lv_iload hx hb dX6_tellTables_59 (lv_at hl 5 rfl) ?_
            refine lv_istore (lv' := [(4, .int x4_10), (3, .int (x3_10 + 0)), (6, .int (bI (sX6_isHeard S x5_10))), (0, .ref h), (1, .int p1), (2, .int (bI p2)), (5, .int x5_10)]) hx hb dX6_tellTables_61 hl (by decide) rfl (fun ls hl => ?_)
            refine lv_iinc (v := (x5_10 + (-1))) (lv' := [(5, .int (x5_10 + (-1))), (4, .int x4_10), (3, .int (x3_10 + 0)), (6, .int (bI (sX6_isHeard S x5_10))), (0, .ref h), (1, .int p1), (2, .int (bI p2))]) hx hb dX6_tellTables_63 hl (k := 6) rfl rfl (by decide) rfl (fun ls hl => ?_)
            refine lv_goto (tgt := 10) hx hb dX6_tellTables_66 (by decide) ?_
            exact ih10 (x3_10 + 0) x4_10 (x5_10 + (-1)) (k10 - 1) (dn_b e10 hk10 (by decide) c12).2.2 (by omega) (by have := (dn_b e10 hk10 (by decide) c12).1; omega) hσ _ _ _ hP hD hS (lv_sub hl [4, 5, 6, 2, 1, 0] rfl)
          · rw [if_pos c39] at hσ
            refine lv_iconst (v := 1) hx hb dX6_tellTables_42 (by decide) ?_
            refine lv_goto (tgt := 47) hx hb dX6_tellTables_43 (by decide) ?_
            refine lv_iadd hx hb dX6_tellTables_47 ?_
            refine lv_istore_n (lv' := [(3, .int (x3_10 + 1)), (6, .int (bI (sX6_isHeard S x5_10))), (0, .ref h), (1, .int p1), (2, .int (bI p2)), (4, .int x4_10), (5, .int x5_10)]) hx hb dX6_tellTables_48 rfl hl (by decide) rfl (fun ls hl => ?_)
            refine lv_iload hx hb dX6_tellTables_49 (lv_at hl 1 rfl) ?_
            refine lv_if_eqB (tgt := 59) hx hb dX6_tellTables_51 (by decide) (fun c51 => absurd c39 (Bool.eq_false_iff.mp c51)) (fun c51 => ?_)
            refine lv_iload hx hb dX6_tellTables_54 (lv_at hl 6 rfl) ?_
            refine lv_goto (tgt := 61) hx hb dX6_tellTables_56 (by decide) ?_
            refine lv_istore (lv' := [(4, .int x5_10), (3, .int (x3_10 + 1)), (6, .int (bI (sX6_isHeard S x5_10))), (0, .ref h), (1, .int p1), (2, .int (bI p2)), (5, .int x5_10)]) hx hb dX6_tellTables_61 hl (by decide) rfl (fun ls hl => ?_)
            refine lv_iinc (v := (x5_10 + (-1))) (lv' := [(5, .int (x5_10 + (-1))), (4, .int x5_10), (3, .int (x3_10 + 1)), (6, .int (bI (sX6_isHeard S x5_10))), (0, .ref h), (1, .int p1), (2, .int (bI p2))]) hx hb dX6_tellTables_63 hl (k := 6) rfl rfl (by decide) rfl (fun ls hl => ?_)
            refine lv_goto (tgt := 10) hx hb dX6_tellTables_66 (by decide) ?_
            exact ih10 (x3_10 + 1) x5_10 (x5_10 + (-1)) (k10 - 1) (dn_b e10 hk10 (by decide) c12).2.2 (by omega) (by have := (dn_b e10 hk10 (by decide) c12).1; omega) hσ _ _ _ hP hD hS (lv_sub hl [4, 5, 6, 2, 1, 0] rfl)
  exact key10 129 (0 : Int32) ((-9) : Int32) (127 : Int32) 128 rfl (by decide) (by decide) hσ _ _ _ hP hD hS (lv_sub hl [3, 4, 5, 2, 1, 0] rfl)
theorem hdX6_tables : yX6_tables.cls = RX6 ∧ yX6_tables.cls ≠ "java/lang/invoke/MethodHandle" ∧ yX6_tables.cls ≠ "java/lang/invoke/VarHandle" ∧ (parseMethodDescriptor yX6_tables.desc).map (fun d => d.parameters.length) = some 1 := by decide +kernel
set_option maxHeartbeats 4000000 in
set_option maxRecDepth 100000 in
theorem cX6_tables_c (l : Launch) (ev : Nat → Nat) (dC : Nat → ClassId) (dI : Nat → Nat → Nat) (cI cZ cO : ClassId) (h : Nat) (g : Nat → Nat) (S : MSt) (p1 : Int32) (hT : LOK S) (hSe : ∃ q : Nat, S.1 1 = nI q ∧ q ≤ 6) : MetI l ev (dC, dI) (tyC cI cZ cO) yX6_tables wsX6_tables (rmF 10 227) [.ref h, .int p1] (wM cI cZ h g S) (sX6_tables S p1) (wM cI cZ h g S) := by
  refine MetI_of (cc := cX6_tables) (maxL := 2) (ret := (some .int)) (by decide) rfl (Nat.le_of_ble_eq_true rfl) ?_
  intro p e s m below meth c A ls hx hb hr hml hts hown hlocks hin hK hP hD hA hE hl
  have hown : s.vm.findClass RX6 = some m.cls := hown
  have hl : lv_has ls 2 [(0, .ref h), (1, .int p1)] := hl
  have hS : va_S A s.heap s.heap [] := va_S.rf
  obtain ⟨σ, hσ⟩ : ∃ σ, (sX6_tables S p1) = σ := ⟨_, rfl⟩
  rw [hσ]
  rw [sX6_tables] at hσ
  refine lv_aload_n hx hb dX6_tables_0 rfl (lv_at hl 0 rfl) ?_
  refine lv_iload_n hx hb dX6_tables_1 rfl (lv_at hl 1 rfl) ?_
  refine lv_iconst (v := 0) hx hb dX6_tables_2 (by decide) ?_
  refine vq_Vi (As := [.int p1, .int 0]) (rest := []) (W2 := (wM cI cZ h g S)) (f := (sX6_tellTables S p1 false)) hx hb hml hown hts hK hP hD hS hA hE hl.1 (cX6_tellTables_c l ev dC dI cI cZ cO h g S p1 false hT hSe) gX6_tables_X6_tellTables rfl hdX6_tellTables (Nat.le_of_ble_eq_true rfl) (Nat.le_of_ble_eq_true rfl) rfl rfl (ci := 6) (qr := 0) rfl rfl rfl [0, 1, 2, 3, 4, 5, 6, 7, 8, 9] [] [0, 1, 2, 3, 4, 5, 6, 7, 8, 9] rfl rfl (by decide) (by decide) (by decide) rfl rfl rfl (Nat.le_of_ble_eq_true rfl) dX6_tables_3 ⟨Nat.zero_le _, Nat.zero_le _⟩ (fun H locs hP hD hS => ?_)
  subst hσ
  exact vq_iret hx hb hr hlocks hK hP hD hS rfl dX6_tables_6
theorem hdX6_which : yX6_which.cls = RX6 ∧ yX6_which.cls ≠ "java/lang/invoke/MethodHandle" ∧ yX6_which.cls ≠ "java/lang/invoke/VarHandle" ∧ (parseMethodDescriptor yX6_which.desc).map (fun d => d.parameters.length) = some 1 := by decide +kernel
set_option maxHeartbeats 4000000 in
set_option maxRecDepth 100000 in
theorem cX6_which_c (l : Launch) (ev : Nat → Nat) (dC : Nat → ClassId) (dI : Nat → Nat → Nat) (cI cZ cO : ClassId) (h : Nat) (g : Nat → Nat) (S : MSt) (p1 : Int32) (hT : LOK S) (hSe : ∃ q : Nat, S.1 1 = nI q ∧ q ≤ 6) : MetI l ev (dC, dI) (tyC cI cZ cO) yX6_which wsX6_which (rmF 10 227) [.ref h, .int p1] (wM cI cZ h g S) (sX6_which S p1) (wM cI cZ h g S) := by
  refine MetI_of (cc := cX6_which) (maxL := 2) (ret := (some .int)) (by decide) rfl (Nat.le_of_ble_eq_true rfl) ?_
  intro p e s m below meth c A ls hx hb hr hml hts hown hlocks hin hK hP hD hA hE hl
  have hown : s.vm.findClass RX6 = some m.cls := hown
  have hl : lv_has ls 2 [(0, .ref h), (1, .int p1)] := hl
  have hS : va_S A s.heap s.heap [] := va_S.rf
  obtain ⟨σ, hσ⟩ : ∃ σ, (sX6_which S p1) = σ := ⟨_, rfl⟩
  rw [hσ]
  rw [sX6_which] at hσ
  refine lv_aload_n hx hb dX6_which_0 rfl (lv_at hl 0 rfl) ?_
  refine lv_iload_n hx hb dX6_which_1 rfl (lv_at hl 1 rfl) ?_
  refine lv_iconst (v := 1) hx hb dX6_which_2 (by decide) ?_
  refine vq_Vi (As := [.int p1, .int 1]) (rest := []) (W2 := (wM cI cZ h g S)) (f := (sX6_tellTables S p1 true)) hx hb hml hown hts hK hP hD hS hA hE hl.1 (cX6_tellTables_c l ev dC dI cI cZ cO h g S p1 true hT hSe) gX6_which_X6_tellTables rfl hdX6_tellTables (Nat.le_of_ble_eq_true rfl) (Nat.le_of_ble_eq_true rfl) rfl rfl (ci := 6) (qr := 0) rfl rfl rfl [0, 1, 2, 3, 4, 5, 6, 7, 8, 9] [] [0, 1, 2, 3, 4, 5, 6, 7, 8, 9] rfl rfl (by decide) (by decide) (by decide) rfl rfl rfl (Nat.le_of_ble_eq_true rfl) dX6_which_3 ⟨Nat.zero_le _, Nat.zero_le _⟩ (fun H locs hP hD hS => ?_)
  subst hσ
  exact vq_iret hx hb hr hlocks hK hP hD hS rfl dX6_which_6
