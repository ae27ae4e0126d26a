theorem hdX6_within : yX6_within.cls ≠ "java/lang/invoke/MethodHandle" ∧ yX6_within.cls ≠ "java/lang/invoke/VarHandle" ∧ (parseMethodDescriptor yX6_within.desc).map (fun d => d.parameters.length) = some 3 := by decide +kernel
set_option maxHeartbeats 4000000 in
set_option maxRecDepth 100000 in
theorem cX6_within_c (l : Launch) (ev : Nat → Nat) (dC : Nat → ClassId) (dI : Nat → Nat → Nat) (cI cZ cO : ClassId) (p1 : Int32) (p2 : Int32) (p3 : Int32) : MetI l ev (dC, dI) (tyC cI cZ cO) yX6_within wsX6_within (rmF 0 0) [.int p1, .int p2, .int p3] ([] : va_W) (bI (sX6_within p1 p2 p3)) ([] : va_W) := by
  refine MetI_of (cc := cX6_within) (maxL := 3) (ret := (some .boolean)) (by decide) rfl (Nat.le_of_ble_eq_true rfl) ?_
  intro p e s m below meth c A ls hx hb hr hml hts hown hlocks hin hK hP hD hA hE hl
  have hown : s.vm.findClass RX6 = some m.cls := hown
  have hl : lv_has ls 3 [(0, .int p1), (1, .int p2), (2, .int p3)] := hl
  have hS : va_S A s.heap s.heap [] := va_S.rf
  obtain ⟨σ, hσ⟩ : ∃ σ, (sX6_within p1 p2 p3) = σ := ⟨_, rfl⟩
  rw [hσ]
  rw [sX6_within] at hσ
  refine lv_iload_n hx hb dX6_within_0 rfl (lv_at hl 0 rfl) ?_
  refine lv_iload_n hx hb dX6_within_1 rfl (lv_at hl 1 rfl) ?_
  refine lv_icmp_lt (tgt := 14) hx hb dX6_within_2 (by decide) (fun c2 => ?_) (fun c2 => ?_)
  · rw [if_pos c2] at hσ
    refine lv_iconst (v := 0) hx hb dX6_within_14 (by decide) ?_
    subst hσ
    exact vq_zret hx hb hr hlocks hK hP hD hS rfl rfl dX6_within_15
  · rw [if_neg c2] at hσ
    refine lv_iload_n hx hb dX6_within_5 rfl (lv_at hl 0 rfl) ?_
    refine lv_iload_n hx hb dX6_within_6 rfl (lv_at hl 2 rfl) ?_
    refine lv_icmp_gt (tgt := 14) hx hb dX6_within_7 (by decide) (fun c7 => ?_) (fun c7 => ?_)
    · rw [if_pos c7] at hσ
      refine lv_iconst (v := 0) hx hb dX6_within_14 (by decide) ?_
      subst hσ
      exact vq_zret hx hb hr hlocks hK hP hD hS rfl rfl dX6_within_15
    · rw [if_neg c7] at hσ
      refine lv_iconst (v := 1) hx hb dX6_within_10 (by decide) ?_
      refine lv_goto (tgt := 15) hx hb dX6_within_11 (by decide) ?_
      subst hσ
      exact vq_zret hx hb hr hlocks hK hP hD hS rfl rfl dX6_within_15
theorem hdX6_has : yX6_has.cls ≠ "java/lang/invoke/MethodHandle" ∧ yX6_has.cls ≠ "java/lang/invoke/VarHandle" ∧ (parseMethodDescriptor yX6_has.desc).map (fun d => d.parameters.length) = some 2 := by decide +kernel
set_option maxHeartbeats 4000000 in
set_option maxRecDepth 100000 in
theorem cX6_has_c (l : Launch) (ev : Nat → Nat) (dC : Nat → ClassId) (dI : Nat → Nat → Nat) (cI cZ cO : ClassId) (p1 : Int32) (p2 : Int32) : MetI l ev (dC, dI) (tyC cI cZ cO) yX6_has wsX6_has (rmF 0 0) [.int p1, .int p2] ([] : va_W) (bI (sX6_has p1 p2)) ([] : va_W) := by
  refine MetI_of (cc := cX6_has) (maxL := 2) (ret := (some .boolean)) (by decide) rfl (Nat.le_of_ble_eq_true rfl) ?_
  intro p e s m below meth c A ls hx hb hr hml hts hown hlocks hin hK hP hD hA hE hl
  have hown : s.vm.findClass RX6 = some m.cls := hown
  have hl : lv_has ls 2 [(0, .int p1), (1, .int p2)] := hl
  have hS : va_S A s.heap s.heap [] := va_S.rf
  obtain ⟨σ, hσ⟩ : ∃ σ, (sX6_has p1 p2) = σ := ⟨_, rfl⟩
  rw [hσ]
  rw [sX6_has] at hσ
  refine lv_iload_n hx hb dX6_has_0 rfl (lv_at hl 0 rfl) ?_
  refine lv_iload_n hx hb dX6_has_1 rfl (lv_at hl 1 rfl) ?_
  refine lv_ishr hx hb dX6_has_2 ?_
  refine lv_iconst (v := 1) hx hb dX6_has_3 (by decide) ?_
  refine lv_iand hx hb dX6_has_4 ?_
  refine lv_iconst (v := 1) hx hb dX6_has_5 (by decide) ?_
  refine lv_icmp_ne (tgt := 13) hx hb dX6_has_6 (by decide) (fun c6 => ?_) (fun c6 => ?_)
  · rw [if_neg c6] at hσ
    refine lv_iconst (v := 0) hx hb dX6_has_13 (by decide) ?_
    subst hσ
    exact vq_zret hx hb hr hlocks hK hP hD hS rfl rfl dX6_has_14
  · rw [if_pos c6] at hσ
    refine lv_iconst (v := 1) hx hb dX6_has_9 (by decide) ?_
    refine lv_goto (tgt := 14) hx hb dX6_has_10 (by decide) ?_
    subst hσ
    exact vq_zret hx hb hr hlocks hK hP hD hS rfl rfl dX6_has_14
theorem hdX6_least : yX6_least.cls ≠ "java/lang/invoke/MethodHandle" ∧ yX6_least.cls ≠ "java/lang/invoke/VarHandle" ∧ (parseMethodDescriptor yX6_least.desc).map (fun d => d.parameters.length) = some 1 := by decide +kernel
set_option maxHeartbeats 4000000 in
set_option maxRecDepth 100000 in
theorem cX6_least_c (l : Launch) (ev : Nat → Nat) (dC : Nat → ClassId) (dI : Nat → Nat → Nat) (cI cZ cO : ClassId) (p1 : Int32) : MetI l ev (dC, dI) (tyC cI cZ cO) yX6_least wsX6_least (rmF 0 0) [.int p1] ([] : va_W) (sX6_least p1) ([] : va_W) := by
  refine MetI_of (cc := cX6_least) (maxL := 1) (ret := (some .int)) (by decide) rfl (Nat.le_of_ble_eq_true rfl) ?_
  intro p e s m below meth c A ls hx hb hr hml hts hown hlocks hin hK hP hD hA hE hl
  have hown : s.vm.findClass RX6 = some m.cls := hown
  have hl : lv_has ls 1 [(0, .int p1)] := hl
  have hS : va_S A s.heap s.heap [] := va_S.rf
  obtain ⟨σ, hσ⟩ : ∃ σ, (sX6_least p1) = σ := ⟨_, rfl⟩
  rw [hσ]
  rw [sX6_least] at hσ
  refine lv_iload_n hx hb dX6_least_0 rfl (lv_at hl 0 rfl) ?_
  refine lv_iconst (v := 1) hx hb dX6_least_1 (by decide) ?_
  refine lv_icmp_ne (tgt := 9) hx hb dX6_least_2 (by decide) (fun c2 => ?_) (fun c2 => ?_)
  · rw [if_neg c2] at hσ
    refine lv_iload_n hx hb dX6_least_9 rfl (lv_at hl 0 rfl) ?_
    refine lv_iconst (v := 2) hx hb dX6_least_10 (by decide) ?_
    refine lv_icmp_ne (tgt := 18) hx hb dX6_least_11 (by decide) (fun c11 => ?_) (fun c11 => ?_)
    · rw [if_neg c11] at hσ
      refine lv_iconst (v := 2) hx hb dX6_least_18 (by decide) ?_
      subst hσ
      exact vq_iret hx hb hr hlocks hK hP hD hS rfl dX6_least_19
    · rw [if_pos c11] at hσ
      refine lv_iconst (v := 0) hx hb dX6_least_14 (by decide) ?_
      refine lv_goto (tgt := 19) hx hb dX6_least_15 (by decide) ?_
      subst hσ
      exact vq_iret hx hb hr hlocks hK hP hD hS rfl dX6_least_19
  · rw [if_pos c2] at hσ
    refine lv_iconst (v := 1) hx hb dX6_least_5 (by decide) ?_
    refine lv_goto (tgt := 19) hx hb dX6_least_6 (by decide) ?_
    subst hσ
    exact vq_iret hx hb hr hlocks hK hP hD hS rfl dX6_least_19
theorem hdX6_greatest : yX6_greatest.cls ≠ "java/lang/invoke/MethodHandle" ∧ yX6_greatest.cls ≠ "java/lang/invoke/VarHandle" ∧ (parseMethodDescriptor yX6_greatest.desc).map (fun d => d.parameters.length) = some 1 := by decide +kernel
set_option maxHeartbeats 4000000 in
set_option maxRecDepth 100000 in
theorem cX6_greatest_c (l : Launch) (ev : Nat → Nat) (dC : Nat → ClassId) (dI : Nat → Nat → Nat) (cI cZ cO : ClassId) (p1 : Int32) : MetI l ev (dC, dI) (tyC cI cZ cO) yX6_greatest wsX6_greatest (rmF 0 0) [.int p1] ([] : va_W) (sX6_greatest p1) ([] : va_W) := by
  refine MetI_of (cc := cX6_greatest) (maxL := 1) (ret := (some .int)) (by decide) rfl (Nat.le_of_ble_eq_true rfl) ?_
  intro p e s m below meth c A ls hx hb hr hml hts hown hlocks hin hK hP hD hA hE hl
  have hown : s.vm.findClass RX6 = some m.cls := hown
  have hl : lv_has ls 1 [(0, .int p1)] := hl
  have hS : va_S A s.heap s.heap [] := va_S.rf
  obtain ⟨σ, hσ⟩ : ∃ σ, (sX6_greatest p1) = σ := ⟨_, rfl⟩
  rw [hσ]
  rw [sX6_greatest] at hσ
  refine lv_iload_n hx hb dX6_greatest_0 rfl (lv_at hl 0 rfl) ?_
  refine lv_iconst (v := 1) hx hb dX6_greatest_1 (by decide) ?_
  refine lv_icmp_ne (tgt := 9) hx hb dX6_greatest_2 (by decide) (fun c2 => ?_) (fun c2 => ?_)
  · rw [if_neg c2] at hσ
    refine lv_bipush (v := 6) hx hb dX6_greatest_9 (by decide) ?_
    subst hσ
    exact vq_iret hx hb hr hlocks hK hP hD hS rfl dX6_greatest_11
  · rw [if_pos c2] at hσ
    refine lv_iconst (v := 5) hx hb dX6_greatest_5 (by decide) ?_
    refine lv_goto (tgt := 11) hx hb dX6_greatest_6 (by decide) ?_
    subst hσ
    exact vq_iret hx hb hr hlocks hK hP hD hS rfl dX6_greatest_11
theorem hdX6_isHand : yX6_isHand.cls ≠ "java/lang/invoke/MethodHandle" ∧ yX6_isHand.cls ≠ "java/lang/invoke/VarHandle" ∧ (parseMethodDescriptor yX6_isHand.desc).map (fun d => d.parameters.length) = some 1 := by decide +kernel
set_option maxHeartbeats 4000000 in
set_option maxRecDepth 100000 in
theorem cX6_isHand_c (l : Launch) (ev : Nat → Nat) (dC : Nat → ClassId) (dI : Nat → Nat → Nat) (cI cZ cO : ClassId) (p1 : Int32) : MetI l ev (dC, dI) (tyC cI cZ cO) yX6_isHand wsX6_isHand (rmF 0 0) [.int p1] ([] : va_W) (bI (sX6_isHand p1)) ([] : va_W) := by
  refine MetI_of (cc := cX6_isHand) (maxL := 1) (ret := (some .boolean)) (by decide) rfl (Nat.le_of_ble_eq_true rfl) ?_
  intro p e s m below meth c A ls hx hb hr hml hts hown hlocks hin hK hP hD hA hE hl
  have hown : s.vm.findClass RX6 = some m.cls := hown
  have hl : lv_has ls 1 [(0, .int p1)] := hl
  have hS : va_S A s.heap s.heap [] := va_S.rf
  obtain ⟨σ, hσ⟩ : ∃ σ, (sX6_isHand p1) = σ := ⟨_, rfl⟩
  rw [hσ]
  rw [sX6_isHand] at hσ
  refine lv_iload_n hx hb dX6_isHand_0 rfl (lv_at hl 0 rfl) ?_
  refine lv_if_eq (tgt := 9) hx hb dX6_isHand_1 (by decide) (fun c1 => ?_) (fun c1 => ?_)
  · rw [if_pos c1] at hσ
    refine lv_iconst (v := 1) hx hb dX6_isHand_9 (by decide) ?_
    refine lv_goto (tgt := 14) hx hb dX6_isHand_10 (by decide) ?_
    subst hσ
    exact vq_zret hx hb hr hlocks hK hP hD hS rfl rfl dX6_isHand_14
  · rw [if_neg c1] at hσ
    refine lv_iload_n hx hb dX6_isHand_4 rfl (lv_at hl 0 rfl) ?_
    refine lv_iconst (v := 1) hx hb dX6_isHand_5 (by decide) ?_
    refine lv_icmp_ne (tgt := 13) hx hb dX6_isHand_6 (by decide) (fun c6 => ?_) (fun c6 => ?_)
    · rw [if_neg c6] at hσ
      refine lv_iconst (v := 0) hx hb dX6_isHand_13 (by decide) ?_
      subst hσ
      exact vq_zret hx hb hr hlocks hK hP hD hS rfl rfl dX6_isHand_14
    · rw [if_pos c6] at hσ
      refine lv_iconst (v := 1) hx hb dX6_isHand_9 (by decide) ?_
      refine lv_goto (tgt := 14) hx hb dX6_isHand_10 (by decide) ?_
      subst hσ
      exact vq_zret hx hb hr hlocks hK hP hD hS rfl rfl dX6_isHand_14
theorem hdX6_off : yX6_off.cls ≠ "java/lang/invoke/MethodHandle" ∧ yX6_off.cls ≠ "java/lang/invoke/VarHandle" ∧ (parseMethodDescriptor yX6_off.desc).map (fun d => d.parameters.length) = some 1 := by decide +kernel
set_option maxHeartbeats 4000000 in
set_option maxRecDepth 100000 in
theorem cX6_off_c (l : Launch) (ev : Nat → Nat) (dC : Nat → ClassId) (dI : Nat → Nat → Nat) (cI cZ cO : ClassId) (p1 : Int32) : MetI l ev (dC, dI) (tyC cI cZ cO) yX6_off wsX6_off (rmF 0 0) [.int p1] ([] : va_W) (sX6_off p1) ([] : va_W) := by
  refine MetI_of (cc := cX6_off) (maxL := 1) (ret := (some .int)) (by decide) rfl (Nat.le_of_ble_eq_true rfl) ?_
  intro p e s m below meth c A ls hx hb hr hml hts hown hlocks hin hK hP hD hA hE hl
  have hown : s.vm.findClass RX6 = some m.cls := hown
  have hl : lv_has ls 1 [(0, .int p1)] := hl
  have hS : va_S A s.heap s.heap [] := va_S.rf
  obtain ⟨σ, hσ⟩ : ∃ σ, (sX6_off p1) = σ := ⟨_, rfl⟩
  rw [hσ]
  rw [sX6_off] at hσ
  refine lv_iload_n hx hb dX6_off_0 rfl (lv_at hl 0 rfl) ?_
  refine lv_if_ge (tgt := 9) hx hb dX6_off_1 (by decide) (fun c1 => ?_) (fun c1 => ?_)
  · rw [if_pos c1] at hσ
    refine lv_iload_n hx hb dX6_off_9 rfl (lv_at hl 0 rfl) ?_
    subst hσ
    exact vq_iret hx hb hr hlocks hK hP hD hS rfl dX6_off_10
  · rw [if_neg c1] at hσ
    refine lv_iload_n hx hb dX6_off_4 rfl (lv_at hl 0 rfl) ?_
    refine lv_ineg hx hb dX6_off_5 ?_
    refine lv_goto (tgt := 10) hx hb dX6_off_6 (by decide) ?_
    subst hσ
    exact vq_iret hx hb hr hlocks hK hP hD hS rfl dX6_off_10
theorem hdX6_ones : yX6_ones.cls ≠ "java/lang/invoke/MethodHandle" ∧ yX6_ones.cls ≠ "java/lang/invoke/VarHandle" ∧ (parseMethodDescriptor yX6_ones.desc).map (fun d => d.parameters.length) = some 1 := by decide +kernel
set_option maxHeartbeats 4000000 in
set_option maxRecDepth 100000 in
theorem cX6_ones_c (l : Launch) (ev : Nat → Nat) (dC : Nat → ClassId) (dI : Nat → Nat → Nat) (cI cZ cO : ClassId) (p1 : Int32) : MetI l ev (dC, dI) (tyC cI cZ cO) yX6_ones wsX6_ones (rmF 0 0) [.int p1] ([] : va_W) (sX6_ones p1) ([] : va_W) := by
  refine MetI_of (cc := cX6_ones) (maxL := 3) (ret := (some .int)) (by decide) rfl (Nat.le_of_ble_eq_true rfl) ?_
  intro p e s m below meth c A ls hx hb hr hml hts hown hlocks hin hK hP hD hA hE hl
  have hown : s.vm.findClass RX6 = some m.cls := hown
  have hl : lv_has ls 3 [(0, .int p1)] := hl
  have hS : va_S A s.heap s.heap [] := va_S.rf
  obtain ⟨σ, hσ⟩ : ∃ σ, (sX6_ones p1) = σ := ⟨_, rfl⟩
  rw [hσ]
  rw [sX6_ones] at hσ
  refine lv_iconst (v := 0) hx hb dX6_ones_0 (by decide) ?_
  refine lv_istore_n (lv' := [(1, .int 0), (0, .int p1)]) hx hb dX6_ones_1 rfl hl (by decide) rfl (fun ls hl => ?_)
  refine lv_iconst (v := 0) hx hb dX6_ones_2 (by decide) ?_
  refine lv_istore_n (lv' := [(2, .int 0), (1, .int 0), (0, .int p1)]) hx hb dX6_ones_3 rfl hl (by decide) rfl (fun ls hl => ?_)
  have key4 : ∀ (n4 : Nat) (x1_4 : Int32) (x2_4 : Int32)  (k4 : Nat), (x2_4 = nI k4) → (k4 ≤ 12) → (12 + 1 ≤ n4 + k4) → (sX6_ones_L4 p1 n4 x1_4 x2_4) = σ → ∀ (H : Heap) (locs : List Loc) (ls : Array Slot), va_P (dC, dI) vwCl ([] : va_W) H → va_D A ([] : va_W) → va_S A s.heap H locs → lv_has ls 3 [(0, .int p1), (1, .int x1_4), (2, .int x2_4)] → W p l e (headSpec wsX6_ones (rmF 0 0)).room s m ([.int p1] : List Value).toArray below meth c H locs 0 0 (MQ below (va_Qi (fun (x : Int32) (_ : Unit) => x = σ) (fun _ t => PoW (dC, dI) (tyC cI cZ cO) A ([] : va_W) t) A) ([.int p1] : List Value).toArray s 0 0 A) (F0 m 4 ls []) := by
    intro n4
    induction n4 with
    | zero =>
      intro x1_4 x2_4 k4 e4 hk4 hn4
      exact absurd hn4 (by omega)
    | succ n4 ih4 =>
      intro x1_4 x2_4 k4 e4 hk4 hn4 hσ H locs ls hP hD hS hl
      rw [sX6_ones_L4_s] at hσ
      refine lv_iload_n hx hb dX6_ones_4 rfl (lv_at hl 2 rfl) ?_
      refine lv_bipush (v := 12) hx hb dX6_ones_5 (by decide) ?_
      refine lv_icmp_ge (tgt := 24) hx hb dX6_ones_7 (by decide) (fun c7 => ?_) (fun c7 => ?_)
      · rw [if_pos c7] at hσ
        refine lv_iload_n hx hb dX6_ones_24 rfl (lv_at hl 1 rfl) ?_
        subst hσ
        exact vq_iret hx hb hr hlocks hK hP hD hS rfl dX6_ones_25
      · rw [if_neg c7] at hσ
        refine lv_iload_n hx hb dX6_ones_10 rfl (lv_at hl 1 rfl) ?_
        refine lv_iload_n hx hb dX6_ones_11 rfl (lv_at hl 0 rfl) ?_
        refine lv_iload_n hx hb dX6_ones_12 rfl (lv_at hl 2 rfl) ?_
        refine lv_ishr hx hb dX6_ones_13 ?_
        refine lv_iconst (v := 1) hx hb dX6_ones_14 (by decide) ?_
        refine lv_iand hx hb dX6_ones_15 ?_
        refine lv_iadd hx hb dX6_ones_16 ?_
        refine lv_istore_n (lv' := [(1, .int (x1_4 + ((p1 >>> (x2_4 &&& 31)) &&& 1))), (0, .int p1), (2, .int x2_4)]) hx hb dX6_ones_17 rfl hl (by decide) rfl (fun ls hl => ?_)
        refine lv_iinc (v := (x2_4 + 1)) (lv' := [(2, .int (x2_4 + 1)), (1, .int (x1_4 + ((p1 >>> (x2_4 &&& 31)) &&& 1))), (0, .int p1)]) hx hb dX6_ones_18 hl (k := 2) rfl rfl (by decide) rfl (fun ls hl => ?_)
        refine lv_goto (tgt := 4) hx hb dX6_ones_21 (by decide) ?_
        exact ih4 (x1_4 + ((p1 >>> (x2_4 &&& 31)) &&& 1)) (x2_4 + 1) (k4 + 1) (up_s e4) (by have := up_lt e4 (show (12 : Int32) = nI 12 from rfl) (by omega) c7; omega) (by omega) hσ _ _ _ hP hD hS (lv_sub hl [2, 1, 0] rfl)
  exact key4 13 (0 : Int32) (0 : Int32) 0 nI_0.symm (Nat.zero_le _) (Nat.le_refl _) hσ _ _ _ hP hD hS (lv_sub hl [2, 1, 0] rfl)
theorem hdX6_isTick : yX6_isTick.cls = RX6 ∧ yX6_isTick.cls ≠ "java/lang/invoke/MethodHandle" ∧ yX6_isTick.cls ≠ "java/lang/invoke/VarHandle" ∧ (parseMethodDescriptor yX6_isTick.desc).map (fun d => d.parameters.length) = some 1 := by decide +kernel
set_option maxHeartbeats 4000000 in
set_option maxRecDepth 100000 in
theorem cX6_isTick_c (l : Launch) (ev : Nat → Nat) (dC : Nat → ClassId) (dI : Nat → Nat → Nat) (cI cZ cO : ClassId) (h : Nat) (g : Nat → Nat) (S : MSt) (p1 : Int32) : MetI l ev (dC, dI) (tyC cI cZ cO) yX6_isTick wsX6_isTick (rmF 1 22) [.ref h, .int p1] (wM cI cZ h g S) (bI (sX6_isTick S p1)) (wM cI cZ h g S) := by
  refine MetI_of (cc := cX6_isTick) (maxL := 2) (ret := (some .boolean)) (by decide) rfl (Nat.le_of_ble_eq_true rfl) ?_
  intro p e s m below meth c A ls hx hb hr hml hts hown hlocks hin hK hP hD hA hE hl
  have hown : s.vm.findClass RX6 = some m.cls := hown
  have hl : lv_has ls 2 [(0, .ref h), (1, .int p1)] := hl
  have hS : va_S A s.heap s.heap [] := va_S.rf
  obtain ⟨σ, hσ⟩ : ∃ σ, (sX6_isTick S p1) = σ := ⟨_, rfl⟩
  rw [hσ]
  rw [sX6_isTick] at hσ
  refine lv_iload_n hx hb dX6_isTick_0 rfl (lv_at hl 1 rfl) ?_
  refine lv_iconst (v := 0) hx hb dX6_isTick_1 (by decide) ?_
  refine lv_aload_n hx hb dX6_isTick_2 rfl (lv_at hl 0 rfl) ?_
  refine va_get (D := (dC, dI)) (ci := 6) (v := .ref (g 0)) (C := RX6) (T := TX6) (N := 15) hx hb hts (fun _ h => List.mem_cons_of_mem _ (List.mem_append_right _ h)) hown hK hP 0 rfl rfl 0 (by decide) (hts (.fieldLink RX6 7 "SharedLineModel" "now" "[I") (List.mem_of_getElem? (i := 1) rfl)) (fun _ h9 => h9) rfl dX6_isTick_3 ?_
  refine lv_iconst (v := 0) hx hb dX6_isTick_6 (by decide) ?_
  refine vq_ialdK (k := 0) hx hb hK hP 1 0 rfl rfl (by decide) (by decide) (by decide) dX6_isTick_7 ?_
  refine lv_iconst (v := 1) hx hb dX6_isTick_8 (by decide) ?_
  refine lv_isub hx hb dX6_isTick_9 ?_
  refine vq_Si (As := [.int p1, .int 0, .int (((S.2 0) 0) - 1)]) (rest := []) (W2 := (wM cI cZ h g S)) (f := (bI (sX6_within p1 (0 : Int32) (((S.2 0) 0) - 1)))) hx hb hml hown hts hK hP hD hS hA hE hl.1 (cX6_within_c l ev dC dI cI cZ cO p1 (0 : Int32) (((S.2 0) 0) - 1)) gX6_isTick_X6_within rfl hdX6_within (Nat.le_of_ble_eq_true rfl) (Nat.le_of_ble_eq_true rfl) rfl rfl [] [0, 1, 2, 3, 4, 5, 6, 7, 8, 9] [0, 1, 2, 3, 4, 5, 6, 7, 8, 9] rfl rfl (by decide) (by decide) (by decide) rfl rfl rfl (Nat.le_of_ble_eq_true rfl) dX6_isTick_10 ⟨Nat.zero_le _, Nat.zero_le _⟩ (fun H locs hP hD hS => ?_)
  subst hσ
  exact vq_zret hx hb hr hlocks hK hP hD hS (nar_bI _) rfl dX6_isTick_13
theorem hdX6_isNote : yX6_isNote.cls = RX6 ∧ yX6_isNote.cls ≠ "java/lang/invoke/MethodHandle" ∧ yX6_isNote.cls ≠ "java/lang/invoke/VarHandle" ∧ (parseMethodDescriptor yX6_isNote.desc).map (fun d => d.parameters.length) = some 1 := by decide +kernel
set_option maxHeartbeats 4000000 in
set_option maxRecDepth 100000 in
theorem cX6_isNote_c (l : Launch) (ev : Nat → Nat) (dC : Nat → ClassId) (dI : Nat → Nat → Nat) (cI cZ cO : ClassId) (h : Nat) (g : Nat → Nat) (S : MSt) (p1 : Int32) (hT : LOK S) : MetI l ev (dC, dI) (tyC cI cZ cO) yX6_isNote wsX6_isNote (rmF 2 43) [.ref h, .int p1] (wM cI cZ h g S) (bI (sX6_isNote S p1)) (wM cI cZ h g S) := by
  refine MetI_of (cc := cX6_isNote) (maxL := 2) (ret := (some .boolean)) (by decide) rfl (Nat.le_of_ble_eq_true rfl) ?_
  intro p e s m below meth c A ls hx hb hr hml hts hown hlocks hin hK hP hD hA hE hl
  have hown : s.vm.findClass RX6 = some m.cls := hown
  have hl : lv_has ls 2 [(0, .ref h), (1, .int p1)] := hl
  have hS : va_S A s.heap s.heap [] := va_S.rf
  obtain ⟨σ, hσ⟩ : ∃ σ, (sX6_isNote S p1) = σ := ⟨_, rfl⟩
  rw [hσ]
  rw [sX6_isNote] at hσ
  refine lv_aload_n hx hb dX6_isNote_0 rfl (lv_at hl 0 rfl) ?_
  refine lv_iload_n hx hb dX6_isNote_1 rfl (lv_at hl 1 rfl) ?_
  refine vq_Vi (As := [.int p1]) (rest := []) (W2 := (wM cI cZ h g S)) (f := (bI (sX6_isTick S p1))) hx hb hml hown hts hK hP hD hS hA hE hl.1 (cX6_isTick_c l ev dC dI cI cZ cO h g S p1) gX6_isNote_X6_isTick rfl hdX6_isTick (Nat.le_of_ble_eq_true rfl) (Nat.le_of_ble_eq_true rfl) rfl rfl (ci := 6) (qr := 0) rfl rfl rfl [0, 1, 2, 3, 4, 5, 6, 7, 8, 9] [] [0, 1, 2, 3, 4, 5, 6, 7, 8, 9] rfl rfl (by decide) (by decide) (by decide) rfl rfl rfl (Nat.le_of_ble_eq_true rfl) dX6_isNote_2 ⟨Nat.zero_le _, Nat.zero_le _⟩ (fun H locs hP hD hS => ?_)
  refine lv_if_eqB (tgt := 23) hx hb dX6_isNote_5 (by decide) (fun c5 => ?_) (fun c5 => ?_)
  · rw [if_neg (Bool.eq_false_iff.mp c5)] at hσ
    refine lv_iconst (v := 0) hx hb dX6_isNote_23 (by decide) ?_
    subst hσ
    exact vq_zret hx hb hr hlocks hK hP hD hS rfl rfl dX6_isNote_24
  · rw [if_pos c5] at hσ
    refine lv_aload_n hx hb dX6_isNote_8 rfl (lv_at hl 0 rfl) ?_
    refine va_get (D := (dC, dI)) (ci := 6) (v := .ref (g 0)) (C := RX6) (T := TX6) (N := 15) hx hb hts (fun _ h => List.mem_cons_of_mem _ (List.mem_append_right _ h)) hown hK hP 0 rfl rfl 0 (by decide) (hts (.fieldLink RX6 7 "SharedLineModel" "now" "[I") (List.mem_of_getElem? (i := 1) rfl)) (fun _ h9 => h9) rfl dX6_isNote_9 ?_
    refine lv_iconst (v := 4) hx hb dX6_isNote_12 (by decide) ?_
    refine lv_iload_n hx hb dX6_isNote_13 rfl (lv_at hl 1 rfl) ?_
    refine lv_iadd hx hb dX6_isNote_14 ?_
    refine va_iald hx hb hK hP 1 0 rfl rfl (i := ((4 : Int32) + p1)) (tick_ix hT c5) dX6_isNote_15 ?_
    refine lv_if_le (tgt := 23) hx hb dX6_isNote_16 (by decide) (fun c16 => ?_) (fun c16 => ?_)
    · rw [if_pos c16] at hσ
      refine lv_iconst (v := 0) hx hb dX6_isNote_23 (by decide) ?_
      subst hσ
      exact vq_zret hx hb hr hlocks hK hP hD hS rfl rfl dX6_isNote_24
    · rw [if_neg c16] at hσ
      refine lv_iconst (v := 1) hx hb dX6_isNote_19 (by decide) ?_
      refine lv_goto (tgt := 24) hx hb dX6_isNote_20 (by decide) ?_
      subst hσ
      exact vq_zret hx hb hr hlocks hK hP hD hS rfl rfl dX6_isNote_24
theorem hdX6_notes : yX6_notes.cls = RX6 ∧ yX6_notes.cls ≠ "java/lang/invoke/MethodHandle" ∧ yX6_notes.cls ≠ "java/lang/invoke/VarHandle" ∧ (parseMethodDescriptor yX6_notes.desc).map (fun d => d.parameters.length) = some 0 := by decide +kernel
set_option maxHeartbeats 4000000 in
set_option maxRecDepth 100000 in
theorem cX6_notes_c (l : Launch) (ev : Nat → Nat) (dC : Nat → ClassId) (dI : Nat → Nat → Nat) (cI cZ cO : ClassId) (h : Nat) (g : Nat → Nat) (S : MSt) (hT : LOK S) : MetI l ev (dC, dI) (tyC cI cZ cO) yX6_notes wsX6_notes (rmF 3 64) [.ref h] (wM cI cZ h g S) (sX6_notes S) (wM cI cZ h g S) := by
  refine MetI_of (cc := cX6_notes) (maxL := 3) (ret := (some .int)) (by decide) rfl (Nat.le_of_ble_eq_true rfl) ?_
  intro p e s m below meth c A ls hx hb hr hml hts hown hlocks hin hK hP hD hA hE hl
  have hown : s.vm.findClass RX6 = some m.cls := hown
  have hl : lv_has ls 3 [(0, .ref h)] := hl
  have hS : va_S A s.heap s.heap [] := va_S.rf
  obtain ⟨σ, hσ⟩ : ∃ σ, (sX6_notes S) = σ := ⟨_, rfl⟩
  rw [hσ]
  rw [sX6_notes] at hσ
  obtain ⟨T, eT, hT1, hT2⟩ := id hT
  refine lv_iconst (v := 0) hx hb dX6_notes_0 (by decide) ?_
  refine lv_istore_n (lv' := [(1, .int 0), (0, .ref h)]) hx hb dX6_notes_1 rfl hl (by decide) rfl (fun ls hl => ?_)
  refine lv_iconst (v := 0) hx hb dX6_notes_2 (by decide) ?_
  refine lv_istore_n (lv' := [(2, .int 0), (1, .int 0), (0, .ref h)]) hx hb dX6_notes_3 rfl hl (by decide) rfl (fun ls hl => ?_)
  have key4 : ∀ (n4 : Nat) (x1_4 : Int32) (x2_4 : Int32)  (k4 : Nat), (x2_4 = nI k4) → (k4 ≤ 12) → (12 + 1 ≤ n4 + k4) → (sX6_notes_L4 S n4 x1_4 x2_4) = σ → ∀ (H : Heap) (locs : List Loc) (ls : Array Slot), va_P (dC, dI) vwCl (wM cI cZ h g S) H → va_D A (wM cI cZ h g S) → va_S A s.heap H locs → lv_has ls 3 [(0, .ref h), (1, .int x1_4), (2, .int x2_4)] → W p l e (headSpec wsX6_notes (rmF 3 64)).room s m ([.ref h] : List Value).toArray below meth c H locs 0 0 (MQ below (va_Qi (fun (x : Int32) (_ : Unit) => x = σ) (fun _ t => PoW (dC, dI) (tyC cI cZ cO) A (wM cI cZ h g S) t) A) ([.ref h] : List Value).toArray s 0 0 A) (F0 m 4 ls []) := by
    intro n4
    induction n4 with
    | zero =>
      intro x1_4 x2_4 k4 e4 hk4 hn4
      exact absurd hn4 (by omega)
    | succ n4 ih4 =>
      intro x1_4 x2_4 k4 e4 hk4 hn4 hσ H locs ls hP hD hS hl
      rw [sX6_notes_L4_s] at hσ
      refine lv_iload_n hx hb dX6_notes_4 rfl (lv_at hl 2 rfl) ?_
      refine lv_aload_n hx hb dX6_notes_5 rfl (lv_at hl 0 rfl) ?_
      refine va_get (D := (dC, dI)) (ci := 6) (v := .ref (g 0)) (C := RX6) (T := TX6) (N := 15) hx hb hts (fun _ h => List.mem_cons_of_mem _ (List.mem_append_right _ h)) hown hK hP 0 rfl rfl 0 (by decide) (hts (.fieldLink RX6 7 "SharedLineModel" "now" "[I") (List.mem_of_getElem? (i := 1) rfl)) (fun _ h9 => h9) rfl dX6_notes_6 ?_
      refine lv_iconst (v := 0) hx hb dX6_notes_9 (by decide) ?_
      refine vq_ialdK (k := 0) hx hb hK hP 1 0 rfl rfl (by decide) (by decide) (by decide) dX6_notes_10 ?_
      refine lv_icmp_ge (tgt := 36) hx hb dX6_notes_11 (by decide) (fun c11 => ?_) (fun c11 => ?_)
      · rw [if_pos c11] at hσ
        refine lv_iload_n hx hb dX6_notes_36 rfl (lv_at hl 1 rfl) ?_
        subst hσ
        exact vq_iret hx hb hr hlocks hK hP hD hS rfl dX6_notes_37
      · rw [if_neg c11] at hσ
        refine lv_iload_n hx hb dX6_notes_14 rfl (lv_at hl 1 rfl) ?_
        refine lv_aload_n hx hb dX6_notes_15 rfl (lv_at hl 0 rfl) ?_
        refine lv_iload_n hx hb dX6_notes_16 rfl (lv_at hl 2 rfl) ?_
        refine vq_Vi (As := [.int x2_4]) (rest := [.int x1_4]) (W2 := (wM cI cZ h g S)) (f := (bI (sX6_isNote S x2_4))) hx hb hml hown hts hK hP hD hS hA hE hl.1 (cX6_isNote_c l ev dC dI cI cZ cO h g S x2_4 hT) gX6_notes_X6_isNote rfl hdX6_isNote (Nat.le_of_ble_eq_true rfl) (Nat.le_of_ble_eq_true rfl) rfl rfl (ci := 6) (qr := 0) rfl rfl rfl [0, 1, 2, 3, 4, 5, 6, 7, 8, 9] [] [0, 1, 2, 3, 4, 5, 6, 7, 8, 9] rfl rfl (by decide) (by decide) (by decide) rfl rfl rfl (Nat.le_of_ble_eq_true rfl) dX6_notes_17 ⟨Nat.zero_le _, Nat.zero_le _⟩ (fun H locs hP hD hS => ?_)
        refine lv_if_eqB (tgt := 27) hx hb dX6_notes_20 (by decide) (fun c20 => ?_) (fun c20 => ?_)
        · rw [if_neg (Bool.eq_false_iff.mp c20)] at hσ
          refine lv_iconst (v := 0) hx hb dX6_notes_27 (by decide) ?_
          refine lv_iadd hx hb dX6_notes_28 ?_
          refine lv_istore_n (lv' := [(1, .int (x1_4 + 0)), (0, .ref h), (2, .int x2_4)]) hx hb dX6_notes_29 rfl hl (by decide) rfl (fun ls hl => ?_)
          refine lv_iinc (v := (x2_4 + 1)) (lv' := [(2, .int (x2_4 + 1)), (1, .int (x1_4 + 0)), (0, .ref h)]) hx hb dX6_notes_30 hl (k := 2) rfl rfl (by decide) rfl (fun ls hl => ?_)
          refine lv_goto (tgt := 4) hx hb dX6_notes_33 (by decide) ?_
          exact ih4 (x1_4 + 0) (x2_4 + 1) (k4 + 1) (up_s e4) (by have := up_lt e4 eT (by omega) c11; omega) (by omega) hσ _ _ _ hP hD hS (lv_sub hl [2, 1, 0] rfl)
        · rw [if_pos c20] at hσ
          refine lv_iconst (v := 1) hx hb dX6_notes_23 (by decide) ?_
          refine lv_goto (tgt := 28) hx hb dX6_notes_24 (by decide) ?_
          refine lv_iadd hx hb dX6_notes_28 ?_
          refine lv_istore_n (lv' := [(1, .int (x1_4 + 1)), (0, .ref h), (2, .int x2_4)]) hx hb dX6_notes_29 rfl hl (by decide) rfl (fun ls hl => ?_)
          refine lv_iinc (v := (x2_4 + 1)) (lv' := [(2, .int (x2_4 + 1)), (1, .int (x1_4 + 1)), (0, .ref h)]) hx hb dX6_notes_30 hl (k := 2) rfl rfl (by decide) rfl (fun ls hl => ?_)
          refine lv_goto (tgt := 4) hx hb dX6_notes_33 (by decide) ?_
          exact ih4 (x1_4 + 1) (x2_4 + 1) (k4 + 1) (up_s e4) (by have := up_lt e4 eT (by omega) c11; omega) (by omega) hσ _ _ _ hP hD hS (lv_sub hl [2, 1, 0] rfl)
  exact key4 13 (0 : Int32) (0 : Int32) 0 nI_0.symm (Nat.zero_le _) (Nat.le_refl _) hσ _ _ _ hP hD hS (lv_sub hl [2, 1, 0] rfl)
theorem hdX6_nextOf : yX6_nextOf.cls = RX6 ∧ yX6_nextOf.cls ≠ "java/lang/invoke/MethodHandle" ∧ yX6_nextOf.cls ≠ "java/lang/invoke/VarHandle" ∧ (parseMethodDescriptor yX6_nextOf.desc).map (fun d => d.parameters.length) = some 2 := by decide +kernel
set_option maxHeartbeats 4000000 in
set_option maxRecDepth 100000 in
theorem cX6_nextOf_c (l : Launch) (ev : Nat → Nat) (dC : Nat → ClassId) (dI : Nat → Nat → Nat) (cI cZ cO : ClassId) (h : Nat) (g : Nat → Nat) (S : MSt) (p1 : Int32) (p2 : Int32) (hT : LOK S) (hp : ∃ j : Nat, p2 = nI j ∧ j < 12) : MetI l ev (dC, dI) (tyC cI cZ cO) yX6_nextOf wsX6_nextOf (rmF 3 64) [.ref h, .int p1, .int p2] (wM cI cZ h g S) (sX6_nextOf S p1 p2) (wM cI cZ h g S) := by
  refine MetI_of (cc := cX6_nextOf) (maxL := 4) (ret := (some .int)) (by decide) rfl (Nat.le_of_ble_eq_true rfl) ?_
  intro p e s m below meth c A ls hx hb hr hml hts hown hlocks hin hK hP hD hA hE hl
  have hown : s.vm.findClass RX6 = some m.cls := hown
  have hl : lv_has ls 4 [(0, .ref h), (1, .int p1), (2, .int p2)] := hl
  have hS : va_S A s.heap s.heap [] := va_S.rf
  obtain ⟨σ, hσ⟩ : ∃ σ, (sX6_nextOf S p1 p2) = σ := ⟨_, rfl⟩
  rw [hσ]
  rw [sX6_nextOf] at hσ
  obtain ⟨T, eT, hT1, hT2⟩ := id hT
  obtain ⟨j, ej, hj⟩ := hp
  refine lv_iload_n hx hb dX6_nextOf_0 rfl (lv_at hl 2 rfl) ?_
  refine lv_iconst (v := 1) hx hb dX6_nextOf_1 (by decide) ?_
  refine lv_iadd hx hb dX6_nextOf_2 ?_
  refine lv_istore_n (lv' := [(3, .int (p2 + 1)), (0, .ref h), (1, .int p1), (2, .int p2)]) hx hb dX6_nextOf_3 rfl hl (by decide) rfl (fun ls hl => ?_)
  have key4 : ∀ (n4 : Nat) (x3_4 : Int32)  (k4 : Nat), (x3_4 = nI k4) → (k4 ≤ 12) → (12 + 1 ≤ n4 + k4) → (sX6_nextOf_L4 S p1 p2 n4 x3_4) = σ → ∀ (H : Heap) (locs : List Loc) (ls : Array Slot), va_P (dC, dI) vwCl (wM cI cZ h g S) H → va_D A (wM cI cZ h g S) → va_S A s.heap H locs → lv_has ls 4 [(0, .ref h), (1, .int p1), (2, .int p2), (3, .int x3_4)] → W p l e (headSpec wsX6_nextOf (rmF 3 64)).room s m ([.ref h, .int p1, .int p2] : List Value).toArray below meth c H locs 0 0 (MQ below (va_Qi (fun (x : Int32) (_ : Unit) => x = σ) (fun _ t => PoW (dC, dI) (tyC cI cZ cO) A (wM cI cZ h g S) t) A) ([.ref h, .int p1, .int p2] : List Value).toArray s 0 0 A) (F0 m 4 ls []) := by
    intro n4
    induction n4 with
    | zero =>
      intro x3_4 k4 e4 hk4 hn4
      exact absurd hn4 (by omega)
    | succ n4 ih4 =>
      intro x3_4 k4 e4 hk4 hn4 hσ H locs ls hP hD hS hl
      rw [sX6_nextOf_L4_s] at hσ
      refine lv_iload_n hx hb dX6_nextOf_4 rfl (lv_at hl 3 rfl) ?_
      refine lv_aload_n hx hb dX6_nextOf_5 rfl (lv_at hl 0 rfl) ?_
      refine va_get (D := (dC, dI)) (ci := 6) (v := .ref (g 0)) (C := RX6) (T := TX6) (N := 15) hx hb hts (fun _ h => List.mem_cons_of_mem _ (List.mem_append_right _ h)) hown hK hP 0 rfl rfl 0 (by decide) (hts (.fieldLink RX6 7 "SharedLineModel" "now" "[I") (List.mem_of_getElem? (i := 1) rfl)) (fun _ h9 => h9) rfl dX6_nextOf_6 ?_
      refine lv_iconst (v := 0) hx hb dX6_nextOf_9 (by decide) ?_
      refine vq_ialdK (k := 0) hx hb hK hP 1 0 rfl rfl (by decide) (by decide) (by decide) dX6_nextOf_10 ?_
      refine lv_icmp_ge (tgt := 41) hx hb dX6_nextOf_11 (by decide) (fun c11 => ?_) (fun c11 => ?_)
      · rw [if_pos c11] at hσ
        refine lv_iload_n hx hb dX6_nextOf_41 rfl (lv_at hl 3 rfl) ?_
        refine lv_aload_n hx hb dX6_nextOf_42 rfl (lv_at hl 0 rfl) ?_
        refine va_get (D := (dC, dI)) (ci := 6) (v := .ref (g 0)) (C := RX6) (T := TX6) (N := 15) hx hb hts (fun _ h => List.mem_cons_of_mem _ (List.mem_append_right _ h)) hown hK hP 0 rfl rfl 0 (by decide) (hts (.fieldLink RX6 7 "SharedLineModel" "now" "[I") (List.mem_of_getElem? (i := 1) rfl)) (fun _ h9 => h9) rfl dX6_nextOf_43 ?_
        refine lv_iconst (v := 0) hx hb dX6_nextOf_46 (by decide) ?_
        refine vq_ialdK (k := 0) hx hb hK hP 1 0 rfl rfl (by decide) (by decide) (by decide) dX6_nextOf_47 ?_
        refine lv_icmp_ge (tgt := 55) hx hb dX6_nextOf_48 (by decide) (fun c48 => ?_) (fun c48 => absurd c11 c48)
        refine lv_bipush (v := (-9)) hx hb dX6_nextOf_55 (by decide) ?_
        subst hσ
        exact vq_iret hx hb hr hlocks hK hP hD hS rfl dX6_nextOf_57
      · rw [if_neg c11] at hσ
        refine lv_aload_n hx hb dX6_nextOf_14 rfl (lv_at hl 0 rfl) ?_
        refine lv_iload_n hx hb dX6_nextOf_15 rfl (lv_at hl 3 rfl) ?_
        refine vq_Vi (As := [.int x3_4]) (rest := []) (W2 := (wM cI cZ h g S)) (f := (bI (sX6_isNote S x3_4))) hx hb hml hown hts hK hP hD hS hA hE hl.1 (cX6_isNote_c l ev dC dI cI cZ cO h g S x3_4 hT) gX6_nextOf_X6_isNote rfl hdX6_isNote (Nat.le_of_ble_eq_true rfl) (Nat.le_of_ble_eq_true rfl) rfl rfl (ci := 6) (qr := 0) rfl rfl rfl [0, 1, 2, 3, 4, 5, 6, 7, 8, 9] [] [0, 1, 2, 3, 4, 5, 6, 7, 8, 9] rfl rfl (by decide) (by decide) (by decide) rfl rfl rfl (Nat.le_of_ble_eq_true rfl) dX6_nextOf_16 ⟨Nat.zero_le _, Nat.zero_le _⟩ (fun H locs hP hD hS => ?_)
        refine lv_if_eqB (tgt := 35) hx hb dX6_nextOf_19 (by decide) (fun c19 => ?_) (fun c19 => ?_)
        · rw [if_neg (Bool.eq_false_iff.mp c19)] at hσ
          refine lv_iinc (v := (x3_4 + 1)) (lv' := [(3, .int (x3_4 + 1)), (0, .ref h), (1, .int p1), (2, .int p2)]) hx hb dX6_nextOf_35 hl (k := 3) rfl rfl (by decide) rfl (fun ls hl => ?_)
          refine lv_goto (tgt := 4) hx hb dX6_nextOf_38 (by decide) ?_
          exact ih4 (x3_4 + 1) (k4 + 1) (up_s e4) (by have := up_lt e4 eT (by omega) c11; omega) (by omega) hσ _ _ _ hP hD hS (lv_sub hl [1, 2, 3, 0] rfl)
        · rw [if_pos c19] at hσ
          refine lv_iload_n hx hb dX6_nextOf_22 rfl (lv_at hl 1 rfl) ?_
          refine lv_iload_n hx hb dX6_nextOf_23 rfl (lv_at hl 3 rfl) ?_
          refine vq_Si (As := [.int p1, .int x3_4]) (rest := []) (W2 := (wM cI cZ h g S)) (f := (bI (sX6_has p1 x3_4))) hx hb hml hown hts hK hP hD hS hA hE hl.1 (cX6_has_c l ev dC dI cI cZ cO p1 x3_4) gX6_nextOf_X6_has rfl hdX6_has (Nat.le_of_ble_eq_true rfl) (Nat.le_of_ble_eq_true rfl) rfl rfl [] [0, 1, 2, 3, 4, 5, 6, 7, 8, 9] [0, 1, 2, 3, 4, 5, 6, 7, 8, 9] rfl rfl (by decide) (by decide) (by decide) rfl rfl rfl (Nat.le_of_ble_eq_true rfl) dX6_nextOf_24 ⟨Nat.zero_le _, Nat.zero_le _⟩ (fun H locs hP hD hS => ?_)
          refine lv_iload_n hx hb dX6_nextOf_27 rfl (lv_at hl 1 rfl) ?_
          refine lv_iload_n hx hb dX6_nextOf_28 rfl (lv_at hl 2 rfl) ?_
          refine vq_Si (As := [.int p1, .int p2]) (rest := [.int (bI (sX6_has p1 x3_4))]) (W2 := (wM cI cZ h g S)) (f := (bI (sX6_has p1 p2))) hx hb hml hown hts hK hP hD hS hA hE hl.1 (cX6_has_c l ev dC dI cI cZ cO p1 p2) gX6_nextOf_X6_has rfl hdX6_has (Nat.le_of_ble_eq_true rfl) (Nat.le_of_ble_eq_true rfl) rfl rfl [] [0, 1, 2, 3, 4, 5, 6, 7, 8, 9] [0, 1, 2, 3, 4, 5, 6, 7, 8, 9] rfl rfl (by decide) (by decide) (by decide) rfl rfl rfl (Nat.le_of_ble_eq_true rfl) dX6_nextOf_29 ⟨Nat.zero_le _, Nat.zero_le _⟩ (fun H locs hP hD hS => ?_)
          refine lv_icmp_eqB (t := (sX6_has p1 x3_4)) (u := (sX6_has p1 p2)) (tgt := 41) hx hb dX6_nextOf_32 (by decide) (fun c32 => ?_) (fun c32 => ?_)
          · rw [if_pos c32] at hσ
            refine lv_iload_n hx hb dX6_nextOf_41 rfl (lv_at hl 3 rfl) ?_
            refine lv_aload_n hx hb dX6_nextOf_42 rfl (lv_at hl 0 rfl) ?_
            refine va_get (D := (dC, dI)) (ci := 6) (v := .ref (g 0)) (C := RX6) (T := TX6) (N := 15) hx hb hts (fun _ h => List.mem_cons_of_mem _ (List.mem_append_right _ h)) hown hK hP 0 rfl rfl 0 (by decide) (hts (.fieldLink RX6 7 "SharedLineModel" "now" "[I") (List.mem_of_getElem? (i := 1) rfl)) (fun _ h9 => h9) rfl dX6_nextOf_43 ?_
            refine lv_iconst (v := 0) hx hb dX6_nextOf_46 (by decide) ?_
            refine vq_ialdK (k := 0) hx hb hK hP 1 0 rfl rfl (by decide) (by decide) (by decide) dX6_nextOf_47 ?_
            refine lv_icmp_ge (tgt := 55) hx hb dX6_nextOf_48 (by decide) (fun c48 => absurd c48 c11) (fun c48 => ?_)
            refine lv_iload_n hx hb dX6_nextOf_51 rfl (lv_at hl 3 rfl) ?_
            refine lv_goto (tgt := 57) hx hb dX6_nextOf_52 (by decide) ?_
            subst hσ
            exact vq_iret hx hb hr hlocks hK hP hD hS rfl dX6_nextOf_57
          · rw [if_neg c32] at hσ
            refine lv_iinc (v := (x3_4 + 1)) (lv' := [(3, .int (x3_4 + 1)), (0, .ref h), (1, .int p1), (2, .int p2)]) hx hb dX6_nextOf_35 hl (k := 3) rfl rfl (by decide) rfl (fun ls hl => ?_)
            refine lv_goto (tgt := 4) hx hb dX6_nextOf_38 (by decide) ?_
            exact ih4 (x3_4 + 1) (k4 + 1) (up_s e4) (by have := up_lt e4 eT (by omega) c11; omega) (by omega) hσ _ _ _ hP hD hS (lv_sub hl [1, 2, 3, 0] rfl)
  exact key4 13 (p2 + 1) (j + 1) (up_s ej) (by omega) (by omega) hσ _ _ _ hP hD hS (lv_sub hl [1, 2, 3, 0] rfl)
theorem hdX6_isSoon : yX6_isSoon.cls = RX6 ∧ yX6_isSoon.cls ≠ "java/lang/invoke/MethodHandle" ∧ yX6_isSoon.cls ≠ "java/lang/invoke/VarHandle" ∧ (parseMethodDescriptor yX6_isSoon.desc).map (fun d => d.parameters.length) = some 3 := by decide +kernel
set_option maxHeartbeats 4000000 in
set_option maxRecDepth 100000 in
theorem cX6_isSoon_c (l : Launch) (ev : Nat → Nat) (dC : Nat → ClassId) (dI : Nat → Nat → Nat) (cI cZ cO : ClassId) (h : Nat) (g : Nat → Nat) (S : MSt) (p1 : Int32) (p2 : Int32) (p3 : Int32) (hT : LOK S) : MetI l ev (dC, dI) (tyC cI cZ cO) yX6_isSoon wsX6_isSoon (rmF 4 87) [.ref h, .int p1, .int p2, .int p3] (wM cI cZ h g S) (bI (sX6_isSoon S p1 p2 p3)) (wM cI cZ h g S) := by
  refine MetI_of (cc := cX6_isSoon) (maxL := 5) (ret := (some .boolean)) (by decide) rfl (Nat.le_of_ble_eq_true rfl) ?_
  intro p e s m below meth c A ls hx hb hr hml hts hown hlocks hin hK hP hD hA hE hl
  have hown : s.vm.findClass RX6 = some m.cls := hown
  have hl : lv_has ls 5 [(0, .ref h), (1, .int p1), (2, .int p2), (3, .int p3)] := hl
  have hS : va_S A s.heap s.heap [] := va_S.rf
  obtain ⟨σ, hσ⟩ : ∃ σ, (sX6_isSoon S p1 p2 p3) = σ := ⟨_, rfl⟩
  rw [hσ]
  rw [sX6_isSoon] at hσ
  refine lv_aload_n hx hb dX6_isSoon_0 rfl (lv_at hl 0 rfl) ?_
  refine lv_iload_n hx hb dX6_isSoon_1 rfl (lv_at hl 2 rfl) ?_
  refine vq_Vi (As := [.int p2]) (rest := []) (W2 := (wM cI cZ h g S)) (f := (bI (sX6_isNote S p2))) hx hb hml hown hts hK hP hD hS hA hE hl.1 (cX6_isNote_c l ev dC dI cI cZ cO h g S p2 hT) gX6_isSoon_X6_isNote rfl hdX6_isNote (Nat.le_of_ble_eq_true rfl) (Nat.le_of_ble_eq_true rfl) rfl rfl (ci := 6) (qr := 0) rfl rfl rfl [0, 1, 2, 3, 4, 5, 6, 7, 8, 9] [] [0, 1, 2, 3, 4, 5, 6, 7, 8, 9] rfl rfl (by decide) (by decide) (by decide) rfl rfl rfl (Nat.le_of_ble_eq_true rfl) dX6_isSoon_2 ⟨Nat.zero_le _, Nat.zero_le _⟩ (fun H locs hP hD hS => ?_)
  refine lv_if_eqB (tgt := 17) hx hb dX6_isSoon_5 (by decide) (fun c5 => ?_) (fun c5 => ?_)
  · rw [if_neg (Bool.eq_false_iff.mp c5)] at hσ
    refine lv_bipush (v := (-9)) hx hb dX6_isSoon_17 (by decide) ?_
    refine lv_istore (lv' := [(4, .int (-9)), (0, .ref h), (1, .int p1), (2, .int p2), (3, .int p3)]) hx hb dX6_isSoon_19 hl (by decide) rfl (fun ls hl => ?_)
    refine lv_iload hx hb dX6_isSoon_21 (lv_at hl 0 rfl) ?_
    refine lv_bipush (v := (-9)) hx hb dX6_isSoon_23 (by decide) ?_
    refine lv_icmp_eq (tgt := 40) hx hb dX6_isSoon_25 (by decide) (fun c25 => ?_) (fun c25 => absurd c25 (by decide))
    refine lv_iconst (v := 0) hx hb dX6_isSoon_40 (by decide) ?_
    subst hσ
    exact vq_zret hx hb hr hlocks hK hP hD hS rfl rfl dX6_isSoon_41
  · rw [if_pos c5] at hσ
    refine lv_aload_n hx hb dX6_isSoon_8 rfl (lv_at hl 0 rfl) ?_
    refine lv_iload_n hx hb dX6_isSoon_9 rfl (lv_at hl 1 rfl) ?_
    refine lv_iload_n hx hb dX6_isSoon_10 rfl (lv_at hl 2 rfl) ?_
    refine vq_Vi (As := [.int p1, .int p2]) (rest := []) (W2 := (wM cI cZ h g S)) (f := (sX6_nextOf S p1 p2)) hx hb hml hown hts hK hP hD hS hA hE hl.1 (cX6_nextOf_c l ev dC dI cI cZ cO h g S p1 p2 hT (note_j hT c5)) gX6_isSoon_X6_nextOf rfl hdX6_nextOf (Nat.le_of_ble_eq_true rfl) (Nat.le_of_ble_eq_true rfl) rfl rfl (ci := 6) (qr := 0) rfl rfl rfl [0, 1, 2, 3, 4, 5, 6, 7, 8, 9] [] [0, 1, 2, 3, 4, 5, 6, 7, 8, 9] rfl rfl (by decide) (by decide) (by decide) rfl rfl rfl (Nat.le_of_ble_eq_true rfl) dX6_isSoon_11 ⟨Nat.zero_le _, Nat.zero_le _⟩ (fun H locs hP hD hS => ?_)
    refine lv_goto (tgt := 19) hx hb dX6_isSoon_14 (by decide) ?_
    refine lv_istore (lv' := [(4, .int (sX6_nextOf S p1 p2)), (0, .ref h), (1, .int p1), (2, .int p2), (3, .int p3)]) hx hb dX6_isSoon_19 hl (by decide) rfl (fun ls hl => ?_)
    refine lv_iload hx hb dX6_isSoon_21 (lv_at hl 0 rfl) ?_
    refine lv_bipush (v := (-9)) hx hb dX6_isSoon_23 (by decide) ?_
    refine lv_icmp_eq (tgt := 40) hx hb dX6_isSoon_25 (by decide) (fun c25 => ?_) (fun c25 => ?_)
    · rw [if_pos c25] at hσ
      refine lv_iconst (v := 0) hx hb dX6_isSoon_40 (by decide) ?_
      subst hσ
      exact vq_zret hx hb hr hlocks hK hP hD hS rfl rfl dX6_isSoon_41
    · rw [if_neg c25] at hσ
      refine lv_iload hx hb dX6_isSoon_28 (lv_at hl 0 rfl) ?_
      refine lv_iload_n hx hb dX6_isSoon_30 rfl (lv_at hl 3 rfl) ?_
      refine lv_isub hx hb dX6_isSoon_31 ?_
      refine lv_iload_n hx hb dX6_isSoon_32 rfl (lv_at hl 4 rfl) ?_
      refine lv_icmp_ge (tgt := 40) hx hb dX6_isSoon_33 (by decide) (fun c33 => ?_) (fun c33 => ?_)
      · rw [if_pos c33] at hσ
        refine lv_iconst (v := 0) hx hb dX6_isSoon_40 (by decide) ?_
        subst hσ
        exact vq_zret hx hb hr hlocks hK hP hD hS rfl rfl dX6_isSoon_41
      · rw [if_neg c33] at hσ
        refine lv_iconst (v := 1) hx hb dX6_isSoon_36 (by decide) ?_
        refine lv_goto (tgt := 41) hx hb dX6_isSoon_37 (by decide) ?_
        subst hσ
        exact vq_zret hx hb hr hlocks hK hP hD hS rfl rfl dX6_isSoon_41
theorem hdX6_isFar : yX6_isFar.cls = RX6 ∧ yX6_isFar.cls ≠ "java/lang/invoke/MethodHandle" ∧ yX6_isFar.cls ≠ "java/lang/invoke/VarHandle" ∧ (parseMethodDescriptor yX6_isFar.desc).map (fun d => d.parameters.length) = some 2 := by decide +kernel
set_option maxHeartbeats 4000000 in
set_option maxRecDepth 100000 in
theorem cX6_isFar_c (l : Launch) (ev : Nat → Nat) (dC : Nat → ClassId) (dI : Nat → Nat → Nat) (cI cZ cO : ClassId) (h : Nat) (g : Nat → Nat) (S : MSt) (p1 : Int32) (p2 : Int32) (hT : LOK S) : MetI l ev (dC, dI) (tyC cI cZ cO) yX6_isFar wsX6_isFar (rmF 4 87) [.ref h, .int p1, .int p2] (wM cI cZ h g S) (bI (sX6_isFar S p1 p2)) (wM cI cZ h g S) := by
  refine MetI_of (cc := cX6_isFar) (maxL := 5) (ret := (some .boolean)) (by decide) rfl (Nat.le_of_ble_eq_true rfl) ?_
  intro p e s m below meth c A ls hx hb hr hml hts hown hlocks hin hK hP hD hA hE hl
  have hown : s.vm.findClass RX6 = some m.cls := hown
  have hl : lv_has ls 5 [(0, .ref h), (1, .int p1), (2, .int p2)] := hl
  have hS : va_S A s.heap s.heap [] := va_S.rf
  obtain ⟨σ, hσ⟩ : ∃ σ, (sX6_isFar S p1 p2) = σ := ⟨_, rfl⟩
  rw [hσ]
  rw [sX6_isFar] at hσ
  refine lv_aload_n hx hb dX6_isFar_0 rfl (lv_at hl 0 rfl) ?_
  refine lv_iload_n hx hb dX6_isFar_1 rfl (lv_at hl 2 rfl) ?_
  refine vq_Vi (As := [.int p2]) (rest := []) (W2 := (wM cI cZ h g S)) (f := (bI (sX6_isNote S p2))) hx hb hml hown hts hK hP hD hS hA hE hl.1 (cX6_isNote_c l ev dC dI cI cZ cO h g S p2 hT) gX6_isFar_X6_isNote rfl hdX6_isNote (Nat.le_of_ble_eq_true rfl) (Nat.le_of_ble_eq_true rfl) rfl rfl (ci := 6) (qr := 0) rfl rfl rfl [0, 1, 2, 3, 4, 5, 6, 7, 8, 9] [] [0, 1, 2, 3, 4, 5, 6, 7, 8, 9] rfl rfl (by decide) (by decide) (by decide) rfl rfl rfl (Nat.le_of_ble_eq_true rfl) dX6_isFar_2 ⟨Nat.zero_le _, Nat.zero_le _⟩ (fun H locs hP hD hS => ?_)
  refine lv_if_eqB (tgt := 17) hx hb dX6_isFar_5 (by decide) (fun c5 => ?_) (fun c5 => ?_)
  · rw [if_neg (Bool.eq_false_iff.mp c5)] at hσ
    refine lv_bipush (v := (-9)) hx hb dX6_isFar_17 (by decide) ?_
    refine lv_istore_n (lv' := [(3, .int (-9)), (0, .ref h), (1, .int p1), (2, .int p2)]) hx hb dX6_isFar_19 rfl hl (by decide) rfl (fun ls hl => ?_)
    refine lv_iload_n hx hb dX6_isFar_20 rfl (lv_at hl 0 rfl) ?_
    refine lv_bipush (v := (-9)) hx hb dX6_isFar_21 (by decide) ?_
    refine lv_icmp_ne (tgt := 30) hx hb dX6_isFar_23 (by decide) (fun c23 => absurd c23 (by decide)) (fun c23 => ?_)
    refine lv_iconst (v := 0) hx hb dX6_isFar_26 (by decide) ?_
    refine lv_goto (tgt := 47) hx hb dX6_isFar_27 (by decide) ?_
    refine lv_istore (lv' := [(4, .int 0), (3, .int (-9)), (0, .ref h), (1, .int p1), (2, .int p2)]) hx hb dX6_isFar_47 hl (by decide) rfl (fun ls hl => ?_)
    refine lv_iload_n hx hb dX6_isFar_49 rfl (lv_at hl 1 rfl) ?_
    refine lv_bipush (v := (-9)) hx hb dX6_isFar_50 (by decide) ?_
    refine lv_icmp_eq (tgt := 85) hx hb dX6_isFar_52 (by decide) (fun c52 => ?_) (fun c52 => absurd c52 (by decide))
    refine lv_iconst (v := 0) hx hb dX6_isFar_85 (by decide) ?_
    subst hσ
    exact vq_zret hx hb hr hlocks hK hP hD hS rfl rfl dX6_isFar_86
  · rw [if_pos c5] at hσ
    refine lv_aload_n hx hb dX6_isFar_8 rfl (lv_at hl 0 rfl) ?_
    refine lv_iload_n hx hb dX6_isFar_9 rfl (lv_at hl 1 rfl) ?_
    refine lv_iload_n hx hb dX6_isFar_10 rfl (lv_at hl 2 rfl) ?_
    refine vq_Vi (As := [.int p1, .int p2]) (rest := []) (W2 := (wM cI cZ h g S)) (f := (sX6_nextOf S p1 p2)) hx hb hml hown hts hK hP hD hS hA hE hl.1 (cX6_nextOf_c l ev dC dI cI cZ cO h g S p1 p2 hT (note_j hT c5)) gX6_isFar_X6_nextOf rfl hdX6_nextOf (Nat.le_of_ble_eq_true rfl) (Nat.le_of_ble_eq_true rfl) rfl rfl (ci := 6) (qr := 0) rfl rfl rfl [0, 1, 2, 3, 4, 5, 6, 7, 8, 9] [] [0, 1, 2, 3, 4, 5, 6, 7, 8, 9] rfl rfl (by decide) (by decide) (by decide) rfl rfl rfl (Nat.le_of_ble_eq_true rfl) dX6_isFar_11 ⟨Nat.zero_le _, Nat.zero_le _⟩ (fun H locs hP hD hS => ?_)
    refine lv_goto (tgt := 19) hx hb dX6_isFar_14 (by decide) ?_
    refine lv_istore_n (lv' := [(3, .int (sX6_nextOf S p1 p2)), (0, .ref h), (1, .int p1), (2, .int p2)]) hx hb dX6_isFar_19 rfl hl (by decide) rfl (fun ls hl => ?_)
    refine lv_iload_n hx hb dX6_isFar_20 rfl (lv_at hl 0 rfl) ?_
    refine lv_bipush (v := (-9)) hx hb dX6_isFar_21 (by decide) ?_
    refine lv_icmp_ne (tgt := 30) hx hb dX6_isFar_23 (by decide) (fun c23 => ?_) (fun c23 => ?_)
    · rw [if_neg c23] at hσ
      refine lv_aload_n hx hb dX6_isFar_30 rfl (lv_at hl 1 rfl) ?_
      refine va_get (D := (dC, dI)) (ci := 6) (v := .ref (g 0)) (C := RX6) (T := TX6) (N := 15) hx hb hts (fun _ h => List.mem_cons_of_mem _ (List.mem_append_right _ h)) hown hK hP 0 rfl rfl 0 (by decide) (hts (.fieldLink RX6 7 "SharedLineModel" "now" "[I") (List.mem_of_getElem? (i := 1) rfl)) (fun _ h9 => h9) rfl dX6_isFar_31 ?_
      refine lv_iconst (v := 4) hx hb dX6_isFar_34 (by decide) ?_
      refine lv_iload_n hx hb dX6_isFar_35 rfl (lv_at hl 0 rfl) ?_
      refine lv_iadd hx hb dX6_isFar_36 ?_
      refine va_iald hx hb hK hP 1 0 rfl rfl (i := ((4 : Int32) + (sX6_nextOf S p1 p2))) (next_ix hT (note_j hT c5) c23) dX6_isFar_37 ?_
      refine lv_aload_n hx hb dX6_isFar_38 rfl (lv_at hl 1 rfl) ?_
      refine va_get (D := (dC, dI)) (ci := 6) (v := .ref (g 0)) (C := RX6) (T := TX6) (N := 15) hx hb hts (fun _ h => List.mem_cons_of_mem _ (List.mem_append_right _ h)) hown hK hP 0 rfl rfl 0 (by decide) (hts (.fieldLink RX6 7 "SharedLineModel" "now" "[I") (List.mem_of_getElem? (i := 1) rfl)) (fun _ h9 => h9) rfl dX6_isFar_39 ?_
      refine lv_iconst (v := 4) hx hb dX6_isFar_42 (by decide) ?_
      refine lv_iload_n hx hb dX6_isFar_43 rfl (lv_at hl 3 rfl) ?_
      refine lv_iadd hx hb dX6_isFar_44 ?_
      refine va_iald hx hb hK hP 1 0 rfl rfl (i := ((4 : Int32) + p2)) (tick_ix hT (note_tick c5)) dX6_isFar_45 ?_
      refine lv_isub hx hb dX6_isFar_46 ?_
      refine lv_istore (lv' := [(4, .int (((S.2 0) (((4 : Int32) + (sX6_nextOf S p1 p2))).toNatClampNeg) - ((S.2 0) (((4 : Int32) + p2)).toNatClampNeg))), (3, .int (sX6_nextOf S p1 p2)), (0, .ref h), (1, .int p1), (2, .int p2)]) hx hb dX6_isFar_47 hl (by decide) rfl (fun ls hl => ?_)
      refine lv_iload_n hx hb dX6_isFar_49 rfl (lv_at hl 1 rfl) ?_
      refine lv_bipush (v := (-9)) hx hb dX6_isFar_50 (by decide) ?_
      refine lv_icmp_eq (tgt := 85) hx hb dX6_isFar_52 (by decide) (fun c52 => absurd c52 c23) (fun c52 => ?_)
      refine lv_iload hx hb dX6_isFar_55 (lv_at hl 0 rfl) ?_
      refine lv_if_ge (tgt := 66) hx hb dX6_isFar_57 (by decide) (fun c57 => ?_) (fun c57 => ?_)
      · rw [if_pos c57] at hσ
        refine lv_iload hx hb dX6_isFar_66 (lv_at hl 0 rfl) ?_
        refine lv_aload_n hx hb dX6_isFar_68 rfl (lv_at hl 2 rfl) ?_
        refine va_get (D := (dC, dI)) (ci := 6) (v := .ref (g 0)) (C := RX6) (T := TX6) (N := 15) hx hb hts (fun _ h => List.mem_cons_of_mem _ (List.mem_append_right _ h)) hown hK hP 0 rfl rfl 0 (by decide) (hts (.fieldLink RX6 7 "SharedLineModel" "now" "[I") (List.mem_of_getElem? (i := 1) rfl)) (fun _ h9 => h9) rfl dX6_isFar_69 ?_
        refine lv_iconst (v := 2) hx hb dX6_isFar_72 (by decide) ?_
        refine vq_ialdK (k := 2) hx hb hK hP 1 0 rfl rfl (by decide) (by decide) (by decide) dX6_isFar_73 ?_
        refine lv_iload_n hx hb dX6_isFar_74 rfl (lv_at hl 1 rfl) ?_
        refine lv_iadd hx hb dX6_isFar_75 ?_
        refine lv_iload_n hx hb dX6_isFar_76 rfl (lv_at hl 4 rfl) ?_
        refine lv_isub hx hb dX6_isFar_77 ?_
        refine lv_icmp_le (tgt := 85) hx hb dX6_isFar_78 (by decide) (fun c78 => ?_) (fun c78 => ?_)
        · rw [if_pos c78] at hσ
          refine lv_iconst (v := 0) hx hb dX6_isFar_85 (by decide) ?_
          subst hσ
          exact vq_zret hx hb hr hlocks hK hP hD hS rfl rfl dX6_isFar_86
        · rw [if_neg c78] at hσ
          refine lv_iconst (v := 1) hx hb dX6_isFar_81 (by decide) ?_
          refine lv_goto (tgt := 86) hx hb dX6_isFar_82 (by decide) ?_
          subst hσ
          exact vq_zret hx hb hr hlocks hK hP hD hS rfl rfl dX6_isFar_86
      · rw [if_neg c57] at hσ
        refine lv_iload hx hb dX6_isFar_60 (lv_at hl 0 rfl) ?_
        refine lv_ineg hx hb dX6_isFar_62 ?_
        refine lv_goto (tgt := 68) hx hb dX6_isFar_63 (by decide) ?_
        refine lv_aload_n hx hb dX6_isFar_68 rfl (lv_at hl 2 rfl) ?_
        refine va_get (D := (dC, dI)) (ci := 6) (v := .ref (g 0)) (C := RX6) (T := TX6) (N := 15) hx hb hts (fun _ h => List.mem_cons_of_mem _ (List.mem_append_right _ h)) hown hK hP 0 rfl rfl 0 (by decide) (hts (.fieldLink RX6 7 "SharedLineModel" "now" "[I") (List.mem_of_getElem? (i := 1) rfl)) (fun _ h9 => h9) rfl dX6_isFar_69 ?_
        refine lv_iconst (v := 2) hx hb dX6_isFar_72 (by decide) ?_
        refine vq_ialdK (k := 2) hx hb hK hP 1 0 rfl rfl (by decide) (by decide) (by decide) dX6_isFar_73 ?_
        refine lv_iload_n hx hb dX6_isFar_74 rfl (lv_at hl 1 rfl) ?_
        refine lv_iadd hx hb dX6_isFar_75 ?_
        refine lv_iload_n hx hb dX6_isFar_76 rfl (lv_at hl 4 rfl) ?_
        refine lv_isub hx hb dX6_isFar_77 ?_
        refine lv_icmp_le (tgt := 85) hx hb dX6_isFar_78 (by decide) (fun c78 => ?_) (fun c78 => ?_)
        · rw [if_pos c78] at hσ
          refine lv_iconst (v := 0) hx hb dX6_isFar_85 (by decide) ?_
          subst hσ
          exact vq_zret hx hb hr hlocks hK hP hD hS rfl rfl dX6_isFar_86
        · rw [if_neg c78] at hσ
          refine lv_iconst (v := 1) hx hb dX6_isFar_81 (by decide) ?_
          refine lv_goto (tgt := 86) hx hb dX6_isFar_82 (by decide) ?_
          subst hσ
          exact vq_zret hx hb hr hlocks hK hP hD hS rfl rfl dX6_isFar_86
    · rw [if_pos c23] at hσ
      refine lv_iconst (v := 0) hx hb dX6_isFar_26 (by decide) ?_
      refine lv_goto (tgt := 47) hx hb dX6_isFar_27 (by decide) ?_
      refine lv_istore (lv' := [(4, .int 0), (3, .int (sX6_nextOf S p1 p2)), (0, .ref h), (1, .int p1), (2, .int p2)]) hx hb dX6_isFar_47 hl (by decide) rfl (fun ls hl => ?_)
      refine lv_iload_n hx hb dX6_isFar_49 rfl (lv_at hl 1 rfl) ?_
      refine lv_bipush (v := (-9)) hx hb dX6_isFar_50 (by decide) ?_
      refine lv_icmp_eq (tgt := 85) hx hb dX6_isFar_52 (by decide) (fun c52 => ?_) (fun c52 => absurd c23 c52)
      refine lv_iconst (v := 0) hx hb dX6_isFar_85 (by decide) ?_
      subst hσ
      exact vq_zret hx hb hr hlocks hK hP hD hS rfl rfl dX6_isFar_86
theorem hdX6_isLawful : yX6_isLawful.cls = RX6 ∧ yX6_isLawful.cls ≠ "java/lang/invoke/MethodHandle" ∧ yX6_isLawful.cls ≠ "java/lang/invoke/VarHandle" ∧ (parseMethodDescriptor yX6_isLawful.desc).map (fun d => d.parameters.length) = some 2 := by decide +kernel
set_option maxHeartbeats 4000000 in
set_option maxRecDepth 100000 in
theorem cX6_isLawful_c (l : Launch) (ev : Nat → Nat) (dC : Nat → ClassId) (dI : Nat → Nat → Nat) (cI cZ cO : ClassId) (h : Nat) (g : Nat → Nat) (S : MSt) (p1 : Int32) (p2 : Int32) (hT : LOK S) : MetI l ev (dC, dI) (tyC cI cZ cO) yX6_isLawful wsX6_isLawful (rmF 5 111) [.ref h, .int p1, .int p2] (wM cI cZ h g S) (bI (sX6_isLawful S p1 p2)) (wM cI cZ h g S) := by
  refine MetI_of (cc := cX6_isLawful) (maxL := 5) (ret := (some .boolean)) (by decide) rfl (Nat.le_of_ble_eq_true rfl) ?_
  intro p e s m below meth c A ls hx hb hr hml hts hown hlocks hin hK hP hD hA hE hl
  have hown : s.vm.findClass RX6 = some m.cls := hown
  have hl : lv_has ls 5 [(0, .ref h), (1, .int p1), (2, .int p2)] := hl
  have hS : va_S A s.heap s.heap [] := va_S.rf
  obtain ⟨σ, hσ⟩ : ∃ σ, (sX6_isLawful S p1 p2) = σ := ⟨_, rfl⟩
  rw [hσ]
  rw [sX6_isLawful] at hσ
  obtain ⟨T, eT, hT1, hT2⟩ := id hT
  refine lv_iconst (v := 1) hx hb dX6_isLawful_0 (by decide) ?_
  refine lv_istore_n (lv' := [(3, .int 1), (0, .ref h), (1, .int p1), (2, .int p2)]) hx hb dX6_isLawful_1 rfl hl (by decide) rfl (fun ls hl => ?_)
  refine lv_iconst (v := 0) hx hb dX6_isLawful_2 (by decide) ?_
  refine lv_istore (lv' := [(4, .int 0), (3, .int 1), (0, .ref h), (1, .int p1), (2, .int p2)]) hx hb dX6_isLawful_3 hl (by decide) rfl (fun ls hl => ?_)
  have key5 : ∀ (n5 : Nat) (x3_5 : Bool) (x4_5 : Int32)  (k5 : Nat), (x4_5 = nI k5) → (k5 ≤ 12) → (12 + 1 ≤ n5 + k5) → (sX6_isLawful_L5 S p1 p2 n5 x3_5 x4_5) = σ → ∀ (H : Heap) (locs : List Loc) (ls : Array Slot), va_P (dC, dI) vwCl (wM cI cZ h g S) H → va_D A (wM cI cZ h g S) → va_S A s.heap H locs → lv_has ls 5 [(0, .ref h), (1, .int p1), (2, .int p2), (3, .int (bI x3_5)), (4, .int x4_5)] → W p l e (headSpec wsX6_isLawful (rmF 5 111)).room s m ([.ref h, .int p1, .int p2] : List Value).toArray below meth c H locs 0 0 (MQ below (va_Qi (fun (x : Int32) (_ : Unit) => x = bI σ) (fun _ t => PoW (dC, dI) (tyC cI cZ cO) A (wM cI cZ h g S) t) A) ([.ref h, .int p1, .int p2] : List Value).toArray s 0 0 A) (F0 m 5 ls []) := by
    intro n5
    induction n5 with
    | zero =>
      intro x3_5 x4_5 k5 e5 hk5 hn5
      exact absurd hn5 (by omega)
    | succ n5 ih5 =>
      intro x3_5 x4_5 k5 e5 hk5 hn5 hσ H locs ls hP hD hS hl
      rw [sX6_isLawful_L5_s] at hσ
      refine lv_iload hx hb dX6_isLawful_5 (lv_at hl 4 rfl) ?_
      refine lv_aload_n hx hb dX6_isLawful_7 rfl (lv_at hl 0 rfl) ?_
      refine va_get (D := (dC, dI)) (ci := 6) (v := .ref (g 0)) (C := RX6) (T := TX6) (N := 15) hx hb hts (fun _ h => List.mem_cons_of_mem _ (List.mem_append_right _ h)) hown hK hP 0 rfl rfl 0 (by decide) (hts (.fieldLink RX6 7 "SharedLineModel" "now" "[I") (List.mem_of_getElem? (i := 1) rfl)) (fun _ h9 => h9) rfl dX6_isLawful_8 ?_
      refine lv_iconst (v := 0) hx hb dX6_isLawful_11 (by decide) ?_
      refine vq_ialdK (k := 0) hx hb hK hP 1 0 rfl rfl (by decide) (by decide) (by decide) dX6_isLawful_12 ?_
      refine lv_icmp_ge (tgt := 53) hx hb dX6_isLawful_13 (by decide) (fun c13 => ?_) (fun c13 => ?_)
      · rw [if_pos c13] at hσ
        refine lv_iload_n hx hb dX6_isLawful_53 rfl (lv_at hl 3 rfl) ?_
        subst hσ
        exact vq_zret hx hb hr hlocks hK hP hD hS (nar_bI _) rfl dX6_isLawful_54
      · rw [if_neg c13] at hσ
        refine lv_iload_n hx hb dX6_isLawful_16 rfl (lv_at hl 3 rfl) ?_
        refine lv_if_eqB (tgt := 53) hx hb dX6_isLawful_17 (by decide) (fun c17 => ?_) (fun c17 => ?_)
        · rw [if_neg (Bool.eq_false_iff.mp c17)] at hσ
          refine lv_iload_n hx hb dX6_isLawful_53 rfl (lv_at hl 3 rfl) ?_
          subst hσ
          exact vq_zret hx hb hr hlocks hK hP hD hS (nar_bI _) rfl dX6_isLawful_54
        · rw [if_pos c17] at hσ
          refine lv_aload_n hx hb dX6_isLawful_20 rfl (lv_at hl 0 rfl) ?_
          refine lv_iload_n hx hb dX6_isLawful_21 rfl (lv_at hl 1 rfl) ?_
          refine lv_iload hx hb dX6_isLawful_22 (lv_at hl 4 rfl) ?_
          refine lv_iload_n hx hb dX6_isLawful_24 rfl (lv_at hl 2 rfl) ?_
          refine vq_Vi (As := [.int p1, .int x4_5, .int p2]) (rest := []) (W2 := (wM cI cZ h g S)) (f := (bI (sX6_isSoon S p1 x4_5 p2))) hx hb hml hown hts hK hP hD hS hA hE hl.1 (cX6_isSoon_c l ev dC dI cI cZ cO h g S p1 x4_5 p2 hT) gX6_isLawful_X6_isSoon rfl hdX6_isSoon (Nat.le_of_ble_eq_true rfl) (Nat.le_of_ble_eq_true rfl) rfl rfl (ci := 6) (qr := 0) rfl rfl rfl [0, 1, 2, 3, 4, 5, 6, 7, 8, 9] [] [0, 1, 2, 3, 4, 5, 6, 7, 8, 9] rfl rfl (by decide) (by decide) (by decide) rfl rfl rfl (Nat.le_of_ble_eq_true rfl) dX6_isLawful_25 ⟨Nat.zero_le _, Nat.zero_le _⟩ (fun H locs hP hD hS => ?_)
          refine lv_if_neB (tgt := 45) hx hb dX6_isLawful_28 (by decide) (fun c28 => ?_) (fun c28 => ?_)
          · rw [if_pos c28] at hσ
            refine lv_iconst (v := 0) hx hb dX6_isLawful_45 (by decide) ?_
            refine lv_istore_n (lv' := [(3, .int 0), (0, .ref h), (1, .int p1), (2, .int p2), (4, .int x4_5)]) hx hb dX6_isLawful_46 rfl hl (by decide) rfl (fun ls hl => ?_)
            refine lv_iinc (v := (x4_5 + 1)) (lv' := [(4, .int (x4_5 + 1)), (3, .int 0), (0, .ref h), (1, .int p1), (2, .int p2)]) hx hb dX6_isLawful_47 hl (k := 4) rfl rfl (by decide) rfl (fun ls hl => ?_)
            refine lv_goto (tgt := 5) hx hb dX6_isLawful_50 (by decide) ?_
            exact ih5 false (x4_5 + 1) (k5 + 1) (up_s e5) (by have := up_lt e5 eT (by omega) c13; omega) (by omega) hσ _ _ _ hP hD hS (lv_sub hl [2, 3, 4, 1, 0] rfl)
          · rw [if_neg (Bool.eq_false_iff.mp c28)] at hσ
            refine lv_aload_n hx hb dX6_isLawful_31 rfl (lv_at hl 0 rfl) ?_
            refine lv_iload_n hx hb dX6_isLawful_32 rfl (lv_at hl 1 rfl) ?_
            refine lv_iload hx hb dX6_isLawful_33 (lv_at hl 4 rfl) ?_
            refine vq_Vi (As := [.int p1, .int x4_5]) (rest := []) (W2 := (wM cI cZ h g S)) (f := (bI (sX6_isFar S p1 x4_5))) hx hb hml hown hts hK hP hD hS hA hE hl.1 (cX6_isFar_c l ev dC dI cI cZ cO h g S p1 x4_5 hT) gX6_isLawful_X6_isFar rfl hdX6_isFar (Nat.le_of_ble_eq_true rfl) (Nat.le_of_ble_eq_true rfl) rfl rfl (ci := 6) (qr := 0) rfl rfl rfl [0, 1, 2, 3, 4, 5, 6, 7, 8, 9] [] [0, 1, 2, 3, 4, 5, 6, 7, 8, 9] rfl rfl (by decide) (by decide) (by decide) rfl rfl rfl (Nat.le_of_ble_eq_true rfl) dX6_isLawful_35 ⟨Nat.zero_le _, Nat.zero_le _⟩ (fun H locs hP hD hS => ?_)
            refine lv_if_neB (tgt := 45) hx hb dX6_isLawful_38 (by decide) (fun c38 => ?_) (fun c38 => ?_)
            · rw [if_pos c38] at hσ
              refine lv_iconst (v := 0) hx hb dX6_isLawful_45 (by decide) ?_
              refine lv_istore_n (lv' := [(3, .int 0), (0, .ref h), (1, .int p1), (2, .int p2), (4, .int x4_5)]) hx hb dX6_isLawful_46 rfl hl (by decide) rfl (fun ls hl => ?_)
              refine lv_iinc (v := (x4_5 + 1)) (lv' := [(4, .int (x4_5 + 1)), (3, .int 0), (0, .ref h), (1, .int p1), (2, .int p2)]) hx hb dX6_isLawful_47 hl (k := 4) rfl rfl (by decide) rfl (fun ls hl => ?_)
              refine lv_goto (tgt := 5) hx hb dX6_isLawful_50 (by decide) ?_
              exact ih5 false (x4_5 + 1) (k5 + 1) (up_s e5) (by have := up_lt e5 eT (by omega) c13; omega) (by omega) hσ _ _ _ hP hD hS (lv_sub hl [2, 3, 4, 1, 0] rfl)
            · rw [if_neg (Bool.eq_false_iff.mp c38)] at hσ
              refine lv_iconst (v := 1) hx hb dX6_isLawful_41 (by decide) ?_
              refine lv_goto (tgt := 46) hx hb dX6_isLawful_42 (by decide) ?_
              refine lv_istore_n (lv' := [(3, .int 1), (0, .ref h), (1, .int p1), (2, .int p2), (4, .int x4_5)]) hx hb dX6_isLawful_46 rfl hl (by decide) rfl (fun ls hl => ?_)
              refine lv_iinc (v := (x4_5 + 1)) (lv' := [(4, .int (x4_5 + 1)), (3, .int 1), (0, .ref h), (1, .int p1), (2, .int p2)]) hx hb dX6_isLawful_47 hl (k := 4) rfl rfl (by decide) rfl (fun ls hl => ?_)
              refine lv_goto (tgt := 5) hx hb dX6_isLawful_50 (by decide) ?_
              exact ih5 true (x4_5 + 1) (k5 + 1) (up_s e5) (by have := up_lt e5 eT (by omega) c13; omega) (by omega) hσ _ _ _ hP hD hS (lv_sub hl [2, 3, 4, 1, 0] rfl)
  exact key5 13 true (0 : Int32) 0 nI_0.symm (Nat.zero_le _) (Nat.le_refl _) hσ _ _ _ hP hD hS (lv_sub hl [2, 3, 4, 1, 0] rfl)
theorem hdX6_isLawfulNow : yX6_isLawfulNow.cls = RX6 ∧ yX6_isLawfulNow.cls ≠ "java/lang/invoke/MethodHandle" ∧ yX6_isLawfulNow.cls ≠ "java/lang/invoke/VarHandle" ∧ (parseMethodDescriptor yX6_isLawfulNow.desc).map (fun d => d.parameters.length) = some 1 := by decide +kernel
set_option maxHeartbeats 4000000 in
set_option maxRecDepth 100000 in
theorem cX6_isLawfulNow_c (l : Launch) (ev : Nat → Nat) (dC : Nat → ClassId) (dI : Nat → Nat → Nat) (cI cZ cO : ClassId) (h : Nat) (g : Nat → Nat) (S : MSt) (p1 : Int32) (hT : LOK S) : MetI l ev (dC, dI) (tyC cI cZ cO) yX6_isLawfulNow wsX6_isLawfulNow (rmF 6 135) [.ref h, .int p1] (wM cI cZ h g S) (bI (sX6_isLawfulNow S p1)) (wM cI cZ h g S) := by
  refine MetI_of (cc := cX6_isLawfulNow) (maxL := 2) (ret := (some .boolean)) (by decide) rfl (Nat.le_of_ble_eq_true rfl) ?_
  intro p e s m below meth c A ls hx hb hr hml hts hown hlocks hin hK hP hD hA hE hl
  have hown : s.vm.findClass RX6 = some m.cls := hown
  have hl : lv_has ls 2 [(0, .ref h), (1, .int p1)] := hl
  have hS : va_S A s.heap s.heap [] := va_S.rf
  obtain ⟨σ, hσ⟩ : ∃ σ, (sX6_isLawfulNow S p1) = σ := ⟨_, rfl⟩
  rw [hσ]
  rw [sX6_isLawfulNow] at hσ
  refine lv_aload_n hx hb dX6_isLawfulNow_0 rfl (lv_at hl 0 rfl) ?_
  refine lv_iload_n hx hb dX6_isLawfulNow_1 rfl (lv_at hl 1 rfl) ?_
  refine lv_aload_n hx hb dX6_isLawfulNow_2 rfl (lv_at hl 0 rfl) ?_
  refine va_get (D := (dC, dI)) (ci := 6) (v := .ref (g 0)) (C := RX6) (T := TX6) (N := 15) hx hb hts (fun _ h => List.mem_cons_of_mem _ (List.mem_append_right _ h)) hown hK hP 0 rfl rfl 0 (by decide) (hts (.fieldLink RX6 7 "SharedLineModel" "now" "[I") (List.mem_of_getElem? (i := 1) rfl)) (fun _ h9 => h9) rfl dX6_isLawfulNow_3 ?_
  refine lv_iconst (v := 1) hx hb dX6_isLawfulNow_6 (by decide) ?_
  refine vq_ialdK (k := 1) hx hb hK hP 1 0 rfl rfl (by decide) (by decide) (by decide) dX6_isLawfulNow_7 ?_
  refine vq_Vi (As := [.int p1, .int ((S.2 0) 1)]) (rest := []) (W2 := (wM cI cZ h g S)) (f := (bI (sX6_isLawful S p1 ((S.2 0) 1)))) hx hb hml hown hts hK hP hD hS hA hE hl.1 (cX6_isLawful_c l ev dC dI cI cZ cO h g S p1 ((S.2 0) 1) hT) gX6_isLawfulNow_X6_isLawful rfl hdX6_isLawful (Nat.le_of_ble_eq_true rfl) (Nat.le_of_ble_eq_true rfl) rfl rfl (ci := 6) (qr := 0) rfl rfl rfl [0, 1, 2, 3, 4, 5, 6, 7, 8, 9] [] [0, 1, 2, 3, 4, 5, 6, 7, 8, 9] rfl rfl (by decide) (by decide) (by decide) rfl rfl rfl (Nat.le_of_ble_eq_true rfl) dX6_isLawfulNow_8 ⟨Nat.zero_le _, Nat.zero_le _⟩ (fun H locs hP hD hS => ?_)
  subst hσ
  exact vq_zret hx hb hr hlocks hK hP hD hS (nar_bI _) rfl dX6_isLawfulNow_11
theorem hdX6_likeness : yX6_likeness.cls = RX6 ∧ yX6_likeness.cls ≠ "java/lang/invoke/MethodHandle" ∧ yX6_likeness.cls ≠ "java/lang/invoke/VarHandle" ∧ (parseMethodDescriptor yX6_likeness.desc).map (fun d => d.parameters.length) = some 1 := by decide +kernel
set_option maxHeartbeats 4000000 in
set_option maxRecDepth 100000 in
theorem cX6_likeness_c (l : Launch) (ev : Nat → Nat) (dC : Nat → ClassId) (dI : Nat → Nat → Nat) (cI cZ cO : ClassId) (h : Nat) (g : Nat → Nat) (S : MSt) (p1 : Int32) (hT : LOK S) : MetI l ev (dC, dI) (tyC cI cZ cO) yX6_likeness wsX6_likeness (rmF 3 64) [.ref h, .int p1] (wM cI cZ h g S) (sX6_likeness S p1) (wM cI cZ h g S) := by
  refine MetI_of (cc := cX6_likeness) (maxL := 5) (ret := (some .int)) (by decide) rfl (Nat.le_of_ble_eq_true rfl) ?_
  intro p e s m below meth c A ls hx hb hr hml hts hown hlocks hin hK hP hD hA hE hl
  have hown : s.vm.findClass RX6 = some m.cls := hown
  have hl : lv_has ls 5 [(0, .ref h), (1, .int p1)] := hl
  have hS : va_S A s.heap s.heap [] := va_S.rf
  obtain ⟨σ, hσ⟩ : ∃ σ, (sX6_likeness S p1) = σ := ⟨_, rfl⟩
  rw [hσ]
  rw [sX6_likeness] at hσ
  obtain ⟨T, eT, hT1, hT2⟩ := id hT
  refine lv_iconst (v := 0) hx hb dX6_likeness_0 (by decide) ?_
  refine lv_istore_n (lv' := [(2, .int 0), (0, .ref h), (1, .int p1)]) hx hb dX6_likeness_1 rfl hl (by decide) rfl (fun ls hl => ?_)
  refine lv_iconst (v := 0) hx hb dX6_likeness_2 (by decide) ?_
  refine lv_istore_n (lv' := [(3, .int 0), (2, .int 0), (0, .ref h), (1, .int p1)]) hx hb dX6_likeness_3 rfl hl (by decide) rfl (fun ls hl => ?_)
  have key4 : ∀ (n4 : Nat) (x2_4 : Int32) (x3_4 : Int32)  (k4 : Nat), (x3_4 = nI k4) → (k4 ≤ 12) → (12 + 1 ≤ n4 + k4) → (sX6_likeness_L4 S p1 n4 x2_4 x3_4) = σ → ∀ (H : Heap) (locs : List Loc) (ls : Array Slot), va_P (dC, dI) vwCl (wM cI cZ h g S) H → va_D A (wM cI cZ h g S) → va_S A s.heap H locs → lv_has ls 5 [(0, .ref h), (1, .int p1), (2, .int x2_4), (3, .int x3_4)] → W p l e (headSpec wsX6_likeness (rmF 3 64)).room s m ([.ref h, .int p1] : List Value).toArray below meth c H locs 0 0 (MQ below (va_Qi (fun (x : Int32) (_ : Unit) => x = σ) (fun _ t => PoW (dC, dI) (tyC cI cZ cO) A (wM cI cZ h g S) t) A) ([.ref h, .int p1] : List Value).toArray s 0 0 A) (F0 m 4 ls []) := by
    intro n4
    induction n4 with
    | zero =>
      intro x2_4 x3_4 k4 e4 hk4 hn4
      exact absurd hn4 (by omega)
    | succ n4 ih4 =>
      intro x2_4 x3_4 k4 e4 hk4 hn4 hσ H locs ls hP hD hS hl
      rw [sX6_likeness_L4_s] at hσ
      refine lv_iload_n hx hb dX6_likeness_4 rfl (lv_at hl 3 rfl) ?_
      refine lv_aload_n hx hb dX6_likeness_5 rfl (lv_at hl 0 rfl) ?_
      refine va_get (D := (dC, dI)) (ci := 6) (v := .ref (g 0)) (C := RX6) (T := TX6) (N := 15) hx hb hts (fun _ h => List.mem_cons_of_mem _ (List.mem_append_right _ h)) hown hK hP 0 rfl rfl 0 (by decide) (hts (.fieldLink RX6 7 "SharedLineModel" "now" "[I") (List.mem_of_getElem? (i := 1) rfl)) (fun _ h9 => h9) rfl dX6_likeness_6 ?_
      refine lv_iconst (v := 0) hx hb dX6_likeness_9 (by decide) ?_
      refine vq_ialdK (k := 0) hx hb hK hP 1 0 rfl rfl (by decide) (by decide) (by decide) dX6_likeness_10 ?_
      refine lv_icmp_ge (tgt := 69) hx hb dX6_likeness_11 (by decide) (fun c11 => ?_) (fun c11 => ?_)
      · rw [if_pos c11] at hσ
        refine lv_iload_n hx hb dX6_likeness_69 rfl (lv_at hl 2 rfl) ?_
        subst hσ
        exact vq_iret hx hb hr hlocks hK hP hD hS rfl dX6_likeness_70
      · rw [if_neg c11] at hσ
        refine lv_iload_n hx hb dX6_likeness_14 rfl (lv_at hl 3 rfl) ?_
        refine lv_aload_n hx hb dX6_likeness_15 rfl (lv_at hl 0 rfl) ?_
        refine va_get (D := (dC, dI)) (ci := 6) (v := .ref (g 0)) (C := RX6) (T := TX6) (N := 15) hx hb hts (fun _ h => List.mem_cons_of_mem _ (List.mem_append_right _ h)) hown hK hP 0 rfl rfl 0 (by decide) (hts (.fieldLink RX6 7 "SharedLineModel" "now" "[I") (List.mem_of_getElem? (i := 1) rfl)) (fun _ h9 => h9) rfl dX6_likeness_16 ?_
        refine lv_iconst (v := 3) hx hb dX6_likeness_19 (by decide) ?_
        refine vq_ialdK (k := 3) hx hb hK hP 1 0 rfl rfl (by decide) (by decide) (by decide) dX6_likeness_20 ?_
        refine lv_iadd hx hb dX6_likeness_21 ?_
        refine lv_istore (lv' := [(4, .int (x3_4 + ((S.2 0) 3))), (0, .ref h), (1, .int p1), (2, .int x2_4), (3, .int x3_4)]) hx hb dX6_likeness_22 hl (by decide) rfl (fun ls hl => ?_)
        refine lv_iload_n hx hb dX6_likeness_24 rfl (lv_at hl 3 rfl) ?_
        refine lv_aload_n hx hb dX6_likeness_25 rfl (lv_at hl 1 rfl) ?_
        refine lv_iload_n hx hb dX6_likeness_26 rfl (lv_at hl 4 rfl) ?_
        refine vq_Vi (As := [.int x3_4]) (rest := [.int x2_4]) (W2 := (wM cI cZ h g S)) (f := (bI (sX6_isNote S x3_4))) hx hb hml hown hts hK hP hD hS hA hE hl.1 (cX6_isNote_c l ev dC dI cI cZ cO h g S x3_4 hT) gX6_likeness_X6_isNote rfl hdX6_isNote (Nat.le_of_ble_eq_true rfl) (Nat.le_of_ble_eq_true rfl) rfl rfl (ci := 6) (qr := 0) rfl rfl rfl [0, 1, 2, 3, 4, 5, 6, 7, 8, 9] [] [0, 1, 2, 3, 4, 5, 6, 7, 8, 9] rfl rfl (by decide) (by decide) (by decide) rfl rfl rfl (Nat.le_of_ble_eq_true rfl) dX6_likeness_27 ⟨Nat.zero_le _, Nat.zero_le _⟩ (fun H locs hP hD hS => ?_)
        refine lv_if_eqB (tgt := 60) hx hb dX6_likeness_30 (by decide) (fun c30 => ?_) (fun c30 => ?_)
        · rw [if_neg (Bool.eq_false_iff.mp c30)] at hσ
          refine lv_iconst (v := 0) hx hb dX6_likeness_60 (by decide) ?_
          refine lv_iadd hx hb dX6_likeness_61 ?_
          refine lv_istore_n (lv' := [(2, .int (x2_4 + 0)), (4, .int (x3_4 + ((S.2 0) 3))), (0, .ref h), (1, .int p1), (3, .int x3_4)]) hx hb dX6_likeness_62 rfl hl (by decide) rfl (fun ls hl => ?_)
          refine lv_iinc (v := (x3_4 + 1)) (lv' := [(3, .int (x3_4 + 1)), (2, .int (x2_4 + 0)), (4, .int (x3_4 + ((S.2 0) 3))), (0, .ref h), (1, .int p1)]) hx hb dX6_likeness_63 hl (k := 4) rfl rfl (by decide) rfl (fun ls hl => ?_)
          refine lv_goto (tgt := 4) hx hb dX6_likeness_66 (by decide) ?_
          exact ih4 (x2_4 + 0) (x3_4 + 1) (k4 + 1) (up_s e4) (by have := up_lt e4 eT (by omega) c11; omega) (by omega) hσ _ _ _ hP hD hS (lv_sub hl [3, 4, 1, 0] rfl)
        · rw [if_pos c30] at hσ
          refine lv_aload_n hx hb dX6_likeness_33 rfl (lv_at hl 1 rfl) ?_
          refine lv_iload hx hb dX6_likeness_34 (lv_at hl 0 rfl) ?_
          refine vq_Vi (As := [.int (x3_4 + ((S.2 0) 3))]) (rest := [.int x2_4]) (W2 := (wM cI cZ h g S)) (f := (bI (sX6_isNote S (x3_4 + ((S.2 0) 3))))) hx hb hml hown hts hK hP hD hS hA hE hl.1 (cX6_isNote_c l ev dC dI cI cZ cO h g S (x3_4 + ((S.2 0) 3)) hT) gX6_likeness_X6_isNote rfl hdX6_isNote (Nat.le_of_ble_eq_true rfl) (Nat.le_of_ble_eq_true rfl) rfl rfl (ci := 6) (qr := 0) rfl rfl rfl [0, 1, 2, 3, 4, 5, 6, 7, 8, 9] [] [0, 1, 2, 3, 4, 5, 6, 7, 8, 9] rfl rfl (by decide) (by decide) (by decide) rfl rfl rfl (Nat.le_of_ble_eq_true rfl) dX6_likeness_36 ⟨Nat.zero_le _, Nat.zero_le _⟩ (fun H locs hP hD hS => ?_)
          refine lv_if_eqB (tgt := 60) hx hb dX6_likeness_39 (by decide) (fun c39 => ?_) (fun c39 => ?_)
          · rw [if_neg (Bool.eq_false_iff.mp c39)] at hσ
            refine lv_iconst (v := 0) hx hb dX6_likeness_60 (by decide) ?_
            refine lv_iadd hx hb dX6_likeness_61 ?_
            refine lv_istore_n (lv' := [(2, .int (x2_4 + 0)), (4, .int (x3_4 + ((S.2 0) 3))), (0, .ref h), (1, .int p1), (3, .int x3_4)]) hx hb dX6_likeness_62 rfl hl (by decide) rfl (fun ls hl => ?_)
            refine lv_iinc (v := (x3_4 + 1)) (lv' := [(3, .int (x3_4 + 1)), (2, .int (x2_4 + 0)), (4, .int (x3_4 + ((S.2 0) 3))), (0, .ref h), (1, .int p1)]) hx hb dX6_likeness_63 hl (k := 4) rfl rfl (by decide) rfl (fun ls hl => ?_)
            refine lv_goto (tgt := 4) hx hb dX6_likeness_66 (by decide) ?_
            exact ih4 (x2_4 + 0) (x3_4 + 1) (k4 + 1) (up_s e4) (by have := up_lt e4 eT (by omega) c11; omega) (by omega) hσ _ _ _ hP hD hS (lv_sub hl [3, 4, 1, 0] rfl)
          · rw [if_pos c39] at hσ
            refine lv_iload_n hx hb dX6_likeness_42 rfl (lv_at hl 2 rfl) ?_
            refine lv_iload_n hx hb dX6_likeness_43 rfl (lv_at hl 4 rfl) ?_
            refine vq_Si (As := [.int p1, .int x3_4]) (rest := [.int x2_4]) (W2 := (wM cI cZ h g S)) (f := (bI (sX6_has p1 x3_4))) hx hb hml hown hts hK hP hD hS hA hE hl.1 (cX6_has_c l ev dC dI cI cZ cO p1 x3_4) gX6_likeness_X6_has rfl hdX6_has (Nat.le_of_ble_eq_true rfl) (Nat.le_of_ble_eq_true rfl) rfl rfl [] [0, 1, 2, 3, 4, 5, 6, 7, 8, 9] [0, 1, 2, 3, 4, 5, 6, 7, 8, 9] rfl rfl (by decide) (by decide) (by decide) rfl rfl rfl (Nat.le_of_ble_eq_true rfl) dX6_likeness_44 ⟨Nat.zero_le _, Nat.zero_le _⟩ (fun H locs hP hD hS => ?_)
            refine lv_iload_n hx hb dX6_likeness_47 rfl (lv_at hl 2 rfl) ?_
            refine lv_iload hx hb dX6_likeness_48 (lv_at hl 0 rfl) ?_
            refine vq_Si (As := [.int p1, .int (x3_4 + ((S.2 0) 3))]) (rest := [.int (bI (sX6_has p1 x3_4)), .int x2_4]) (W2 := (wM cI cZ h g S)) (f := (bI (sX6_has p1 (x3_4 + ((S.2 0) 3))))) hx hb hml hown hts hK hP hD hS hA hE hl.1 (cX6_has_c l ev dC dI cI cZ cO p1 (x3_4 + ((S.2 0) 3))) gX6_likeness_X6_has rfl hdX6_has (Nat.le_of_ble_eq_true rfl) (Nat.le_of_ble_eq_true rfl) rfl rfl [] [0, 1, 2, 3, 4, 5, 6, 7, 8, 9] [0, 1, 2, 3, 4, 5, 6, 7, 8, 9] rfl rfl (by decide) (by decide) (by decide) rfl rfl rfl (Nat.le_of_ble_eq_true rfl) dX6_likeness_50 ⟨Nat.zero_le _, Nat.zero_le _⟩ (fun H locs hP hD hS => ?_)
            refine lv_icmp_neB (t := (sX6_has p1 x3_4)) (u := (sX6_has p1 (x3_4 + ((S.2 0) 3)))) (tgt := 60) hx hb dX6_likeness_53 (by decide) (fun c53 => ?_) (fun c53 => ?_)
            · rw [if_neg c53] at hσ
              refine lv_iconst (v := 0) hx hb dX6_likeness_60 (by decide) ?_
              refine lv_iadd hx hb dX6_likeness_61 ?_
              refine lv_istore_n (lv' := [(2, .int (x2_4 + 0)), (4, .int (x3_4 + ((S.2 0) 3))), (0, .ref h), (1, .int p1), (3, .int x3_4)]) hx hb dX6_likeness_62 rfl hl (by decide) rfl (fun ls hl => ?_)
              refine lv_iinc (v := (x3_4 + 1)) (lv' := [(3, .int (x3_4 + 1)), (2, .int (x2_4 + 0)), (4, .int (x3_4 + ((S.2 0) 3))), (0, .ref h), (1, .int p1)]) hx hb dX6_likeness_63 hl (k := 4) rfl rfl (by decide) rfl (fun ls hl => ?_)
              refine lv_goto (tgt := 4) hx hb dX6_likeness_66 (by decide) ?_
              exact ih4 (x2_4 + 0) (x3_4 + 1) (k4 + 1) (up_s e4) (by have := up_lt e4 eT (by omega) c11; omega) (by omega) hσ _ _ _ hP hD hS (lv_sub hl [3, 4, 1, 0] rfl)
            · rw [if_pos c53] at hσ
              refine lv_iconst (v := 1) hx hb dX6_likeness_56 (by decide) ?_
              refine lv_goto (tgt := 61) hx hb dX6_likeness_57 (by decide) ?_
              refine lv_iadd hx hb dX6_likeness_61 ?_
              refine lv_istore_n (lv' := [(2, .int (x2_4 + 1)), (4, .int (x3_4 + ((S.2 0) 3))), (0, .ref h), (1, .int p1), (3, .int x3_4)]) hx hb dX6_likeness_62 rfl hl (by decide) rfl (fun ls hl => ?_)
              refine lv_iinc (v := (x3_4 + 1)) (lv' := [(3, .int (x3_4 + 1)), (2, .int (x2_4 + 1)), (4, .int (x3_4 + ((S.2 0) 3))), (0, .ref h), (1, .int p1)]) hx hb dX6_likeness_63 hl (k := 4) rfl rfl (by decide) rfl (fun ls hl => ?_)
              refine lv_goto (tgt := 4) hx hb dX6_likeness_66 (by decide) ?_
              exact ih4 (x2_4 + 1) (x3_4 + 1) (k4 + 1) (up_s e4) (by have := up_lt e4 eT (by omega) c11; omega) (by omega) hσ _ _ _ hP hD hS (lv_sub hl [3, 4, 1, 0] rfl)
  exact key4 13 (0 : Int32) (0 : Int32) 0 nI_0.symm (Nat.zero_le _) (Nat.le_refl _) hσ _ _ _ hP hD hS (lv_sub hl [2, 3, 1, 0] rfl)
theorem hdX6_tilt : yX6_tilt.cls = RX6 ∧ yX6_tilt.cls ≠ "java/lang/invoke/MethodHandle" ∧ yX6_tilt.cls ≠ "java/lang/invoke/VarHandle" ∧ (parseMethodDescriptor yX6_tilt.desc).map (fun d => d.parameters.length) = some 1 := by decide +kernel
set_option maxHeartbeats 4000000 in
set_option maxRecDepth 100000 in
theorem cX6_tilt_c (l : Launch) (ev : Nat → Nat) (dC : Nat → ClassId) (dI : Nat → Nat → Nat) (cI cZ cO : ClassId) (h : Nat) (g : Nat → Nat) (S : MSt) (p1 : Int32) (hT : LOK S) : MetI l ev (dC, dI) (tyC cI cZ cO) yX6_tilt wsX6_tilt (rmF 3 64) [.ref h, .int p1] (wM cI cZ h g S) (sX6_tilt S p1) (wM cI cZ h g S) := by
  refine MetI_of (cc := cX6_tilt) (maxL := 4) (ret := (some .int)) (by decide) rfl (Nat.le_of_ble_eq_true rfl) ?_
  intro p e s m below meth c A ls hx hb hr hml hts hown hlocks hin hK hP hD hA hE hl
  have hown : s.vm.findClass RX6 = some m.cls := hown
  have hl : lv_has ls 4 [(0, .ref h), (1, .int p1)] := hl
  have hS : va_S A s.heap s.heap [] := va_S.rf
  obtain ⟨σ, hσ⟩ : ∃ σ, (sX6_tilt S p1) = σ := ⟨_, rfl⟩
  rw [hσ]
  rw [sX6_tilt] at hσ
  obtain ⟨T, eT, hT1, hT2⟩ := id hT
  refine lv_iconst (v := 0) hx hb dX6_tilt_0 (by decide) ?_
  refine lv_istore_n (lv' := [(2, .int 0), (0, .ref h), (1, .int p1)]) hx hb dX6_tilt_1 rfl hl (by decide) rfl (fun ls hl => ?_)
  refine lv_iconst (v := 0) hx hb dX6_tilt_2 (by decide) ?_
  refine lv_istore_n (lv' := [(3, .int 0), (2, .int 0), (0, .ref h), (1, .int p1)]) hx hb dX6_tilt_3 rfl hl (by decide) rfl (fun ls hl => ?_)
  have key4 : ∀ (n4 : Nat) (x2_4 : Int32) (x3_4 : Int32)  (k4 : Nat), (x3_4 = nI k4) → (k4 ≤ 12) → (12 + 1 ≤ n4 + k4) → (sX6_tilt_L4 S p1 n4 x2_4 x3_4) = σ → ∀ (H : Heap) (locs : List Loc) (ls : Array Slot), va_P (dC, dI) vwCl (wM cI cZ h g S) H → va_D A (wM cI cZ h g S) → va_S A s.heap H locs → lv_has ls 4 [(0, .ref h), (1, .int p1), (2, .int x2_4), (3, .int x3_4)] → W p l e (headSpec wsX6_tilt (rmF 3 64)).room s m ([.ref h, .int p1] : List Value).toArray below meth c H locs 0 0 (MQ below (va_Qi (fun (x : Int32) (_ : Unit) => x = σ) (fun _ t => PoW (dC, dI) (tyC cI cZ cO) A (wM cI cZ h g S) t) A) ([.ref h, .int p1] : List Value).toArray s 0 0 A) (F0 m 4 ls []) := by
    intro n4
    induction n4 with
    | zero =>
      intro x2_4 x3_4 k4 e4 hk4 hn4
      exact absurd hn4 (by omega)
    | succ n4 ih4 =>
      intro x2_4 x3_4 k4 e4 hk4 hn4 hσ H locs ls hP hD hS hl
      rw [sX6_tilt_L4_s] at hσ
      refine lv_iload_n hx hb dX6_tilt_4 rfl (lv_at hl 3 rfl) ?_
      refine lv_aload_n hx hb dX6_tilt_5 rfl (lv_at hl 0 rfl) ?_
      refine va_get (D := (dC, dI)) (ci := 6) (v := .ref (g 0)) (C := RX6) (T := TX6) (N := 15) hx hb hts (fun _ h => List.mem_cons_of_mem _ (List.mem_append_right _ h)) hown hK hP 0 rfl rfl 0 (by decide) (hts (.fieldLink RX6 7 "SharedLineModel" "now" "[I") (List.mem_of_getElem? (i := 1) rfl)) (fun _ h9 => h9) rfl dX6_tilt_6 ?_
      refine lv_iconst (v := 0) hx hb dX6_tilt_9 (by decide) ?_
      refine vq_ialdK (k := 0) hx hb hK hP 1 0 rfl rfl (by decide) (by decide) (by decide) dX6_tilt_10 ?_
      refine lv_icmp_ge (tgt := 48) hx hb dX6_tilt_11 (by decide) (fun c11 => ?_) (fun c11 => ?_)
      · rw [if_pos c11] at hσ
        refine lv_iload_n hx hb dX6_tilt_48 rfl (lv_at hl 2 rfl) ?_
        subst hσ
        exact vq_iret hx hb hr hlocks hK hP hD hS rfl dX6_tilt_49
      · rw [if_neg c11] at hσ
        refine lv_iload_n hx hb dX6_tilt_14 rfl (lv_at hl 2 rfl) ?_
        refine lv_aload_n hx hb dX6_tilt_15 rfl (lv_at hl 0 rfl) ?_
        refine lv_iload_n hx hb dX6_tilt_16 rfl (lv_at hl 3 rfl) ?_
        refine vq_Vi (As := [.int x3_4]) (rest := [.int x2_4]) (W2 := (wM cI cZ h g S)) (f := (bI (sX6_isNote S x3_4))) hx hb hml hown hts hK hP hD hS hA hE hl.1 (cX6_isNote_c l ev dC dI cI cZ cO h g S x3_4 hT) gX6_tilt_X6_isNote rfl hdX6_isNote (Nat.le_of_ble_eq_true rfl) (Nat.le_of_ble_eq_true rfl) rfl rfl (ci := 6) (qr := 0) rfl rfl rfl [0, 1, 2, 3, 4, 5, 6, 7, 8, 9] [] [0, 1, 2, 3, 4, 5, 6, 7, 8, 9] rfl rfl (by decide) (by decide) (by decide) rfl rfl rfl (Nat.le_of_ble_eq_true rfl) dX6_tilt_17 ⟨Nat.zero_le _, Nat.zero_le _⟩ (fun H locs hP hD hS => ?_)
        refine lv_if_neB (tgt := 27) hx hb dX6_tilt_20 (by decide) (fun c20 => ?_) (fun c20 => ?_)
        · rw [if_pos c20] at hσ
          refine lv_iload_n hx hb dX6_tilt_27 rfl (lv_at hl 1 rfl) ?_
          refine lv_iload_n hx hb dX6_tilt_28 rfl (lv_at hl 3 rfl) ?_
          refine vq_Si (As := [.int p1, .int x3_4]) (rest := [.int x2_4]) (W2 := (wM cI cZ h g S)) (f := (bI (sX6_has p1 x3_4))) hx hb hml hown hts hK hP hD hS hA hE hl.1 (cX6_has_c l ev dC dI cI cZ cO p1 x3_4) gX6_tilt_X6_has rfl hdX6_has (Nat.le_of_ble_eq_true rfl) (Nat.le_of_ble_eq_true rfl) rfl rfl [] [0, 1, 2, 3, 4, 5, 6, 7, 8, 9] [0, 1, 2, 3, 4, 5, 6, 7, 8, 9] rfl rfl (by decide) (by decide) (by decide) rfl rfl rfl (Nat.le_of_ble_eq_true rfl) dX6_tilt_29 ⟨Nat.zero_le _, Nat.zero_le _⟩ (fun H locs hP hD hS => ?_)
          refine lv_if_eqB (tgt := 39) hx hb dX6_tilt_32 (by decide) (fun c32 => ?_) (fun c32 => ?_)
          · rw [if_neg (Bool.eq_false_iff.mp c32)] at hσ
            refine lv_iconst (v := 1) hx hb dX6_tilt_39 (by decide) ?_
            refine lv_iadd hx hb dX6_tilt_40 ?_
            refine lv_istore_n (lv' := [(2, .int (x2_4 + 1)), (0, .ref h), (1, .int p1), (3, .int x3_4)]) hx hb dX6_tilt_41 rfl hl (by decide) rfl (fun ls hl => ?_)
            refine lv_iinc (v := (x3_4 + 1)) (lv' := [(3, .int (x3_4 + 1)), (2, .int (x2_4 + 1)), (0, .ref h), (1, .int p1)]) hx hb dX6_tilt_42 hl (k := 3) rfl rfl (by decide) rfl (fun ls hl => ?_)
            refine lv_goto (tgt := 4) hx hb dX6_tilt_45 (by decide) ?_
            exact ih4 (x2_4 + 1) (x3_4 + 1) (k4 + 1) (up_s e4) (by have := up_lt e4 eT (by omega) c11; omega) (by omega) hσ _ _ _ hP hD hS (lv_sub hl [2, 3, 1, 0] rfl)
          · rw [if_pos c32] at hσ
            refine lv_iconst (v := (-1)) hx hb dX6_tilt_35 (by decide) ?_
            refine lv_goto (tgt := 40) hx hb dX6_tilt_36 (by decide) ?_
            refine lv_iadd hx hb dX6_tilt_40 ?_
            refine lv_istore_n (lv' := [(2, .int (x2_4 + (-1))), (0, .ref h), (1, .int p1), (3, .int x3_4)]) hx hb dX6_tilt_41 rfl hl (by decide) rfl (fun ls hl => ?_)
            refine lv_iinc (v := (x3_4 + 1)) (lv' := [(3, .int (x3_4 + 1)), (2, .int (x2_4 + (-1))), (0, .ref h), (1, .int p1)]) hx hb dX6_tilt_42 hl (k := 3) rfl rfl (by decide) rfl (fun ls hl => ?_)
            refine lv_goto (tgt := 4) hx hb dX6_tilt_45 (by decide) ?_
            exact ih4 (x2_4 + (-1)) (x3_4 + 1) (k4 + 1) (up_s e4) (by have := up_lt e4 eT (by omega) c11; omega) (by omega) hσ _ _ _ hP hD hS (lv_sub hl [2, 3, 1, 0] rfl)
        · rw [if_neg (Bool.eq_false_iff.mp c20)] at hσ
          refine lv_iconst (v := 0) hx hb dX6_tilt_23 (by decide) ?_
          refine lv_goto (tgt := 40) hx hb dX6_tilt_24 (by decide) ?_
          refine lv_iadd hx hb dX6_tilt_40 ?_
          refine lv_istore_n (lv' := [(2, .int (x2_4 + 0)), (0, .ref h), (1, .int p1), (3, .int x3_4)]) hx hb dX6_tilt_41 rfl hl (by decide) rfl (fun ls hl => ?_)
          refine lv_iinc (v := (x3_4 + 1)) (lv' := [(3, .int (x3_4 + 1)), (2, .int (x2_4 + 0)), (0, .ref h), (1, .int p1)]) hx hb dX6_tilt_42 hl (k := 3) rfl rfl (by decide) rfl (fun ls hl => ?_)
          refine lv_goto (tgt := 4) hx hb dX6_tilt_45 (by decide) ?_
          exact ih4 (x2_4 + 0) (x3_4 + 1) (k4 + 1) (up_s e4) (by have := up_lt e4 eT (by omega) c11; omega) (by omega) hσ _ _ _ hP hD hS (lv_sub hl [2, 3, 1, 0] rfl)
  exact key4 13 (0 : Int32) (0 : Int32) 0 nI_0.symm (Nat.zero_le _) (Nat.le_refl _) hσ _ _ _ hP hD hS (lv_sub hl [2, 3, 1, 0] rfl)
theorem hdX6_ofHand : yX6_ofHand.cls = RX6 ∧ yX6_ofHand.cls ≠ "java/lang/invoke/MethodHandle" ∧ yX6_ofHand.cls ≠ "java/lang/invoke/VarHandle" ∧ (parseMethodDescriptor yX6_ofHand.desc).map (fun d => d.parameters.length) = some 1 := by decide +kernel
set_option maxHeartbeats 4000000 in
set_option maxRecDepth 100000 in
theorem cX6_ofHand_c (l : Launch) (ev : Nat → Nat) (dC : Nat → ClassId) (dI : Nat → Nat → Nat) (cI cZ cO : ClassId) (h : Nat) (g : Nat → Nat) (S : MSt) (p1 : Int32) (hT : LOK S) : MetI l ev (dC, dI) (tyC cI cZ cO) yX6_ofHand wsX6_ofHand (rmF 3 64) [.ref h, .int p1] (wM cI cZ h g S) (sX6_ofHand S p1) (wM cI cZ h g S) := by
  refine MetI_of (cc := cX6_ofHand) (maxL := 4) (ret := (some .int)) (by decide) rfl (Nat.le_of_ble_eq_true rfl) ?_
  intro p e s m below meth c A ls hx hb hr hml hts hown hlocks hin hK hP hD hA hE hl
  have hown : s.vm.findClass RX6 = some m.cls := hown
  have hl : lv_has ls 4 [(0, .ref h), (1, .int p1)] := hl
  have hS : va_S A s.heap s.heap [] := va_S.rf
  obtain ⟨σ, hσ⟩ : ∃ σ, (sX6_ofHand S p1) = σ := ⟨_, rfl⟩
  rw [hσ]
  rw [sX6_ofHand] at hσ
  obtain ⟨T, eT, hT1, hT2⟩ := id hT
  refine lv_iconst (v := 0) hx hb dX6_ofHand_0 (by decide) ?_
  refine lv_istore_n (lv' := [(2, .int 0), (0, .ref h), (1, .int p1)]) hx hb dX6_ofHand_1 rfl hl (by decide) rfl (fun ls hl => ?_)
  refine lv_iconst (v := 0) hx hb dX6_ofHand_2 (by decide) ?_
  refine lv_istore_n (lv' := [(3, .int 0), (2, .int 0), (0, .ref h), (1, .int p1)]) hx hb dX6_ofHand_3 rfl hl (by decide) rfl (fun ls hl => ?_)
  have key4 : ∀ (n4 : Nat) (x2_4 : Int32) (x3_4 : Int32)  (k4 : Nat), (x3_4 = nI k4) → (k4 ≤ 12) → (12 + 1 ≤ n4 + k4) → (sX6_ofHand_L4 S p1 n4 x2_4 x3_4) = σ → ∀ (H : Heap) (locs : List Loc) (ls : Array Slot), va_P (dC, dI) vwCl (wM cI cZ h g S) H → va_D A (wM cI cZ h g S) → va_S A s.heap H locs → lv_has ls 4 [(0, .ref h), (1, .int p1), (2, .int x2_4), (3, .int x3_4)] → W p l e (headSpec wsX6_ofHand (rmF 3 64)).room s m ([.ref h, .int p1] : List Value).toArray below meth c H locs 0 0 (MQ below (va_Qi (fun (x : Int32) (_ : Unit) => x = σ) (fun _ t => PoW (dC, dI) (tyC cI cZ cO) A (wM cI cZ h g S) t) A) ([.ref h, .int p1] : List Value).toArray s 0 0 A) (F0 m 4 ls []) := by
    intro n4
    induction n4 with
    | zero =>
      intro x2_4 x3_4 k4 e4 hk4 hn4
      exact absurd hn4 (by omega)
    | succ n4 ih4 =>
      intro x2_4 x3_4 k4 e4 hk4 hn4 hσ H locs ls hP hD hS hl
      rw [sX6_ofHand_L4_s] at hσ
      refine lv_iload_n hx hb dX6_ofHand_4 rfl (lv_at hl 3 rfl) ?_
      refine lv_aload_n hx hb dX6_ofHand_5 rfl (lv_at hl 0 rfl) ?_
      refine va_get (D := (dC, dI)) (ci := 6) (v := .ref (g 0)) (C := RX6) (T := TX6) (N := 15) hx hb hts (fun _ h => List.mem_cons_of_mem _ (List.mem_append_right _ h)) hown hK hP 0 rfl rfl 0 (by decide) (hts (.fieldLink RX6 7 "SharedLineModel" "now" "[I") (List.mem_of_getElem? (i := 1) rfl)) (fun _ h9 => h9) rfl dX6_ofHand_6 ?_
      refine lv_iconst (v := 0) hx hb dX6_ofHand_9 (by decide) ?_
      refine vq_ialdK (k := 0) hx hb hK hP 1 0 rfl rfl (by decide) (by decide) (by decide) dX6_ofHand_10 ?_
      refine lv_icmp_ge (tgt := 51) hx hb dX6_ofHand_11 (by decide) (fun c11 => ?_) (fun c11 => ?_)
      · rw [if_pos c11] at hσ
        refine lv_iload_n hx hb dX6_ofHand_51 rfl (lv_at hl 2 rfl) ?_
        subst hσ
        exact vq_iret hx hb hr hlocks hK hP hD hS rfl dX6_ofHand_52
      · rw [if_neg c11] at hσ
        refine lv_iload_n hx hb dX6_ofHand_14 rfl (lv_at hl 2 rfl) ?_
        refine lv_aload_n hx hb dX6_ofHand_15 rfl (lv_at hl 0 rfl) ?_
        refine lv_iload_n hx hb dX6_ofHand_16 rfl (lv_at hl 3 rfl) ?_
        refine vq_Vi (As := [.int x3_4]) (rest := [.int x2_4]) (W2 := (wM cI cZ h g S)) (f := (bI (sX6_isNote S x3_4))) hx hb hml hown hts hK hP hD hS hA hE hl.1 (cX6_isNote_c l ev dC dI cI cZ cO h g S x3_4 hT) gX6_ofHand_X6_isNote rfl hdX6_isNote (Nat.le_of_ble_eq_true rfl) (Nat.le_of_ble_eq_true rfl) rfl rfl (ci := 6) (qr := 0) rfl rfl rfl [0, 1, 2, 3, 4, 5, 6, 7, 8, 9] [] [0, 1, 2, 3, 4, 5, 6, 7, 8, 9] rfl rfl (by decide) (by decide) (by decide) rfl rfl rfl (Nat.le_of_ble_eq_true rfl) dX6_ofHand_17 ⟨Nat.zero_le _, Nat.zero_le _⟩ (fun H locs hP hD hS => ?_)
        refine lv_if_eqB (tgt := 42) hx hb dX6_ofHand_20 (by decide) (fun c20 => ?_) (fun c20 => ?_)
        · rw [if_neg (Bool.eq_false_iff.mp c20)] at hσ
          refine lv_iconst (v := 0) hx hb dX6_ofHand_42 (by decide) ?_
          refine lv_iadd hx hb dX6_ofHand_43 ?_
          refine lv_istore_n (lv' := [(2, .int (x2_4 + 0)), (0, .ref h), (1, .int p1), (3, .int x3_4)]) hx hb dX6_ofHand_44 rfl hl (by decide) rfl (fun ls hl => ?_)
          refine lv_iinc (v := (x3_4 + 1)) (lv' := [(3, .int (x3_4 + 1)), (2, .int (x2_4 + 0)), (0, .ref h), (1, .int p1)]) hx hb dX6_ofHand_45 hl (k := 3) rfl rfl (by decide) rfl (fun ls hl => ?_)
          refine lv_goto (tgt := 4) hx hb dX6_ofHand_48 (by decide) ?_
          exact ih4 (x2_4 + 0) (x3_4 + 1) (k4 + 1) (up_s e4) (by have := up_lt e4 eT (by omega) c11; omega) (by omega) hσ _ _ _ hP hD hS (lv_sub hl [2, 3, 1, 0] rfl)
        · rw [if_pos c20] at hσ
          refine lv_aload_n hx hb dX6_ofHand_23 rfl (lv_at hl 0 rfl) ?_
          refine va_get (D := (dC, dI)) (ci := 6) (v := .ref (g 0)) (C := RX6) (T := TX6) (N := 15) hx hb hts (fun _ h => List.mem_cons_of_mem _ (List.mem_append_right _ h)) hown hK hP 0 rfl rfl 0 (by decide) (hts (.fieldLink RX6 7 "SharedLineModel" "now" "[I") (List.mem_of_getElem? (i := 1) rfl)) (fun _ h9 => h9) rfl dX6_ofHand_24 ?_
          refine lv_bipush (v := 16) hx hb dX6_ofHand_27 (by decide) ?_
          refine vq_ialdK (k := 16) hx hb hK hP 1 0 rfl rfl (by decide) (by decide) (by decide) dX6_ofHand_29 ?_
          refine lv_iload_n hx hb dX6_ofHand_30 rfl (lv_at hl 3 rfl) ?_
          refine lv_ishr hx hb dX6_ofHand_31 ?_
          refine lv_iconst (v := 1) hx hb dX6_ofHand_32 (by decide) ?_
          refine lv_iand hx hb dX6_ofHand_33 ?_
          refine lv_iload_n hx hb dX6_ofHand_34 rfl (lv_at hl 1 rfl) ?_
          refine lv_icmp_ne (tgt := 42) hx hb dX6_ofHand_35 (by decide) (fun c35 => ?_) (fun c35 => ?_)
          · rw [if_neg c35] at hσ
            refine lv_iconst (v := 0) hx hb dX6_ofHand_42 (by decide) ?_
            refine lv_iadd hx hb dX6_ofHand_43 ?_
            refine lv_istore_n (lv' := [(2, .int (x2_4 + 0)), (0, .ref h), (1, .int p1), (3, .int x3_4)]) hx hb dX6_ofHand_44 rfl hl (by decide) rfl (fun ls hl => ?_)
            refine lv_iinc (v := (x3_4 + 1)) (lv' := [(3, .int (x3_4 + 1)), (2, .int (x2_4 + 0)), (0, .ref h), (1, .int p1)]) hx hb dX6_ofHand_45 hl (k := 3) rfl rfl (by decide) rfl (fun ls hl => ?_)
            refine lv_goto (tgt := 4) hx hb dX6_ofHand_48 (by decide) ?_
            exact ih4 (x2_4 + 0) (x3_4 + 1) (k4 + 1) (up_s e4) (by have := up_lt e4 eT (by omega) c11; omega) (by omega) hσ _ _ _ hP hD hS (lv_sub hl [2, 3, 1, 0] rfl)
          · rw [if_pos c35] at hσ
            refine lv_iconst (v := 1) hx hb dX6_ofHand_38 (by decide) ?_
            refine lv_goto (tgt := 43) hx hb dX6_ofHand_39 (by decide) ?_
            refine lv_iadd hx hb dX6_ofHand_43 ?_
            refine lv_istore_n (lv' := [(2, .int (x2_4 + 1)), (0, .ref h), (1, .int p1), (3, .int x3_4)]) hx hb dX6_ofHand_44 rfl hl (by decide) rfl (fun ls hl => ?_)
            refine lv_iinc (v := (x3_4 + 1)) (lv' := [(3, .int (x3_4 + 1)), (2, .int (x2_4 + 1)), (0, .ref h), (1, .int p1)]) hx hb dX6_ofHand_45 hl (k := 3) rfl rfl (by decide) rfl (fun ls hl => ?_)
            refine lv_goto (tgt := 4) hx hb dX6_ofHand_48 (by decide) ?_
            exact ih4 (x2_4 + 1) (x3_4 + 1) (k4 + 1) (up_s e4) (by have := up_lt e4 eT (by omega) c11; omega) (by omega) hσ _ _ _ hP hD hS (lv_sub hl [2, 3, 1, 0] rfl)
  exact key4 13 (0 : Int32) (0 : Int32) 0 nI_0.symm (Nat.zero_le _) (Nat.le_refl _) hσ _ _ _ hP hD hS (lv_sub hl [2, 3, 1, 0] rfl)
theorem hdX6_shareOf : yX6_shareOf.cls = RX6 ∧ yX6_shareOf.cls ≠ "java/lang/invoke/MethodHandle" ∧ yX6_shareOf.cls ≠ "java/lang/invoke/VarHandle" ∧ (parseMethodDescriptor yX6_shareOf.desc).map (fun d => d.parameters.length) = some 1 := by decide +kernel
set_option maxHeartbeats 4000000 in
set_option maxRecDepth 100000 in
theorem cX6_shareOf_c (l : Launch) (ev : Nat → Nat) (dC : Nat → ClassId) (dI : Nat → Nat → Nat) (cI cZ cO : ClassId) (h : Nat) (g : Nat → Nat) (S : MSt) (p1 : Int32) (hT : LOK S) : MetI l ev (dC, dI) (tyC cI cZ cO) yX6_shareOf wsX6_shareOf (rmF 3 64) [.ref h, .int p1] (wM cI cZ h g S) (sX6_shareOf S p1) (wM cI cZ h g S) := by
  refine MetI_of (cc := cX6_shareOf) (maxL := 5) (ret := (some .int)) (by decide) rfl (Nat.le_of_ble_eq_true rfl) ?_
  intro p e s m below meth c A ls hx hb hr hml hts hown hlocks hin hK hP hD hA hE hl
  have hown : s.vm.findClass RX6 = some m.cls := hown
  have hl : lv_has ls 5 [(0, .ref h), (1, .int p1)] := hl
  have hS : va_S A s.heap s.heap [] := va_S.rf
  obtain ⟨σ, hσ⟩ : ∃ σ, (sX6_shareOf S p1) = σ := ⟨_, rfl⟩
  rw [hσ]
  rw [sX6_shareOf] at hσ
  obtain ⟨T, eT, hT1, hT2⟩ := id hT
  refine lv_iload_n hx hb dX6_shareOf_0 rfl (lv_at hl 1 rfl) ?_
  refine lv_istore_n (lv' := [(2, .int p1), (0, .ref h), (1, .int p1)]) hx hb dX6_shareOf_1 rfl hl (by decide) rfl (fun ls hl => ?_)
  refine lv_iconst (v := 0) hx hb dX6_shareOf_2 (by decide) ?_
  refine lv_istore_n (lv' := [(3, .int 0), (2, .int p1), (0, .ref h), (1, .int p1)]) hx hb dX6_shareOf_3 rfl hl (by decide) rfl (fun ls hl => ?_)
  refine lv_aload_n hx hb dX6_shareOf_4 rfl (lv_at hl 2 rfl) ?_
  refine va_get (D := (dC, dI)) (ci := 6) (v := .ref (g 0)) (C := RX6) (T := TX6) (N := 15) hx hb hts (fun _ h => List.mem_cons_of_mem _ (List.mem_append_right _ h)) hown hK hP 0 rfl rfl 0 (by decide) (hts (.fieldLink RX6 7 "SharedLineModel" "now" "[I") (List.mem_of_getElem? (i := 1) rfl)) (fun _ h9 => h9) rfl dX6_shareOf_5 ?_
  refine lv_iconst (v := 0) hx hb dX6_shareOf_8 (by decide) ?_
  refine vq_ialdK (k := 0) hx hb hK hP 1 0 rfl rfl (by decide) (by decide) (by decide) dX6_shareOf_9 ?_
  refine lv_iconst (v := 1) hx hb dX6_shareOf_10 (by decide) ?_
  refine lv_isub hx hb dX6_shareOf_11 ?_
  refine lv_istore (lv' := [(4, .int (((S.2 0) 0) - 1)), (3, .int 0), (2, .int p1), (0, .ref h), (1, .int p1)]) hx hb dX6_shareOf_12 hl (by decide) rfl (fun ls hl => ?_)
  have key14 : ∀ (n14 : Nat) (x2_14 : Int32) (x3_14 : Int32) (x4_14 : Int32)  (k14 : Nat), (x4_14 = nI k14 - 1) → (k14 ≤ 12) → (k14 < n14) → (sX6_shareOf_L14 S n14 x2_14 x3_14 x4_14) = σ → ∀ (H : Heap) (locs : List Loc) (ls : Array Slot), va_P (dC, dI) vwCl (wM cI cZ h g S) H → va_D A (wM cI cZ h g S) → va_S A s.heap H locs → lv_has ls 5 [(0, .ref h), (1, .int p1), (2, .int x2_14), (3, .int x3_14), (4, .int x4_14)] → W p l e (headSpec wsX6_shareOf (rmF 3 64)).room s m ([.ref h, .int p1] : List Value).toArray below meth c H locs 0 0 (MQ below (va_Qi (fun (x : Int32) (_ : Unit) => x = σ) (fun _ t => PoW (dC, dI) (tyC cI cZ cO) A (wM cI cZ h g S) t) A) ([.ref h, .int p1] : List Value).toArray s 0 0 A) (F0 m 14 ls []) := by
    intro n14
    induction n14 with
    | zero =>
      intro x2_14 x3_14 x4_14 k14 e14 hk14 hn14
      exact absurd hn14 (Nat.not_lt_zero _)
    | succ n14 ih14 =>
      intro x2_14 x3_14 x4_14 k14 e14 hk14 hn14 hσ H locs ls hP hD hS hl
      rw [sX6_shareOf_L14_s] at hσ
      refine lv_iload hx hb dX6_shareOf_14 (lv_at hl 4 rfl) ?_
      refine lv_if_lt (tgt := 47) hx hb dX6_shareOf_16 (by decide) (fun c16 => ?_) (fun c16 => ?_)
      · rw [if_pos c16] at hσ
        refine lv_iload_n hx hb dX6_shareOf_47 rfl (lv_at hl 3 rfl) ?_
        subst hσ
        exact vq_iret hx hb hr hlocks hK hP hD hS rfl dX6_shareOf_48
      · rw [if_neg c16] at hσ
        refine lv_aload_n hx hb dX6_shareOf_19 rfl (lv_at hl 0 rfl) ?_
        refine lv_iload hx hb dX6_shareOf_20 (lv_at hl 4 rfl) ?_
        refine vq_Vi (As := [.int x4_14]) (rest := []) (W2 := (wM cI cZ h g S)) (f := (bI (sX6_isNote S x4_14))) hx hb hml hown hts hK hP hD hS hA hE hl.1 (cX6_isNote_c l ev dC dI cI cZ cO h g S x4_14 hT) gX6_shareOf_X6_isNote rfl hdX6_isNote (Nat.le_of_ble_eq_true rfl) (Nat.le_of_ble_eq_true rfl) rfl rfl (ci := 6) (qr := 0) rfl rfl rfl [0, 1, 2, 3, 4, 5, 6, 7, 8, 9] [] [0, 1, 2, 3, 4, 5, 6, 7, 8, 9] rfl rfl (by decide) (by decide) (by decide) rfl rfl rfl (Nat.le_of_ble_eq_true rfl) dX6_shareOf_22 ⟨Nat.zero_le _, Nat.zero_le _⟩ (fun H locs hP hD hS => ?_)
        refine lv_if_eqB (tgt := 41) hx hb dX6_shareOf_25 (by decide) (fun c25 => ?_) (fun c25 => ?_)
        · rw [if_neg (Bool.eq_false_iff.mp c25)] at hσ
          refine lv_iinc (v := (x4_14 + (-1))) (lv' := [(4, .int (x4_14 + (-1))), (0, .ref h), (1, .int p1), (2, .int x2_14), (3, .int x3_14)]) hx hb dX6_shareOf_41 hl (k := 4) rfl rfl (by decide) rfl (fun ls hl => ?_)
          refine lv_goto (tgt := 14) hx hb dX6_shareOf_44 (by decide) ?_
          exact ih14 x2_14 x3_14 (x4_14 + (-1)) (k14 - 1) (dn_b e14 hk14 (by decide) c16).2.2 (by omega) (by have := (dn_b e14 hk14 (by decide) c16).1; omega) hσ _ _ _ hP hD hS (lv_sub hl [1, 2, 3, 4, 0] rfl)
        · rw [if_pos c25] at hσ
          refine lv_iload_n hx hb dX6_shareOf_28 rfl (lv_at hl 3 rfl) ?_
          refine lv_iload_n hx hb dX6_shareOf_29 rfl (lv_at hl 2 rfl) ?_
          refine lv_iconst (v := 1) hx hb dX6_shareOf_30 (by decide) ?_
          refine lv_iand hx hb dX6_shareOf_31 ?_
          refine lv_iload hx hb dX6_shareOf_32 (lv_at hl 4 rfl) ?_
          refine lv_ishl hx hb dX6_shareOf_34 ?_
          refine lv_ior hx hb dX6_shareOf_35 ?_
          refine lv_istore_n (lv' := [(3, .int (x3_14 ||| ((x2_14 &&& 1) <<< (x4_14 &&& 31)))), (0, .ref h), (1, .int p1), (2, .int x2_14), (4, .int x4_14)]) hx hb dX6_shareOf_36 rfl hl (by decide) rfl (fun ls hl => ?_)
          refine lv_iload_n hx hb dX6_shareOf_37 rfl (lv_at hl 3 rfl) ?_
          refine lv_iconst (v := 1) hx hb dX6_shareOf_38 (by decide) ?_
          refine lv_ishr hx hb dX6_shareOf_39 ?_
          refine lv_istore_n (lv' := [(2, .int (x2_14 >>> ((1 : Int32) &&& 31))), (3, .int (x3_14 ||| ((x2_14 &&& 1) <<< (x4_14 &&& 31)))), (0, .ref h), (1, .int p1), (4, .int x4_14)]) hx hb dX6_shareOf_40 rfl hl (by decide) rfl (fun ls hl => ?_)
          refine lv_iinc (v := (x4_14 + (-1))) (lv' := [(4, .int (x4_14 + (-1))), (2, .int (x2_14 >>> ((1 : Int32) &&& 31))), (3, .int (x3_14 ||| ((x2_14 &&& 1) <<< (x4_14 &&& 31)))), (0, .ref h), (1, .int p1)]) hx hb dX6_shareOf_41 hl (k := 4) rfl rfl (by decide) rfl (fun ls hl => ?_)
          refine lv_goto (tgt := 14) hx hb dX6_shareOf_44 (by decide) ?_
          exact ih14 (x2_14 >>> ((1 : Int32) &&& 31)) (x3_14 ||| ((x2_14 &&& 1) <<< (x4_14 &&& 31))) (x4_14 + (-1)) (k14 - 1) (dn_b e14 hk14 (by decide) c16).2.2 (by omega) (by have := (dn_b e14 hk14 (by decide) c16).1; omega) hσ _ _ _ hP hD hS (lv_sub hl [3, 4, 1, 2, 0] rfl)
  exact key14 13 p1 (0 : Int32) (((S.2 0) 0) - 1) T (by rw [eT]) hT2 (by omega) hσ _ _ _ hP hD hS (lv_sub hl [3, 4, 2, 1, 0] rfl)
theorem hdX6_isBetter : yX6_isBetter.cls = RX6 ∧ yX6_isBetter.cls ≠ "java/lang/invoke/MethodHandle" ∧ yX6_isBetter.cls ≠ "java/lang/invoke/VarHandle" ∧ (parseMethodDescriptor yX6_isBetter.desc).map (fun d => d.parameters.length) = some 2 := by decide +kernel
set_option maxHeartbeats 4000000 in
set_option maxRecDepth 100000 in
theorem cX6_isBetter_c (l : Launch) (ev : Nat → Nat) (dC : Nat → ClassId) (dI : Nat → Nat → Nat) (cI cZ cO : ClassId) (h : Nat) (g : Nat → Nat) (S : MSt) (p1 : Int32) (p2 : Int32) (hT : LOK S) : MetI l ev (dC, dI) (tyC cI cZ cO) yX6_isBetter wsX6_isBetter (rmF 4 88) [.ref h, .int p1, .int p2] (wM cI cZ h g S) (bI (sX6_isBetter S p1 p2)) (wM cI cZ h g S) := by
  refine MetI_of (cc := cX6_isBetter) (maxL := 4) (ret := (some .boolean)) (by decide) rfl (Nat.le_of_ble_eq_true rfl) ?_
  intro p e s m below meth c A ls hx hb hr hml hts hown hlocks hin hK hP hD hA hE hl
  have hown : s.vm.findClass RX6 = some m.cls := hown
  have hl : lv_has ls 4 [(0, .ref h), (1, .int p1), (2, .int p2)] := hl
  have hS : va_S A s.heap s.heap [] := va_S.rf
  obtain ⟨σ, hσ⟩ : ∃ σ, (sX6_isBetter S p1 p2) = σ := ⟨_, rfl⟩
  rw [hσ]
  rw [sX6_isBetter] at hσ
  refine lv_aload_n hx hb dX6_isBetter_0 rfl (lv_at hl 0 rfl) ?_
  refine lv_iload_n hx hb dX6_isBetter_1 rfl (lv_at hl 1 rfl) ?_
  refine vq_Vi (As := [.int p1]) (rest := []) (W2 := (wM cI cZ h g S)) (f := (sX6_likeness S p1)) hx hb hml hown hts hK hP hD hS hA hE hl.1 (cX6_likeness_c l ev dC dI cI cZ cO h g S p1 hT) gX6_isBetter_X6_likeness rfl hdX6_likeness (Nat.le_of_ble_eq_true rfl) (Nat.le_of_ble_eq_true rfl) rfl rfl (ci := 6) (qr := 0) rfl rfl rfl [0, 1, 2, 3, 4, 5, 6, 7, 8, 9] [] [0, 1, 2, 3, 4, 5, 6, 7, 8, 9] rfl rfl (by decide) (by decide) (by decide) rfl rfl rfl (Nat.le_of_ble_eq_true rfl) dX6_isBetter_2 ⟨Nat.zero_le _, Nat.zero_le _⟩ (fun H locs hP hD hS => ?_)
  refine lv_aload_n hx hb dX6_isBetter_5 rfl (lv_at hl 0 rfl) ?_
  refine lv_iload_n hx hb dX6_isBetter_6 rfl (lv_at hl 2 rfl) ?_
  refine vq_Vi (As := [.int p2]) (rest := [.int (sX6_likeness S p1)]) (W2 := (wM cI cZ h g S)) (f := (sX6_likeness S p2)) hx hb hml hown hts hK hP hD hS hA hE hl.1 (cX6_likeness_c l ev dC dI cI cZ cO h g S p2 hT) gX6_isBetter_X6_likeness rfl hdX6_likeness (Nat.le_of_ble_eq_true rfl) (Nat.le_of_ble_eq_true rfl) rfl rfl (ci := 6) (qr := 0) rfl rfl rfl [0, 1, 2, 3, 4, 5, 6, 7, 8, 9] [] [0, 1, 2, 3, 4, 5, 6, 7, 8, 9] rfl rfl (by decide) (by decide) (by decide) rfl rfl rfl (Nat.le_of_ble_eq_true rfl) dX6_isBetter_7 ⟨Nat.zero_le _, Nat.zero_le _⟩ (fun H locs hP hD hS => ?_)
  refine lv_isub hx hb dX6_isBetter_10 ?_
  refine lv_istore_n (lv' := [(3, .int ((sX6_likeness S p1) - (sX6_likeness S p2))), (0, .ref h), (1, .int p1), (2, .int p2)]) hx hb dX6_isBetter_11 rfl hl (by decide) rfl (fun ls hl => ?_)
  refine lv_iload_n hx hb dX6_isBetter_12 rfl (lv_at hl 0 rfl) ?_
  refine lv_if_gt (tgt := 39) hx hb dX6_isBetter_13 (by decide) (fun c13 => ?_) (fun c13 => ?_)
  · rw [if_pos c13] at hσ
    refine lv_iconst (v := 1) hx hb dX6_isBetter_39 (by decide) ?_
    refine lv_goto (tgt := 44) hx hb dX6_isBetter_40 (by decide) ?_
    subst hσ
    exact vq_zret hx hb hr hlocks hK hP hD hS rfl rfl dX6_isBetter_44
  · rw [if_neg c13] at hσ
    refine lv_iload_n hx hb dX6_isBetter_16 rfl (lv_at hl 0 rfl) ?_
    refine lv_if_ne (tgt := 43) hx hb dX6_isBetter_17 (by decide) (fun c17 => ?_) (fun c17 => ?_)
    · rw [if_neg c17] at hσ
      refine lv_iconst (v := 0) hx hb dX6_isBetter_43 (by decide) ?_
      subst hσ
      exact vq_zret hx hb hr hlocks hK hP hD hS rfl rfl dX6_isBetter_44
    · rw [if_pos c17] at hσ
      refine lv_aload_n hx hb dX6_isBetter_20 rfl (lv_at hl 1 rfl) ?_
      refine lv_iload_n hx hb dX6_isBetter_21 rfl (lv_at hl 2 rfl) ?_
      refine vq_Vi (As := [.int p1]) (rest := []) (W2 := (wM cI cZ h g S)) (f := (sX6_tilt S p1)) hx hb hml hown hts hK hP hD hS hA hE hl.1 (cX6_tilt_c l ev dC dI cI cZ cO h g S p1 hT) gX6_isBetter_X6_tilt rfl hdX6_tilt (Nat.le_of_ble_eq_true rfl) (Nat.le_of_ble_eq_true rfl) rfl rfl (ci := 6) (qr := 0) rfl rfl rfl [0, 1, 2, 3, 4, 5, 6, 7, 8, 9] [] [0, 1, 2, 3, 4, 5, 6, 7, 8, 9] rfl rfl (by decide) (by decide) (by decide) rfl rfl rfl (Nat.le_of_ble_eq_true rfl) dX6_isBetter_22 ⟨Nat.zero_le _, Nat.zero_le _⟩ (fun H locs hP hD hS => ?_)
      refine vq_Si (As := [.int (sX6_tilt S p1)]) (rest := []) (W2 := (wM cI cZ h g S)) (f := (sX6_off (sX6_tilt S p1))) hx hb hml hown hts hK hP hD hS hA hE hl.1 (cX6_off_c l ev dC dI cI cZ cO (sX6_tilt S p1)) gX6_isBetter_X6_off rfl hdX6_off (Nat.le_of_ble_eq_true rfl) (Nat.le_of_ble_eq_true rfl) rfl rfl [] [0, 1, 2, 3, 4, 5, 6, 7, 8, 9] [0, 1, 2, 3, 4, 5, 6, 7, 8, 9] rfl rfl (by decide) (by decide) (by decide) rfl rfl rfl (Nat.le_of_ble_eq_true rfl) dX6_isBetter_25 ⟨Nat.zero_le _, Nat.zero_le _⟩ (fun H locs hP hD hS => ?_)
      refine lv_aload_n hx hb dX6_isBetter_28 rfl (lv_at hl 1 rfl) ?_
      refine lv_iload_n hx hb dX6_isBetter_29 rfl (lv_at hl 3 rfl) ?_
      refine vq_Vi (As := [.int p2]) (rest := [.int (sX6_off (sX6_tilt S p1))]) (W2 := (wM cI cZ h g S)) (f := (sX6_tilt S p2)) hx hb hml hown hts hK hP hD hS hA hE hl.1 (cX6_tilt_c l ev dC dI cI cZ cO h g S p2 hT) gX6_isBetter_X6_tilt rfl hdX6_tilt (Nat.le_of_ble_eq_true rfl) (Nat.le_of_ble_eq_true rfl) rfl rfl (ci := 6) (qr := 0) rfl rfl rfl [0, 1, 2, 3, 4, 5, 6, 7, 8, 9] [] [0, 1, 2, 3, 4, 5, 6, 7, 8, 9] rfl rfl (by decide) (by decide) (by decide) rfl rfl rfl (Nat.le_of_ble_eq_true rfl) dX6_isBetter_30 ⟨Nat.zero_le _, Nat.zero_le _⟩ (fun H locs hP hD hS => ?_)
      refine vq_Si (As := [.int (sX6_tilt S p2)]) (rest := [.int (sX6_off (sX6_tilt S p1))]) (W2 := (wM cI cZ h g S)) (f := (sX6_off (sX6_tilt S p2))) hx hb hml hown hts hK hP hD hS hA hE hl.1 (cX6_off_c l ev dC dI cI cZ cO (sX6_tilt S p2)) gX6_isBetter_X6_off rfl hdX6_off (Nat.le_of_ble_eq_true rfl) (Nat.le_of_ble_eq_true rfl) rfl rfl [] [0, 1, 2, 3, 4, 5, 6, 7, 8, 9] [0, 1, 2, 3, 4, 5, 6, 7, 8, 9] rfl rfl (by decide) (by decide) (by decide) rfl rfl rfl (Nat.le_of_ble_eq_true rfl) dX6_isBetter_33 ⟨Nat.zero_le _, Nat.zero_le _⟩ (fun H locs hP hD hS => ?_)
      refine lv_icmp_ge (tgt := 43) hx hb dX6_isBetter_36 (by decide) (fun c36 => ?_) (fun c36 => ?_)
      · rw [if_pos c36] at hσ
        refine lv_iconst (v := 0) hx hb dX6_isBetter_43 (by decide) ?_
        subst hσ
        exact vq_zret hx hb hr hlocks hK hP hD hS rfl rfl dX6_isBetter_44
      · rw [if_neg c36] at hσ
        refine lv_iconst (v := 1) hx hb dX6_isBetter_39 (by decide) ?_
        refine lv_goto (tgt := 44) hx hb dX6_isBetter_40 (by decide) ?_
        subst hσ
        exact vq_zret hx hb hr hlocks hK hP hD hS rfl rfl dX6_isBetter_44
theorem hdX6_pairs : yX6_pairs.cls = RX6 ∧ yX6_pairs.cls ≠ "java/lang/invoke/MethodHandle" ∧ yX6_pairs.cls ≠ "java/lang/invoke/VarHandle" ∧ (parseMethodDescriptor yX6_pairs.desc).map (fun d => d.parameters.length) = some 1 := by decide +kernel
set_option maxHeartbeats 4000000 in
set_option maxRecDepth 100000 in
theorem cX6_pairs_c (l : Launch) (ev : Nat → Nat) (dC : Nat → ClassId) (dI : Nat → Nat → Nat) (cI cZ cO : ClassId) (h : Nat) (g : Nat → Nat) (S : MSt) (p1 : Bool) (hT : LOK S) : MetI l ev (dC, dI) (tyC cI cZ cO) yX6_pairs wsX6_pairs (rmF 5 111) [.ref h, .int (bI p1)] (wM cI cZ h g S) (sX6_pairs S p1) (wM cI cZ h g S) := by
  refine MetI_of (cc := cX6_pairs) (maxL := 4) (ret := (some .int)) (by decide) rfl (Nat.le_of_ble_eq_true rfl) ?_
  intro p e s m below meth c A ls hx hb hr hml hts hown hlocks hin hK hP hD hA hE hl
  have hown : s.vm.findClass RX6 = some m.cls := hown
  have hl : lv_has ls 4 [(0, .ref h), (1, .int (bI p1))] := hl
  have hS : va_S A s.heap s.heap [] := va_S.rf
  obtain ⟨σ, hσ⟩ : ∃ σ, (sX6_pairs S p1) = σ := ⟨_, rfl⟩
  rw [hσ]
  rw [sX6_pairs] at hσ
  obtain ⟨T, eT, hT1, hT2⟩ := id hT
  refine lv_iconst (v := 0) hx hb dX6_pairs_0 (by decide) ?_
  refine lv_istore_n (lv' := [(2, .int 0), (0, .ref h), (1, .int (bI p1))]) hx hb dX6_pairs_1 rfl hl (by decide) rfl (fun ls hl => ?_)
  refine lv_iconst (v := 0) hx hb dX6_pairs_2 (by decide) ?_
  refine lv_istore_n (lv' := [(3, .int 0), (2, .int 0), (0, .ref h), (1, .int (bI p1))]) hx hb dX6_pairs_3 rfl hl (by decide) rfl (fun ls hl => ?_)
  have key4 : ∀ (n4 : Nat) (x2_4 : Int32) (x3_4 : Int32)  (k4 : Nat), (x3_4 = nI k4) → (k4 ≤ 12) → (12 + 1 ≤ n4 + k4) → (sX6_pairs_L4 S p1 n4 x2_4 x3_4) = σ → ∀ (H : Heap) (locs : List Loc) (ls : Array Slot), va_P (dC, dI) vwCl (wM cI cZ h g S) H → va_D A (wM cI cZ h g S) → va_S A s.heap H locs → lv_has ls 4 [(0, .ref h), (1, .int (bI p1)), (2, .int x2_4), (3, .int x3_4)] → W p l e (headSpec wsX6_pairs (rmF 5 111)).room s m ([.ref h, .int (bI p1)] : List Value).toArray below meth c H locs 0 0 (MQ below (va_Qi (fun (x : Int32) (_ : Unit) => x = σ) (fun _ t => PoW (dC, dI) (tyC cI cZ cO) A (wM cI cZ h g S) t) A) ([.ref h, .int (bI p1)] : List Value).toArray s 0 0 A) (F0 m 4 ls []) := by
    intro n4
    induction n4 with
    | zero =>
      intro x2_4 x3_4 k4 e4 hk4 hn4
      exact absurd hn4 (by omega)
    | succ n4 ih4 =>
      intro x2_4 x3_4 k4 e4 hk4 hn4 hσ H locs ls hP hD hS hl
      rw [sX6_pairs_L4_s] at hσ
      refine lv_iload_n hx hb dX6_pairs_4 rfl (lv_at hl 3 rfl) ?_
      refine lv_aload_n hx hb dX6_pairs_5 rfl (lv_at hl 0 rfl) ?_
      refine va_get (D := (dC, dI)) (ci := 6) (v := .ref (g 0)) (C := RX6) (T := TX6) (N := 15) hx hb hts (fun _ h => List.mem_cons_of_mem _ (List.mem_append_right _ h)) hown hK hP 0 rfl rfl 0 (by decide) (hts (.fieldLink RX6 7 "SharedLineModel" "now" "[I") (List.mem_of_getElem? (i := 1) rfl)) (fun _ h9 => h9) rfl dX6_pairs_6 ?_
      refine lv_iconst (v := 0) hx hb dX6_pairs_9 (by decide) ?_
      refine vq_ialdK (k := 0) hx hb hK hP 1 0 rfl rfl (by decide) (by decide) (by decide) dX6_pairs_10 ?_
      refine lv_icmp_ge (tgt := 71) hx hb dX6_pairs_11 (by decide) (fun c11 => ?_) (fun c11 => ?_)
      · rw [if_pos c11] at hσ
        refine lv_iload_n hx hb dX6_pairs_71 rfl (lv_at hl 2 rfl) ?_
        subst hσ
        exact vq_iret hx hb hr hlocks hK hP hD hS rfl dX6_pairs_72
      · rw [if_neg c11] at hσ
        refine lv_iload_n hx hb dX6_pairs_14 rfl (lv_at hl 2 rfl) ?_
        refine lv_iload_n hx hb dX6_pairs_15 rfl (lv_at hl 1 rfl) ?_
        refine lv_if_eqB (tgt := 43) hx hb dX6_pairs_16 (by decide) (fun c16 => ?_) (fun c16 => ?_)
        · rw [if_neg (Bool.eq_false_iff.mp c16)] at hσ
          refine lv_aload_n hx hb dX6_pairs_43 rfl (lv_at hl 0 rfl) ?_
          refine lv_aload_n hx hb dX6_pairs_44 rfl (lv_at hl 0 rfl) ?_
          refine va_get (D := (dC, dI)) (ci := 6) (v := .ref (g 0)) (C := RX6) (T := TX6) (N := 15) hx hb hts (fun _ h => List.mem_cons_of_mem _ (List.mem_append_right _ h)) hown hK hP 0 rfl rfl 0 (by decide) (hts (.fieldLink RX6 7 "SharedLineModel" "now" "[I") (List.mem_of_getElem? (i := 1) rfl)) (fun _ h9 => h9) rfl dX6_pairs_45 ?_
          refine lv_bipush (v := 16) hx hb dX6_pairs_48 (by decide) ?_
          refine vq_ialdK (k := 16) hx hb hK hP 1 0 rfl rfl (by decide) (by decide) (by decide) dX6_pairs_50 ?_
          refine lv_iload_n hx hb dX6_pairs_51 rfl (lv_at hl 3 rfl) ?_
          refine vq_Vi (As := [.int ((S.2 0) 16), .int x3_4]) (rest := [.int x2_4]) (W2 := (wM cI cZ h g S)) (f := (bI (sX6_isFar S ((S.2 0) 16) x3_4))) hx hb hml hown hts hK hP hD hS hA hE hl.1 (cX6_isFar_c l ev dC dI cI cZ cO h g S ((S.2 0) 16) x3_4 hT) gX6_pairs_X6_isFar rfl hdX6_isFar (Nat.le_of_ble_eq_true rfl) (Nat.le_of_ble_eq_true rfl) rfl rfl (ci := 6) (qr := 0) rfl rfl rfl [0, 1, 2, 3, 4, 5, 6, 7, 8, 9] [] [0, 1, 2, 3, 4, 5, 6, 7, 8, 9] rfl rfl (by decide) (by decide) (by decide) rfl rfl rfl (Nat.le_of_ble_eq_true rfl) dX6_pairs_52 ⟨Nat.zero_le _, Nat.zero_le _⟩ (fun H locs hP hD hS => ?_)
          refine lv_if_eqB (tgt := 62) hx hb dX6_pairs_55 (by decide) (fun c55 => ?_) (fun c55 => ?_)
          · rw [if_neg (Bool.eq_false_iff.mp c55)] at hσ
            refine lv_iconst (v := 0) hx hb dX6_pairs_62 (by decide) ?_
            refine lv_iadd hx hb dX6_pairs_63 ?_
            refine lv_istore_n (lv' := [(2, .int (x2_4 + 0)), (0, .ref h), (1, .int (bI p1)), (3, .int x3_4)]) hx hb dX6_pairs_64 rfl hl (by decide) rfl (fun ls hl => ?_)
            refine lv_iinc (v := (x3_4 + 1)) (lv' := [(3, .int (x3_4 + 1)), (2, .int (x2_4 + 0)), (0, .ref h), (1, .int (bI p1))]) hx hb dX6_pairs_65 hl (k := 3) rfl rfl (by decide) rfl (fun ls hl => ?_)
            refine lv_goto (tgt := 4) hx hb dX6_pairs_68 (by decide) ?_
            exact ih4 (x2_4 + 0) (x3_4 + 1) (k4 + 1) (up_s e4) (by have := up_lt e4 eT (by omega) c11; omega) (by omega) hσ _ _ _ hP hD hS (lv_sub hl [2, 3, 1, 0] rfl)
          · rw [if_pos c55] at hσ
            refine lv_iconst (v := 1) hx hb dX6_pairs_58 (by decide) ?_
            refine lv_goto (tgt := 63) hx hb dX6_pairs_59 (by decide) ?_
            refine lv_iadd hx hb dX6_pairs_63 ?_
            refine lv_istore_n (lv' := [(2, .int (x2_4 + 1)), (0, .ref h), (1, .int (bI p1)), (3, .int x3_4)]) hx hb dX6_pairs_64 rfl hl (by decide) rfl (fun ls hl => ?_)
            refine lv_iinc (v := (x3_4 + 1)) (lv' := [(3, .int (x3_4 + 1)), (2, .int (x2_4 + 1)), (0, .ref h), (1, .int (bI p1))]) hx hb dX6_pairs_65 hl (k := 3) rfl rfl (by decide) rfl (fun ls hl => ?_)
            refine lv_goto (tgt := 4) hx hb dX6_pairs_68 (by decide) ?_
            exact ih4 (x2_4 + 1) (x3_4 + 1) (k4 + 1) (up_s e4) (by have := up_lt e4 eT (by omega) c11; omega) (by omega) hσ _ _ _ hP hD hS (lv_sub hl [2, 3, 1, 0] rfl)
        · rw [if_pos c16] at hσ
          refine lv_aload_n hx hb dX6_pairs_19 rfl (lv_at hl 0 rfl) ?_
          refine lv_aload_n hx hb dX6_pairs_20 rfl (lv_at hl 0 rfl) ?_
          refine va_get (D := (dC, dI)) (ci := 6) (v := .ref (g 0)) (C := RX6) (T := TX6) (N := 15) hx hb hts (fun _ h => List.mem_cons_of_mem _ (List.mem_append_right _ h)) hown hK hP 0 rfl rfl 0 (by decide) (hts (.fieldLink RX6 7 "SharedLineModel" "now" "[I") (List.mem_of_getElem? (i := 1) rfl)) (fun _ h9 => h9) rfl dX6_pairs_21 ?_
          refine lv_bipush (v := 16) hx hb dX6_pairs_24 (by decide) ?_
          refine vq_ialdK (k := 16) hx hb hK hP 1 0 rfl rfl (by decide) (by decide) (by decide) dX6_pairs_26 ?_
          refine lv_iload_n hx hb dX6_pairs_27 rfl (lv_at hl 3 rfl) ?_
          refine lv_aload_n hx hb dX6_pairs_28 rfl (lv_at hl 0 rfl) ?_
          refine va_get (D := (dC, dI)) (ci := 6) (v := .ref (g 0)) (C := RX6) (T := TX6) (N := 15) hx hb hts (fun _ h => List.mem_cons_of_mem _ (List.mem_append_right _ h)) hown hK hP 0 rfl rfl 0 (by decide) (hts (.fieldLink RX6 7 "SharedLineModel" "now" "[I") (List.mem_of_getElem? (i := 1) rfl)) (fun _ h9 => h9) rfl dX6_pairs_29 ?_
          refine lv_iconst (v := 1) hx hb dX6_pairs_32 (by decide) ?_
          refine vq_ialdK (k := 1) hx hb hK hP 1 0 rfl rfl (by decide) (by decide) (by decide) dX6_pairs_33 ?_
          refine vq_Vi (As := [.int ((S.2 0) 16), .int x3_4, .int ((S.2 0) 1)]) (rest := [.int x2_4]) (W2 := (wM cI cZ h g S)) (f := (bI (sX6_isSoon S ((S.2 0) 16) x3_4 ((S.2 0) 1)))) hx hb hml hown hts hK hP hD hS hA hE hl.1 (cX6_isSoon_c l ev dC dI cI cZ cO h g S ((S.2 0) 16) x3_4 ((S.2 0) 1) hT) gX6_pairs_X6_isSoon rfl hdX6_isSoon (Nat.le_of_ble_eq_true rfl) (Nat.le_of_ble_eq_true rfl) rfl rfl (ci := 6) (qr := 0) rfl rfl rfl [0, 1, 2, 3, 4, 5, 6, 7, 8, 9] [] [0, 1, 2, 3, 4, 5, 6, 7, 8, 9] rfl rfl (by decide) (by decide) (by decide) rfl rfl rfl (Nat.le_of_ble_eq_true rfl) dX6_pairs_34 ⟨Nat.zero_le _, Nat.zero_le _⟩ (fun H locs hP hD hS => ?_)
          refine lv_if_eqB (tgt := 62) hx hb dX6_pairs_37 (by decide) (fun c37 => ?_) (fun c37 => ?_)
          · rw [if_neg (Bool.eq_false_iff.mp c37)] at hσ
            refine lv_iconst (v := 0) hx hb dX6_pairs_62 (by decide) ?_
            refine lv_iadd hx hb dX6_pairs_63 ?_
            refine lv_istore_n (lv' := [(2, .int (x2_4 + 0)), (0, .ref h), (1, .int (bI p1)), (3, .int x3_4)]) hx hb dX6_pairs_64 rfl hl (by decide) rfl (fun ls hl => ?_)
            refine lv_iinc (v := (x3_4 + 1)) (lv' := [(3, .int (x3_4 + 1)), (2, .int (x2_4 + 0)), (0, .ref h), (1, .int (bI p1))]) hx hb dX6_pairs_65 hl (k := 3) rfl rfl (by decide) rfl (fun ls hl => ?_)
            refine lv_goto (tgt := 4) hx hb dX6_pairs_68 (by decide) ?_
            exact ih4 (x2_4 + 0) (x3_4 + 1) (k4 + 1) (up_s e4) (by have := up_lt e4 eT (by omega) c11; omega) (by omega) hσ _ _ _ hP hD hS (lv_sub hl [2, 3, 1, 0] rfl)
          · rw [if_pos c37] at hσ
            refine lv_goto (tgt := 58) hx hb dX6_pairs_40 (by decide) ?_
            refine lv_iconst (v := 1) hx hb dX6_pairs_58 (by decide) ?_
            refine lv_goto (tgt := 63) hx hb dX6_pairs_59 (by decide) ?_
            refine lv_iadd hx hb dX6_pairs_63 ?_
            refine lv_istore_n (lv' := [(2, .int (x2_4 + 1)), (0, .ref h), (1, .int (bI p1)), (3, .int x3_4)]) hx hb dX6_pairs_64 rfl hl (by decide) rfl (fun ls hl => ?_)
            refine lv_iinc (v := (x3_4 + 1)) (lv' := [(3, .int (x3_4 + 1)), (2, .int (x2_4 + 1)), (0, .ref h), (1, .int (bI p1))]) hx hb dX6_pairs_65 hl (k := 3) rfl rfl (by decide) rfl (fun ls hl => ?_)
            refine lv_goto (tgt := 4) hx hb dX6_pairs_68 (by decide) ?_
            exact ih4 (x2_4 + 1) (x3_4 + 1) (k4 + 1) (up_s e4) (by have := up_lt e4 eT (by omega) c11; omega) (by omega) hσ _ _ _ hP hD hS (lv_sub hl [2, 3, 1, 0] rfl)
  exact key4 13 (0 : Int32) (0 : Int32) 0 nI_0.symm (Nat.zero_le _) (Nat.le_refl _) hσ _ _ _ hP hD hS (lv_sub hl [2, 3, 1, 0] rfl)
theorem hdX6_shareBy : yX6_shareBy.cls = RX6 ∧ yX6_shareBy.cls ≠ "java/lang/invoke/MethodHandle" ∧ yX6_shareBy.cls ≠ "java/lang/invoke/VarHandle" ∧ (parseMethodDescriptor yX6_shareBy.desc).map (fun d => d.parameters.length) = some 1 := by decide +kernel
set_option maxHeartbeats 4000000 in
set_option maxRecDepth 100000 in
theorem cX6_shareBy_c (l : Launch) (ev : Nat → Nat) (dC : Nat → ClassId) (dI : Nat → Nat → Nat) (cI cZ cO : ClassId) (h : Nat) (g : Nat → Nat) (S : MSt) (p1 : Int32) (hT : LOK S) : MetI l ev (dC, dI) (tyC cI cZ cO) yX6_shareBy wsX6_shareBy (rmF 3 64) [.ref h, .int p1] (wM cI cZ h g S) (sX6_shareBy S p1) (wM cI cZ h g S) := by
  refine MetI_of (cc := cX6_shareBy) (maxL := 4) (ret := (some .int)) (by decide) rfl (Nat.le_of_ble_eq_true rfl) ?_
  intro p e s m below meth c A ls hx hb hr hml hts hown hlocks hin hK hP hD hA hE hl
  have hown : s.vm.findClass RX6 = some m.cls := hown
  have hl : lv_has ls 4 [(0, .ref h), (1, .int p1)] := hl
  have hS : va_S A s.heap s.heap [] := va_S.rf
  obtain ⟨σ, hσ⟩ : ∃ σ, (sX6_shareBy S p1) = σ := ⟨_, rfl⟩
  rw [hσ]
  rw [sX6_shareBy] at hσ
  obtain ⟨T, eT, hT1, hT2⟩ := id hT
  refine lv_iconst (v := 0) hx hb dX6_shareBy_0 (by decide) ?_
  refine lv_istore_n (lv' := [(2, .int 0), (0, .ref h), (1, .int p1)]) hx hb dX6_shareBy_1 rfl hl (by decide) rfl (fun ls hl => ?_)
  refine lv_iconst (v := 0) hx hb dX6_shareBy_2 (by decide) ?_
  refine lv_istore_n (lv' := [(3, .int 0), (2, .int 0), (0, .ref h), (1, .int p1)]) hx hb dX6_shareBy_3 rfl hl (by decide) rfl (fun ls hl => ?_)
  have key4 : ∀ (n4 : Nat) (x2_4 : Int32) (x3_4 : Int32)  (k4 : Nat), (x3_4 = nI k4) → (k4 ≤ 12) → (12 + 1 ≤ n4 + k4) → (sX6_shareBy_L4 S p1 n4 x2_4 x3_4) = σ → ∀ (H : Heap) (locs : List Loc) (ls : Array Slot), va_P (dC, dI) vwCl (wM cI cZ h g S) H → va_D A (wM cI cZ h g S) → va_S A s.heap H locs → lv_has ls 4 [(0, .ref h), (1, .int p1), (2, .int x2_4), (3, .int x3_4)] → W p l e (headSpec wsX6_shareBy (rmF 3 64)).room s m ([.ref h, .int p1] : List Value).toArray below meth c H locs 0 0 (MQ below (va_Qi (fun (x : Int32) (_ : Unit) => x = σ) (fun _ t => PoW (dC, dI) (tyC cI cZ cO) A (wM cI cZ h g S) t) A) ([.ref h, .int p1] : List Value).toArray s 0 0 A) (F0 m 4 ls []) := by
    intro n4
    induction n4 with
    | zero =>
      intro x2_4 x3_4 k4 e4 hk4 hn4
      exact absurd hn4 (by omega)
    | succ n4 ih4 =>
      intro x2_4 x3_4 k4 e4 hk4 hn4 hσ H locs ls hP hD hS hl
      rw [sX6_shareBy_L4_s] at hσ
      refine lv_iload_n hx hb dX6_shareBy_4 rfl (lv_at hl 3 rfl) ?_
      refine lv_aload_n hx hb dX6_shareBy_5 rfl (lv_at hl 0 rfl) ?_
      refine va_get (D := (dC, dI)) (ci := 6) (v := .ref (g 0)) (C := RX6) (T := TX6) (N := 15) hx hb hts (fun _ h => List.mem_cons_of_mem _ (List.mem_append_right _ h)) hown hK hP 0 rfl rfl 0 (by decide) (hts (.fieldLink RX6 7 "SharedLineModel" "now" "[I") (List.mem_of_getElem? (i := 1) rfl)) (fun _ h9 => h9) rfl dX6_shareBy_6 ?_
      refine lv_iconst (v := 0) hx hb dX6_shareBy_9 (by decide) ?_
      refine vq_ialdK (k := 0) hx hb hK hP 1 0 rfl rfl (by decide) (by decide) (by decide) dX6_shareBy_10 ?_
      refine lv_icmp_ge (tgt := 55) hx hb dX6_shareBy_11 (by decide) (fun c11 => ?_) (fun c11 => ?_)
      · rw [if_pos c11] at hσ
        refine lv_iload_n hx hb dX6_shareBy_55 rfl (lv_at hl 2 rfl) ?_
        subst hσ
        exact vq_iret hx hb hr hlocks hK hP hD hS rfl dX6_shareBy_56
      · rw [if_neg c11] at hσ
        refine lv_iload_n hx hb dX6_shareBy_14 rfl (lv_at hl 2 rfl) ?_
        refine lv_aload_n hx hb dX6_shareBy_15 rfl (lv_at hl 0 rfl) ?_
        refine lv_iload_n hx hb dX6_shareBy_16 rfl (lv_at hl 3 rfl) ?_
        refine vq_Vi (As := [.int x3_4]) (rest := [.int x2_4]) (W2 := (wM cI cZ h g S)) (f := (bI (sX6_isNote S x3_4))) hx hb hml hown hts hK hP hD hS hA hE hl.1 (cX6_isNote_c l ev dC dI cI cZ cO h g S x3_4 hT) gX6_shareBy_X6_isNote rfl hdX6_isNote (Nat.le_of_ble_eq_true rfl) (Nat.le_of_ble_eq_true rfl) rfl rfl (ci := 6) (qr := 0) rfl rfl rfl [0, 1, 2, 3, 4, 5, 6, 7, 8, 9] [] [0, 1, 2, 3, 4, 5, 6, 7, 8, 9] rfl rfl (by decide) (by decide) (by decide) rfl rfl rfl (Nat.le_of_ble_eq_true rfl) dX6_shareBy_17 ⟨Nat.zero_le _, Nat.zero_le _⟩ (fun H locs hP hD hS => ?_)
        refine lv_if_eqB (tgt := 46) hx hb dX6_shareBy_20 (by decide) (fun c20 => ?_) (fun c20 => ?_)
        · rw [if_neg (Bool.eq_false_iff.mp c20)] at hσ
          refine lv_iconst (v := 0) hx hb dX6_shareBy_46 (by decide) ?_
          refine lv_ior hx hb dX6_shareBy_47 ?_
          refine lv_istore_n (lv' := [(2, .int (x2_4 ||| 0)), (0, .ref h), (1, .int p1), (3, .int x3_4)]) hx hb dX6_shareBy_48 rfl hl (by decide) rfl (fun ls hl => ?_)
          refine lv_iinc (v := (x3_4 + 1)) (lv' := [(3, .int (x3_4 + 1)), (2, .int (x2_4 ||| 0)), (0, .ref h), (1, .int p1)]) hx hb dX6_shareBy_49 hl (k := 3) rfl rfl (by decide) rfl (fun ls hl => ?_)
          refine lv_goto (tgt := 4) hx hb dX6_shareBy_52 (by decide) ?_
          exact ih4 (x2_4 ||| 0) (x3_4 + 1) (k4 + 1) (up_s e4) (by have := up_lt e4 eT (by omega) c11; omega) (by omega) hσ _ _ _ hP hD hS (lv_sub hl [2, 3, 1, 0] rfl)
        · rw [if_pos c20] at hσ
          refine lv_iload_n hx hb dX6_shareBy_23 rfl (lv_at hl 1 rfl) ?_
          refine lv_aload_n hx hb dX6_shareBy_24 rfl (lv_at hl 0 rfl) ?_
          refine va_get (D := (dC, dI)) (ci := 6) (v := .ref (g 0)) (C := RX6) (T := TX6) (N := 15) hx hb hts (fun _ h => List.mem_cons_of_mem _ (List.mem_append_right _ h)) hown hK hP 0 rfl rfl 0 (by decide) (hts (.fieldLink RX6 7 "SharedLineModel" "now" "[I") (List.mem_of_getElem? (i := 1) rfl)) (fun _ h9 => h9) rfl dX6_shareBy_25 ?_
          refine lv_iconst (v := 4) hx hb dX6_shareBy_28 (by decide) ?_
          refine lv_iload_n hx hb dX6_shareBy_29 rfl (lv_at hl 3 rfl) ?_
          refine lv_iadd hx hb dX6_shareBy_30 ?_
          refine va_iald hx hb hK hP 1 0 rfl rfl (i := ((4 : Int32) + x3_4)) (tick_ix hT (note_tick c20)) dX6_shareBy_31 ?_
          refine lv_iconst (v := 1) hx hb dX6_shareBy_32 (by decide) ?_
          refine lv_isub hx hb dX6_shareBy_33 ?_
          refine vq_Si (As := [.int p1, .int (((S.2 0) (((4 : Int32) + x3_4)).toNatClampNeg) - 1)]) (rest := [.int x2_4]) (W2 := (wM cI cZ h g S)) (f := (bI (sX6_has p1 (((S.2 0) (((4 : Int32) + x3_4)).toNatClampNeg) - 1)))) hx hb hml hown hts hK hP hD hS hA hE hl.1 (cX6_has_c l ev dC dI cI cZ cO p1 (((S.2 0) (((4 : Int32) + x3_4)).toNatClampNeg) - 1)) gX6_shareBy_X6_has rfl hdX6_has (Nat.le_of_ble_eq_true rfl) (Nat.le_of_ble_eq_true rfl) rfl rfl [] [0, 1, 2, 3, 4, 5, 6, 7, 8, 9] [0, 1, 2, 3, 4, 5, 6, 7, 8, 9] rfl rfl (by decide) (by decide) (by decide) rfl rfl rfl (Nat.le_of_ble_eq_true rfl) dX6_shareBy_34 ⟨Nat.zero_le _, Nat.zero_le _⟩ (fun H locs hP hD hS => ?_)
          refine lv_if_eqB (tgt := 46) hx hb dX6_shareBy_37 (by decide) (fun c37 => ?_) (fun c37 => ?_)
          · rw [if_neg (Bool.eq_false_iff.mp c37)] at hσ
            refine lv_iconst (v := 0) hx hb dX6_shareBy_46 (by decide) ?_
            refine lv_ior hx hb dX6_shareBy_47 ?_
            refine lv_istore_n (lv' := [(2, .int (x2_4 ||| 0)), (0, .ref h), (1, .int p1), (3, .int x3_4)]) hx hb dX6_shareBy_48 rfl hl (by decide) rfl (fun ls hl => ?_)
            refine lv_iinc (v := (x3_4 + 1)) (lv' := [(3, .int (x3_4 + 1)), (2, .int (x2_4 ||| 0)), (0, .ref h), (1, .int p1)]) hx hb dX6_shareBy_49 hl (k := 3) rfl rfl (by decide) rfl (fun ls hl => ?_)
            refine lv_goto (tgt := 4) hx hb dX6_shareBy_52 (by decide) ?_
            exact ih4 (x2_4 ||| 0) (x3_4 + 1) (k4 + 1) (up_s e4) (by have := up_lt e4 eT (by omega) c11; omega) (by omega) hσ _ _ _ hP hD hS (lv_sub hl [2, 3, 1, 0] rfl)
          · rw [if_pos c37] at hσ
            refine lv_iconst (v := 1) hx hb dX6_shareBy_40 (by decide) ?_
            refine lv_iload_n hx hb dX6_shareBy_41 rfl (lv_at hl 3 rfl) ?_
            refine lv_ishl hx hb dX6_shareBy_42 ?_
            refine lv_goto (tgt := 47) hx hb dX6_shareBy_43 (by decide) ?_
            refine lv_ior hx hb dX6_shareBy_47 ?_
            refine lv_istore_n (lv' := [(2, .int (x2_4 ||| ((1 : Int32) <<< (x3_4 &&& 31)))), (0, .ref h), (1, .int p1), (3, .int x3_4)]) hx hb dX6_shareBy_48 rfl hl (by decide) rfl (fun ls hl => ?_)
            refine lv_iinc (v := (x3_4 + 1)) (lv' := [(3, .int (x3_4 + 1)), (2, .int (x2_4 ||| ((1 : Int32) <<< (x3_4 &&& 31)))), (0, .ref h), (1, .int p1)]) hx hb dX6_shareBy_49 hl (k := 3) rfl rfl (by decide) rfl (fun ls hl => ?_)
            refine lv_goto (tgt := 4) hx hb dX6_shareBy_52 (by decide) ?_
            exact ih4 (x2_4 ||| ((1 : Int32) <<< (x3_4 &&& 31))) (x3_4 + 1) (k4 + 1) (up_s e4) (by have := up_lt e4 eT (by omega) c11; omega) (by omega) hσ _ _ _ hP hD hS (lv_sub hl [2, 3, 1, 0] rfl)
  exact key4 13 (0 : Int32) (0 : Int32) 0 nI_0.symm (Nat.zero_le _) (Nat.le_refl _) hσ _ _ _ hP hD hS (lv_sub hl [2, 3, 1, 0] rfl)
theorem hdX6_pitches : yX6_pitches.cls = RX6 ∧ yX6_pitches.cls ≠ "java/lang/invoke/MethodHandle" ∧ yX6_pitches.cls ≠ "java/lang/invoke/VarHandle" ∧ (parseMethodDescriptor yX6_pitches.desc).map (fun d => d.parameters.length) = some 0 := by decide +kernel
set_option maxHeartbeats 4000000 in
set_option maxRecDepth 100000 in
theorem cX6_pitches_c (l : Launch) (ev : Nat → Nat) (dC : Nat → ClassId) (dI : Nat → Nat → Nat) (cI cZ cO : ClassId) (h : Nat) (g : Nat → Nat) (S : MSt) (hT : LOK S) : MetI l ev (dC, dI) (tyC cI cZ cO) yX6_pitches wsX6_pitches (rmF 3 64) [.ref h] (wM cI cZ h g S) (sX6_pitches S) (wM cI cZ h g S) := by
  refine MetI_of (cc := cX6_pitches) (maxL := 3) (ret := (some .int)) (by decide) rfl (Nat.le_of_ble_eq_true rfl) ?_
  intro p e s m below meth c A ls hx hb hr hml hts hown hlocks hin hK hP hD hA hE hl
  have hown : s.vm.findClass RX6 = some m.cls := hown
  have hl : lv_has ls 3 [(0, .ref h)] := hl
  have hS : va_S A s.heap s.heap [] := va_S.rf
  obtain ⟨σ, hσ⟩ : ∃ σ, (sX6_pitches S) = σ := ⟨_, rfl⟩
  rw [hσ]
  rw [sX6_pitches] at hσ
  obtain ⟨T, eT, hT1, hT2⟩ := id hT
  refine lv_iconst (v := 0) hx hb dX6_pitches_0 (by decide) ?_
  refine lv_istore_n (lv' := [(1, .int 0), (0, .ref h)]) hx hb dX6_pitches_1 rfl hl (by decide) rfl (fun ls hl => ?_)
  refine lv_iconst (v := 0) hx hb dX6_pitches_2 (by decide) ?_
  refine lv_istore_n (lv' := [(2, .int 0), (1, .int 0), (0, .ref h)]) hx hb dX6_pitches_3 rfl hl (by decide) rfl (fun ls hl => ?_)
  have key4 : ∀ (n4 : Nat) (x1_4 : Int32) (x2_4 : Int32)  (k4 : Nat), (x2_4 = nI k4) → (k4 ≤ 12) → (12 + 1 ≤ n4 + k4) → (sX6_pitches_L4 S n4 x1_4 x2_4) = σ → ∀ (H : Heap) (locs : List Loc) (ls : Array Slot), va_P (dC, dI) vwCl (wM cI cZ h g S) H → va_D A (wM cI cZ h g S) → va_S A s.heap H locs → lv_has ls 3 [(0, .ref h), (1, .int x1_4), (2, .int x2_4)] → W p l e (headSpec wsX6_pitches (rmF 3 64)).room s m ([.ref h] : List Value).toArray below meth c H locs 0 0 (MQ below (va_Qi (fun (x : Int32) (_ : Unit) => x = σ) (fun _ t => PoW (dC, dI) (tyC cI cZ cO) A (wM cI cZ h g S) t) A) ([.ref h] : List Value).toArray s 0 0 A) (F0 m 4 ls []) := by
    intro n4
    induction n4 with
    | zero =>
      intro x1_4 x2_4 k4 e4 hk4 hn4
      exact absurd hn4 (by omega)
    | succ n4 ih4 =>
      intro x1_4 x2_4 k4 e4 hk4 hn4 hσ H locs ls hP hD hS hl
      rw [sX6_pitches_L4_s] at hσ
      refine lv_iload_n hx hb dX6_pitches_4 rfl (lv_at hl 2 rfl) ?_
      refine lv_aload_n hx hb dX6_pitches_5 rfl (lv_at hl 0 rfl) ?_
      refine va_get (D := (dC, dI)) (ci := 6) (v := .ref (g 0)) (C := RX6) (T := TX6) (N := 15) hx hb hts (fun _ h => List.mem_cons_of_mem _ (List.mem_append_right _ h)) hown hK hP 0 rfl rfl 0 (by decide) (hts (.fieldLink RX6 7 "SharedLineModel" "now" "[I") (List.mem_of_getElem? (i := 1) rfl)) (fun _ h9 => h9) rfl dX6_pitches_6 ?_
      refine lv_iconst (v := 0) hx hb dX6_pitches_9 (by decide) ?_
      refine vq_ialdK (k := 0) hx hb hK hP 1 0 rfl rfl (by decide) (by decide) (by decide) dX6_pitches_10 ?_
      refine lv_icmp_ge (tgt := 47) hx hb dX6_pitches_11 (by decide) (fun c11 => ?_) (fun c11 => ?_)
      · rw [if_pos c11] at hσ
        refine lv_iload_n hx hb dX6_pitches_47 rfl (lv_at hl 1 rfl) ?_
        subst hσ
        exact vq_iret hx hb hr hlocks hK hP hD hS rfl dX6_pitches_48
      · rw [if_neg c11] at hσ
        refine lv_iload_n hx hb dX6_pitches_14 rfl (lv_at hl 1 rfl) ?_
        refine lv_aload_n hx hb dX6_pitches_15 rfl (lv_at hl 0 rfl) ?_
        refine lv_iload_n hx hb dX6_pitches_16 rfl (lv_at hl 2 rfl) ?_
        refine vq_Vi (As := [.int x2_4]) (rest := [.int x1_4]) (W2 := (wM cI cZ h g S)) (f := (bI (sX6_isNote S x2_4))) hx hb hml hown hts hK hP hD hS hA hE hl.1 (cX6_isNote_c l ev dC dI cI cZ cO h g S x2_4 hT) gX6_pitches_X6_isNote rfl hdX6_isNote (Nat.le_of_ble_eq_true rfl) (Nat.le_of_ble_eq_true rfl) rfl rfl (ci := 6) (qr := 0) rfl rfl rfl [0, 1, 2, 3, 4, 5, 6, 7, 8, 9] [] [0, 1, 2, 3, 4, 5, 6, 7, 8, 9] rfl rfl (by decide) (by decide) (by decide) rfl rfl rfl (Nat.le_of_ble_eq_true rfl) dX6_pitches_17 ⟨Nat.zero_le _, Nat.zero_le _⟩ (fun H locs hP hD hS => ?_)
        refine lv_if_eqB (tgt := 38) hx hb dX6_pitches_20 (by decide) (fun c20 => ?_) (fun c20 => ?_)
        · rw [if_neg (Bool.eq_false_iff.mp c20)] at hσ
          refine lv_iconst (v := 0) hx hb dX6_pitches_38 (by decide) ?_
          refine lv_ior hx hb dX6_pitches_39 ?_
          refine lv_istore_n (lv' := [(1, .int (x1_4 ||| 0)), (0, .ref h), (2, .int x2_4)]) hx hb dX6_pitches_40 rfl hl (by decide) rfl (fun ls hl => ?_)
          refine lv_iinc (v := (x2_4 + 1)) (lv' := [(2, .int (x2_4 + 1)), (1, .int (x1_4 ||| 0)), (0, .ref h)]) hx hb dX6_pitches_41 hl (k := 2) rfl rfl (by decide) rfl (fun ls hl => ?_)
          refine lv_goto (tgt := 4) hx hb dX6_pitches_44 (by decide) ?_
          exact ih4 (x1_4 ||| 0) (x2_4 + 1) (k4 + 1) (up_s e4) (by have := up_lt e4 eT (by omega) c11; omega) (by omega) hσ _ _ _ hP hD hS (lv_sub hl [2, 1, 0] rfl)
        · rw [if_pos c20] at hσ
          refine lv_iconst (v := 1) hx hb dX6_pitches_23 (by decide) ?_
          refine lv_aload_n hx hb dX6_pitches_24 rfl (lv_at hl 0 rfl) ?_
          refine va_get (D := (dC, dI)) (ci := 6) (v := .ref (g 0)) (C := RX6) (T := TX6) (N := 15) hx hb hts (fun _ h => List.mem_cons_of_mem _ (List.mem_append_right _ h)) hown hK hP 0 rfl rfl 0 (by decide) (hts (.fieldLink RX6 7 "SharedLineModel" "now" "[I") (List.mem_of_getElem? (i := 1) rfl)) (fun _ h9 => h9) rfl dX6_pitches_25 ?_
          refine lv_iconst (v := 4) hx hb dX6_pitches_28 (by decide) ?_
          refine lv_iload_n hx hb dX6_pitches_29 rfl (lv_at hl 2 rfl) ?_
          refine lv_iadd hx hb dX6_pitches_30 ?_
          refine va_iald hx hb hK hP 1 0 rfl rfl (i := ((4 : Int32) + x2_4)) (tick_ix hT (note_tick c20)) dX6_pitches_31 ?_
          refine lv_iconst (v := 1) hx hb dX6_pitches_32 (by decide) ?_
          refine lv_isub hx hb dX6_pitches_33 ?_
          refine lv_ishl hx hb dX6_pitches_34 ?_
          refine lv_goto (tgt := 39) hx hb dX6_pitches_35 (by decide) ?_
          refine lv_ior hx hb dX6_pitches_39 ?_
          refine lv_istore_n (lv' := [(1, .int (x1_4 ||| ((1 : Int32) <<< ((((S.2 0) (((4 : Int32) + x2_4)).toNatClampNeg) - 1) &&& 31)))), (0, .ref h), (2, .int x2_4)]) hx hb dX6_pitches_40 rfl hl (by decide) rfl (fun ls hl => ?_)
          refine lv_iinc (v := (x2_4 + 1)) (lv' := [(2, .int (x2_4 + 1)), (1, .int (x1_4 ||| ((1 : Int32) <<< ((((S.2 0) (((4 : Int32) + x2_4)).toNatClampNeg) - 1) &&& 31)))), (0, .ref h)]) hx hb dX6_pitches_41 hl (k := 2) rfl rfl (by decide) rfl (fun ls hl => ?_)
          refine lv_goto (tgt := 4) hx hb dX6_pitches_44 (by decide) ?_
          exact ih4 (x1_4 ||| ((1 : Int32) <<< ((((S.2 0) (((4 : Int32) + x2_4)).toNatClampNeg) - 1) &&& 31))) (x2_4 + 1) (k4 + 1) (up_s e4) (by have := up_lt e4 eT (by omega) c11; omega) (by omega) hσ _ _ _ hP hD hS (lv_sub hl [2, 1, 0] rfl)
  exact key4 13 (0 : Int32) (0 : Int32) 0 nI_0.symm (Nat.zero_le _) (Nat.le_refl _) hσ _ _ _ hP hD hS (lv_sub hl [2, 1, 0] rfl)
theorem hdX6_isTable : yX6_isTable.cls = RX6 ∧ yX6_isTable.cls ≠ "java/lang/invoke/MethodHandle" ∧ yX6_isTable.cls ≠ "java/lang/invoke/VarHandle" ∧ (parseMethodDescriptor yX6_isTable.desc).map (fun d => d.parameters.length) = some 1 := by decide +kernel
set_option maxHeartbeats 4000000 in
set_option maxRecDepth 100000 in
theorem cX6_isTable_c (l : Launch) (ev : Nat → Nat) (dC : Nat → ClassId) (dI : Nat → Nat → Nat) (cI cZ cO : ClassId) (h : Nat) (g : Nat → Nat) (S : MSt) (p1 : Int32) (hT : LOK S) : MetI l ev (dC, dI) (tyC cI cZ cO) yX6_isTable wsX6_isTable (rmF 7 156) [.ref h, .int p1] (wM cI cZ h g S) (bI (sX6_isTable S p1)) (wM cI cZ h g S) := by
  refine MetI_of (cc := cX6_isTable) (maxL := 2) (ret := (some .boolean)) (by decide) rfl (Nat.le_of_ble_eq_true rfl) ?_
  intro p e s m below meth c A ls hx hb hr hml hts hown hlocks hin hK hP hD hA hE hl
  have hown : s.vm.findClass RX6 = some m.cls := hown
  have hl : lv_has ls 2 [(0, .ref h), (1, .int p1)] := hl
  have hS : va_S A s.heap s.heap [] := va_S.rf
  obtain ⟨σ, hσ⟩ : ∃ σ, (sX6_isTable S p1) = σ := ⟨_, rfl⟩
  rw [hσ]
  rw [sX6_isTable] at hσ
  refine lv_iload_n hx hb dX6_isTable_0 rfl (lv_at hl 1 rfl) ?_
  refine lv_aload_n hx hb dX6_isTable_1 rfl (lv_at hl 0 rfl) ?_
  refine vq_Vi (As := []) (rest := [.int p1]) (W2 := (wM cI cZ h g S)) (f := (sX6_pitches S)) hx hb hml hown hts hK hP hD hS hA hE hl.1 (cX6_pitches_c l ev dC dI cI cZ cO h g S hT) gX6_isTable_X6_pitches rfl hdX6_pitches (Nat.le_of_ble_eq_true rfl) (Nat.le_of_ble_eq_true rfl) rfl rfl (ci := 6) (qr := 0) rfl rfl rfl [0, 1, 2, 3, 4, 5, 6, 7, 8, 9] [] [0, 1, 2, 3, 4, 5, 6, 7, 8, 9] rfl rfl (by decide) (by decide) (by decide) rfl rfl rfl (Nat.le_of_ble_eq_true rfl) dX6_isTable_2 ⟨Nat.zero_le _, Nat.zero_le _⟩ (fun H locs hP hD hS => ?_)
  refine lv_iconst (v := (-1)) hx hb dX6_isTable_5 (by decide) ?_
  refine lv_ixor hx hb dX6_isTable_6 ?_
  refine lv_iand hx hb dX6_isTable_7 ?_
  refine lv_if_ne (tgt := 27) hx hb dX6_isTable_8 (by decide) (fun c8 => ?_) (fun c8 => ?_)
  · rw [if_neg c8] at hσ
    refine lv_iconst (v := 0) hx hb dX6_isTable_27 (by decide) ?_
    subst hσ
    exact vq_zret hx hb hr hlocks hK hP hD hS rfl rfl dX6_isTable_28
  · rw [if_pos c8] at hσ
    refine lv_aload_n hx hb dX6_isTable_11 rfl (lv_at hl 0 rfl) ?_
    refine lv_aload_n hx hb dX6_isTable_12 rfl (lv_at hl 0 rfl) ?_
    refine lv_iload_n hx hb dX6_isTable_13 rfl (lv_at hl 1 rfl) ?_
    refine vq_Vi (As := [.int p1]) (rest := [.ref h]) (W2 := (wM cI cZ h g S)) (f := (sX6_shareBy S p1)) hx hb hml hown hts hK hP hD hS hA hE hl.1 (cX6_shareBy_c l ev dC dI cI cZ cO h g S p1 hT) gX6_isTable_X6_shareBy rfl hdX6_shareBy (Nat.le_of_ble_eq_true rfl) (Nat.le_of_ble_eq_true rfl) rfl rfl (ci := 6) (qr := 0) rfl rfl rfl [0, 1, 2, 3, 4, 5, 6, 7, 8, 9] [] [0, 1, 2, 3, 4, 5, 6, 7, 8, 9] rfl rfl (by decide) (by decide) (by decide) rfl rfl rfl (Nat.le_of_ble_eq_true rfl) dX6_isTable_14 ⟨Nat.zero_le _, Nat.zero_le _⟩ (fun H locs hP hD hS => ?_)
    refine vq_Vi (As := [.int (sX6_shareBy S p1)]) (rest := []) (W2 := (wM cI cZ h g S)) (f := (bI (sX6_isLawfulNow S (sX6_shareBy S p1)))) hx hb hml hown hts hK hP hD hS hA hE hl.1 (cX6_isLawfulNow_c l ev dC dI cI cZ cO h g S (sX6_shareBy S p1) hT) gX6_isTable_X6_isLawfulNow rfl hdX6_isLawfulNow (Nat.le_of_ble_eq_true rfl) (Nat.le_of_ble_eq_true rfl) rfl rfl (ci := 6) (qr := 0) rfl rfl rfl [0, 1, 2, 3, 4, 5, 6, 7, 8, 9] [] [0, 1, 2, 3, 4, 5, 6, 7, 8, 9] rfl rfl (by decide) (by decide) (by decide) rfl rfl rfl (Nat.le_of_ble_eq_true rfl) dX6_isTable_17 ⟨Nat.zero_le _, Nat.zero_le _⟩ (fun H locs hP hD hS => ?_)
    refine lv_if_eqB (tgt := 27) hx hb dX6_isTable_20 (by decide) (fun c20 => ?_) (fun c20 => ?_)
    · rw [if_neg (Bool.eq_false_iff.mp c20)] at hσ
      refine lv_iconst (v := 0) hx hb dX6_isTable_27 (by decide) ?_
      subst hσ
      exact vq_zret hx hb hr hlocks hK hP hD hS rfl rfl dX6_isTable_28
    · rw [if_pos c20] at hσ
      refine lv_iconst (v := 1) hx hb dX6_isTable_23 (by decide) ?_
      refine lv_goto (tgt := 28) hx hb dX6_isTable_24 (by decide) ?_
      subst hσ
      exact vq_zret hx hb hr hlocks hK hP hD hS rfl rfl dX6_isTable_28
theorem hdX6_share : yX6_share.cls = RX6 ∧ yX6_share.cls ≠ "java/lang/invoke/MethodHandle" ∧ yX6_share.cls ≠ "java/lang/invoke/VarHandle" ∧ (parseMethodDescriptor yX6_share.desc).map (fun d => d.parameters.length) = some 1 := by decide +kernel
set_option maxHeartbeats 4000000 in
set_option maxRecDepth 100000 in
theorem cX6_share_c (l : Launch) (ev : Nat → Nat) (dC : Nat → ClassId) (dI : Nat → Nat → Nat) (cI cZ cO : ClassId) (h : Nat) (g : Nat → Nat) (S : MSt) (p1 : Int32) (hT : LOK S) : MetI l ev (dC, dI) (tyC cI cZ cO) yX6_share wsX6_share (rmF 7 156) [.ref h, .int p1] (wM cI cZ h g S) (sX6_share S p1) (wM cI cZ h g S) := by
  refine MetI_of (cc := cX6_share) (maxL := 2) (ret := (some .int)) (by decide) rfl (Nat.le_of_ble_eq_true rfl) ?_
  intro p e s m below meth c A ls hx hb hr hml hts hown hlocks hin hK hP hD hA hE hl
  have hown : s.vm.findClass RX6 = some m.cls := hown
  have hl : lv_has ls 2 [(0, .ref h), (1, .int p1)] := hl
  have hS : va_S A s.heap s.heap [] := va_S.rf
  obtain ⟨σ, hσ⟩ : ∃ σ, (sX6_share S p1) = σ := ⟨_, rfl⟩
  rw [hσ]
  rw [sX6_share] at hσ
  refine lv_iload_n hx hb dX6_share_0 rfl (lv_at hl 1 rfl) ?_
  by_cases c1_0 : p1 = 0
  · rw [if_pos c1_0] at hσ
    refine lv_tableIn (x := p1) (off := 35) (tgt := 36) hx hb dX6_share_1 (by rw [c1_0]; decide) (by rw [c1_0]; decide) (by rw [c1_0]; rfl) (by decide) ?_
    refine lv_aload_n hx hb dX6_share_36 rfl (lv_at hl 0 rfl) ?_
    refine lv_iconst (v := 1) hx hb dX6_share_37 (by decide) ?_
    refine vq_Vi (As := [.int 1]) (rest := []) (W2 := (wM cI cZ h g S)) (f := (sX6_pairs S true)) hx hb hml hown hts hK hP hD hS hA hE hl.1 (cX6_pairs_c l ev dC dI cI cZ cO h g S true hT) gX6_share_X6_pairs rfl hdX6_pairs (Nat.le_of_ble_eq_true rfl) (Nat.le_of_ble_eq_true rfl) rfl rfl (ci := 6) (qr := 0) rfl rfl rfl [0, 1, 2, 3, 4, 5, 6, 7, 8, 9] [] [0, 1, 2, 3, 4, 5, 6, 7, 8, 9] rfl rfl (by decide) (by decide) (by decide) rfl rfl rfl (Nat.le_of_ble_eq_true rfl) dX6_share_38 ⟨Nat.zero_le _, Nat.zero_le _⟩ (fun H locs hP hD hS => ?_)
    subst hσ
    exact vq_iret hx hb hr hlocks hK hP hD hS rfl dX6_share_41
  · rw [if_neg c1_0] at hσ
    by_cases c1_1 : p1 = 1
    · rw [if_pos c1_1] at hσ
      refine lv_tableIn (x := p1) (off := 41) (tgt := 42) hx hb dX6_share_1 (by rw [c1_1]; decide) (by rw [c1_1]; decide) (by rw [c1_1]; rfl) (by decide) ?_
      refine lv_aload_n hx hb dX6_share_42 rfl (lv_at hl 0 rfl) ?_
      refine lv_iconst (v := 0) hx hb dX6_share_43 (by decide) ?_
      refine vq_Vi (As := [.int 0]) (rest := []) (W2 := (wM cI cZ h g S)) (f := (sX6_pairs S false)) hx hb hml hown hts hK hP hD hS hA hE hl.1 (cX6_pairs_c l ev dC dI cI cZ cO h g S false hT) gX6_share_X6_pairs rfl hdX6_pairs (Nat.le_of_ble_eq_true rfl) (Nat.le_of_ble_eq_true rfl) rfl rfl (ci := 6) (qr := 0) rfl rfl rfl [0, 1, 2, 3, 4, 5, 6, 7, 8, 9] [] [0, 1, 2, 3, 4, 5, 6, 7, 8, 9] rfl rfl (by decide) (by decide) (by decide) rfl rfl rfl (Nat.le_of_ble_eq_true rfl) dX6_share_44 ⟨Nat.zero_le _, Nat.zero_le _⟩ (fun H locs hP hD hS => ?_)
      subst hσ
      exact vq_iret hx hb hr hlocks hK hP hD hS rfl dX6_share_47
    · rw [if_neg c1_1] at hσ
      by_cases c1_2 : p1 = 2
      · rw [if_pos c1_2] at hσ
        refine lv_tableIn (x := p1) (off := 47) (tgt := 48) hx hb dX6_share_1 (by rw [c1_2]; decide) (by rw [c1_2]; decide) (by rw [c1_2]; rfl) (by decide) ?_
        refine lv_aload_n hx hb dX6_share_48 rfl (lv_at hl 0 rfl) ?_
        refine lv_aload_n hx hb dX6_share_49 rfl (lv_at hl 0 rfl) ?_
        refine va_get (D := (dC, dI)) (ci := 6) (v := .ref (g 0)) (C := RX6) (T := TX6) (N := 15) hx hb hts (fun _ h => List.mem_cons_of_mem _ (List.mem_append_right _ h)) hown hK hP 0 rfl rfl 0 (by decide) (hts (.fieldLink RX6 7 "SharedLineModel" "now" "[I") (List.mem_of_getElem? (i := 1) rfl)) (fun _ h9 => h9) rfl dX6_share_50 ?_
        refine lv_bipush (v := 16) hx hb dX6_share_53 (by decide) ?_
        refine vq_ialdK (k := 16) hx hb hK hP 1 0 rfl rfl (by decide) (by decide) (by decide) dX6_share_55 ?_
        refine vq_Vi (As := [.int ((S.2 0) 16)]) (rest := []) (W2 := (wM cI cZ h g S)) (f := (sX6_likeness S ((S.2 0) 16))) hx hb hml hown hts hK hP hD hS hA hE hl.1 (cX6_likeness_c l ev dC dI cI cZ cO h g S ((S.2 0) 16) hT) gX6_share_X6_likeness rfl hdX6_likeness (Nat.le_of_ble_eq_true rfl) (Nat.le_of_ble_eq_true rfl) rfl rfl (ci := 6) (qr := 0) rfl rfl rfl [0, 1, 2, 3, 4, 5, 6, 7, 8, 9] [] [0, 1, 2, 3, 4, 5, 6, 7, 8, 9] rfl rfl (by decide) (by decide) (by decide) rfl rfl rfl (Nat.le_of_ble_eq_true rfl) dX6_share_56 ⟨Nat.zero_le _, Nat.zero_le _⟩ (fun H locs hP hD hS => ?_)
        subst hσ
        exact vq_iret hx hb hr hlocks hK hP hD hS rfl dX6_share_59
      · rw [if_neg c1_2] at hσ
        by_cases c1_3 : p1 = 3
        · rw [if_pos c1_3] at hσ
          refine lv_tableIn (x := p1) (off := 59) (tgt := 60) hx hb dX6_share_1 (by rw [c1_3]; decide) (by rw [c1_3]; decide) (by rw [c1_3]; rfl) (by decide) ?_
          refine lv_aload_n hx hb dX6_share_60 rfl (lv_at hl 0 rfl) ?_
          refine lv_aload_n hx hb dX6_share_61 rfl (lv_at hl 0 rfl) ?_
          refine va_get (D := (dC, dI)) (ci := 6) (v := .ref (g 0)) (C := RX6) (T := TX6) (N := 15) hx hb hts (fun _ h => List.mem_cons_of_mem _ (List.mem_append_right _ h)) hown hK hP 0 rfl rfl 0 (by decide) (hts (.fieldLink RX6 7 "SharedLineModel" "now" "[I") (List.mem_of_getElem? (i := 1) rfl)) (fun _ h9 => h9) rfl dX6_share_62 ?_
          refine lv_bipush (v := 16) hx hb dX6_share_65 (by decide) ?_
          refine vq_ialdK (k := 16) hx hb hK hP 1 0 rfl rfl (by decide) (by decide) (by decide) dX6_share_67 ?_
          refine vq_Vi (As := [.int ((S.2 0) 16)]) (rest := []) (W2 := (wM cI cZ h g S)) (f := (sX6_tilt S ((S.2 0) 16))) hx hb hml hown hts hK hP hD hS hA hE hl.1 (cX6_tilt_c l ev dC dI cI cZ cO h g S ((S.2 0) 16) hT) gX6_share_X6_tilt rfl hdX6_tilt (Nat.le_of_ble_eq_true rfl) (Nat.le_of_ble_eq_true rfl) rfl rfl (ci := 6) (qr := 0) rfl rfl rfl [0, 1, 2, 3, 4, 5, 6, 7, 8, 9] [] [0, 1, 2, 3, 4, 5, 6, 7, 8, 9] rfl rfl (by decide) (by decide) (by decide) rfl rfl rfl (Nat.le_of_ble_eq_true rfl) dX6_share_68 ⟨Nat.zero_le _, Nat.zero_le _⟩ (fun H locs hP hD hS => ?_)
          subst hσ
          exact vq_iret hx hb hr hlocks hK hP hD hS rfl dX6_share_71
        · rw [if_neg c1_3] at hσ
          by_cases c1_4 : p1 = 4
          · rw [if_pos c1_4] at hσ
            refine lv_tableIn (x := p1) (off := 71) (tgt := 72) hx hb dX6_share_1 (by rw [c1_4]; decide) (by rw [c1_4]; decide) (by rw [c1_4]; rfl) (by decide) ?_
            refine lv_aload_n hx hb dX6_share_72 rfl (lv_at hl 0 rfl) ?_
            refine lv_aload_n hx hb dX6_share_73 rfl (lv_at hl 0 rfl) ?_
            refine va_get (D := (dC, dI)) (ci := 6) (v := .ref (g 0)) (C := RX6) (T := TX6) (N := 15) hx hb hts (fun _ h => List.mem_cons_of_mem _ (List.mem_append_right _ h)) hown hK hP 0 rfl rfl 0 (by decide) (hts (.fieldLink RX6 7 "SharedLineModel" "now" "[I") (List.mem_of_getElem? (i := 1) rfl)) (fun _ h9 => h9) rfl dX6_share_74 ?_
            refine lv_bipush (v := 16) hx hb dX6_share_77 (by decide) ?_
            refine vq_ialdK (k := 16) hx hb hK hP 1 0 rfl rfl (by decide) (by decide) (by decide) dX6_share_79 ?_
            refine vq_Vi (As := [.int ((S.2 0) 16)]) (rest := []) (W2 := (wM cI cZ h g S)) (f := (bI (sX6_isLawfulNow S ((S.2 0) 16)))) hx hb hml hown hts hK hP hD hS hA hE hl.1 (cX6_isLawfulNow_c l ev dC dI cI cZ cO h g S ((S.2 0) 16) hT) gX6_share_X6_isLawfulNow rfl hdX6_isLawfulNow (Nat.le_of_ble_eq_true rfl) (Nat.le_of_ble_eq_true rfl) rfl rfl (ci := 6) (qr := 0) rfl rfl rfl [0, 1, 2, 3, 4, 5, 6, 7, 8, 9] [] [0, 1, 2, 3, 4, 5, 6, 7, 8, 9] rfl rfl (by decide) (by decide) (by decide) rfl rfl rfl (Nat.le_of_ble_eq_true rfl) dX6_share_80 ⟨Nat.zero_le _, Nat.zero_le _⟩ (fun H locs hP hD hS => ?_)
            refine lv_if_eqB (tgt := 90) hx hb dX6_share_83 (by decide) (fun c83 => ?_) (fun c83 => ?_)
            · rw [if_neg (Bool.eq_false_iff.mp c83)] at hσ
              refine lv_iconst (v := 0) hx hb dX6_share_90 (by decide) ?_
              subst hσ
              exact vq_iret hx hb hr hlocks hK hP hD hS rfl dX6_share_91
            · rw [if_pos c83] at hσ
              refine lv_iconst (v := 1) hx hb dX6_share_86 (by decide) ?_
              refine lv_goto (tgt := 91) hx hb dX6_share_87 (by decide) ?_
              subst hσ
              exact vq_iret hx hb hr hlocks hK hP hD hS rfl dX6_share_91
          · rw [if_neg c1_4] at hσ
            refine lv_tableOut (x := p1) (tgt := 92) hx hb dX6_share_1 (by have := lv_neT c1_0 (a := 0) (by decide); have := lv_neT c1_1 (a := 1) (by decide); have := lv_neT c1_2 (a := 2) (by decide); have := lv_neT c1_3 (a := 3) (by decide); have := lv_neT c1_4 (a := 4) (by decide); omega) (by decide) ?_
            refine lv_ldc (v := (-1000000)) hx hb hown (hts (.constant RX6 160 (-1000000)) (List.mem_of_getElem? (i := 2) rfl)) dX6_share_92 ?_
            subst hσ
            exact vq_iret hx hb hr hlocks hK hP hD hS rfl dX6_share_94
theorem hdX6_tick : yX6_tick.cls = RX6 ∧ yX6_tick.cls ≠ "java/lang/invoke/MethodHandle" ∧ yX6_tick.cls ≠ "java/lang/invoke/VarHandle" ∧ (parseMethodDescriptor yX6_tick.desc).map (fun d => d.parameters.length) = some 2 := by decide +kernel
set_option maxHeartbeats 4000000 in
set_option maxRecDepth 100000 in
theorem cX6_tick_c (l : Launch) (ev : Nat → Nat) (dC : Nat → ClassId) (dI : Nat → Nat → Nat) (cI cZ cO : ClassId) (h : Nat) (g : Nat → Nat) (S : MSt) (p1 : Int32) (p2 : Int32) (hT : LOK S) : MetI l ev (dC, dI) (tyC cI cZ cO) yX6_tick wsX6_tick (rmF 5 111) [.ref h, .int p1, .int p2] (wM cI cZ h g S) (sX6_tick S p1 p2) (wM cI cZ h g S) := by
  refine MetI_of (cc := cX6_tick) (maxL := 3) (ret := (some .int)) (by decide) rfl (Nat.le_of_ble_eq_true rfl) ?_
  intro p e s m below meth c A ls hx hb hr hml hts hown hlocks hin hK hP hD hA hE hl
  have hown : s.vm.findClass RX6 = some m.cls := hown
  have hl : lv_has ls 3 [(0, .ref h), (1, .int p1), (2, .int p2)] := hl
  have hS : va_S A s.heap s.heap [] := va_S.rf
  obtain ⟨σ, hσ⟩ : ∃ σ, (sX6_tick S p1 p2) = σ := ⟨_, rfl⟩
  rw [hσ]
  rw [sX6_tick] at hσ
  refine lv_aload_n hx hb dX6_tick_0 rfl (lv_at hl 0 rfl) ?_
  refine lv_iload_n hx hb dX6_tick_1 rfl (lv_at hl 1 rfl) ?_
  refine vq_Vi (As := [.int p1]) (rest := []) (W2 := (wM cI cZ h g S)) (f := (bI (sX6_isTick S p1))) hx hb hml hown hts hK hP hD hS hA hE hl.1 (cX6_isTick_c l ev dC dI cI cZ cO h g S p1) gX6_tick_X6_isTick rfl hdX6_isTick (Nat.le_of_ble_eq_true rfl) (Nat.le_of_ble_eq_true rfl) rfl rfl (ci := 6) (qr := 0) rfl rfl rfl [0, 1, 2, 3, 4, 5, 6, 7, 8, 9] [] [0, 1, 2, 3, 4, 5, 6, 7, 8, 9] rfl rfl (by decide) (by decide) (by decide) rfl rfl rfl (Nat.le_of_ble_eq_true rfl) dX6_tick_2 ⟨Nat.zero_le _, Nat.zero_le _⟩ (fun H locs hP hD hS => ?_)
  refine lv_if_eqB (tgt := 17) hx hb dX6_tick_5 (by decide) (fun c5 => ?_) (fun c5 => ?_)
  · rw [if_neg (Bool.eq_false_iff.mp c5)] at hσ
    refine lv_iconst (v := (-1)) hx hb dX6_tick_17 (by decide) ?_
    subst hσ
    exact vq_iret hx hb hr hlocks hK hP hD hS rfl dX6_tick_18
  · rw [if_pos c5] at hσ
    refine lv_iload_n hx hb dX6_tick_8 rfl (lv_at hl 2 rfl) ?_
    refine lv_iconst (v := 0) hx hb dX6_tick_9 (by decide) ?_
    refine lv_iconst (v := 3) hx hb dX6_tick_10 (by decide) ?_
    refine vq_Si (As := [.int p2, .int 0, .int 3]) (rest := []) (W2 := (wM cI cZ h g S)) (f := (bI (sX6_within p2 (0 : Int32) (3 : Int32)))) hx hb hml hown hts hK hP hD hS hA hE hl.1 (cX6_within_c l ev dC dI cI cZ cO p2 (0 : Int32) (3 : Int32)) gX6_tick_X6_within rfl hdX6_within (Nat.le_of_ble_eq_true rfl) (Nat.le_of_ble_eq_true rfl) rfl rfl [] [0, 1, 2, 3, 4, 5, 6, 7, 8, 9] [0, 1, 2, 3, 4, 5, 6, 7, 8, 9] rfl rfl (by decide) (by decide) (by decide) rfl rfl rfl (Nat.le_of_ble_eq_true rfl) dX6_tick_11 ⟨Nat.zero_le _, Nat.zero_le _⟩ (fun H locs hP hD hS => ?_)
    refine lv_if_neB (tgt := 19) hx hb dX6_tick_14 (by decide) (fun c14 => ?_) (fun c14 => ?_)
    · rw [if_pos c14] at hσ
      refine lv_iload_n hx hb dX6_tick_19 rfl (lv_at hl 2 rfl) ?_
      by_cases c20_0 : p2 = 0
      · rw [if_pos c20_0] at hσ
        refine lv_tableIn (x := p2) (off := 28) (tgt := 48) hx hb dX6_tick_20 (by rw [c20_0]; decide) (by rw [c20_0]; decide) (by rw [c20_0]; rfl) (by decide) ?_
        refine lv_aload_n hx hb dX6_tick_48 rfl (lv_at hl 0 rfl) ?_
        refine va_get (D := (dC, dI)) (ci := 6) (v := .ref (g 0)) (C := RX6) (T := TX6) (N := 15) hx hb hts (fun _ h => List.mem_cons_of_mem _ (List.mem_append_right _ h)) hown hK hP 0 rfl rfl 0 (by decide) (hts (.fieldLink RX6 7 "SharedLineModel" "now" "[I") (List.mem_of_getElem? (i := 1) rfl)) (fun _ h9 => h9) rfl dX6_tick_49 ?_
        refine lv_iconst (v := 4) hx hb dX6_tick_52 (by decide) ?_
        refine lv_iload_n hx hb dX6_tick_53 rfl (lv_at hl 1 rfl) ?_
        refine lv_iadd hx hb dX6_tick_54 ?_
        refine va_iald hx hb hK hP 1 0 rfl rfl (i := ((4 : Int32) + p1)) (tick_ix hT c5) dX6_tick_55 ?_
        subst hσ
        exact vq_iret hx hb hr hlocks hK hP hD hS rfl dX6_tick_56
      · rw [if_neg c20_0] at hσ
        by_cases c20_1 : p2 = 1
        · rw [if_pos c20_1] at hσ
          refine lv_tableIn (x := p2) (off := 37) (tgt := 57) hx hb dX6_tick_20 (by rw [c20_1]; decide) (by rw [c20_1]; decide) (by rw [c20_1]; rfl) (by decide) ?_
          refine lv_aload_n hx hb dX6_tick_57 rfl (lv_at hl 0 rfl) ?_
          refine lv_iload_n hx hb dX6_tick_58 rfl (lv_at hl 1 rfl) ?_
          refine vq_Vi (As := [.int p1]) (rest := []) (W2 := (wM cI cZ h g S)) (f := (bI (sX6_isNote S p1))) hx hb hml hown hts hK hP hD hS hA hE hl.1 (cX6_isNote_c l ev dC dI cI cZ cO h g S p1 hT) gX6_tick_X6_isNote rfl hdX6_isNote (Nat.le_of_ble_eq_true rfl) (Nat.le_of_ble_eq_true rfl) rfl rfl (ci := 6) (qr := 0) rfl rfl rfl [0, 1, 2, 3, 4, 5, 6, 7, 8, 9] [] [0, 1, 2, 3, 4, 5, 6, 7, 8, 9] rfl rfl (by decide) (by decide) (by decide) rfl rfl rfl (Nat.le_of_ble_eq_true rfl) dX6_tick_59 ⟨Nat.zero_le _, Nat.zero_le _⟩ (fun H locs hP hD hS => ?_)
          refine lv_if_eqB (tgt := 79) hx hb dX6_tick_62 (by decide) (fun c62 => ?_) (fun c62 => ?_)
          · rw [if_neg (Bool.eq_false_iff.mp c62)] at hσ
            refine lv_bipush (v := (-9)) hx hb dX6_tick_79 (by decide) ?_
            subst hσ
            exact vq_iret hx hb hr hlocks hK hP hD hS rfl dX6_tick_81
          · rw [if_pos c62] at hσ
            refine lv_aload_n hx hb dX6_tick_65 rfl (lv_at hl 0 rfl) ?_
            refine va_get (D := (dC, dI)) (ci := 6) (v := .ref (g 0)) (C := RX6) (T := TX6) (N := 15) hx hb hts (fun _ h => List.mem_cons_of_mem _ (List.mem_append_right _ h)) hown hK hP 0 rfl rfl 0 (by decide) (hts (.fieldLink RX6 7 "SharedLineModel" "now" "[I") (List.mem_of_getElem? (i := 1) rfl)) (fun _ h9 => h9) rfl dX6_tick_66 ?_
            refine lv_bipush (v := 16) hx hb dX6_tick_69 (by decide) ?_
            refine vq_ialdK (k := 16) hx hb hK hP 1 0 rfl rfl (by decide) (by decide) (by decide) dX6_tick_71 ?_
            refine lv_iload_n hx hb dX6_tick_72 rfl (lv_at hl 1 rfl) ?_
            refine lv_ishr hx hb dX6_tick_73 ?_
            refine lv_iconst (v := 1) hx hb dX6_tick_74 (by decide) ?_
            refine lv_iand hx hb dX6_tick_75 ?_
            refine lv_goto (tgt := 81) hx hb dX6_tick_76 (by decide) ?_
            subst hσ
            exact vq_iret hx hb hr hlocks hK hP hD hS rfl dX6_tick_81
        · rw [if_neg c20_1] at hσ
          by_cases c20_2 : p2 = 2
          · rw [if_pos c20_2] at hσ
            refine lv_tableIn (x := p2) (off := 62) (tgt := 82) hx hb dX6_tick_20 (by rw [c20_2]; decide) (by rw [c20_2]; decide) (by rw [c20_2]; rfl) (by decide) ?_
            refine lv_aload_n hx hb dX6_tick_82 rfl (lv_at hl 0 rfl) ?_
            refine lv_aload_n hx hb dX6_tick_83 rfl (lv_at hl 0 rfl) ?_
            refine va_get (D := (dC, dI)) (ci := 6) (v := .ref (g 0)) (C := RX6) (T := TX6) (N := 15) hx hb hts (fun _ h => List.mem_cons_of_mem _ (List.mem_append_right _ h)) hown hK hP 0 rfl rfl 0 (by decide) (hts (.fieldLink RX6 7 "SharedLineModel" "now" "[I") (List.mem_of_getElem? (i := 1) rfl)) (fun _ h9 => h9) rfl dX6_tick_84 ?_
            refine lv_bipush (v := 16) hx hb dX6_tick_87 (by decide) ?_
            refine vq_ialdK (k := 16) hx hb hK hP 1 0 rfl rfl (by decide) (by decide) (by decide) dX6_tick_89 ?_
            refine lv_iload_n hx hb dX6_tick_90 rfl (lv_at hl 1 rfl) ?_
            refine lv_aload_n hx hb dX6_tick_91 rfl (lv_at hl 0 rfl) ?_
            refine va_get (D := (dC, dI)) (ci := 6) (v := .ref (g 0)) (C := RX6) (T := TX6) (N := 15) hx hb hts (fun _ h => List.mem_cons_of_mem _ (List.mem_append_right _ h)) hown hK hP 0 rfl rfl 0 (by decide) (hts (.fieldLink RX6 7 "SharedLineModel" "now" "[I") (List.mem_of_getElem? (i := 1) rfl)) (fun _ h9 => h9) rfl dX6_tick_92 ?_
            refine lv_iconst (v := 1) hx hb dX6_tick_95 (by decide) ?_
            refine vq_ialdK (k := 1) hx hb hK hP 1 0 rfl rfl (by decide) (by decide) (by decide) dX6_tick_96 ?_
            refine vq_Vi (As := [.int ((S.2 0) 16), .int p1, .int ((S.2 0) 1)]) (rest := []) (W2 := (wM cI cZ h g S)) (f := (bI (sX6_isSoon S ((S.2 0) 16) p1 ((S.2 0) 1)))) hx hb hml hown hts hK hP hD hS hA hE hl.1 (cX6_isSoon_c l ev dC dI cI cZ cO h g S ((S.2 0) 16) p1 ((S.2 0) 1) hT) gX6_tick_X6_isSoon rfl hdX6_isSoon (Nat.le_of_ble_eq_true rfl) (Nat.le_of_ble_eq_true rfl) rfl rfl (ci := 6) (qr := 0) rfl rfl rfl [0, 1, 2, 3, 4, 5, 6, 7, 8, 9] [] [0, 1, 2, 3, 4, 5, 6, 7, 8, 9] rfl rfl (by decide) (by decide) (by decide) rfl rfl rfl (Nat.le_of_ble_eq_true rfl) dX6_tick_97 ⟨Nat.zero_le _, Nat.zero_le _⟩ (fun H locs hP hD hS => ?_)
            refine lv_if_eqB (tgt := 107) hx hb dX6_tick_100 (by decide) (fun c100 => ?_) (fun c100 => ?_)
            · rw [if_neg (Bool.eq_false_iff.mp c100)] at hσ
              refine lv_iconst (v := 0) hx hb dX6_tick_107 (by decide) ?_
              subst hσ
              exact vq_iret hx hb hr hlocks hK hP hD hS rfl dX6_tick_108
            · rw [if_pos c100] at hσ
              refine lv_iconst (v := 1) hx hb dX6_tick_103 (by decide) ?_
              refine lv_goto (tgt := 108) hx hb dX6_tick_104 (by decide) ?_
              subst hσ
              exact vq_iret hx hb hr hlocks hK hP hD hS rfl dX6_tick_108
          · rw [if_neg c20_2] at hσ
            refine lv_tableOut (x := p2) (tgt := 109) hx hb dX6_tick_20 (by have := lv_neT c20_0 (a := 0) (by decide); have := lv_neT c20_1 (a := 1) (by decide); have := lv_neT c20_2 (a := 2) (by decide); omega) (by decide) ?_
            refine lv_aload_n hx hb dX6_tick_109 rfl (lv_at hl 0 rfl) ?_
            refine lv_aload_n hx hb dX6_tick_110 rfl (lv_at hl 0 rfl) ?_
            refine va_get (D := (dC, dI)) (ci := 6) (v := .ref (g 0)) (C := RX6) (T := TX6) (N := 15) hx hb hts (fun _ h => List.mem_cons_of_mem _ (List.mem_append_right _ h)) hown hK hP 0 rfl rfl 0 (by decide) (hts (.fieldLink RX6 7 "SharedLineModel" "now" "[I") (List.mem_of_getElem? (i := 1) rfl)) (fun _ h9 => h9) rfl dX6_tick_111 ?_
            refine lv_bipush (v := 16) hx hb dX6_tick_114 (by decide) ?_
            refine vq_ialdK (k := 16) hx hb hK hP 1 0 rfl rfl (by decide) (by decide) (by decide) dX6_tick_116 ?_
            refine lv_iload_n hx hb dX6_tick_117 rfl (lv_at hl 1 rfl) ?_
            refine vq_Vi (As := [.int ((S.2 0) 16), .int p1]) (rest := []) (W2 := (wM cI cZ h g S)) (f := (bI (sX6_isFar S ((S.2 0) 16) p1))) hx hb hml hown hts hK hP hD hS hA hE hl.1 (cX6_isFar_c l ev dC dI cI cZ cO h g S ((S.2 0) 16) p1 hT) gX6_tick_X6_isFar rfl hdX6_isFar (Nat.le_of_ble_eq_true rfl) (Nat.le_of_ble_eq_true rfl) rfl rfl (ci := 6) (qr := 0) rfl rfl rfl [0, 1, 2, 3, 4, 5, 6, 7, 8, 9] [] [0, 1, 2, 3, 4, 5, 6, 7, 8, 9] rfl rfl (by decide) (by decide) (by decide) rfl rfl rfl (Nat.le_of_ble_eq_true rfl) dX6_tick_118 ⟨Nat.zero_le _, Nat.zero_le _⟩ (fun H locs hP hD hS => ?_)
            refine lv_if_eqB (tgt := 128) hx hb dX6_tick_121 (by decide) (fun c121 => ?_) (fun c121 => ?_)
            · rw [if_neg (Bool.eq_false_iff.mp c121)] at hσ
              refine lv_iconst (v := 0) hx hb dX6_tick_128 (by decide) ?_
              subst hσ
              exact vq_iret hx hb hr hlocks hK hP hD hS rfl dX6_tick_129
            · rw [if_pos c121] at hσ
              refine lv_iconst (v := 1) hx hb dX6_tick_124 (by decide) ?_
              refine lv_goto (tgt := 129) hx hb dX6_tick_125 (by decide) ?_
              subst hσ
              exact vq_iret hx hb hr hlocks hK hP hD hS rfl dX6_tick_129
    · rw [if_neg (Bool.eq_false_iff.mp c14)] at hσ
      refine lv_iconst (v := (-1)) hx hb dX6_tick_17 (by decide) ?_
      subst hσ
      exact vq_iret hx hb hr hlocks hK hP hD hS rfl dX6_tick_18
theorem hdX6_count : yX6_count.cls = RX6 ∧ yX6_count.cls ≠ "java/lang/invoke/MethodHandle" ∧ yX6_count.cls ≠ "java/lang/invoke/VarHandle" ∧ (parseMethodDescriptor yX6_count.desc).map (fun d => d.parameters.length) = some 1 := by decide +kernel
set_option maxHeartbeats 4000000 in
set_option maxRecDepth 100000 in
theorem cX6_count_c (l : Launch) (ev : Nat → Nat) (dC : Nat → ClassId) (dI : Nat → Nat → Nat) (cI cZ cO : ClassId) (h : Nat) (g : Nat → Nat) (S : MSt) (p1 : Int32) (hT : LOK S) : MetI l ev (dC, dI) (tyC cI cZ cO) yX6_count wsX6_count (rmF 4 86) [.ref h, .int p1] (wM cI cZ h g S) (sX6_count S p1) (wM cI cZ h g S) := by
  refine MetI_of (cc := cX6_count) (maxL := 2) (ret := (some .int)) (by decide) rfl (Nat.le_of_ble_eq_true rfl) ?_
  intro p e s m below meth c A ls hx hb hr hml hts hown hlocks hin hK hP hD hA hE hl
  have hown : s.vm.findClass RX6 = some m.cls := hown
  have hl : lv_has ls 2 [(0, .ref h), (1, .int p1)] := hl
  have hS : va_S A s.heap s.heap [] := va_S.rf
  obtain ⟨σ, hσ⟩ : ∃ σ, (sX6_count S p1) = σ := ⟨_, rfl⟩
  rw [hσ]
  rw [sX6_count] at hσ
  refine lv_iload_n hx hb dX6_count_0 rfl (lv_at hl 1 rfl) ?_
  by_cases c1_0 : p1 = 0
  · rw [if_pos c1_0] at hσ
    refine lv_tableIn (x := p1) (off := 47) (tgt := 48) hx hb dX6_count_1 (by rw [c1_0]; decide) (by rw [c1_0]; decide) (by rw [c1_0]; rfl) (by decide) ?_
    refine lv_aload_n hx hb dX6_count_48 rfl (lv_at hl 0 rfl) ?_
    refine va_get (D := (dC, dI)) (ci := 6) (v := .ref (g 0)) (C := RX6) (T := TX6) (N := 15) hx hb hts (fun _ h => List.mem_cons_of_mem _ (List.mem_append_right _ h)) hown hK hP 0 rfl rfl 0 (by decide) (hts (.fieldLink RX6 7 "SharedLineModel" "now" "[I") (List.mem_of_getElem? (i := 1) rfl)) (fun _ h9 => h9) rfl dX6_count_49 ?_
    refine lv_iconst (v := 0) hx hb dX6_count_52 (by decide) ?_
    refine vq_ialdK (k := 0) hx hb hK hP 1 0 rfl rfl (by decide) (by decide) (by decide) dX6_count_53 ?_
    subst hσ
    exact vq_iret hx hb hr hlocks hK hP hD hS rfl dX6_count_54
  · rw [if_neg c1_0] at hσ
    by_cases c1_1 : p1 = 1
    · rw [if_pos c1_1] at hσ
      refine lv_tableIn (x := p1) (off := 54) (tgt := 55) hx hb dX6_count_1 (by rw [c1_1]; decide) (by rw [c1_1]; decide) (by rw [c1_1]; rfl) (by decide) ?_
      refine lv_aload_n hx hb dX6_count_55 rfl (lv_at hl 0 rfl) ?_
      refine vq_Vi (As := []) (rest := []) (W2 := (wM cI cZ h g S)) (f := (sX6_notes S)) hx hb hml hown hts hK hP hD hS hA hE hl.1 (cX6_notes_c l ev dC dI cI cZ cO h g S hT) gX6_count_X6_notes rfl hdX6_notes (Nat.le_of_ble_eq_true rfl) (Nat.le_of_ble_eq_true rfl) rfl rfl (ci := 6) (qr := 0) rfl rfl rfl [0, 1, 2, 3, 4, 5, 6, 7, 8, 9] [] [0, 1, 2, 3, 4, 5, 6, 7, 8, 9] rfl rfl (by decide) (by decide) (by decide) rfl rfl rfl (Nat.le_of_ble_eq_true rfl) dX6_count_56 ⟨Nat.zero_le _, Nat.zero_le _⟩ (fun H locs hP hD hS => ?_)
      subst hσ
      exact vq_iret hx hb hr hlocks hK hP hD hS rfl dX6_count_59
    · rw [if_neg c1_1] at hσ
      by_cases c1_2 : p1 = 2
      · rw [if_pos c1_2] at hσ
        refine lv_tableIn (x := p1) (off := 59) (tgt := 60) hx hb dX6_count_1 (by rw [c1_2]; decide) (by rw [c1_2]; decide) (by rw [c1_2]; rfl) (by decide) ?_
        refine lv_aload_n hx hb dX6_count_60 rfl (lv_at hl 0 rfl) ?_
        refine va_get (D := (dC, dI)) (ci := 6) (v := .ref (g 0)) (C := RX6) (T := TX6) (N := 15) hx hb hts (fun _ h => List.mem_cons_of_mem _ (List.mem_append_right _ h)) hown hK hP 0 rfl rfl 0 (by decide) (hts (.fieldLink RX6 7 "SharedLineModel" "now" "[I") (List.mem_of_getElem? (i := 1) rfl)) (fun _ h9 => h9) rfl dX6_count_61 ?_
        refine lv_iconst (v := 1) hx hb dX6_count_64 (by decide) ?_
        refine vq_ialdK (k := 1) hx hb hK hP 1 0 rfl rfl (by decide) (by decide) (by decide) dX6_count_65 ?_
        subst hσ
        exact vq_iret hx hb hr hlocks hK hP hD hS rfl dX6_count_66
      · rw [if_neg c1_2] at hσ
        by_cases c1_3 : p1 = 3
        · rw [if_pos c1_3] at hσ
          refine lv_tableIn (x := p1) (off := 66) (tgt := 67) hx hb dX6_count_1 (by rw [c1_3]; decide) (by rw [c1_3]; decide) (by rw [c1_3]; rfl) (by decide) ?_
          refine lv_aload_n hx hb dX6_count_67 rfl (lv_at hl 0 rfl) ?_
          refine va_get (D := (dC, dI)) (ci := 6) (v := .ref (g 0)) (C := RX6) (T := TX6) (N := 15) hx hb hts (fun _ h => List.mem_cons_of_mem _ (List.mem_append_right _ h)) hown hK hP 0 rfl rfl 0 (by decide) (hts (.fieldLink RX6 7 "SharedLineModel" "now" "[I") (List.mem_of_getElem? (i := 1) rfl)) (fun _ h9 => h9) rfl dX6_count_68 ?_
          refine lv_iconst (v := 2) hx hb dX6_count_71 (by decide) ?_
          refine vq_ialdK (k := 2) hx hb hK hP 1 0 rfl rfl (by decide) (by decide) (by decide) dX6_count_72 ?_
          subst hσ
          exact vq_iret hx hb hr hlocks hK hP hD hS rfl dX6_count_73
        · rw [if_neg c1_3] at hσ
          by_cases c1_4 : p1 = 4
          · rw [if_pos c1_4] at hσ
            refine lv_tableIn (x := p1) (off := 73) (tgt := 74) hx hb dX6_count_1 (by rw [c1_4]; decide) (by rw [c1_4]; decide) (by rw [c1_4]; rfl) (by decide) ?_
            refine lv_aload_n hx hb dX6_count_74 rfl (lv_at hl 0 rfl) ?_
            refine va_get (D := (dC, dI)) (ci := 6) (v := .ref (g 0)) (C := RX6) (T := TX6) (N := 15) hx hb hts (fun _ h => List.mem_cons_of_mem _ (List.mem_append_right _ h)) hown hK hP 0 rfl rfl 0 (by decide) (hts (.fieldLink RX6 7 "SharedLineModel" "now" "[I") (List.mem_of_getElem? (i := 1) rfl)) (fun _ h9 => h9) rfl dX6_count_75 ?_
            refine lv_iconst (v := 3) hx hb dX6_count_78 (by decide) ?_
            refine vq_ialdK (k := 3) hx hb hK hP 1 0 rfl rfl (by decide) (by decide) (by decide) dX6_count_79 ?_
            subst hσ
            exact vq_iret hx hb hr hlocks hK hP hD hS rfl dX6_count_80
          · rw [if_neg c1_4] at hσ
            by_cases c1_5 : p1 = 5
            · rw [if_pos c1_5] at hσ
              refine lv_tableIn (x := p1) (off := 80) (tgt := 81) hx hb dX6_count_1 (by rw [c1_5]; decide) (by rw [c1_5]; decide) (by rw [c1_5]; rfl) (by decide) ?_
              refine lv_aload_n hx hb dX6_count_81 rfl (lv_at hl 0 rfl) ?_
              refine va_get (D := (dC, dI)) (ci := 6) (v := .int (S.1 1)) (C := RX6) (T := TX6) (N := 15) hx hb hts (fun _ h => List.mem_cons_of_mem _ (List.mem_append_right _ h)) hown hK hP 0 rfl rfl 6 (by decide) (hts (.fieldLink RX6 180 "SharedLineModel" "seen" "I") (List.mem_of_getElem? (i := 2) rfl)) (fun _ h9 => h9) rfl dX6_count_82 ?_
              subst hσ
              exact vq_iret hx hb hr hlocks hK hP hD hS rfl dX6_count_85
            · rw [if_neg c1_5] at hσ
              by_cases c1_6 : p1 = 6
              · rw [if_pos c1_6] at hσ
                refine lv_tableIn (x := p1) (off := 85) (tgt := 86) hx hb dX6_count_1 (by rw [c1_6]; decide) (by rw [c1_6]; decide) (by rw [c1_6]; rfl) (by decide) ?_
                refine lv_aload_n hx hb dX6_count_86 rfl (lv_at hl 0 rfl) ?_
                refine va_get (D := (dC, dI)) (ci := 6) (v := .int (S.1 2)) (C := RX6) (T := TX6) (N := 15) hx hb hts (fun _ h => List.mem_cons_of_mem _ (List.mem_append_right _ h)) hown hK hP 0 rfl rfl 10 (by decide) (hts (.fieldLink RX6 46 "SharedLineModel" "letters" "I") (List.mem_of_getElem? (i := 3) rfl)) (fun _ h9 => h9) rfl dX6_count_87 ?_
                subst hσ
                exact vq_iret hx hb hr hlocks hK hP hD hS rfl dX6_count_90
              · rw [if_neg c1_6] at hσ
                by_cases c1_7 : p1 = 7
                · rw [if_pos c1_7] at hσ
                  refine lv_tableIn (x := p1) (off := 90) (tgt := 91) hx hb dX6_count_1 (by rw [c1_7]; decide) (by rw [c1_7]; decide) (by rw [c1_7]; rfl) (by decide) ?_
                  refine lv_aload_n hx hb dX6_count_91 rfl (lv_at hl 0 rfl) ?_
                  refine va_get (D := (dC, dI)) (ci := 6) (v := .int (S.1 0)) (C := RX6) (T := TX6) (N := 15) hx hb hts (fun _ h => List.mem_cons_of_mem _ (List.mem_append_right _ h)) hown hK hP 0 rfl rfl 3 (by decide) (hts (.fieldLink RX6 98 "SharedLineModel" "undos" "I") (List.mem_of_getElem? (i := 4) rfl)) (fun _ h9 => h9) rfl dX6_count_92 ?_
                  subst hσ
                  exact vq_iret hx hb hr hlocks hK hP hD hS rfl dX6_count_95
                · rw [if_neg c1_7] at hσ
                  refine lv_tableOut (x := p1) (tgt := 96) hx hb dX6_count_1 (by have := lv_neT c1_0 (a := 0) (by decide); have := lv_neT c1_1 (a := 1) (by decide); have := lv_neT c1_2 (a := 2) (by decide); have := lv_neT c1_3 (a := 3) (by decide); have := lv_neT c1_4 (a := 4) (by decide); have := lv_neT c1_5 (a := 5) (by decide); have := lv_neT c1_6 (a := 6) (by decide); have := lv_neT c1_7 (a := 7) (by decide); omega) (by decide) ?_
                  refine lv_iconst (v := (-1)) hx hb dX6_count_96 (by decide) ?_
                  subst hσ
                  exact vq_iret hx hb hr hlocks hK hP hD hS rfl dX6_count_97
