theorem hdX5_keep : yX5_keep.cls = RX5 ∧ yX5_keep.cls ≠ "java/lang/invoke/MethodHandle" ∧ yX5_keep.cls ≠ "java/lang/invoke/VarHandle" ∧ (parseMethodDescriptor yX5_keep.desc).map (fun d => d.parameters.length) = some 1 := by decide +kernel
set_option maxHeartbeats 4000000 in
set_option maxRecDepth 100000 in
theorem cX5_keep_lo (l : Launch) (ev : Nat → Nat) (dC : Nat → ClassId) (dI : Nat → Nat → Nat) (cI cZ cO : ClassId) (h zn zx zp zs zt zi : Nat) (S : SSt) (p1 : Int32) (hp : p1 < 0) : MetI l ev (dC, dI) (tyC cI cZ cO) yX5_keep wsX5_keep { frames := 2, cells := 0, slots := 0, locals := 100 } [.ref h, .int p1] (wZ h zn zx zp zs zt zi S) (-1) (wZ h zn zx zp zs zt zi S) := by
  refine MetI_of (cc := cX5_keep) (maxL := 3) (ret := (some .int)) (by decide) rfl (Nat.le_of_ble_eq_true rfl) ?_
  intro p e s m below meth c A ls hx hb hr1 hml hts hown hlocks hin hK hP hD hA hE hl
  have hown : s.vm.findClass RX5 = some m.cls := hown
  have hl : lv_has ls 3 [(0, .ref h), (1, .int p1)] := hl
  have hS : va_S A s.heap s.heap [] := va_S.rf
  refine lv_iload_n hx hb dX5_keep_0 rfl (lv_at hl 1 rfl) ?_
  refine lv_if_lt (tgt := 9) hx hb dX5_keep_1 (by decide) (fun c1 => ?_) (fun c1 => absurd hp c1)
  refine lv_iconst (v := (-1)) hx hb dX5_keep_9 (by decide) ?_
  exact vq_iret hx hb hr1 hlocks hK hP hD hS rfl dX5_keep_10
set_option maxHeartbeats 4000000 in
set_option maxRecDepth 100000 in
theorem cX5_keep_hi (l : Launch) (ev : Nat → Nat) (dC : Nat → ClassId) (dI : Nat → Nat → Nat) (cI cZ cO : ClassId) (h zn zx zp zs zt zi : Nat) (S : SSt) (p1 : Int32) (hp0 : ¬ p1 < 0) (hp : ¬ p1 < 2) : MetI l ev (dC, dI) (tyC cI cZ cO) yX5_keep wsX5_keep { frames := 2, cells := 0, slots := 0, locals := 100 } [.ref h, .int p1] (wZ h zn zx zp zs zt zi S) (-1) (wZ h zn zx zp zs zt zi S) := by
  refine MetI_of (cc := cX5_keep) (maxL := 3) (ret := (some .int)) (by decide) rfl (Nat.le_of_ble_eq_true rfl) ?_
  intro p e s m below meth c A ls hx hb hr1 hml hts hown hlocks hin hK hP hD hA hE hl
  have hown : s.vm.findClass RX5 = some m.cls := hown
  have hl : lv_has ls 3 [(0, .ref h), (1, .int p1)] := hl
  have hS : va_S A s.heap s.heap [] := va_S.rf
  refine lv_iload_n hx hb dX5_keep_0 rfl (lv_at hl 1 rfl) ?_
  refine lv_if_lt (tgt := 9) hx hb dX5_keep_1 (by decide) (fun c1 => absurd c1 hp0) (fun c1 => ?_)
  refine lv_iload_n hx hb dX5_keep_4 rfl (lv_at hl 1 rfl) ?_
  refine lv_iconst (v := 2) hx hb dX5_keep_5 (by decide) ?_
  refine lv_icmp_lt (tgt := 11) hx hb dX5_keep_6 (by decide) (fun c6 => absurd c6 hp) (fun c6 => ?_)
  refine lv_iconst (v := (-1)) hx hb dX5_keep_9 (by decide) ?_
  exact vq_iret hx hb hr1 hlocks hK hP hD hS rfl dX5_keep_10
theorem hdX5_back : yX5_back.cls = RX5 ∧ yX5_back.cls ≠ "java/lang/invoke/MethodHandle" ∧ yX5_back.cls ≠ "java/lang/invoke/VarHandle" ∧ (parseMethodDescriptor yX5_back.desc).map (fun d => d.parameters.length) = some 1 := by decide +kernel
set_option maxHeartbeats 4000000 in
set_option maxRecDepth 100000 in
theorem cX5_back_lo (l : Launch) (ev : Nat → Nat) (dC : Nat → ClassId) (dI : Nat → Nat → Nat) (cI cZ cO : ClassId) (h zn zx zp zs zt zi : Nat) (S : SSt) (p1 : Int32) (hp : p1 < 0) : MetI l ev (dC, dI) (tyC cI cZ cO) yX5_back wsX5_back { frames := 2, cells := 0, slots := 0, locals := 100 } [.ref h, .int p1] (wZ h zn zx zp zs zt zi S) (-1) (wZ h zn zx zp zs zt zi S) := by
  refine MetI_of (cc := cX5_back) (maxL := 3) (ret := (some .int)) (by decide) rfl (Nat.le_of_ble_eq_true rfl) ?_
  intro p e s m below meth c A ls hx hb hr1 hml hts hown hlocks hin hK hP hD hA hE hl
  have hown : s.vm.findClass RX5 = some m.cls := hown
  have hl : lv_has ls 3 [(0, .ref h), (1, .int p1)] := hl
  have hS : va_S A s.heap s.heap [] := va_S.rf
  refine lv_iload_n hx hb dX5_back_0 rfl (lv_at hl 1 rfl) ?_
  refine lv_if_lt (tgt := 9) hx hb dX5_back_1 (by decide) (fun c1 => ?_) (fun c1 => absurd hp c1)
  refine lv_iconst (v := (-1)) hx hb dX5_back_9 (by decide) ?_
  exact vq_iret hx hb hr1 hlocks hK hP hD hS rfl dX5_back_10
set_option maxHeartbeats 4000000 in
set_option maxRecDepth 100000 in
theorem cX5_back_hi (l : Launch) (ev : Nat → Nat) (dC : Nat → ClassId) (dI : Nat → Nat → Nat) (cI cZ cO : ClassId) (h zn zx zp zs zt zi : Nat) (S : SSt) (p1 : Int32) (hp0 : ¬ p1 < 0) (hp : ¬ p1 < 2) : MetI l ev (dC, dI) (tyC cI cZ cO) yX5_back wsX5_back { frames := 2, cells := 0, slots := 0, locals := 100 } [.ref h, .int p1] (wZ h zn zx zp zs zt zi S) (-1) (wZ h zn zx zp zs zt zi S) := by
  refine MetI_of (cc := cX5_back) (maxL := 3) (ret := (some .int)) (by decide) rfl (Nat.le_of_ble_eq_true rfl) ?_
  intro p e s m below meth c A ls hx hb hr1 hml hts hown hlocks hin hK hP hD hA hE hl
  have hown : s.vm.findClass RX5 = some m.cls := hown
  have hl : lv_has ls 3 [(0, .ref h), (1, .int p1)] := hl
  have hS : va_S A s.heap s.heap [] := va_S.rf
  refine lv_iload_n hx hb dX5_back_0 rfl (lv_at hl 1 rfl) ?_
  refine lv_if_lt (tgt := 9) hx hb dX5_back_1 (by decide) (fun c1 => absurd c1 hp0) (fun c1 => ?_)
  refine lv_iload_n hx hb dX5_back_4 rfl (lv_at hl 1 rfl) ?_
  refine lv_iconst (v := 2) hx hb dX5_back_5 (by decide) ?_
  refine lv_icmp_lt (tgt := 11) hx hb dX5_back_6 (by decide) (fun c6 => absurd c6 hp) (fun c6 => ?_)
  refine lv_iconst (v := (-1)) hx hb dX5_back_9 (by decide) ?_
  exact vq_iret hx hb hr1 hlocks hK hP hD hS rfl dX5_back_10
set_option maxHeartbeats 4000000 in
set_option maxRecDepth 100000 in
theorem cX5_keep_S0 (l : Launch) (ev : Nat → Nat) (dC : Nat → ClassId) (dI : Nat → Nat → Nat) (cI cZ cO : ClassId) (h zn zx zp zs zt zi : Nat) (S : SSt) (r : Nat → Option Nat) (np : Nat) (N : LSt) (hk kp : Nat) (K : LSt) (hj : r 0 = some hk) : MetI l ev (dC, dI) (tyC cI cZ cO) yX5_keep wsX5_keep { frames := 2, cells := 0, slots := 0, locals := 100 } [.ref h, .int 0] (wZ h zn zx zp zs zt zi S ++ wR cO zi 2 r ++ wL cI zn np N ++ wL cI hk kp K) (N.1 0) (wZ h zn zx zp zs zt zi S ++ wR cO zi 2 r ++ wL cI zn np N ++ wL cI hk kp (sX0_copyFrom K N)) := by
  refine MetI_of (cc := cX5_keep) (maxL := 3) (ret := (some .int)) (by decide) rfl (Nat.le_of_ble_eq_true rfl) ?_
  intro p e s m below meth c A ls hx hb hr1 hml hts hown hlocks hin hK hP hD hA hE hl
  have hown : s.vm.findClass RX5 = some m.cls := hown
  have hl : lv_has ls 3 [(0, .ref h), (1, .int 0)] := hl
  have hS : va_S A s.heap s.heap [] := va_S.rf
  refine lv_iload_n hx hb dX5_keep_0 rfl (lv_at hl 1 rfl) ?_
  refine lv_if_lt (tgt := 9) hx hb dX5_keep_1 (by decide) (fun c1 => absurd c1 (by decide)) (fun c1 => ?_)
  refine lv_iload_n hx hb dX5_keep_4 rfl (lv_at hl 1 rfl) ?_
  refine lv_iconst (v := 2) hx hb dX5_keep_5 (by decide) ?_
  refine lv_icmp_lt (tgt := 11) hx hb dX5_keep_6 (by decide) (fun c6 => ?_) (fun c6 => absurd c6 (by decide))
  refine lv_aload_n hx hb dX5_keep_11 rfl (lv_at hl 0 rfl) ?_
  refine va_get (D := (dC, dI)) (ci := 5) (v := .ref zi) (C := RX5) (T := TX5) (N := 9) hx hb hts (fun _ h => List.mem_cons_of_mem _ (List.mem_append_left _ (List.mem_append_right _ h))) hown hK hP 0 rfl rfl 5 (by decide) (hts (.fieldLink RX5 44 "SharedLine" "images" "[LSharedLine$Line;") (List.mem_of_getElem? (i := 1) rfl)) (fun _ h9 => h9) rfl dX5_keep_12 ?_
  refine lv_iload_n hx hb dX5_keep_15 rfl (lv_at hl 1 rfl) ?_
  refine vq_aldK (k := 0) (v := hk) hx hb hK hP 1 2 rfl rfl (by decide) (by decide) (by decide) hj dX5_keep_16 ?_
  refine lv_astore_n (lv' := [(2, .ref hk), (0, .ref h), (1, .int 0)]) hx hb dX5_keep_17 rfl hl (by decide) rfl (fun ls hl => ?_)
  refine lv_aload_n hx hb dX5_keep_18 rfl (lv_at hl 0 rfl) ?_
  refine lv_ifnonnull (tgt := 37) hx hb dX5_keep_19 (by decide) ?_
  refine lv_aload_n hx hb dX5_keep_37 rfl (lv_at hl 0 rfl) ?_
  refine lv_aload_n hx hb dX5_keep_38 rfl (lv_at hl 1 rfl) ?_
  refine va_get (D := (dC, dI)) (ci := 5) (v := .ref zn) (C := RX5) (T := TX5) (N := 9) hx hb hts (fun _ h => List.mem_cons_of_mem _ (List.mem_append_left _ (List.mem_append_right _ h))) hown hK hP 0 rfl rfl 0 (by decide) (hts (.fieldLink RX5 10 "SharedLine" "now" "LSharedLine$Line;") (List.mem_of_getElem? (i := 5) rfl)) (fun _ h9 => h9) rfl dX5_keep_39 ?_
  refine vq_Vv (As := [.ref zn]) (rest := []) (W2 := (wZ h zn zx zp zs zt zi S ++ wR cO zi 2 r ++ wL cI zn np N ++ wL cI hk kp (sX0_copyFrom K N))) hx hb hml hown hts hK hP hD hS hA hE hl.1 (cX0_copyFrom_c l ev dC dI cI cZ cO hk kp K zn np N) gX5_keep_X0_copyFrom rfl hdX0_copyFrom (Nat.le_of_ble_eq_true rfl) (Nat.le_of_ble_eq_true rfl) rfl rfl (ci := 0) (qr := 4) rfl rfl rfl [4, 5, 2, 3] [0, 1] [0, 1, 4, 5, 2, 3] rfl rfl (by decide) (by decide) (by decide) rfl rfl rfl (Nat.le_of_ble_eq_true rfl) dX5_keep_42 ⟨Nat.zero_le _, Nat.zero_le _⟩ (fun H locs hP hD hS => ?_)
  refine lv_aload_n hx hb dX5_keep_45 rfl (lv_at hl 1 rfl) ?_
  refine va_get (D := (dC, dI)) (ci := 5) (v := .ref zn) (C := RX5) (T := TX5) (N := 9) hx hb hts (fun _ h => List.mem_cons_of_mem _ (List.mem_append_left _ (List.mem_append_right _ h))) hown hK hP 0 rfl rfl 0 (by decide) (hts (.fieldLink RX5 10 "SharedLine" "now" "LSharedLine$Line;") (List.mem_of_getElem? (i := 5) rfl)) (fun _ h9 => h9) rfl dX5_keep_46 ?_
  refine va_get (D := (dC, dI)) (ci := 0) (v := .int (N.1 0)) (C := RX0) (T := TX0) (N := 7) hx hb hts (fun _ h => List.mem_cons_of_mem _ (List.mem_append_right _ h)) hown hK hP 2 rfl rfl 1 (by decide) (hts (.fieldLink RX5 170 "SharedLine$Line" "ticks" "I") (List.mem_of_getElem? (i := 6) rfl)) (fun _ h9 => h9) rfl dX5_keep_49 ?_
  exact vq_iret hx hb hr1 hlocks hK hP hD hS rfl dX5_keep_52
set_option maxHeartbeats 4000000 in
set_option maxRecDepth 100000 in
theorem cX5_keep_N0 (l : Launch) (ev : Nat → Nat) (dC : Nat → ClassId) (dI : Nat → Nat → Nat) (cI cZ cO : ClassId) (h zn zx zp zs zt zi : Nat) (S : SSt) (r : Nat → Option Nat) (np : Nat) (N : LSt) (hj : r 0 = none) : MetJ l ev (dC, dI) (tyC cI cZ cO) yX5_keep wsX5_keep { frames := 3, cells := 2, slots := 19, locals := 100 } [.ref h, .int 0] (wZ h zn zx zp zs zt zi S ++ wR cO zi 2 r ++ wL cI zn np N) (N.1 0) (fun q => (wZ h zn zx zp zs zt zi S ++ wR cO zi 2 (va_up r 0 (some (q 0))) ++ wL cI zn np N ++ wL cI (q 0) (q 1) (sX0_copyFrom LS0 N))) 2 19 := by
  refine MetJ_of (cc := cX5_keep) (maxL := 3) (ret := (some .int)) (by decide) rfl (Nat.le_of_ble_eq_true rfl) ?_
  intro p e s m below meth c A ls hx hb hr1 hml hts hown hlocks hin hK hP hD hA hE hO hl
  have hown : s.vm.findClass RX5 = some m.cls := hown
  have hl : lv_has ls 3 [(0, .ref h), (1, .int 0)] := hl
  have hS : va_S A s.heap s.heap [] := va_S.rf
  refine lv_iload_n hx hb dX5_keep_0 rfl (lv_at hl 1 rfl) ?_
  refine lv_if_lt (tgt := 9) hx hb dX5_keep_1 (by decide) (fun c1 => absurd c1 (by decide)) (fun c1 => ?_)
  refine lv_iload_n hx hb dX5_keep_4 rfl (lv_at hl 1 rfl) ?_
  refine lv_iconst (v := 2) hx hb dX5_keep_5 (by decide) ?_
  refine lv_icmp_lt (tgt := 11) hx hb dX5_keep_6 (by decide) (fun c6 => ?_) (fun c6 => absurd c6 (by decide))
  refine lv_aload_n hx hb dX5_keep_11 rfl (lv_at hl 0 rfl) ?_
  refine va_get (D := (dC, dI)) (ci := 5) (v := .ref zi) (C := RX5) (T := TX5) (N := 9) hx hb hts (fun _ h => List.mem_cons_of_mem _ (List.mem_append_left _ (List.mem_append_right _ h))) hown hK hP 0 rfl rfl 5 (by decide) (hts (.fieldLink RX5 44 "SharedLine" "images" "[LSharedLine$Line;") (List.mem_of_getElem? (i := 1) rfl)) (fun _ h9 => h9) rfl dX5_keep_12 ?_
  refine lv_iload_n hx hb dX5_keep_15 rfl (lv_at hl 1 rfl) ?_
  refine vq_aldN (k := 0) hx hb hK hP 1 2 rfl rfl (by decide) (by decide) (by decide) hj dX5_keep_16 ?_
  refine lv_astore_nN (lv' := [(2, .null), (0, .ref h), (1, .int 0)]) hx hb dX5_keep_17 rfl hl (by decide) rfl (fun ls hl => ?_)
  refine lv_aload_nN hx hb dX5_keep_18 rfl (lv_at hl 0 rfl) ?_
  refine lv_ifnonnullN hx hb dX5_keep_19 ?_
  refine va_new (ci := 0) (fs := [.null, .int 0, .int 0, .int 0, .int 0, .int 0, .int 0]) (C := RX0) (T := TX0) (N := 7) hx hb hts (fun _ h => List.mem_cons_of_mem _ (List.mem_append_right _ h)) tyX0 tyX0_ok hown (hts (.classLink RX5 7 RX0) (List.mem_of_getElem? (i := 2) rfl)) (hts (.instantiable RX0 7) (List.mem_of_getElem? (i := 3) rfl)) (hts (.initialized RX0) (List.mem_of_getElem? (i := 4) rfl)) hK hP hD hS hA rfl (fun j hj => by rcases (show j = 0 ∨ j = 1 ∨ j = 2 ∨ j = 3 ∨ j = 4 ∨ j = 5 ∨ j = 6 by omega) with rfl | rfl | rfl | rfl | rfl | rfl | rfl <;> rfl) (Nat.le_of_ble_eq_true rfl) (Nat.le_of_ble_eq_true rfl) dX5_keep_22 (fun q22 H hP hD hS => ?_)
  have hP : va_P (dC, dI) vwCl (wZ h zn zx zp zs zt zi S ++ wR cO zi 2 r ++ wL cI zn np N ++ [(q22, .inr (0, [.null, .int 0, .int 0, .int 0, .int 0, .int 0, .int 0]))]) H := hP
  have hD : va_D A (wZ h zn zx zp zs zt zi S ++ wR cO zi 2 r ++ wL cI zn np N ++ [(q22, .inr (0, [.null, .int 0, .int 0, .int 0, .int 0, .int 0, .int 0]))]) := hD
  refine W.widen (k := 1) (n := 7) (by omega) (by omega) ?_
  refine lv_dup hx hb dX5_keep_25 rfl ?_
  refine vq_N (As := []) (rest := [.ref q22]) (W2 := fun u26 => (wZ h zn zx zp zs zt zi S ++ wR cO zi 2 r ++ wL cI zn np N ++ wL cI q22 (u26 0) LS0)) hx hb hml hown hts hK hP hD hS hA hE hO hl.1 (cX0_init_c l ev dC dI cI cZ cO q22) gX5_keep_X0_init rfl rfl rfl (hts (.initialized RX0) (List.mem_of_getElem? (i := 4) rfl)) (hts (.methodLink RX5 9 yX0_init) (List.mem_of_getElem? (i := 7) rfl)) (hts (.instanceMethod yX0_init) (List.mem_of_getElem? (i := 8) rfl)) rfl hdX0_init (Nat.le_of_ble_eq_true rfl) (Nat.le_of_ble_eq_true rfl) [4] [0, 1, 2, 3] [0, 1, 2, 3, 4, 5] rfl rfl (by decide) (by decide) (by decide) (fun _ => rfl) rfl rfl (Nat.le_of_ble_eq_true rfl) dX5_keep_26 ⟨Nat.le_of_ble_eq_true rfl, Nat.le_of_ble_eq_true rfl⟩ (fun u26 H locs hP hD hS => ?_)
  have hP : va_P (dC, dI) vwCl (wZ h zn zx zp zs zt zi S ++ wR cO zi 2 r ++ wL cI zn np N ++ wL cI q22 (u26 0) LS0) H := hP
  have hD : va_D A (wZ h zn zx zp zs zt zi S ++ wR cO zi 2 r ++ wL cI zn np N ++ wL cI q22 (u26 0) LS0) := hD
  refine W.widen (k := 2) (n := 19) (by omega) (by omega) ?_
  refine lv_astore_n (lv' := [(2, .ref q22), (0, .ref h), (1, .int 0)]) hx hb dX5_keep_29 rfl hl (by decide) rfl (fun ls hl => ?_)
  refine lv_aload_n hx hb dX5_keep_30 rfl (lv_at hl 1 rfl) ?_
  refine va_get (D := (dC, dI)) (ci := 5) (v := .ref zi) (C := RX5) (T := TX5) (N := 9) hx hb hts (fun _ h => List.mem_cons_of_mem _ (List.mem_append_left _ (List.mem_append_right _ h))) hown hK hP 0 rfl rfl 5 (by decide) (hts (.fieldLink RX5 44 "SharedLine" "images" "[LSharedLine$Line;") (List.mem_of_getElem? (i := 1) rfl)) (fun _ h9 => h9) rfl dX5_keep_31 ?_
  refine lv_iload_n hx hb dX5_keep_34 rfl (lv_at hl 2 rfl) ?_
  refine lv_aload_n hx hb dX5_keep_35 rfl (lv_at hl 0 rfl) ?_
  refine vq_astK (k := 0) hx hb hK hP hD hS 1 2 4 0 rfl rfl rfl rfl (by decide) (by decide) (by decide) dX5_keep_36 (fun H locs hP hD hS => ?_)
  have hP : va_P (dC, dI) vwCl (wZ h zn zx zp zs zt zi S ++ wR cO zi 2 (va_up r 0 (some q22)) ++ wL cI zn np N ++ wL cI q22 (u26 0) LS0) H := hP
  have hD : va_D A (wZ h zn zx zp zs zt zi S ++ wR cO zi 2 (va_up r 0 (some q22)) ++ wL cI zn np N ++ wL cI q22 (u26 0) LS0) := hD
  refine lv_aload_n hx hb dX5_keep_37 rfl (lv_at hl 0 rfl) ?_
  refine lv_aload_n hx hb dX5_keep_38 rfl (lv_at hl 1 rfl) ?_
  refine va_get (D := (dC, dI)) (ci := 5) (v := .ref zn) (C := RX5) (T := TX5) (N := 9) hx hb hts (fun _ h => List.mem_cons_of_mem _ (List.mem_append_left _ (List.mem_append_right _ h))) hown hK hP 0 rfl rfl 0 (by decide) (hts (.fieldLink RX5 10 "SharedLine" "now" "LSharedLine$Line;") (List.mem_of_getElem? (i := 5) rfl)) (fun _ h9 => h9) rfl dX5_keep_39 ?_
  refine vq_Vv (As := [.ref zn]) (rest := []) (W2 := (wZ h zn zx zp zs zt zi S ++ wR cO zi 2 (va_up r 0 (some q22)) ++ wL cI zn np N ++ wL cI q22 (u26 0) (sX0_copyFrom LS0 N))) hx hb hml hown hts hK hP hD hS hA hE hl.1 (cX0_copyFrom_c l ev dC dI cI cZ cO q22 (u26 0) LS0 zn np N) gX5_keep_X0_copyFrom rfl hdX0_copyFrom (Nat.le_of_ble_eq_true rfl) (Nat.le_of_ble_eq_true rfl) rfl rfl (ci := 0) (qr := 4) rfl rfl rfl [4, 5, 2, 3] [0, 1] [0, 1, 4, 5, 2, 3] rfl rfl (by decide) (by decide) (by decide) rfl rfl rfl (Nat.le_of_ble_eq_true rfl) dX5_keep_42 ⟨Nat.le_of_ble_eq_true rfl, Nat.le_of_ble_eq_true rfl⟩ (fun H locs hP hD hS => ?_)
  refine lv_aload_n hx hb dX5_keep_45 rfl (lv_at hl 1 rfl) ?_
  refine va_get (D := (dC, dI)) (ci := 5) (v := .ref zn) (C := RX5) (T := TX5) (N := 9) hx hb hts (fun _ h => List.mem_cons_of_mem _ (List.mem_append_left _ (List.mem_append_right _ h))) hown hK hP 0 rfl rfl 0 (by decide) (hts (.fieldLink RX5 10 "SharedLine" "now" "LSharedLine$Line;") (List.mem_of_getElem? (i := 5) rfl)) (fun _ h9 => h9) rfl dX5_keep_46 ?_
  refine va_get (D := (dC, dI)) (ci := 0) (v := .int (N.1 0)) (C := RX0) (T := TX0) (N := 7) hx hb hts (fun _ h => List.mem_cons_of_mem _ (List.mem_append_right _ h)) hown hK hP 2 rfl rfl 1 (by decide) (hts (.fieldLink RX5 170 "SharedLine$Line" "ticks" "I") (List.mem_of_getElem? (i := 6) rfl)) (fun _ h9 => h9) rfl dX5_keep_49 ?_
  exact vq_jret (ww := fun q => (wZ h zn zx zp zs zt zi S ++ wR cO zi 2 (va_up r 0 (some (q 0))) ++ wL cI zn np N ++ wL cI (q 0) (q 1) (sX0_copyFrom LS0 N))) (fun i => if i = 0 then q22 else u26 0) hx hb hr1 hlocks hK hP hD hS rfl dX5_keep_52
set_option maxHeartbeats 4000000 in
set_option maxRecDepth 100000 in
theorem cX5_back_N0 (l : Launch) (ev : Nat → Nat) (dC : Nat → ClassId) (dI : Nat → Nat → Nat) (cI cZ cO : ClassId) (h zn zx zp zs zt zi : Nat) (S : SSt) (r : Nat → Option Nat) (hj : r 0 = none) : MetI l ev (dC, dI) (tyC cI cZ cO) yX5_back wsX5_back { frames := 2, cells := 0, slots := 0, locals := 100 } [.ref h, .int 0] (wZ h zn zx zp zs zt zi S ++ wR cO zi 2 r) (-2) (wZ h zn zx zp zs zt zi S ++ wR cO zi 2 r) := by
  refine MetI_of (cc := cX5_back) (maxL := 3) (ret := (some .int)) (by decide) rfl (Nat.le_of_ble_eq_true rfl) ?_
  intro p e s m below meth c A ls hx hb hr1 hml hts hown hlocks hin hK hP hD hA hE hl
  have hown : s.vm.findClass RX5 = some m.cls := hown
  have hl : lv_has ls 3 [(0, .ref h), (1, .int 0)] := hl
  have hS : va_S A s.heap s.heap [] := va_S.rf
  refine lv_iload_n hx hb dX5_back_0 rfl (lv_at hl 1 rfl) ?_
  refine lv_if_lt (tgt := 9) hx hb dX5_back_1 (by decide) (fun c1 => absurd c1 (by decide)) (fun c1 => ?_)
  refine lv_iload_n hx hb dX5_back_4 rfl (lv_at hl 1 rfl) ?_
  refine lv_iconst (v := 2) hx hb dX5_back_5 (by decide) ?_
  refine lv_icmp_lt (tgt := 11) hx hb dX5_back_6 (by decide) (fun c6 => ?_) (fun c6 => absurd c6 (by decide))
  refine lv_aload_n hx hb dX5_back_11 rfl (lv_at hl 0 rfl) ?_
  refine va_get (D := (dC, dI)) (ci := 5) (v := .ref zi) (C := RX5) (T := TX5) (N := 9) hx hb hts (fun _ h => List.mem_cons_of_mem _ (List.mem_append_left _ (List.mem_append_left _ (List.mem_append_right _ h)))) hown hK hP 0 rfl rfl 5 (by decide) (hts (.fieldLink RX5 44 "SharedLine" "images" "[LSharedLine$Line;") (List.mem_of_getElem? (i := 1) rfl)) (fun _ h9 => h9) rfl dX5_back_12 ?_
  refine lv_iload_n hx hb dX5_back_15 rfl (lv_at hl 1 rfl) ?_
  refine vq_aldN (k := 0) hx hb hK hP 1 2 rfl rfl (by decide) (by decide) (by decide) hj dX5_back_16 ?_
  refine lv_astore_nN (lv' := [(2, .null), (0, .ref h), (1, .int 0)]) hx hb dX5_back_17 rfl hl (by decide) rfl (fun ls hl => ?_)
  refine lv_aload_nN hx hb dX5_back_18 rfl (lv_at hl 0 rfl) ?_
  refine lv_ifnonnullN hx hb dX5_back_19 ?_
  refine lv_bipush (v := (-2)) hx hb dX5_back_22 (by decide) ?_
  exact vq_iret hx hb hr1 hlocks hK hP hD hS rfl dX5_back_24
set_option maxHeartbeats 4000000 in
set_option maxRecDepth 100000 in
theorem cX5_back_S0 (l : Launch) (ev : Nat → Nat) (dC : Nat → ClassId) (dI : Nat → Nat → Nat) (cI cZ cO : ClassId) (h zn zx zp zs zt zi : Nat) (S : SSt) (r : Nat → Option Nat) (np : Nat) (N : LSt) (hr : Nat) (z : Int32) (hk kp : Nat) (K : LSt) (hj : r 0 = some hk) : MetI l ev (dC, dI) (tyC cI cZ cO) yX5_back wsX5_back { frames := 2, cells := 0, slots := 0, locals := 100 } [.ref h, .int 0] (wZ h zn zx zp zs zt zi S ++ wR cO zi 2 r ++ wL cI zn np N ++ wQ zp hr z ++ wL cI hk kp K) ((sX0_copyFrom N K).1 0) (wZ h zn zx zp zs zt zi S ++ wR cO zi 2 r ++ wL cI zn np (sX0_copyFrom N K) ++ wQ zp hr 0 ++ wL cI hk kp K) := by
  refine MetI_of (cc := cX5_back) (maxL := 3) (ret := (some .int)) (by decide) rfl (Nat.le_of_ble_eq_true rfl) ?_
  intro p e s m below meth c A ls hx hb hr1 hml hts hown hlocks hin hK hP hD hA hE hl
  have hown : s.vm.findClass RX5 = some m.cls := hown
  have hl : lv_has ls 3 [(0, .ref h), (1, .int 0)] := hl
  have hS : va_S A s.heap s.heap [] := va_S.rf
  refine lv_iload_n hx hb dX5_back_0 rfl (lv_at hl 1 rfl) ?_
  refine lv_if_lt (tgt := 9) hx hb dX5_back_1 (by decide) (fun c1 => absurd c1 (by decide)) (fun c1 => ?_)
  refine lv_iload_n hx hb dX5_back_4 rfl (lv_at hl 1 rfl) ?_
  refine lv_iconst (v := 2) hx hb dX5_back_5 (by decide) ?_
  refine lv_icmp_lt (tgt := 11) hx hb dX5_back_6 (by decide) (fun c6 => ?_) (fun c6 => absurd c6 (by decide))
  refine lv_aload_n hx hb dX5_back_11 rfl (lv_at hl 0 rfl) ?_
  refine va_get (D := (dC, dI)) (ci := 5) (v := .ref zi) (C := RX5) (T := TX5) (N := 9) hx hb hts (fun _ h => List.mem_cons_of_mem _ (List.mem_append_left _ (List.mem_append_left _ (List.mem_append_right _ h)))) hown hK hP 0 rfl rfl 5 (by decide) (hts (.fieldLink RX5 44 "SharedLine" "images" "[LSharedLine$Line;") (List.mem_of_getElem? (i := 1) rfl)) (fun _ h9 => h9) rfl dX5_back_12 ?_
  refine lv_iload_n hx hb dX5_back_15 rfl (lv_at hl 1 rfl) ?_
  refine vq_aldK (k := 0) (v := hk) hx hb hK hP 1 2 rfl rfl (by decide) (by decide) (by decide) hj dX5_back_16 ?_
  refine lv_astore_n (lv' := [(2, .ref hk), (0, .ref h), (1, .int 0)]) hx hb dX5_back_17 rfl hl (by decide) rfl (fun ls hl => ?_)
  refine lv_aload_n hx hb dX5_back_18 rfl (lv_at hl 0 rfl) ?_
  refine lv_ifnonnull (tgt := 25) hx hb dX5_back_19 (by decide) ?_
  refine lv_aload_n hx hb dX5_back_25 rfl (lv_at hl 1 rfl) ?_
  refine va_get (D := (dC, dI)) (ci := 5) (v := .ref zn) (C := RX5) (T := TX5) (N := 9) hx hb hts (fun _ h => List.mem_cons_of_mem _ (List.mem_append_left _ (List.mem_append_left _ (List.mem_append_right _ h)))) hown hK hP 0 rfl rfl 0 (by decide) (hts (.fieldLink RX5 10 "SharedLine" "now" "LSharedLine$Line;") (List.mem_of_getElem? (i := 2) rfl)) (fun _ h9 => h9) rfl dX5_back_26 ?_
  refine lv_aload_n hx hb dX5_back_29 rfl (lv_at hl 0 rfl) ?_
  refine vq_Vv (As := [.ref hk]) (rest := []) (W2 := (wZ h zn zx zp zs zt zi S ++ wR cO zi 2 r ++ wL cI zn np (sX0_copyFrom N K) ++ wQ zp hr z ++ wL cI hk kp K)) hx hb hml hown hts hK hP hD hS hA hE hl.1 (cX0_copyFrom_c l ev dC dI cI cZ cO zn np N hk kp K) gX5_back_X0_copyFrom rfl hdX0_copyFrom (Nat.le_of_ble_eq_true rfl) (Nat.le_of_ble_eq_true rfl) rfl rfl (ci := 0) (qr := 2) rfl rfl rfl [2, 3, 5, 6] [0, 1, 4] [0, 1, 3, 4, 2, 5, 6] rfl rfl (by decide) (by decide) (by decide) rfl rfl rfl (Nat.le_of_ble_eq_true rfl) dX5_back_30 ⟨Nat.zero_le _, Nat.zero_le _⟩ (fun H locs hP hD hS => ?_)
  refine lv_aload_n hx hb dX5_back_33 rfl (lv_at hl 1 rfl) ?_
  refine va_get (D := (dC, dI)) (ci := 5) (v := .ref zp) (C := RX5) (T := TX5) (N := 9) hx hb hts (fun _ h => List.mem_cons_of_mem _ (List.mem_append_left _ (List.mem_append_left _ (List.mem_append_right _ h)))) hown hK hP 0 rfl rfl 2 (by decide) (hts (.fieldLink RX5 26 "SharedLine" "past" "LSharedLine$Past;") (List.mem_of_getElem? (i := 3) rfl)) (fun _ h9 => h9) rfl dX5_back_34 ?_
  refine lv_iconst (v := 0) hx hb dX5_back_37 (by decide) ?_
  refine va_put (D := (dC, dI)) (ci := 1) (v := .int 0) (ty := .int) (C := RX1) (T := TX1) (N := 2) hx hb hts (fun _ h => List.mem_cons_of_mem _ (List.mem_append_left _ (List.mem_append_right _ h))) tyX1 tyX1_ok nmX1 hown hK hP hD hS 4 rfl rfl 1 (by decide) (hts (.fieldLink RX5 122 "SharedLine$Past" "size" "I") (List.mem_of_getElem? (i := 4) rfl)) (fun _ h9 => h9) rfl (tyX1_ok 1 (by decide)) rfl rfl (Nat.le_of_ble_eq_true rfl) dX5_back_38 (fun H locs hP hD hS => ?_)
  have hP : va_P (dC, dI) vwCl (wZ h zn zx zp zs zt zi S ++ wR cO zi 2 r ++ wL cI zn np (sX0_copyFrom N K) ++ wQ zp hr 0 ++ wL cI hk kp K) H := hP
  have hD : va_D A (wZ h zn zx zp zs zt zi S ++ wR cO zi 2 r ++ wL cI zn np (sX0_copyFrom N K) ++ wQ zp hr 0 ++ wL cI hk kp K) := hD
  refine lv_aload_n hx hb dX5_back_41 rfl (lv_at hl 1 rfl) ?_
  refine va_get (D := (dC, dI)) (ci := 5) (v := .ref zn) (C := RX5) (T := TX5) (N := 9) hx hb hts (fun _ h => List.mem_cons_of_mem _ (List.mem_append_left _ (List.mem_append_left _ (List.mem_append_right _ h)))) hown hK hP 0 rfl rfl 0 (by decide) (hts (.fieldLink RX5 10 "SharedLine" "now" "LSharedLine$Line;") (List.mem_of_getElem? (i := 2) rfl)) (fun _ h9 => h9) rfl dX5_back_42 ?_
  refine va_get (D := (dC, dI)) (ci := 0) (v := .int ((sX0_copyFrom N K).1 0)) (C := RX0) (T := TX0) (N := 7) hx hb hts (fun _ h => List.mem_cons_of_mem _ (List.mem_append_right _ h)) hown hK hP 2 rfl rfl 1 (by decide) (hts (.fieldLink RX5 170 "SharedLine$Line" "ticks" "I") (List.mem_of_getElem? (i := 5) rfl)) (fun _ h9 => h9) rfl dX5_back_45 ?_
  exact vq_iret hx hb hr1 hlocks hK hP hD hS rfl dX5_back_48
set_option maxHeartbeats 4000000 in
set_option maxRecDepth 100000 in
theorem cX5_keep_S1 (l : Launch) (ev : Nat → Nat) (dC : Nat → ClassId) (dI : Nat → Nat → Nat) (cI cZ cO : ClassId) (h zn zx zp zs zt zi : Nat) (S : SSt) (r : Nat → Option Nat) (np : Nat) (N : LSt) (hk kp : Nat) (K : LSt) (hj : r 1 = some hk) : MetI l ev (dC, dI) (tyC cI cZ cO) yX5_keep wsX5_keep { frames := 2, cells := 0, slots := 0, locals := 100 } [.ref h, .int 1] (wZ h zn zx zp zs zt zi S ++ wR cO zi 2 r ++ wL cI zn np N ++ wL cI hk kp K) (N.1 0) (wZ h zn zx zp zs zt zi S ++ wR cO zi 2 r ++ wL cI zn np N ++ wL cI hk kp (sX0_copyFrom K N)) := by
  refine MetI_of (cc := cX5_keep) (maxL := 3) (ret := (some .int)) (by decide) rfl (Nat.le_of_ble_eq_true rfl) ?_
  intro p e s m below meth c A ls hx hb hr1 hml hts hown hlocks hin hK hP hD hA hE hl
  have hown : s.vm.findClass RX5 = some m.cls := hown
  have hl : lv_has ls 3 [(0, .ref h), (1, .int 1)] := hl
  have hS : va_S A s.heap s.heap [] := va_S.rf
  refine lv_iload_n hx hb dX5_keep_0 rfl (lv_at hl 1 rfl) ?_
  refine lv_if_lt (tgt := 9) hx hb dX5_keep_1 (by decide) (fun c1 => absurd c1 (by decide)) (fun c1 => ?_)
  refine lv_iload_n hx hb dX5_keep_4 rfl (lv_at hl 1 rfl) ?_
  refine lv_iconst (v := 2) hx hb dX5_keep_5 (by decide) ?_
  refine lv_icmp_lt (tgt := 11) hx hb dX5_keep_6 (by decide) (fun c6 => ?_) (fun c6 => absurd c6 (by decide))
  refine lv_aload_n hx hb dX5_keep_11 rfl (lv_at hl 0 rfl) ?_
  refine va_get (D := (dC, dI)) (ci := 5) (v := .ref zi) (C := RX5) (T := TX5) (N := 9) hx hb hts (fun _ h => List.mem_cons_of_mem _ (List.mem_append_left _ (List.mem_append_right _ h))) hown hK hP 0 rfl rfl 5 (by decide) (hts (.fieldLink RX5 44 "SharedLine" "images" "[LSharedLine$Line;") (List.mem_of_getElem? (i := 1) rfl)) (fun _ h9 => h9) rfl dX5_keep_12 ?_
  refine lv_iload_n hx hb dX5_keep_15 rfl (lv_at hl 1 rfl) ?_
  refine vq_aldK (k := 1) (v := hk) hx hb hK hP 1 2 rfl rfl (by decide) (by decide) (by decide) hj dX5_keep_16 ?_
  refine lv_astore_n (lv' := [(2, .ref hk), (0, .ref h), (1, .int 1)]) hx hb dX5_keep_17 rfl hl (by decide) rfl (fun ls hl => ?_)
  refine lv_aload_n hx hb dX5_keep_18 rfl (lv_at hl 0 rfl) ?_
  refine lv_ifnonnull (tgt := 37) hx hb dX5_keep_19 (by decide) ?_
  refine lv_aload_n hx hb dX5_keep_37 rfl (lv_at hl 0 rfl) ?_
  refine lv_aload_n hx hb dX5_keep_38 rfl (lv_at hl 1 rfl) ?_
  refine va_get (D := (dC, dI)) (ci := 5) (v := .ref zn) (C := RX5) (T := TX5) (N := 9) hx hb hts (fun _ h => List.mem_cons_of_mem _ (List.mem_append_left _ (List.mem_append_right _ h))) hown hK hP 0 rfl rfl 0 (by decide) (hts (.fieldLink RX5 10 "SharedLine" "now" "LSharedLine$Line;") (List.mem_of_getElem? (i := 5) rfl)) (fun _ h9 => h9) rfl dX5_keep_39 ?_
  refine vq_Vv (As := [.ref zn]) (rest := []) (W2 := (wZ h zn zx zp zs zt zi S ++ wR cO zi 2 r ++ wL cI zn np N ++ wL cI hk kp (sX0_copyFrom K N))) hx hb hml hown hts hK hP hD hS hA hE hl.1 (cX0_copyFrom_c l ev dC dI cI cZ cO hk kp K zn np N) gX5_keep_X0_copyFrom rfl hdX0_copyFrom (Nat.le_of_ble_eq_true rfl) (Nat.le_of_ble_eq_true rfl) rfl rfl (ci := 0) (qr := 4) rfl rfl rfl [4, 5, 2, 3] [0, 1] [0, 1, 4, 5, 2, 3] rfl rfl (by decide) (by decide) (by decide) rfl rfl rfl (Nat.le_of_ble_eq_true rfl) dX5_keep_42 ⟨Nat.zero_le _, Nat.zero_le _⟩ (fun H locs hP hD hS => ?_)
  refine lv_aload_n hx hb dX5_keep_45 rfl (lv_at hl 1 rfl) ?_
  refine va_get (D := (dC, dI)) (ci := 5) (v := .ref zn) (C := RX5) (T := TX5) (N := 9) hx hb hts (fun _ h => List.mem_cons_of_mem _ (List.mem_append_left _ (List.mem_append_right _ h))) hown hK hP 0 rfl rfl 0 (by decide) (hts (.fieldLink RX5 10 "SharedLine" "now" "LSharedLine$Line;") (List.mem_of_getElem? (i := 5) rfl)) (fun _ h9 => h9) rfl dX5_keep_46 ?_
  refine va_get (D := (dC, dI)) (ci := 0) (v := .int (N.1 0)) (C := RX0) (T := TX0) (N := 7) hx hb hts (fun _ h => List.mem_cons_of_mem _ (List.mem_append_right _ h)) hown hK hP 2 rfl rfl 1 (by decide) (hts (.fieldLink RX5 170 "SharedLine$Line" "ticks" "I") (List.mem_of_getElem? (i := 6) rfl)) (fun _ h9 => h9) rfl dX5_keep_49 ?_
  exact vq_iret hx hb hr1 hlocks hK hP hD hS rfl dX5_keep_52
set_option maxHeartbeats 4000000 in
set_option maxRecDepth 100000 in
theorem cX5_keep_N1 (l : Launch) (ev : Nat → Nat) (dC : Nat → ClassId) (dI : Nat → Nat → Nat) (cI cZ cO : ClassId) (h zn zx zp zs zt zi : Nat) (S : SSt) (r : Nat → Option Nat) (np : Nat) (N : LSt) (hj : r 1 = none) : MetJ l ev (dC, dI) (tyC cI cZ cO) yX5_keep wsX5_keep { frames := 3, cells := 2, slots := 19, locals := 100 } [.ref h, .int 1] (wZ h zn zx zp zs zt zi S ++ wR cO zi 2 r ++ wL cI zn np N) (N.1 0) (fun q => (wZ h zn zx zp zs zt zi S ++ wR cO zi 2 (va_up r 1 (some (q 0))) ++ wL cI zn np N ++ wL cI (q 0) (q 1) (sX0_copyFrom LS0 N))) 2 19 := by
  refine MetJ_of (cc := cX5_keep) (maxL := 3) (ret := (some .int)) (by decide) rfl (Nat.le_of_ble_eq_true rfl) ?_
  intro p e s m below meth c A ls hx hb hr1 hml hts hown hlocks hin hK hP hD hA hE hO hl
  have hown : s.vm.findClass RX5 = some m.cls := hown
  have hl : lv_has ls 3 [(0, .ref h), (1, .int 1)] := hl
  have hS : va_S A s.heap s.heap [] := va_S.rf
  refine lv_iload_n hx hb dX5_keep_0 rfl (lv_at hl 1 rfl) ?_
  refine lv_if_lt (tgt := 9) hx hb dX5_keep_1 (by decide) (fun c1 => absurd c1 (by decide)) (fun c1 => ?_)
  refine lv_iload_n hx hb dX5_keep_4 rfl (lv_at hl 1 rfl) ?_
  refine lv_iconst (v := 2) hx hb dX5_keep_5 (by decide) ?_
  refine lv_icmp_lt (tgt := 11) hx hb dX5_keep_6 (by decide) (fun c6 => ?_) (fun c6 => absurd c6 (by decide))
  refine lv_aload_n hx hb dX5_keep_11 rfl (lv_at hl 0 rfl) ?_
  refine va_get (D := (dC, dI)) (ci := 5) (v := .ref zi) (C := RX5) (T := TX5) (N := 9) hx hb hts (fun _ h => List.mem_cons_of_mem _ (List.mem_append_left _ (List.mem_append_right _ h))) hown hK hP 0 rfl rfl 5 (by decide) (hts (.fieldLink RX5 44 "SharedLine" "images" "[LSharedLine$Line;") (List.mem_of_getElem? (i := 1) rfl)) (fun _ h9 => h9) rfl dX5_keep_12 ?_
  refine lv_iload_n hx hb dX5_keep_15 rfl (lv_at hl 1 rfl) ?_
  refine vq_aldN (k := 1) hx hb hK hP 1 2 rfl rfl (by decide) (by decide) (by decide) hj dX5_keep_16 ?_
  refine lv_astore_nN (lv' := [(2, .null), (0, .ref h), (1, .int 1)]) hx hb dX5_keep_17 rfl hl (by decide) rfl (fun ls hl => ?_)
  refine lv_aload_nN hx hb dX5_keep_18 rfl (lv_at hl 0 rfl) ?_
  refine lv_ifnonnullN hx hb dX5_keep_19 ?_
  refine va_new (ci := 0) (fs := [.null, .int 0, .int 0, .int 0, .int 0, .int 0, .int 0]) (C := RX0) (T := TX0) (N := 7) hx hb hts (fun _ h => List.mem_cons_of_mem _ (List.mem_append_right _ h)) tyX0 tyX0_ok hown (hts (.classLink RX5 7 RX0) (List.mem_of_getElem? (i := 2) rfl)) (hts (.instantiable RX0 7) (List.mem_of_getElem? (i := 3) rfl)) (hts (.initialized RX0) (List.mem_of_getElem? (i := 4) rfl)) hK hP hD hS hA rfl (fun j hj => by rcases (show j = 0 ∨ j = 1 ∨ j = 2 ∨ j = 3 ∨ j = 4 ∨ j = 5 ∨ j = 6 by omega) with rfl | rfl | rfl | rfl | rfl | rfl | rfl <;> rfl) (Nat.le_of_ble_eq_true rfl) (Nat.le_of_ble_eq_true rfl) dX5_keep_22 (fun q22 H hP hD hS => ?_)
  have hP : va_P (dC, dI) vwCl (wZ h zn zx zp zs zt zi S ++ wR cO zi 2 r ++ wL cI zn np N ++ [(q22, .inr (0, [.null, .int 0, .int 0, .int 0, .int 0, .int 0, .int 0]))]) H := hP
  have hD : va_D A (wZ h zn zx zp zs zt zi S ++ wR cO zi 2 r ++ wL cI zn np N ++ [(q22, .inr (0, [.null, .int 0, .int 0, .int 0, .int 0, .int 0, .int 0]))]) := hD
  refine W.widen (k := 1) (n := 7) (by omega) (by omega) ?_
  refine lv_dup hx hb dX5_keep_25 rfl ?_
  refine vq_N (As := []) (rest := [.ref q22]) (W2 := fun u26 => (wZ h zn zx zp zs zt zi S ++ wR cO zi 2 r ++ wL cI zn np N ++ wL cI q22 (u26 0) LS0)) hx hb hml hown hts hK hP hD hS hA hE hO hl.1 (cX0_init_c l ev dC dI cI cZ cO q22) gX5_keep_X0_init rfl rfl rfl (hts (.initialized RX0) (List.mem_of_getElem? (i := 4) rfl)) (hts (.methodLink RX5 9 yX0_init) (List.mem_of_getElem? (i := 7) rfl)) (hts (.instanceMethod yX0_init) (List.mem_of_getElem? (i := 8) rfl)) rfl hdX0_init (Nat.le_of_ble_eq_true rfl) (Nat.le_of_ble_eq_true rfl) [4] [0, 1, 2, 3] [0, 1, 2, 3, 4, 5] rfl rfl (by decide) (by decide) (by decide) (fun _ => rfl) rfl rfl (Nat.le_of_ble_eq_true rfl) dX5_keep_26 ⟨Nat.le_of_ble_eq_true rfl, Nat.le_of_ble_eq_true rfl⟩ (fun u26 H locs hP hD hS => ?_)
  have hP : va_P (dC, dI) vwCl (wZ h zn zx zp zs zt zi S ++ wR cO zi 2 r ++ wL cI zn np N ++ wL cI q22 (u26 0) LS0) H := hP
  have hD : va_D A (wZ h zn zx zp zs zt zi S ++ wR cO zi 2 r ++ wL cI zn np N ++ wL cI q22 (u26 0) LS0) := hD
  refine W.widen (k := 2) (n := 19) (by omega) (by omega) ?_
  refine lv_astore_n (lv' := [(2, .ref q22), (0, .ref h), (1, .int 1)]) hx hb dX5_keep_29 rfl hl (by decide) rfl (fun ls hl => ?_)
  refine lv_aload_n hx hb dX5_keep_30 rfl (lv_at hl 1 rfl) ?_
  refine va_get (D := (dC, dI)) (ci := 5) (v := .ref zi) (C := RX5) (T := TX5) (N := 9) hx hb hts (fun _ h => List.mem_cons_of_mem _ (List.mem_append_left _ (List.mem_append_right _ h))) hown hK hP 0 rfl rfl 5 (by decide) (hts (.fieldLink RX5 44 "SharedLine" "images" "[LSharedLine$Line;") (List.mem_of_getElem? (i := 1) rfl)) (fun _ h9 => h9) rfl dX5_keep_31 ?_
  refine lv_iload_n hx hb dX5_keep_34 rfl (lv_at hl 2 rfl) ?_
  refine lv_aload_n hx hb dX5_keep_35 rfl (lv_at hl 0 rfl) ?_
  refine vq_astK (k := 1) hx hb hK hP hD hS 1 2 4 0 rfl rfl rfl rfl (by decide) (by decide) (by decide) dX5_keep_36 (fun H locs hP hD hS => ?_)
  have hP : va_P (dC, dI) vwCl (wZ h zn zx zp zs zt zi S ++ wR cO zi 2 (va_up r 1 (some q22)) ++ wL cI zn np N ++ wL cI q22 (u26 0) LS0) H := hP
  have hD : va_D A (wZ h zn zx zp zs zt zi S ++ wR cO zi 2 (va_up r 1 (some q22)) ++ wL cI zn np N ++ wL cI q22 (u26 0) LS0) := hD
  refine lv_aload_n hx hb dX5_keep_37 rfl (lv_at hl 0 rfl) ?_
  refine lv_aload_n hx hb dX5_keep_38 rfl (lv_at hl 1 rfl) ?_
  refine va_get (D := (dC, dI)) (ci := 5) (v := .ref zn) (C := RX5) (T := TX5) (N := 9) hx hb hts (fun _ h => List.mem_cons_of_mem _ (List.mem_append_left _ (List.mem_append_right _ h))) hown hK hP 0 rfl rfl 0 (by decide) (hts (.fieldLink RX5 10 "SharedLine" "now" "LSharedLine$Line;") (List.mem_of_getElem? (i := 5) rfl)) (fun _ h9 => h9) rfl dX5_keep_39 ?_
  refine vq_Vv (As := [.ref zn]) (rest := []) (W2 := (wZ h zn zx zp zs zt zi S ++ wR cO zi 2 (va_up r 1 (some q22)) ++ wL cI zn np N ++ wL cI q22 (u26 0) (sX0_copyFrom LS0 N))) hx hb hml hown hts hK hP hD hS hA hE hl.1 (cX0_copyFrom_c l ev dC dI cI cZ cO q22 (u26 0) LS0 zn np N) gX5_keep_X0_copyFrom rfl hdX0_copyFrom (Nat.le_of_ble_eq_true rfl) (Nat.le_of_ble_eq_true rfl) rfl rfl (ci := 0) (qr := 4) rfl rfl rfl [4, 5, 2, 3] [0, 1] [0, 1, 4, 5, 2, 3] rfl rfl (by decide) (by decide) (by decide) rfl rfl rfl (Nat.le_of_ble_eq_true rfl) dX5_keep_42 ⟨Nat.le_of_ble_eq_true rfl, Nat.le_of_ble_eq_true rfl⟩ (fun H locs hP hD hS => ?_)
  refine lv_aload_n hx hb dX5_keep_45 rfl (lv_at hl 1 rfl) ?_
  refine va_get (D := (dC, dI)) (ci := 5) (v := .ref zn) (C := RX5) (T := TX5) (N := 9) hx hb hts (fun _ h => List.mem_cons_of_mem _ (List.mem_append_left _ (List.mem_append_right _ h))) hown hK hP 0 rfl rfl 0 (by decide) (hts (.fieldLink RX5 10 "SharedLine" "now" "LSharedLine$Line;") (List.mem_of_getElem? (i := 5) rfl)) (fun _ h9 => h9) rfl dX5_keep_46 ?_
  refine va_get (D := (dC, dI)) (ci := 0) (v := .int (N.1 0)) (C := RX0) (T := TX0) (N := 7) hx hb hts (fun _ h => List.mem_cons_of_mem _ (List.mem_append_right _ h)) hown hK hP 2 rfl rfl 1 (by decide) (hts (.fieldLink RX5 170 "SharedLine$Line" "ticks" "I") (List.mem_of_getElem? (i := 6) rfl)) (fun _ h9 => h9) rfl dX5_keep_49 ?_
  exact vq_jret (ww := fun q => (wZ h zn zx zp zs zt zi S ++ wR cO zi 2 (va_up r 1 (some (q 0))) ++ wL cI zn np N ++ wL cI (q 0) (q 1) (sX0_copyFrom LS0 N))) (fun i => if i = 0 then q22 else u26 0) hx hb hr1 hlocks hK hP hD hS rfl dX5_keep_52
set_option maxHeartbeats 4000000 in
set_option maxRecDepth 100000 in
theorem cX5_back_N1 (l : Launch) (ev : Nat → Nat) (dC : Nat → ClassId) (dI : Nat → Nat → Nat) (cI cZ cO : ClassId) (h zn zx zp zs zt zi : Nat) (S : SSt) (r : Nat → Option Nat) (hj : r 1 = none) : MetI l ev (dC, dI) (tyC cI cZ cO) yX5_back wsX5_back { frames := 2, cells := 0, slots := 0, locals := 100 } [.ref h, .int 1] (wZ h zn zx zp zs zt zi S ++ wR cO zi 2 r) (-2) (wZ h zn zx zp zs zt zi S ++ wR cO zi 2 r) := by
  refine MetI_of (cc := cX5_back) (maxL := 3) (ret := (some .int)) (by decide) rfl (Nat.le_of_ble_eq_true rfl) ?_
  intro p e s m below meth c A ls hx hb hr1 hml hts hown hlocks hin hK hP hD hA hE hl
  have hown : s.vm.findClass RX5 = some m.cls := hown
  have hl : lv_has ls 3 [(0, .ref h), (1, .int 1)] := hl
  have hS : va_S A s.heap s.heap [] := va_S.rf
  refine lv_iload_n hx hb dX5_back_0 rfl (lv_at hl 1 rfl) ?_
  refine lv_if_lt (tgt := 9) hx hb dX5_back_1 (by decide) (fun c1 => absurd c1 (by decide)) (fun c1 => ?_)
  refine lv_iload_n hx hb dX5_back_4 rfl (lv_at hl 1 rfl) ?_
  refine lv_iconst (v := 2) hx hb dX5_back_5 (by decide) ?_
  refine lv_icmp_lt (tgt := 11) hx hb dX5_back_6 (by decide) (fun c6 => ?_) (fun c6 => absurd c6 (by decide))
  refine lv_aload_n hx hb dX5_back_11 rfl (lv_at hl 0 rfl) ?_
  refine va_get (D := (dC, dI)) (ci := 5) (v := .ref zi) (C := RX5) (T := TX5) (N := 9) hx hb hts (fun _ h => List.mem_cons_of_mem _ (List.mem_append_left _ (List.mem_append_left _ (List.mem_append_right _ h)))) hown hK hP 0 rfl rfl 5 (by decide) (hts (.fieldLink RX5 44 "SharedLine" "images" "[LSharedLine$Line;") (List.mem_of_getElem? (i := 1) rfl)) (fun _ h9 => h9) rfl dX5_back_12 ?_
  refine lv_iload_n hx hb dX5_back_15 rfl (lv_at hl 1 rfl) ?_
  refine vq_aldN (k := 1) hx hb hK hP 1 2 rfl rfl (by decide) (by decide) (by decide) hj dX5_back_16 ?_
  refine lv_astore_nN (lv' := [(2, .null), (0, .ref h), (1, .int 1)]) hx hb dX5_back_17 rfl hl (by decide) rfl (fun ls hl => ?_)
  refine lv_aload_nN hx hb dX5_back_18 rfl (lv_at hl 0 rfl) ?_
  refine lv_ifnonnullN hx hb dX5_back_19 ?_
  refine lv_bipush (v := (-2)) hx hb dX5_back_22 (by decide) ?_
  exact vq_iret hx hb hr1 hlocks hK hP hD hS rfl dX5_back_24
set_option maxHeartbeats 4000000 in
set_option maxRecDepth 100000 in
theorem cX5_back_S1 (l : Launch) (ev : Nat → Nat) (dC : Nat → ClassId) (dI : Nat → Nat → Nat) (cI cZ cO : ClassId) (h zn zx zp zs zt zi : Nat) (S : SSt) (r : Nat → Option Nat) (np : Nat) (N : LSt) (hr : Nat) (z : Int32) (hk kp : Nat) (K : LSt) (hj : r 1 = some hk) : MetI l ev (dC, dI) (tyC cI cZ cO) yX5_back wsX5_back { frames := 2, cells := 0, slots := 0, locals := 100 } [.ref h, .int 1] (wZ h zn zx zp zs zt zi S ++ wR cO zi 2 r ++ wL cI zn np N ++ wQ zp hr z ++ wL cI hk kp K) ((sX0_copyFrom N K).1 0) (wZ h zn zx zp zs zt zi S ++ wR cO zi 2 r ++ wL cI zn np (sX0_copyFrom N K) ++ wQ zp hr 0 ++ wL cI hk kp K) := by
  refine MetI_of (cc := cX5_back) (maxL := 3) (ret := (some .int)) (by decide) rfl (Nat.le_of_ble_eq_true rfl) ?_
  intro p e s m below meth c A ls hx hb hr1 hml hts hown hlocks hin hK hP hD hA hE hl
  have hown : s.vm.findClass RX5 = some m.cls := hown
  have hl : lv_has ls 3 [(0, .ref h), (1, .int 1)] := hl
  have hS : va_S A s.heap s.heap [] := va_S.rf
  refine lv_iload_n hx hb dX5_back_0 rfl (lv_at hl 1 rfl) ?_
  refine lv_if_lt (tgt := 9) hx hb dX5_back_1 (by decide) (fun c1 => absurd c1 (by decide)) (fun c1 => ?_)
  refine lv_iload_n hx hb dX5_back_4 rfl (lv_at hl 1 rfl) ?_
  refine lv_iconst (v := 2) hx hb dX5_back_5 (by decide) ?_
  refine lv_icmp_lt (tgt := 11) hx hb dX5_back_6 (by decide) (fun c6 => ?_) (fun c6 => absurd c6 (by decide))
  refine lv_aload_n hx hb dX5_back_11 rfl (lv_at hl 0 rfl) ?_
  refine va_get (D := (dC, dI)) (ci := 5) (v := .ref zi) (C := RX5) (T := TX5) (N := 9) hx hb hts (fun _ h => List.mem_cons_of_mem _ (List.mem_append_left _ (List.mem_append_left _ (List.mem_append_right _ h)))) hown hK hP 0 rfl rfl 5 (by decide) (hts (.fieldLink RX5 44 "SharedLine" "images" "[LSharedLine$Line;") (List.mem_of_getElem? (i := 1) rfl)) (fun _ h9 => h9) rfl dX5_back_12 ?_
  refine lv_iload_n hx hb dX5_back_15 rfl (lv_at hl 1 rfl) ?_
  refine vq_aldK (k := 1) (v := hk) hx hb hK hP 1 2 rfl rfl (by decide) (by decide) (by decide) hj dX5_back_16 ?_
  refine lv_astore_n (lv' := [(2, .ref hk), (0, .ref h), (1, .int 1)]) hx hb dX5_back_17 rfl hl (by decide) rfl (fun ls hl => ?_)
  refine lv_aload_n hx hb dX5_back_18 rfl (lv_at hl 0 rfl) ?_
  refine lv_ifnonnull (tgt := 25) hx hb dX5_back_19 (by decide) ?_
  refine lv_aload_n hx hb dX5_back_25 rfl (lv_at hl 1 rfl) ?_
  refine va_get (D := (dC, dI)) (ci := 5) (v := .ref zn) (C := RX5) (T := TX5) (N := 9) hx hb hts (fun _ h => List.mem_cons_of_mem _ (List.mem_append_left _ (List.mem_append_left _ (List.mem_append_right _ h)))) hown hK hP 0 rfl rfl 0 (by decide) (hts (.fieldLink RX5 10 "SharedLine" "now" "LSharedLine$Line;") (List.mem_of_getElem? (i := 2) rfl)) (fun _ h9 => h9) rfl dX5_back_26 ?_
  refine lv_aload_n hx hb dX5_back_29 rfl (lv_at hl 0 rfl) ?_
  refine vq_Vv (As := [.ref hk]) (rest := []) (W2 := (wZ h zn zx zp zs zt zi S ++ wR cO zi 2 r ++ wL cI zn np (sX0_copyFrom N K) ++ wQ zp hr z ++ wL cI hk kp K)) hx hb hml hown hts hK hP hD hS hA hE hl.1 (cX0_copyFrom_c l ev dC dI cI cZ cO zn np N hk kp K) gX5_back_X0_copyFrom rfl hdX0_copyFrom (Nat.le_of_ble_eq_true rfl) (Nat.le_of_ble_eq_true rfl) rfl rfl (ci := 0) (qr := 2) rfl rfl rfl [2, 3, 5, 6] [0, 1, 4] [0, 1, 3, 4, 2, 5, 6] rfl rfl (by decide) (by decide) (by decide) rfl rfl rfl (Nat.le_of_ble_eq_true rfl) dX5_back_30 ⟨Nat.zero_le _, Nat.zero_le _⟩ (fun H locs hP hD hS => ?_)
  refine lv_aload_n hx hb dX5_back_33 rfl (lv_at hl 1 rfl) ?_
  refine va_get (D := (dC, dI)) (ci := 5) (v := .ref zp) (C := RX5) (T := TX5) (N := 9) hx hb hts (fun _ h => List.mem_cons_of_mem _ (List.mem_append_left _ (List.mem_append_left _ (List.mem_append_right _ h)))) hown hK hP 0 rfl rfl 2 (by decide) (hts (.fieldLink RX5 26 "SharedLine" "past" "LSharedLine$Past;") (List.mem_of_getElem? (i := 3) rfl)) (fun _ h9 => h9) rfl dX5_back_34 ?_
  refine lv_iconst (v := 0) hx hb dX5_back_37 (by decide) ?_
  refine va_put (D := (dC, dI)) (ci := 1) (v := .int 0) (ty := .int) (C := RX1) (T := TX1) (N := 2) hx hb hts (fun _ h => List.mem_cons_of_mem _ (List.mem_append_left _ (List.mem_append_right _ h))) tyX1 tyX1_ok nmX1 hown hK hP hD hS 4 rfl rfl 1 (by decide) (hts (.fieldLink RX5 122 "SharedLine$Past" "size" "I") (List.mem_of_getElem? (i := 4) rfl)) (fun _ h9 => h9) rfl (tyX1_ok 1 (by decide)) rfl rfl (Nat.le_of_ble_eq_true rfl) dX5_back_38 (fun H locs hP hD hS => ?_)
  have hP : va_P (dC, dI) vwCl (wZ h zn zx zp zs zt zi S ++ wR cO zi 2 r ++ wL cI zn np (sX0_copyFrom N K) ++ wQ zp hr 0 ++ wL cI hk kp K) H := hP
  have hD : va_D A (wZ h zn zx zp zs zt zi S ++ wR cO zi 2 r ++ wL cI zn np (sX0_copyFrom N K) ++ wQ zp hr 0 ++ wL cI hk kp K) := hD
  refine lv_aload_n hx hb dX5_back_41 rfl (lv_at hl 1 rfl) ?_
  refine va_get (D := (dC, dI)) (ci := 5) (v := .ref zn) (C := RX5) (T := TX5) (N := 9) hx hb hts (fun _ h => List.mem_cons_of_mem _ (List.mem_append_left _ (List.mem_append_left _ (List.mem_append_right _ h)))) hown hK hP 0 rfl rfl 0 (by decide) (hts (.fieldLink RX5 10 "SharedLine" "now" "LSharedLine$Line;") (List.mem_of_getElem? (i := 2) rfl)) (fun _ h9 => h9) rfl dX5_back_42 ?_
  refine va_get (D := (dC, dI)) (ci := 0) (v := .int ((sX0_copyFrom N K).1 0)) (C := RX0) (T := TX0) (N := 7) hx hb hts (fun _ h => List.mem_cons_of_mem _ (List.mem_append_right _ h)) hown hK hP 2 rfl rfl 1 (by decide) (hts (.fieldLink RX5 170 "SharedLine$Line" "ticks" "I") (List.mem_of_getElem? (i := 5) rfl)) (fun _ h9 => h9) rfl dX5_back_45 ?_
  exact vq_iret hx hb hr1 hlocks hK hP hD hS rfl dX5_back_48
