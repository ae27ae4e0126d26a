theorem hdX0_init : yX0_init.cls ≠ "java/lang/invoke/MethodHandle" ∧ yX0_init.cls ≠ "java/lang/invoke/VarHandle" ∧ (parseMethodDescriptor yX0_init.desc).map (fun d => d.parameters.length) = some 0 := by decide +kernel
set_option maxHeartbeats 4000000 in
set_option maxRecDepth 100000 in
theorem cX0_init_c (l : Launch) (ev : Nat → Nat) (dC : Nat → ClassId) (dI : Nat → Nat → Nat) (cI cZ cO : ClassId) (h : Nat) : MetN l ev (dC, dI) (tyC cI cZ cO) yX0_init wsX0_init { frames := 2, cells := 1, slots := 12, locals := 43 } [.ref h] [(h, .inr (0, [.null, .int 0, .int 0, .int 0, .int 0, .int 0, .int 0]))] (fun q => wL cI h (q 0) LS0) 1 12 := by
  refine MetN_of (cc := cX0_init) (maxL := 1) (ret := none) (by decide) rfl (Nat.le_of_ble_eq_true rfl) ?_
  intro p e s m below meth c A ls hx hb hr hml hts hown hlocks hin hK hP hD hA hE hO hl
  have hown : s.vm.findClass RX0 = some m.cls := hown
  have hl : lv_has ls 1 [(0, .ref h)] := hl
  have hS : va_S A s.heap s.heap [] := va_S.rf
  have hin : meth.name = "<init>" := hin
  refine lv_aload_n hx hb dX0_init_0 rfl (lv_at hl 0 rfl) ?_
  refine W.objInit hx hb hown (hts (.methodLink RX0 3 objectInit) (List.mem_of_getElem? (i := 1) rfl)) (hts (.instanceMethod objectInit) (List.mem_of_getElem? (i := 2) rfl)) (hts (.code objectInit ⟨#[0xb1]⟩ 1 none) (List.mem_of_getElem? (i := 3) rfl)) rfl (by rw [hml]; exact hl.1) rfl dX0_init_1 (Nat.le_of_ble_eq_true rfl) (Nat.le_of_ble_eq_true rfl) ?_
  refine W.eq (g2 := F0 m 4 ls []) rfl ?_
  refine lv_aload_n hx hb dX0_init_4 rfl (lv_at hl 0 rfl) ?_
  refine lv_bipush (v := 12) hx hb dX0_init_5 (by decide) ?_
  refine va_newa (atype := .int) (ty := .int) (N' := 12) (a0 := (12, .inl (fun _ => 0))) hx hb (hts (.arrayClass .int) (List.mem_of_getElem? (i := 4) rfl)) rfl hK hP hD hS hA (fun _ => rfl) (by decide) (by decide) (by decide) (Nat.le_of_ble_eq_true rfl) (Nat.le_of_ble_eq_true rfl) dX0_init_7 (fun q7 cA H hKa hP hD hS => ?_)
  rw [cI_is hKa] at hP hD
  have hP : va_P (dC, dI) vwCl [(h, .inr (0, [.null, .int 0, .int 0, .int 0, .int 0, .int 0, .int 0])), (q7, .inl (cI, 12, .inl (fun _ => 0)))] H := hP
  have hD : va_D A [(h, .inr (0, [.null, .int 0, .int 0, .int 0, .int 0, .int 0, .int 0])), (q7, .inl (cI, 12, .inl (fun _ => 0)))] := hD
  refine W.widen (k := 1) (n := 12) (by omega) (by omega) ?_
  refine va_putF (D := (dC, dI)) (ci := 0) (v := .ref q7) (ty := .array .int) (C := RX0) (T := TX0) (N := 7) hx hb hts (fun _ h => List.mem_cons_of_mem _ (List.mem_append_right _ h)) tyX0 tyX0_ok nmX0 hown hK hP hD hS 0 rfl rfl 0 (by decide) (hts (.fieldLink RX0 9 "SharedLine$Line" "pitches" "[I") (List.mem_of_getElem? (i := 5) rfl)) (fun _ h9 => h9) rfl hin rfl (tyX0_ok 0 (by decide)) rfl rfl (Nat.le_of_ble_eq_true rfl) dX0_init_9 (fun H locs hP hD hS => ?_)
  have hP : va_P (dC, dI) vwCl [(h, .inr (0, [.ref q7, .int 0, .int 0, .int 0, .int 0, .int 0, .int 0])), (q7, .inl (cI, 12, .inl (fun _ => 0)))] H := hP
  have hD : va_D A [(h, .inr (0, [.ref q7, .int 0, .int 0, .int 0, .int 0, .int 0, .int 0])), (q7, .inl (cI, 12, .inl (fun _ => 0)))] := hD
  refine lv_aload_n hx hb dX0_init_12 rfl (lv_at hl 0 rfl) ?_
  refine vq_Vv (As := []) (rest := []) (W2 := wL cI h q7 LS0) hx hb hml hown hts hK (W1 := wL cI h q7 ((fun _ => 0), fun _ => 0)) hP hD hS hA hE hl.1 (cX0_makeNew_c l ev dC dI cI cZ cO h q7 ((fun _ => 0), fun _ => 0)) gX0_init_X0_makeNew rfl hdX0_makeNew (Nat.le_of_ble_eq_true rfl) (Nat.le_of_ble_eq_true rfl) rfl rfl (ci := 0) (qr := 0) rfl rfl rfl [0, 1] [] [0, 1] rfl rfl (by decide) (by decide) (by decide) rfl rfl rfl (Nat.le_of_ble_eq_true rfl) dX0_init_13 ⟨Nat.le_of_ble_eq_true rfl, Nat.le_of_ble_eq_true rfl⟩ (fun H locs hP hD hS => ?_)
  exact vq_nret (ww := fun q => wL cI h (q 0) LS0) (fun _ => q7) hx hb hr hlocks hK hP hD hS dX0_init_16
theorem hdX2_init : yX2_init.cls ≠ "java/lang/invoke/MethodHandle" ∧ yX2_init.cls ≠ "java/lang/invoke/VarHandle" ∧ (parseMethodDescriptor yX2_init.desc).map (fun d => d.parameters.length) = some 0 := by decide +kernel
set_option maxHeartbeats 4000000 in
set_option maxRecDepth 100000 in
theorem cX2_init_c (l : Launch) (ev : Nat → Nat) (dC : Nat → ClassId) (dI : Nat → Nat → Nat) (cI cZ cO : ClassId) (h : Nat) : MetN l ev (dC, dI) (tyC cI cZ cO) yX2_init wsX2_init { frames := 3, cells := 2, slots := 19, locals := 63 } [.ref h] [(h, .inr (2, [.null, .int 0, .int 0, .int 0]))] (fun q => [(h, .inr (2, [.ref (q 0), .int 0, .int 0, .int 0])), ((q 0), .inr (0, [.ref (q 1), .int (LS0.1 0), .int (LS0.1 1), .int (LS0.1 2), .int (LS0.1 3), .int (LS0.1 4), .int (LS0.1 5)])), ((q 1), .inl (cI, 12, .inl LS0.2))]) 2 19 := by
  refine MetN_of (cc := cX2_init) (maxL := 1) (ret := none) (by decide) rfl (Nat.le_of_ble_eq_true rfl) ?_
  intro p e s m below meth c A ls hx hb hr hml hts hown hlocks hin hK hP hD hA hE hO hl
  have hown : s.vm.findClass RX2 = some m.cls := hown
  have hl : lv_has ls 1 [(0, .ref h)] := hl
  have hS : va_S A s.heap s.heap [] := va_S.rf
  have hin : meth.name = "<init>" := hin
  refine lv_aload_n hx hb dX2_init_0 rfl (lv_at hl 0 rfl) ?_
  refine W.objInit hx hb hown (hts (.methodLink RX2 3 objectInit) (List.mem_of_getElem? (i := 1) rfl)) (hts (.instanceMethod objectInit) (List.mem_of_getElem? (i := 2) rfl)) (hts (.code objectInit ⟨#[0xb1]⟩ 1 none) (List.mem_of_getElem? (i := 3) rfl)) rfl (by rw [hml]; exact hl.1) rfl dX2_init_1 (Nat.le_of_ble_eq_true rfl) (Nat.le_of_ble_eq_true rfl) ?_
  refine W.eq (g2 := F0 m 4 ls []) rfl ?_
  refine lv_aload_n hx hb dX2_init_4 rfl (lv_at hl 0 rfl) ?_
  refine va_new (ci := 0) (fs := [.null, .int 0, .int 0, .int 0, .int 0, .int 0, .int 0]) (C := RX0) (T := TX0) (N := 7) hx hb hts (fun _ h => List.mem_cons_of_mem _ (List.mem_append_left _ (List.mem_append_right _ h))) tyX0 tyX0_ok hown (hts (.classLink RX2 9 RX0) (List.mem_of_getElem? (i := 4) rfl)) (hts (.instantiable RX0 7) (List.mem_of_getElem? (i := 5) rfl)) (hts (.initialized RX0) (List.mem_of_getElem? (i := 6) rfl)) hK hP hD hS hA rfl (fun j hj => by rcases (show j = 0 ∨ j = 1 ∨ j = 2 ∨ j = 3 ∨ j = 4 ∨ j = 5 ∨ j = 6 by omega) with rfl | rfl | rfl | rfl | rfl | rfl | rfl <;> rfl) (Nat.le_of_ble_eq_true rfl) (Nat.le_of_ble_eq_true rfl) dX2_init_5 (fun q5 H hP hD hS => ?_)
  have hP : va_P (dC, dI) vwCl [(h, .inr (2, [.null, .int 0, .int 0, .int 0])), (q5, .inr (0, [.null, .int 0, .int 0, .int 0, .int 0, .int 0, .int 0]))] H := hP
  have hD : va_D A [(h, .inr (2, [.null, .int 0, .int 0, .int 0])), (q5, .inr (0, [.null, .int 0, .int 0, .int 0, .int 0, .int 0, .int 0]))] := hD
  refine W.widen (k := 1) (n := 7) (by omega) (by omega) ?_
  refine lv_dup hx hb dX2_init_8 rfl ?_
  refine vq_N (As := []) (rest := [.ref q5, .ref h]) (W2 := fun u9 => [(h, .inr (2, [.null, .int 0, .int 0, .int 0])), (q5, .inr (0, [.ref (u9 0), .int (LS0.1 0), .int (LS0.1 1), .int (LS0.1 2), .int (LS0.1 3), .int (LS0.1 4), .int (LS0.1 5)])), ((u9 0), .inl (cI, 12, .inl LS0.2))]) hx hb hml hown hts hK hP hD hS hA hE hO hl.1 (cX0_init_c l ev dC dI cI cZ cO q5) gX2_init_X0_init rfl rfl rfl (hts (.initialized RX0) (List.mem_of_getElem? (i := 6) rfl)) (hts (.methodLink RX2 11 yX0_init) (List.mem_of_getElem? (i := 8) rfl)) (hts (.instanceMethod yX0_init) (List.mem_of_getElem? (i := 9) rfl)) rfl hdX0_init (Nat.le_of_ble_eq_true rfl) (Nat.le_of_ble_eq_true rfl) [1] [0] [0, 1, 2] rfl rfl (by decide) (by decide) (by decide) (fun _ => rfl) rfl rfl (Nat.le_of_ble_eq_true rfl) dX2_init_9 ⟨Nat.le_of_ble_eq_true rfl, Nat.le_of_ble_eq_true rfl⟩ (fun u9 H locs hP hD hS => ?_)
  have hP : va_P (dC, dI) vwCl [(h, .inr (2, [.null, .int 0, .int 0, .int 0])), (q5, .inr (0, [.ref (u9 0), .int (LS0.1 0), .int (LS0.1 1), .int (LS0.1 2), .int (LS0.1 3), .int (LS0.1 4), .int (LS0.1 5)])), ((u9 0), .inl (cI, 12, .inl LS0.2))] H := hP
  have hD : va_D A [(h, .inr (2, [.null, .int 0, .int 0, .int 0])), (q5, .inr (0, [.ref (u9 0), .int (LS0.1 0), .int (LS0.1 1), .int (LS0.1 2), .int (LS0.1 3), .int (LS0.1 4), .int (LS0.1 5)])), ((u9 0), .inl (cI, 12, .inl LS0.2))] := hD
  refine W.widen (k := 2) (n := 19) (by omega) (by omega) ?_
  refine va_putF (D := (dC, dI)) (ci := 2) (v := .ref q5) (ty := .object "SharedLine$Line") (C := RX2) (T := TX2) (N := 4) hx hb hts (fun _ h => List.mem_cons_of_mem _ (List.mem_append_right _ h)) tyX2 tyX2_ok nmX2 hown hK hP hD hS 0 rfl rfl 0 (by decide) (hts (.fieldLink RX2 12 "SharedLine$Search" "line" "LSharedLine$Line;") (List.mem_of_getElem? (i := 7) rfl)) (fun _ h9 => h9) rfl hin rfl (tyX2_ok 0 (by decide)) rfl rfl (Nat.le_of_ble_eq_true rfl) dX2_init_12 (fun H locs hP hD hS => ?_)
  have hP : va_P (dC, dI) vwCl [(h, .inr (2, [.ref q5, .int 0, .int 0, .int 0])), (q5, .inr (0, [.ref (u9 0), .int (LS0.1 0), .int (LS0.1 1), .int (LS0.1 2), .int (LS0.1 3), .int (LS0.1 4), .int (LS0.1 5)])), ((u9 0), .inl (cI, 12, .inl LS0.2))] H := hP
  have hD : va_D A [(h, .inr (2, [.ref q5, .int 0, .int 0, .int 0])), (q5, .inr (0, [.ref (u9 0), .int (LS0.1 0), .int (LS0.1 1), .int (LS0.1 2), .int (LS0.1 3), .int (LS0.1 4), .int (LS0.1 5)])), ((u9 0), .inl (cI, 12, .inl LS0.2))] := hD
  exact vq_nret (ww := fun q => [(h, .inr (2, [.ref (q 0), .int 0, .int 0, .int 0])), ((q 0), .inr (0, [.ref (q 1), .int (LS0.1 0), .int (LS0.1 1), .int (LS0.1 2), .int (LS0.1 3), .int (LS0.1 4), .int (LS0.1 5)])), ((q 1), .inl (cI, 12, .inl LS0.2))]) (fun i => if i = 0 then q5 else u9 0) hx hb hr hlocks hK hP hD hS dX2_init_15
theorem hdX3_init : yX3_init.cls ≠ "java/lang/invoke/MethodHandle" ∧ yX3_init.cls ≠ "java/lang/invoke/VarHandle" ∧ (parseMethodDescriptor yX3_init.desc).map (fun d => d.parameters.length) = some 0 := by decide +kernel
set_option maxHeartbeats 4000000 in
set_option maxRecDepth 100000 in
theorem cX3_init_c (l : Launch) (ev : Nat → Nat) (dC : Nat → ClassId) (dI : Nat → Nat → Nat) (cI cZ cO : ClassId) (h : Nat) : MetN l ev (dC, dI) (tyC cI cZ cO) yX3_init wsX3_init { frames := 1, cells := 1, slots := 12, locals := 12 } [.ref h] [(h, .inr (3, [.int 0, .int 0, .null]))] (fun q => [(h, .inr (3, [.int 0, .int 0, .ref (q 0)])), (q 0, .inl (cI, 12, .inl (fun _ => 0)))]) 1 12 := by
  refine MetN_of (cc := cX3_init) (maxL := 1) (ret := none) (by decide) rfl (Nat.le_of_ble_eq_true rfl) ?_
  intro p e s m below meth c A ls hx hb hr hml hts hown hlocks hin hK hP hD hA hE hO hl
  have hown : s.vm.findClass RX3 = some m.cls := hown
  have hl : lv_has ls 1 [(0, .ref h)] := hl
  have hS : va_S A s.heap s.heap [] := va_S.rf
  have hin : meth.name = "<init>" := hin
  refine lv_aload_n hx hb dX3_init_0 rfl (lv_at hl 0 rfl) ?_
  refine W.objInit hx hb hown (hts (.methodLink RX3 3 objectInit) (List.mem_of_getElem? (i := 1) rfl)) (hts (.instanceMethod objectInit) (List.mem_of_getElem? (i := 2) rfl)) (hts (.code objectInit ⟨#[0xb1]⟩ 1 none) (List.mem_of_getElem? (i := 3) rfl)) rfl (by rw [hml]; exact hl.1) rfl dX3_init_1 (Nat.le_of_ble_eq_true rfl) (Nat.le_of_ble_eq_true rfl) ?_
  refine W.eq (g2 := F0 m 4 ls []) rfl ?_
  refine lv_aload_n hx hb dX3_init_4 rfl (lv_at hl 0 rfl) ?_
  refine lv_bipush (v := 12) hx hb dX3_init_5 (by decide) ?_
  refine va_newa (atype := .int) (ty := .int) (N' := 12) (a0 := (12, .inl (fun _ => 0))) hx hb (hts (.arrayClass .int) (List.mem_of_getElem? (i := 4) rfl)) rfl hK hP hD hS hA (fun _ => rfl) (by decide) (by decide) (by decide) (Nat.le_of_ble_eq_true rfl) (Nat.le_of_ble_eq_true rfl) dX3_init_7 (fun q7 cA H hKa hP hD hS => ?_)
  rw [cI_is hKa] at hP hD
  have hP : va_P (dC, dI) vwCl [(h, .inr (3, [.int 0, .int 0, .null])), (q7, .inl (cI, 12, .inl (fun _ => 0)))] H := hP
  have hD : va_D A [(h, .inr (3, [.int 0, .int 0, .null])), (q7, .inl (cI, 12, .inl (fun _ => 0)))] := hD
  refine W.widen (k := 1) (n := 12) (by omega) (by omega) ?_
  refine va_putF (D := (dC, dI)) (ci := 3) (v := .ref q7) (ty := .array .int) (C := RX3) (T := TX3) (N := 3) hx hb hts (fun _ h => List.mem_cons_of_mem _ (List.mem_append_right _ h)) tyX3 tyX3_ok nmX3 hown hK hP hD hS 0 rfl rfl 2 (by decide) (hts (.fieldLink RX3 9 "SharedLine$TableSet" "manyOfHand1" "[I") (List.mem_of_getElem? (i := 5) rfl)) (fun _ h9 => h9) rfl hin rfl (tyX3_ok 2 (by decide)) rfl rfl (Nat.le_of_ble_eq_true rfl) dX3_init_9 (fun H locs hP hD hS => ?_)
  have hP : va_P (dC, dI) vwCl [(h, .inr (3, [.int 0, .int 0, .ref q7])), (q7, .inl (cI, 12, .inl (fun _ => 0)))] H := hP
  have hD : va_D A [(h, .inr (3, [.int 0, .int 0, .ref q7])), (q7, .inl (cI, 12, .inl (fun _ => 0)))] := hD
  exact vq_nret (ww := fun q => [(h, .inr (3, [.int 0, .int 0, .ref (q 0)])), (q 0, .inl (cI, 12, .inl (fun _ => 0)))]) (fun _ => q7) hx hb hr hlocks hK hP hD hS dX3_init_12
theorem hdX4_init : yX4_init.cls ≠ "java/lang/invoke/MethodHandle" ∧ yX4_init.cls ≠ "java/lang/invoke/VarHandle" ∧ (parseMethodDescriptor yX4_init.desc).map (fun d => d.parameters.length) = some 0 := by decide +kernel
set_option maxHeartbeats 4000000 in
set_option maxRecDepth 100000 in
theorem cX4_init_c (l : Launch) (ev : Nat → Nat) (dC : Nat → ClassId) (dI : Nat → Nat → Nat) (cI cZ cO : ClassId) (h : Nat) : MetN l ev (dC, dI) (tyC cI cZ cO) yX4_init wsX4_init { frames := 3, cells := 3, slots := 139, locals := 63 } [.ref h] [(h, .inr (4, [.null, .int 0, .null, .int 0, .int 0, .int 0, .int 0, .int 0]))] (fun q => [(h, .inr (4, [.ref (q 0), .int 0, .ref (q 2), .int 0, .int 0, .int 0, .int 0, .int 0])), ((q 0), .inr (0, [.ref (q 1), .int (LS0.1 0), .int (LS0.1 1), .int (LS0.1 2), .int (LS0.1 3), .int (LS0.1 4), .int (LS0.1 5)])), ((q 1), .inl (cI, 12, .inl LS0.2)), (q 2, .inl (cI, 120, .inl (fun _ => 0)))]) 3 139 := by
  refine MetN_of (cc := cX4_init) (maxL := 1) (ret := none) (by decide) rfl (Nat.le_of_ble_eq_true rfl) ?_
  intro p e s m below meth c A ls hx hb hr hml hts hown hlocks hin hK hP hD hA hE hO hl
  have hown : s.vm.findClass RX4 = some m.cls := hown
  have hl : lv_has ls 1 [(0, .ref h)] := hl
  have hS : va_S A s.heap s.heap [] := va_S.rf
  have hin : meth.name = "<init>" := hin
  refine lv_aload_n hx hb dX4_init_0 rfl (lv_at hl 0 rfl) ?_
  refine W.objInit hx hb hown (hts (.methodLink RX4 3 objectInit) (List.mem_of_getElem? (i := 1) rfl)) (hts (.instanceMethod objectInit) (List.mem_of_getElem? (i := 2) rfl)) (hts (.code objectInit ⟨#[0xb1]⟩ 1 none) (List.mem_of_getElem? (i := 3) rfl)) rfl (by rw [hml]; exact hl.1) rfl dX4_init_1 (Nat.le_of_ble_eq_true rfl) (Nat.le_of_ble_eq_true rfl) ?_
  refine W.eq (g2 := F0 m 4 ls []) rfl ?_
  refine lv_aload_n hx hb dX4_init_4 rfl (lv_at hl 0 rfl) ?_
  refine va_new (ci := 0) (fs := [.null, .int 0, .int 0, .int 0, .int 0, .int 0, .int 0]) (C := RX0) (T := TX0) (N := 7) hx hb hts (fun _ h => List.mem_cons_of_mem _ (List.mem_append_left _ (List.mem_append_right _ h))) tyX0 tyX0_ok hown (hts (.classLink RX4 9 RX0) (List.mem_of_getElem? (i := 4) rfl)) (hts (.instantiable RX0 7) (List.mem_of_getElem? (i := 5) rfl)) (hts (.initialized RX0) (List.mem_of_getElem? (i := 6) rfl)) hK hP hD hS hA rfl (fun j hj => by rcases (show j = 0 ∨ j = 1 ∨ j = 2 ∨ j = 3 ∨ j = 4 ∨ j = 5 ∨ j = 6 by omega) with rfl | rfl | rfl | rfl | rfl | rfl | rfl <;> rfl) (Nat.le_of_ble_eq_true rfl) (Nat.le_of_ble_eq_true rfl) dX4_init_5 (fun q5 H hP hD hS => ?_)
  have hP : va_P (dC, dI) vwCl [(h, .inr (4, [.null, .int 0, .null, .int 0, .int 0, .int 0, .int 0, .int 0])), (q5, .inr (0, [.null, .int 0, .int 0, .int 0, .int 0, .int 0, .int 0]))] H := hP
  have hD : va_D A [(h, .inr (4, [.null, .int 0, .null, .int 0, .int 0, .int 0, .int 0, .int 0])), (q5, .inr (0, [.null, .int 0, .int 0, .int 0, .int 0, .int 0, .int 0]))] := hD
  refine W.widen (k := 1) (n := 7) (by omega) (by omega) ?_
  refine lv_dup hx hb dX4_init_8 rfl ?_
  refine vq_N (As := []) (rest := [.ref q5, .ref h]) (W2 := fun u9 => [(h, .inr (4, [.null, .int 0, .null, .int 0, .int 0, .int 0, .int 0, .int 0])), (q5, .inr (0, [.ref (u9 0), .int (LS0.1 0), .int (LS0.1 1), .int (LS0.1 2), .int (LS0.1 3), .int (LS0.1 4), .int (LS0.1 5)])), ((u9 0), .inl (cI, 12, .inl LS0.2))]) hx hb hml hown hts hK hP hD hS hA hE hO hl.1 (cX0_init_c l ev dC dI cI cZ cO q5) gX4_init_X0_init rfl rfl rfl (hts (.initialized RX0) (List.mem_of_getElem? (i := 6) rfl)) (hts (.methodLink RX4 11 yX0_init) (List.mem_of_getElem? (i := 10) rfl)) (hts (.instanceMethod yX0_init) (List.mem_of_getElem? (i := 11) rfl)) rfl hdX0_init (Nat.le_of_ble_eq_true rfl) (Nat.le_of_ble_eq_true rfl) [1] [0] [0, 1, 2] rfl rfl (by decide) (by decide) (by decide) (fun _ => rfl) rfl rfl (Nat.le_of_ble_eq_true rfl) dX4_init_9 ⟨Nat.le_of_ble_eq_true rfl, Nat.le_of_ble_eq_true rfl⟩ (fun u9 H locs hP hD hS => ?_)
  have hP : va_P (dC, dI) vwCl [(h, .inr (4, [.null, .int 0, .null, .int 0, .int 0, .int 0, .int 0, .int 0])), (q5, .inr (0, [.ref (u9 0), .int (LS0.1 0), .int (LS0.1 1), .int (LS0.1 2), .int (LS0.1 3), .int (LS0.1 4), .int (LS0.1 5)])), ((u9 0), .inl (cI, 12, .inl LS0.2))] H := hP
  have hD : va_D A [(h, .inr (4, [.null, .int 0, .null, .int 0, .int 0, .int 0, .int 0, .int 0])), (q5, .inr (0, [.ref (u9 0), .int (LS0.1 0), .int (LS0.1 1), .int (LS0.1 2), .int (LS0.1 3), .int (LS0.1 4), .int (LS0.1 5)])), ((u9 0), .inl (cI, 12, .inl LS0.2))] := hD
  refine W.widen (k := 2) (n := 19) (by omega) (by omega) ?_
  refine va_putF (D := (dC, dI)) (ci := 4) (v := .ref q5) (ty := .object "SharedLine$Line") (C := RX4) (T := TX4) (N := 8) hx hb hts (fun _ h => List.mem_cons_of_mem _ (List.mem_append_right _ h)) tyX4 tyX4_ok nmX4 hown hK hP hD hS 0 rfl rfl 0 (by decide) (hts (.fieldLink RX4 12 "SharedLine$Text" "draft" "LSharedLine$Line;") (List.mem_of_getElem? (i := 7) rfl)) (fun _ h9 => h9) rfl hin rfl (tyX4_ok 0 (by decide)) rfl rfl (Nat.le_of_ble_eq_true rfl) dX4_init_12 (fun H locs hP hD hS => ?_)
  have hP : va_P (dC, dI) vwCl [(h, .inr (4, [.ref q5, .int 0, .null, .int 0, .int 0, .int 0, .int 0, .int 0])), (q5, .inr (0, [.ref (u9 0), .int (LS0.1 0), .int (LS0.1 1), .int (LS0.1 2), .int (LS0.1 3), .int (LS0.1 4), .int (LS0.1 5)])), ((u9 0), .inl (cI, 12, .inl LS0.2))] H := hP
  have hD : va_D A [(h, .inr (4, [.ref q5, .int 0, .null, .int 0, .int 0, .int 0, .int 0, .int 0])), (q5, .inr (0, [.ref (u9 0), .int (LS0.1 0), .int (LS0.1 1), .int (LS0.1 2), .int (LS0.1 3), .int (LS0.1 4), .int (LS0.1 5)])), ((u9 0), .inl (cI, 12, .inl LS0.2))] := hD
  refine lv_aload_n hx hb dX4_init_15 rfl (lv_at hl 0 rfl) ?_
  refine lv_bipush (v := 120) hx hb dX4_init_16 (by decide) ?_
  refine va_newa (atype := .int) (ty := .int) (N' := 120) (a0 := (120, .inl (fun _ => 0))) hx hb (hts (.arrayClass .int) (List.mem_of_getElem? (i := 8) rfl)) rfl hK hP hD hS hA (fun _ => rfl) (by decide) (by decide) (by decide) (Nat.le_of_ble_eq_true rfl) (Nat.le_of_ble_eq_true rfl) dX4_init_18 (fun q18 cA H hKa hP hD hS => ?_)
  rw [cI_is hKa] at hP hD
  have hP : va_P (dC, dI) vwCl [(h, .inr (4, [.ref q5, .int 0, .null, .int 0, .int 0, .int 0, .int 0, .int 0])), (q5, .inr (0, [.ref (u9 0), .int (LS0.1 0), .int (LS0.1 1), .int (LS0.1 2), .int (LS0.1 3), .int (LS0.1 4), .int (LS0.1 5)])), ((u9 0), .inl (cI, 12, .inl LS0.2)), (q18, .inl (cI, 120, .inl (fun _ => 0)))] H := hP
  have hD : va_D A [(h, .inr (4, [.ref q5, .int 0, .null, .int 0, .int 0, .int 0, .int 0, .int 0])), (q5, .inr (0, [.ref (u9 0), .int (LS0.1 0), .int (LS0.1 1), .int (LS0.1 2), .int (LS0.1 3), .int (LS0.1 4), .int (LS0.1 5)])), ((u9 0), .inl (cI, 12, .inl LS0.2)), (q18, .inl (cI, 120, .inl (fun _ => 0)))] := hD
  refine W.widen (k := 3) (n := 139) (by omega) (by omega) ?_
  refine va_putF (D := (dC, dI)) (ci := 4) (v := .ref q18) (ty := .array .int) (C := RX4) (T := TX4) (N := 8) hx hb hts (fun _ h => List.mem_cons_of_mem _ (List.mem_append_right _ h)) tyX4 tyX4_ok nmX4 hown hK hP hD hS 0 rfl rfl 2 (by decide) (hts (.fieldLink RX4 18 "SharedLine$Text" "letters" "[I") (List.mem_of_getElem? (i := 9) rfl)) (fun _ h9 => h9) rfl hin rfl (tyX4_ok 2 (by decide)) rfl rfl (Nat.le_of_ble_eq_true rfl) dX4_init_20 (fun H locs hP hD hS => ?_)
  have hP : va_P (dC, dI) vwCl [(h, .inr (4, [.ref q5, .int 0, .ref q18, .int 0, .int 0, .int 0, .int 0, .int 0])), (q5, .inr (0, [.ref (u9 0), .int (LS0.1 0), .int (LS0.1 1), .int (LS0.1 2), .int (LS0.1 3), .int (LS0.1 4), .int (LS0.1 5)])), ((u9 0), .inl (cI, 12, .inl LS0.2)), (q18, .inl (cI, 120, .inl (fun _ => 0)))] H := hP
  have hD : va_D A [(h, .inr (4, [.ref q5, .int 0, .ref q18, .int 0, .int 0, .int 0, .int 0, .int 0])), (q5, .inr (0, [.ref (u9 0), .int (LS0.1 0), .int (LS0.1 1), .int (LS0.1 2), .int (LS0.1 3), .int (LS0.1 4), .int (LS0.1 5)])), ((u9 0), .inl (cI, 12, .inl LS0.2)), (q18, .inl (cI, 120, .inl (fun _ => 0)))] := hD
  exact vq_nret (ww := fun q => [(h, .inr (4, [.ref (q 0), .int 0, .ref (q 2), .int 0, .int 0, .int 0, .int 0, .int 0])), ((q 0), .inr (0, [.ref (q 1), .int (LS0.1 0), .int (LS0.1 1), .int (LS0.1 2), .int (LS0.1 3), .int (LS0.1 4), .int (LS0.1 5)])), ((q 1), .inl (cI, 12, .inl LS0.2)), (q 2, .inl (cI, 120, .inl (fun _ => 0)))]) (fun i => if i = 0 then q5 else if i = 1 then u9 0 else q18) hx hb hr hlocks hK hP hD hS dX4_init_23
