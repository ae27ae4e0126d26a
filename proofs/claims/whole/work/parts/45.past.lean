theorem hdX1_loseOldest : yX1_loseOldest.cls = RX1 ∧ yX1_loseOldest.cls ≠ "java/lang/invoke/MethodHandle" ∧ yX1_loseOldest.cls ≠ "java/lang/invoke/VarHandle" ∧ (parseMethodDescriptor yX1_loseOldest.desc).map (fun d => d.parameters.length) = some 0 := by decide +kernel
set_option maxHeartbeats 4000000 in
set_option maxRecDepth 100000 in
theorem cX1_loseOldest_c (l : Launch) (ev : Nat → Nat) (dC : Nat → ClassId) (dI : Nat → Nat → Nat) (cI cZ cO : ClassId) (h hr : Nat) (r : Nat → Option Nat) (a b : Nat → Nat) (F : Nat → LSt) (hra : ∀ i, i < 6 → r i = some (a i)) : MetV l ev (dC, dI) (tyC cI cZ cO) yX1_loseOldest wsX1_loseOldest (rmF 0 0) [.ref h] (wQ h hr 6 ++ wR cO hr 6 r ++ w6 cI a b F) (wQ h hr 5 ++ wR cO hr 6 (rotR r a) ++ w6 cI a b F) := by
  refine MetV_of (cc := cX1_loseOldest) (maxL := 3) (ret := none) (by decide) rfl (Nat.le_of_ble_eq_true rfl) ?_
  intro p e s m below meth c A ls hx hb hr1 hml hts hown hlocks hin hK hP hD hA hE hl
  have hown : s.vm.findClass RX1 = some m.cls := hown
  have hl : lv_has ls 3 [(0, .ref h)] := hl
  have hS : va_S A s.heap s.heap [] := va_S.rf
  refine lv_aload_n hx hb dX1_loseOldest_0 rfl (lv_at hl 0 rfl) ?_
  refine va_get (D := (dC, dI)) (ci := 1) (v := .ref hr) (C := RX1) (T := TX1) (N := 2) hx hb hts (fun _ h => List.mem_cons_of_mem _ (List.mem_append_right _ h)) hown hK hP 0 rfl rfl 0 (by decide) (hts (.fieldLink RX1 11 "SharedLine$Past" "lines" "[LSharedLine$Line;") (List.mem_of_getElem? (i := 1) rfl)) (fun _ h9 => h9) rfl dX1_loseOldest_1 ?_
  refine lv_iconst (v := 0) hx hb dX1_loseOldest_4 (by decide) ?_
  refine vq_aldK (k := 0) (v := (a 0)) hx hb hK hP 1 2 rfl rfl (by decide) (by decide) (by decide) (hra 0 (by decide)) dX1_loseOldest_5 ?_
  refine lv_astore_n (lv' := [(1, .ref (a 0)), (0, .ref h)]) hx hb dX1_loseOldest_6 rfl hl (by decide) rfl (fun ls hl => ?_)
  refine lv_iconst (v := 1) hx hb dX1_loseOldest_7 (by decide) ?_
  refine lv_istore_n (lv' := [(2, .int 1), (1, .ref (a 0)), (0, .ref h)]) hx hb dX1_loseOldest_8 rfl hl (by decide) rfl (fun ls hl => ?_)
  refine lv_iload_n hx hb dX1_loseOldest_9 rfl (lv_at hl 0 rfl) ?_
  refine lv_bipush (v := 6) hx hb dX1_loseOldest_10 (by decide) ?_
  refine lv_icmp_ge (tgt := 35) hx hb dX1_loseOldest_12 (by decide) (fun c12 => absurd c12 (by decide)) (fun c12 => ?_)
  refine lv_aload_n hx hb dX1_loseOldest_15 rfl (lv_at hl 2 rfl) ?_
  refine va_get (D := (dC, dI)) (ci := 1) (v := .ref hr) (C := RX1) (T := TX1) (N := 2) hx hb hts (fun _ h => List.mem_cons_of_mem _ (List.mem_append_right _ h)) hown hK hP 0 rfl rfl 0 (by decide) (hts (.fieldLink RX1 11 "SharedLine$Past" "lines" "[LSharedLine$Line;") (List.mem_of_getElem? (i := 1) rfl)) (fun _ h9 => h9) rfl dX1_loseOldest_16 ?_
  refine lv_iload_n hx hb dX1_loseOldest_19 rfl (lv_at hl 0 rfl) ?_
  refine lv_iconst (v := 1) hx hb dX1_loseOldest_20 (by decide) ?_
  refine lv_isub hx hb dX1_loseOldest_21 ?_
  refine W.eq (g2 := F0 m 22 ls [.int 0, .ref hr]) rfl ?_
  refine lv_aload_n hx hb dX1_loseOldest_22 rfl (lv_at hl 2 rfl) ?_
  refine va_get (D := (dC, dI)) (ci := 1) (v := .ref hr) (C := RX1) (T := TX1) (N := 2) hx hb hts (fun _ h => List.mem_cons_of_mem _ (List.mem_append_right _ h)) hown hK hP 0 rfl rfl 0 (by decide) (hts (.fieldLink RX1 11 "SharedLine$Past" "lines" "[LSharedLine$Line;") (List.mem_of_getElem? (i := 1) rfl)) (fun _ h9 => h9) rfl dX1_loseOldest_23 ?_
  refine lv_iload_n hx hb dX1_loseOldest_26 rfl (lv_at hl 0 rfl) ?_
  refine vq_aldK (k := 1) (v := (a 1)) hx hb hK hP 1 2 rfl rfl (by decide) (by decide) (by decide) (hra 1 (by decide)) dX1_loseOldest_27 ?_
  refine vq_astK (k := 0) hx hb hK hP hD hS 1 2 4 0 rfl rfl rfl rfl (by decide) (by decide) (by decide) dX1_loseOldest_28 (fun H locs hP hD hS => ?_)
  have hP : va_P (dC, dI) vwCl (wQ h hr 6 ++ wR cO hr 6 (va_up r 0 (some (a 1))) ++ wL cI (a 0) (b 0) (F 0) ++ wL cI (a 1) (b 1) (F 1) ++ wL cI (a 2) (b 2) (F 2) ++ wL cI (a 3) (b 3) (F 3) ++ wL cI (a 4) (b 4) (F 4) ++ wL cI (a 5) (b 5) (F 5)) H := hP
  have hD : va_D A (wQ h hr 6 ++ wR cO hr 6 (va_up r 0 (some (a 1))) ++ wL cI (a 0) (b 0) (F 0) ++ wL cI (a 1) (b 1) (F 1) ++ wL cI (a 2) (b 2) (F 2) ++ wL cI (a 3) (b 3) (F 3) ++ wL cI (a 4) (b 4) (F 4) ++ wL cI (a 5) (b 5) (F 5)) := hD
  refine lv_iinc (v := 2) (lv' := [(2, .int 2), (1, .ref (a 0)), (0, .ref h)]) hx hb dX1_loseOldest_29 hl (k := 0) rfl rfl (by decide) rfl (fun ls hl => ?_)
  refine lv_goto (tgt := 9) hx hb dX1_loseOldest_32 (by decide) ?_
  refine lv_iload_n hx hb dX1_loseOldest_9 rfl (lv_at hl 0 rfl) ?_
  refine lv_bipush (v := 6) hx hb dX1_loseOldest_10 (by decide) ?_
  refine lv_icmp_ge (tgt := 35) hx hb dX1_loseOldest_12 (by decide) (fun c12 => absurd c12 (by decide)) (fun c12 => ?_)
  refine lv_aload_n hx hb dX1_loseOldest_15 rfl (lv_at hl 2 rfl) ?_
  refine va_get (D := (dC, dI)) (ci := 1) (v := .ref hr) (C := RX1) (T := TX1) (N := 2) hx hb hts (fun _ h => List.mem_cons_of_mem _ (List.mem_append_right _ h)) hown hK hP 0 rfl rfl 0 (by decide) (hts (.fieldLink RX1 11 "SharedLine$Past" "lines" "[LSharedLine$Line;") (List.mem_of_getElem? (i := 1) rfl)) (fun _ h9 => h9) rfl dX1_loseOldest_16 ?_
  refine lv_iload_n hx hb dX1_loseOldest_19 rfl (lv_at hl 0 rfl) ?_
  refine lv_iconst (v := 1) hx hb dX1_loseOldest_20 (by decide) ?_
  refine lv_isub hx hb dX1_loseOldest_21 ?_
  refine W.eq (g2 := F0 m 22 ls [.int 1, .ref hr]) rfl ?_
  refine lv_aload_n hx hb dX1_loseOldest_22 rfl (lv_at hl 2 rfl) ?_
  refine va_get (D := (dC, dI)) (ci := 1) (v := .ref hr) (C := RX1) (T := TX1) (N := 2) hx hb hts (fun _ h => List.mem_cons_of_mem _ (List.mem_append_right _ h)) hown hK hP 0 rfl rfl 0 (by decide) (hts (.fieldLink RX1 11 "SharedLine$Past" "lines" "[LSharedLine$Line;") (List.mem_of_getElem? (i := 1) rfl)) (fun _ h9 => h9) rfl dX1_loseOldest_23 ?_
  refine lv_iload_n hx hb dX1_loseOldest_26 rfl (lv_at hl 0 rfl) ?_
  refine vq_aldK (k := 2) (v := (a 2)) hx hb hK hP 1 2 rfl rfl (by decide) (by decide) (by decide) (hra 2 (by decide)) dX1_loseOldest_27 ?_
  refine vq_astK (k := 1) hx hb hK hP hD hS 1 2 6 0 rfl rfl rfl rfl (by decide) (by decide) (by decide) dX1_loseOldest_28 (fun H locs hP hD hS => ?_)
  have hP : va_P (dC, dI) vwCl (wQ h hr 6 ++ wR cO hr 6 (va_up (va_up r 0 (some (a 1))) 1 (some (a 2))) ++ wL cI (a 0) (b 0) (F 0) ++ wL cI (a 1) (b 1) (F 1) ++ wL cI (a 2) (b 2) (F 2) ++ wL cI (a 3) (b 3) (F 3) ++ wL cI (a 4) (b 4) (F 4) ++ wL cI (a 5) (b 5) (F 5)) H := hP
  have hD : va_D A (wQ h hr 6 ++ wR cO hr 6 (va_up (va_up r 0 (some (a 1))) 1 (some (a 2))) ++ wL cI (a 0) (b 0) (F 0) ++ wL cI (a 1) (b 1) (F 1) ++ wL cI (a 2) (b 2) (F 2) ++ wL cI (a 3) (b 3) (F 3) ++ wL cI (a 4) (b 4) (F 4) ++ wL cI (a 5) (b 5) (F 5)) := hD
  refine lv_iinc (v := 3) (lv' := [(2, .int 3), (1, .ref (a 0)), (0, .ref h)]) hx hb dX1_loseOldest_29 hl (k := 0) rfl rfl (by decide) rfl (fun ls hl => ?_)
  refine lv_goto (tgt := 9) hx hb dX1_loseOldest_32 (by decide) ?_
  refine lv_iload_n hx hb dX1_loseOldest_9 rfl (lv_at hl 0 rfl) ?_
  refine lv_bipush (v := 6) hx hb dX1_loseOldest_10 (by decide) ?_
  refine lv_icmp_ge (tgt := 35) hx hb dX1_loseOldest_12 (by decide) (fun c12 => absurd c12 (by decide)) (fun c12 => ?_)
  refine lv_aload_n hx hb dX1_loseOldest_15 rfl (lv_at hl 2 rfl) ?_
  refine va_get (D := (dC, dI)) (ci := 1) (v := .ref hr) (C := RX1) (T := TX1) (N := 2) hx hb hts (fun _ h => List.mem_cons_of_mem _ (List.mem_append_right _ h)) hown hK hP 0 rfl rfl 0 (by decide) (hts (.fieldLink RX1 11 "SharedLine$Past" "lines" "[LSharedLine$Line;") (List.mem_of_getElem? (i := 1) rfl)) (fun _ h9 => h9) rfl dX1_loseOldest_16 ?_
  refine lv_iload_n hx hb dX1_loseOldest_19 rfl (lv_at hl 0 rfl) ?_
  refine lv_iconst (v := 1) hx hb dX1_loseOldest_20 (by decide) ?_
  refine lv_isub hx hb dX1_loseOldest_21 ?_
  refine W.eq (g2 := F0 m 22 ls [.int 2, .ref hr]) rfl ?_
  refine lv_aload_n hx hb dX1_loseOldest_22 rfl (lv_at hl 2 rfl) ?_
  refine va_get (D := (dC, dI)) (ci := 1) (v := .ref hr) (C := RX1) (T := TX1) (N := 2) hx hb hts (fun _ h => List.mem_cons_of_mem _ (List.mem_append_right _ h)) hown hK hP 0 rfl rfl 0 (by decide) (hts (.fieldLink RX1 11 "SharedLine$Past" "lines" "[LSharedLine$Line;") (List.mem_of_getElem? (i := 1) rfl)) (fun _ h9 => h9) rfl dX1_loseOldest_23 ?_
  refine lv_iload_n hx hb dX1_loseOldest_26 rfl (lv_at hl 0 rfl) ?_
  refine vq_aldK (k := 3) (v := (a 3)) hx hb hK hP 1 2 rfl rfl (by decide) (by decide) (by decide) (hra 3 (by decide)) dX1_loseOldest_27 ?_
  refine vq_astK (k := 2) hx hb hK hP hD hS 1 2 8 0 rfl rfl rfl rfl (by decide) (by decide) (by decide) dX1_loseOldest_28 (fun H locs hP hD hS => ?_)
  have hP : va_P (dC, dI) vwCl (wQ h hr 6 ++ wR cO hr 6 (va_up (va_up (va_up r 0 (some (a 1))) 1 (some (a 2))) 2 (some (a 3))) ++ wL cI (a 0) (b 0) (F 0) ++ wL cI (a 1) (b 1) (F 1) ++ wL cI (a 2) (b 2) (F 2) ++ wL cI (a 3) (b 3) (F 3) ++ wL cI (a 4) (b 4) (F 4) ++ wL cI (a 5) (b 5) (F 5)) H := hP
  have hD : va_D A (wQ h hr 6 ++ wR cO hr 6 (va_up (va_up (va_up r 0 (some (a 1))) 1 (some (a 2))) 2 (some (a 3))) ++ wL cI (a 0) (b 0) (F 0) ++ wL cI (a 1) (b 1) (F 1) ++ wL cI (a 2) (b 2) (F 2) ++ wL cI (a 3) (b 3) (F 3) ++ wL cI (a 4) (b 4) (F 4) ++ wL cI (a 5) (b 5) (F 5)) := hD
  refine lv_iinc (v := 4) (lv' := [(2, .int 4), (1, .ref (a 0)), (0, .ref h)]) hx hb dX1_loseOldest_29 hl (k := 0) rfl rfl (by decide) rfl (fun ls hl => ?_)
  refine lv_goto (tgt := 9) hx hb dX1_loseOldest_32 (by decide) ?_
  refine lv_iload_n hx hb dX1_loseOldest_9 rfl (lv_at hl 0 rfl) ?_
  refine lv_bipush (v := 6) hx hb dX1_loseOldest_10 (by decide) ?_
  refine lv_icmp_ge (tgt := 35) hx hb dX1_loseOldest_12 (by decide) (fun c12 => absurd c12 (by decide)) (fun c12 => ?_)
  refine lv_aload_n hx hb dX1_loseOldest_15 rfl (lv_at hl 2 rfl) ?_
  refine va_get (D := (dC, dI)) (ci := 1) (v := .ref hr) (C := RX1) (T := TX1) (N := 2) hx hb hts (fun _ h => List.mem_cons_of_mem _ (List.mem_append_right _ h)) hown hK hP 0 rfl rfl 0 (by decide) (hts (.fieldLink RX1 11 "SharedLine$Past" "lines" "[LSharedLine$Line;") (List.mem_of_getElem? (i := 1) rfl)) (fun _ h9 => h9) rfl dX1_loseOldest_16 ?_
  refine lv_iload_n hx hb dX1_loseOldest_19 rfl (lv_at hl 0 rfl) ?_
  refine lv_iconst (v := 1) hx hb dX1_loseOldest_20 (by decide) ?_
  refine lv_isub hx hb dX1_loseOldest_21 ?_
  refine W.eq (g2 := F0 m 22 ls [.int 3, .ref hr]) rfl ?_
  refine lv_aload_n hx hb dX1_loseOldest_22 rfl (lv_at hl 2 rfl) ?_
  refine va_get (D := (dC, dI)) (ci := 1) (v := .ref hr) (C := RX1) (T := TX1) (N := 2) hx hb hts (fun _ h => List.mem_cons_of_mem _ (List.mem_append_right _ h)) hown hK hP 0 rfl rfl 0 (by decide) (hts (.fieldLink RX1 11 "SharedLine$Past" "lines" "[LSharedLine$Line;") (List.mem_of_getElem? (i := 1) rfl)) (fun _ h9 => h9) rfl dX1_loseOldest_23 ?_
  refine lv_iload_n hx hb dX1_loseOldest_26 rfl (lv_at hl 0 rfl) ?_
  refine vq_aldK (k := 4) (v := (a 4)) hx hb hK hP 1 2 rfl rfl (by decide) (by decide) (by decide) (hra 4 (by decide)) dX1_loseOldest_27 ?_
  refine vq_astK (k := 3) hx hb hK hP hD hS 1 2 10 0 rfl rfl rfl rfl (by decide) (by decide) (by decide) dX1_loseOldest_28 (fun H locs hP hD hS => ?_)
  have hP : va_P (dC, dI) vwCl (wQ h hr 6 ++ wR cO hr 6 (va_up (va_up (va_up (va_up r 0 (some (a 1))) 1 (some (a 2))) 2 (some (a 3))) 3 (some (a 4))) ++ wL cI (a 0) (b 0) (F 0) ++ wL cI (a 1) (b 1) (F 1) ++ wL cI (a 2) (b 2) (F 2) ++ wL cI (a 3) (b 3) (F 3) ++ wL cI (a 4) (b 4) (F 4) ++ wL cI (a 5) (b 5) (F 5)) H := hP
  have hD : va_D A (wQ h hr 6 ++ wR cO hr 6 (va_up (va_up (va_up (va_up r 0 (some (a 1))) 1 (some (a 2))) 2 (some (a 3))) 3 (some (a 4))) ++ wL cI (a 0) (b 0) (F 0) ++ wL cI (a 1) (b 1) (F 1) ++ wL cI (a 2) (b 2) (F 2) ++ wL cI (a 3) (b 3) (F 3) ++ wL cI (a 4) (b 4) (F 4) ++ wL cI (a 5) (b 5) (F 5)) := hD
  refine lv_iinc (v := 5) (lv' := [(2, .int 5), (1, .ref (a 0)), (0, .ref h)]) hx hb dX1_loseOldest_29 hl (k := 0) rfl rfl (by decide) rfl (fun ls hl => ?_)
  refine lv_goto (tgt := 9) hx hb dX1_loseOldest_32 (by decide) ?_
  refine lv_iload_n hx hb dX1_loseOldest_9 rfl (lv_at hl 0 rfl) ?_
  refine lv_bipush (v := 6) hx hb dX1_loseOldest_10 (by decide) ?_
  refine lv_icmp_ge (tgt := 35) hx hb dX1_loseOldest_12 (by decide) (fun c12 => absurd c12 (by decide)) (fun c12 => ?_)
  refine lv_aload_n hx hb dX1_loseOldest_15 rfl (lv_at hl 2 rfl) ?_
  refine va_get (D := (dC, dI)) (ci := 1) (v := .ref hr) (C := RX1) (T := TX1) (N := 2) hx hb hts (fun _ h => List.mem_cons_of_mem _ (List.mem_append_right _ h)) hown hK hP 0 rfl rfl 0 (by decide) (hts (.fieldLink RX1 11 "SharedLine$Past" "lines" "[LSharedLine$Line;") (List.mem_of_getElem? (i := 1) rfl)) (fun _ h9 => h9) rfl dX1_loseOldest_16 ?_
  refine lv_iload_n hx hb dX1_loseOldest_19 rfl (lv_at hl 0 rfl) ?_
  refine lv_iconst (v := 1) hx hb dX1_loseOldest_20 (by decide) ?_
  refine lv_isub hx hb dX1_loseOldest_21 ?_
  refine W.eq (g2 := F0 m 22 ls [.int 4, .ref hr]) rfl ?_
  refine lv_aload_n hx hb dX1_loseOldest_22 rfl (lv_at hl 2 rfl) ?_
  refine va_get (D := (dC, dI)) (ci := 1) (v := .ref hr) (C := RX1) (T := TX1) (N := 2) hx hb hts (fun _ h => List.mem_cons_of_mem _ (List.mem_append_right _ h)) hown hK hP 0 rfl rfl 0 (by decide) (hts (.fieldLink RX1 11 "SharedLine$Past" "lines" "[LSharedLine$Line;") (List.mem_of_getElem? (i := 1) rfl)) (fun _ h9 => h9) rfl dX1_loseOldest_23 ?_
  refine lv_iload_n hx hb dX1_loseOldest_26 rfl (lv_at hl 0 rfl) ?_
  refine vq_aldK (k := 5) (v := (a 5)) hx hb hK hP 1 2 rfl rfl (by decide) (by decide) (by decide) (hra 5 (by decide)) dX1_loseOldest_27 ?_
  refine vq_astK (k := 4) hx hb hK hP hD hS 1 2 12 0 rfl rfl rfl rfl (by decide) (by decide) (by decide) dX1_loseOldest_28 (fun H locs hP hD hS => ?_)
  have hP : va_P (dC, dI) vwCl (wQ h hr 6 ++ wR cO hr 6 (va_up (va_up (va_up (va_up (va_up r 0 (some (a 1))) 1 (some (a 2))) 2 (some (a 3))) 3 (some (a 4))) 4 (some (a 5))) ++ wL cI (a 0) (b 0) (F 0) ++ wL cI (a 1) (b 1) (F 1) ++ wL cI (a 2) (b 2) (F 2) ++ wL cI (a 3) (b 3) (F 3) ++ wL cI (a 4) (b 4) (F 4) ++ wL cI (a 5) (b 5) (F 5)) H := hP
  have hD : va_D A (wQ h hr 6 ++ wR cO hr 6 (va_up (va_up (va_up (va_up (va_up r 0 (some (a 1))) 1 (some (a 2))) 2 (some (a 3))) 3 (some (a 4))) 4 (some (a 5))) ++ wL cI (a 0) (b 0) (F 0) ++ wL cI (a 1) (b 1) (F 1) ++ wL cI (a 2) (b 2) (F 2) ++ wL cI (a 3) (b 3) (F 3) ++ wL cI (a 4) (b 4) (F 4) ++ wL cI (a 5) (b 5) (F 5)) := hD
  refine lv_iinc (v := 6) (lv' := [(2, .int 6), (1, .ref (a 0)), (0, .ref h)]) hx hb dX1_loseOldest_29 hl (k := 0) rfl rfl (by decide) rfl (fun ls hl => ?_)
  refine lv_goto (tgt := 9) hx hb dX1_loseOldest_32 (by decide) ?_
  refine lv_iload_n hx hb dX1_loseOldest_9 rfl (lv_at hl 0 rfl) ?_
  refine lv_bipush (v := 6) hx hb dX1_loseOldest_10 (by decide) ?_
  refine lv_icmp_ge (tgt := 35) hx hb dX1_loseOldest_12 (by decide) (fun c12 => ?_) (fun c12 => absurd c12 (by decide))
  refine lv_aload_n hx hb dX1_loseOldest_35 rfl (lv_at hl 2 rfl) ?_
  refine va_get (D := (dC, dI)) (ci := 1) (v := .ref hr) (C := RX1) (T := TX1) (N := 2) hx hb hts (fun _ h => List.mem_cons_of_mem _ (List.mem_append_right _ h)) hown hK hP 0 rfl rfl 0 (by decide) (hts (.fieldLink RX1 11 "SharedLine$Past" "lines" "[LSharedLine$Line;") (List.mem_of_getElem? (i := 1) rfl)) (fun _ h9 => h9) rfl dX1_loseOldest_36 ?_
  refine lv_iconst (v := 5) hx hb dX1_loseOldest_39 (by decide) ?_
  refine lv_aload_n hx hb dX1_loseOldest_40 rfl (lv_at hl 1 rfl) ?_
  refine vq_astK (k := 5) hx hb hK hP hD hS 1 2 2 0 rfl rfl rfl rfl (by decide) (by decide) (by decide) dX1_loseOldest_41 (fun H locs hP hD hS => ?_)
  have hP : va_P (dC, dI) vwCl (wQ h hr 6 ++ wR cO hr 6 (va_up (va_up (va_up (va_up (va_up (va_up r 0 (some (a 1))) 1 (some (a 2))) 2 (some (a 3))) 3 (some (a 4))) 4 (some (a 5))) 5 (some (a 0))) ++ wL cI (a 0) (b 0) (F 0) ++ wL cI (a 1) (b 1) (F 1) ++ wL cI (a 2) (b 2) (F 2) ++ wL cI (a 3) (b 3) (F 3) ++ wL cI (a 4) (b 4) (F 4) ++ wL cI (a 5) (b 5) (F 5)) H := hP
  have hD : va_D A (wQ h hr 6 ++ wR cO hr 6 (va_up (va_up (va_up (va_up (va_up (va_up r 0 (some (a 1))) 1 (some (a 2))) 2 (some (a 3))) 3 (some (a 4))) 4 (some (a 5))) 5 (some (a 0))) ++ wL cI (a 0) (b 0) (F 0) ++ wL cI (a 1) (b 1) (F 1) ++ wL cI (a 2) (b 2) (F 2) ++ wL cI (a 3) (b 3) (F 3) ++ wL cI (a 4) (b 4) (F 4) ++ wL cI (a 5) (b 5) (F 5)) := hD
  refine lv_aload_n hx hb dX1_loseOldest_42 rfl (lv_at hl 2 rfl) ?_
  refine lv_iconst (v := 5) hx hb dX1_loseOldest_43 (by decide) ?_
  refine va_put (D := (dC, dI)) (ci := 1) (v := .int 5) (ty := .int) (C := RX1) (T := TX1) (N := 2) hx hb hts (fun _ h => List.mem_cons_of_mem _ (List.mem_append_right _ h)) tyX1 tyX1_ok nmX1 hown hK hP hD hS 0 rfl rfl 1 (by decide) (hts (.fieldLink RX1 18 "SharedLine$Past" "size" "I") (List.mem_of_getElem? (i := 2) rfl)) (fun _ h9 => h9) rfl (tyX1_ok 1 (by decide)) rfl rfl (Nat.le_of_ble_eq_true rfl) dX1_loseOldest_44 (fun H locs hP hD hS => ?_)
  have hP : va_P (dC, dI) vwCl (wQ h hr 5 ++ wR cO hr 6 (va_up (va_up (va_up (va_up (va_up (va_up r 0 (some (a 1))) 1 (some (a 2))) 2 (some (a 3))) 3 (some (a 4))) 4 (some (a 5))) 5 (some (a 0))) ++ wL cI (a 0) (b 0) (F 0) ++ wL cI (a 1) (b 1) (F 1) ++ wL cI (a 2) (b 2) (F 2) ++ wL cI (a 3) (b 3) (F 3) ++ wL cI (a 4) (b 4) (F 4) ++ wL cI (a 5) (b 5) (F 5)) H := hP
  have hD : va_D A (wQ h hr 5 ++ wR cO hr 6 (va_up (va_up (va_up (va_up (va_up (va_up r 0 (some (a 1))) 1 (some (a 2))) 2 (some (a 3))) 3 (some (a 4))) 4 (some (a 5))) 5 (some (a 0))) ++ wL cI (a 0) (b 0) (F 0) ++ wL cI (a 1) (b 1) (F 1) ++ wL cI (a 2) (b 2) (F 2) ++ wL cI (a 3) (b 3) (F 3) ++ wL cI (a 4) (b 4) (F 4) ++ wL cI (a 5) (b 5) (F 5)) := hD
  exact vq_vret hx hb hr1 hlocks hK hP hD hS dX1_loseOldest_47
theorem hdX1_remember : yX1_remember.cls = RX1 ∧ yX1_remember.cls ≠ "java/lang/invoke/MethodHandle" ∧ yX1_remember.cls ≠ "java/lang/invoke/VarHandle" ∧ (parseMethodDescriptor yX1_remember.desc).map (fun d => d.parameters.length) = some 1 := by decide +kernel
set_option maxHeartbeats 4000000 in
set_option maxRecDepth 100000 in
theorem cX1_remember_0 (l : Launch) (ev : Nat → Nat) (dC : Nat → ClassId) (dI : Nat → Nat → Nat) (cI cZ cO : ClassId) (h hr : Nat) (r : Nat → Option Nat) (a b : Nat → Nat) (F : Nat → LSt) (h1 hp1 : Nat) (S1 : LSt) (hra : ∀ i, i < 6 → r i = some (a i)) : MetV l ev (dC, dI) (tyC cI cZ cO) yX1_remember wsX1_remember (rmF 2 100) [.ref h, .ref h1] ((wQ h hr 0 ++ wR cO hr 6 r ++ w6 cI a b F) ++ wL cI h1 hp1 S1) ((wQ h hr 1 ++ wR cO hr 6 r ++ w6 cI a b (va_up F 0 (sX0_copyFrom (F 0) S1))) ++ wL cI h1 hp1 S1) := by
  refine MetV_of (cc := cX1_remember) (maxL := 2) (ret := none) (by decide) rfl (Nat.le_of_ble_eq_true rfl) ?_
  intro p e s m below meth c A ls hx hb hr1 hml hts hown hlocks hin hK hP hD hA hE hl
  have hown : s.vm.findClass RX1 = some m.cls := hown
  have hl : lv_has ls 2 [(0, .ref h), (1, .ref h1)] := hl
  have hS : va_S A s.heap s.heap [] := va_S.rf
  refine lv_aload_n hx hb dX1_remember_0 rfl (lv_at hl 0 rfl) ?_
  refine va_get (D := (dC, dI)) (ci := 1) (v := .int 0) (C := RX1) (T := TX1) (N := 2) hx hb hts (fun _ h => List.mem_cons_of_mem _ (List.mem_append_left _ (List.mem_append_right _ h))) hown hK hP 0 rfl rfl 1 (by decide) (hts (.fieldLink RX1 18 "SharedLine$Past" "size" "I") (List.mem_of_getElem? (i := 1) rfl)) (fun _ h9 => h9) rfl dX1_remember_1 ?_
  refine lv_bipush (v := 6) hx hb dX1_remember_4 (by decide) ?_
  refine lv_icmp_lt (tgt := 13) hx hb dX1_remember_6 (by decide) (fun c6 => ?_) (fun c6 => absurd c6 (by decide))
  refine lv_aload_n hx hb dX1_remember_13 rfl (lv_at hl 0 rfl) ?_
  refine va_get (D := (dC, dI)) (ci := 1) (v := .ref hr) (C := RX1) (T := TX1) (N := 2) hx hb hts (fun _ h => List.mem_cons_of_mem _ (List.mem_append_left _ (List.mem_append_right _ h))) hown hK hP 0 rfl rfl 0 (by decide) (hts (.fieldLink RX1 11 "SharedLine$Past" "lines" "[LSharedLine$Line;") (List.mem_of_getElem? (i := 2) rfl)) (fun _ h9 => h9) rfl dX1_remember_14 ?_
  refine lv_aload_n hx hb dX1_remember_17 rfl (lv_at hl 0 rfl) ?_
  refine va_get (D := (dC, dI)) (ci := 1) (v := .int 0) (C := RX1) (T := TX1) (N := 2) hx hb hts (fun _ h => List.mem_cons_of_mem _ (List.mem_append_left _ (List.mem_append_right _ h))) hown hK hP 0 rfl rfl 1 (by decide) (hts (.fieldLink RX1 18 "SharedLine$Past" "size" "I") (List.mem_of_getElem? (i := 1) rfl)) (fun _ h9 => h9) rfl dX1_remember_18 ?_
  refine vq_aldK (k := 0) (v := (a 0)) hx hb hK hP 1 2 rfl rfl (by decide) (by decide) (by decide) (hra 0 (by decide)) dX1_remember_21 ?_
  refine lv_aload_n hx hb dX1_remember_22 rfl (lv_at hl 1 rfl) ?_
  refine vq_Vv (As := [.ref h1]) (rest := []) (W2 := (wQ h hr 0 ++ wR cO hr 6 r ++ wL cI (a 0) (b 0) (sX0_copyFrom (F 0) S1) ++ wL cI (a 1) (b 1) (F 1) ++ wL cI (a 2) (b 2) (F 2) ++ wL cI (a 3) (b 3) (F 3) ++ wL cI (a 4) (b 4) (F 4) ++ wL cI (a 5) (b 5) (F 5) ++ wL cI h1 hp1 S1)) hx hb hml hown hts hK hP hD hS hA hE hl.1 (cX0_copyFrom_c l ev dC dI cI cZ cO (a 0) (b 0) (F 0) h1 hp1 S1) gX1_remember_X0_copyFrom rfl hdX0_copyFrom (Nat.le_of_ble_eq_true rfl) (Nat.le_of_ble_eq_true rfl) rfl rfl (ci := 0) (qr := 2) rfl rfl rfl [2, 3, 14, 15] [0, 1, 4, 5, 6, 7, 8, 9, 10, 11, 12, 13] [0, 1, 12, 13, 2, 3, 4, 5, 6, 7, 8, 9, 10, 11, 14, 15] rfl rfl (by decide) (by decide) (by decide) rfl rfl rfl (Nat.le_of_ble_eq_true rfl) dX1_remember_23 ⟨Nat.zero_le _, Nat.zero_le _⟩ (fun H locs hP hD hS => ?_)
  refine lv_aload_n hx hb dX1_remember_26 rfl (lv_at hl 0 rfl) ?_
  refine lv_dup hx hb dX1_remember_27 rfl ?_
  refine va_get (D := (dC, dI)) (ci := 1) (v := .int 0) (C := RX1) (T := TX1) (N := 2) hx hb hts (fun _ h => List.mem_cons_of_mem _ (List.mem_append_left _ (List.mem_append_right _ h))) hown hK hP 0 rfl rfl 1 (by decide) (hts (.fieldLink RX1 18 "SharedLine$Past" "size" "I") (List.mem_of_getElem? (i := 1) rfl)) (fun _ h9 => h9) rfl dX1_remember_28 ?_
  refine lv_iconst (v := 1) hx hb dX1_remember_31 (by decide) ?_
  refine lv_iadd hx hb dX1_remember_32 ?_
  refine W.eq (g2 := F0 m 33 ls [.int 1, .ref h]) rfl ?_
  refine va_put (D := (dC, dI)) (ci := 1) (v := .int 1) (ty := .int) (C := RX1) (T := TX1) (N := 2) hx hb hts (fun _ h => List.mem_cons_of_mem _ (List.mem_append_left _ (List.mem_append_right _ h))) tyX1 tyX1_ok nmX1 hown hK hP hD hS 0 rfl rfl 1 (by decide) (hts (.fieldLink RX1 18 "SharedLine$Past" "size" "I") (List.mem_of_getElem? (i := 1) rfl)) (fun _ h9 => h9) rfl (tyX1_ok 1 (by decide)) rfl rfl (Nat.le_of_ble_eq_true rfl) dX1_remember_33 (fun H locs hP hD hS => ?_)
  have hP : va_P (dC, dI) vwCl (wQ h hr 1 ++ wR cO hr 6 r ++ wL cI (a 0) (b 0) (sX0_copyFrom (F 0) S1) ++ wL cI (a 1) (b 1) (F 1) ++ wL cI (a 2) (b 2) (F 2) ++ wL cI (a 3) (b 3) (F 3) ++ wL cI (a 4) (b 4) (F 4) ++ wL cI (a 5) (b 5) (F 5) ++ wL cI h1 hp1 S1) H := hP
  have hD : va_D A (wQ h hr 1 ++ wR cO hr 6 r ++ wL cI (a 0) (b 0) (sX0_copyFrom (F 0) S1) ++ wL cI (a 1) (b 1) (F 1) ++ wL cI (a 2) (b 2) (F 2) ++ wL cI (a 3) (b 3) (F 3) ++ wL cI (a 4) (b 4) (F 4) ++ wL cI (a 5) (b 5) (F 5) ++ wL cI h1 hp1 S1) := hD
  exact vq_vret hx hb hr1 hlocks hK (w' := (wQ h hr 1 ++ wR cO hr 6 r ++ w6 cI a b (va_up F 0 (sX0_copyFrom (F 0) S1))) ++ wL cI h1 hp1 S1) hP hD hS dX1_remember_36
set_option maxHeartbeats 4000000 in
set_option maxRecDepth 100000 in
theorem cX1_remember_1 (l : Launch) (ev : Nat → Nat) (dC : Nat → ClassId) (dI : Nat → Nat → Nat) (cI cZ cO : ClassId) (h hr : Nat) (r : Nat → Option Nat) (a b : Nat → Nat) (F : Nat → LSt) (h1 hp1 : Nat) (S1 : LSt) (hra : ∀ i, i < 6 → r i = some (a i)) : MetV l ev (dC, dI) (tyC cI cZ cO) yX1_remember wsX1_remember (rmF 2 100) [.ref h, .ref h1] ((wQ h hr 1 ++ wR cO hr 6 r ++ w6 cI a b F) ++ wL cI h1 hp1 S1) ((wQ h hr 2 ++ wR cO hr 6 r ++ w6 cI a b (va_up F 1 (sX0_copyFrom (F 1) S1))) ++ wL cI h1 hp1 S1) := by
  refine MetV_of (cc := cX1_remember) (maxL := 2) (ret := none) (by decide) rfl (Nat.le_of_ble_eq_true rfl) ?_
  intro p e s m below meth c A ls hx hb hr1 hml hts hown hlocks hin hK hP hD hA hE hl
  have hown : s.vm.findClass RX1 = some m.cls := hown
  have hl : lv_has ls 2 [(0, .ref h), (1, .ref h1)] := hl
  have hS : va_S A s.heap s.heap [] := va_S.rf
  refine lv_aload_n hx hb dX1_remember_0 rfl (lv_at hl 0 rfl) ?_
  refine va_get (D := (dC, dI)) (ci := 1) (v := .int 1) (C := RX1) (T := TX1) (N := 2) hx hb hts (fun _ h => List.mem_cons_of_mem _ (List.mem_append_left _ (List.mem_append_right _ h))) hown hK hP 0 rfl rfl 1 (by decide) (hts (.fieldLink RX1 18 "SharedLine$Past" "size" "I") (List.mem_of_getElem? (i := 1) rfl)) (fun _ h9 => h9) rfl dX1_remember_1 ?_
  refine lv_bipush (v := 6) hx hb dX1_remember_4 (by decide) ?_
  refine lv_icmp_lt (tgt := 13) hx hb dX1_remember_6 (by decide) (fun c6 => ?_) (fun c6 => absurd c6 (by decide))
  refine lv_aload_n hx hb dX1_remember_13 rfl (lv_at hl 0 rfl) ?_
  refine va_get (D := (dC, dI)) (ci := 1) (v := .ref hr) (C := RX1) (T := TX1) (N := 2) hx hb hts (fun _ h => List.mem_cons_of_mem _ (List.mem_append_left _ (List.mem_append_right _ h))) hown hK hP 0 rfl rfl 0 (by decide) (hts (.fieldLink RX1 11 "SharedLine$Past" "lines" "[LSharedLine$Line;") (List.mem_of_getElem? (i := 2) rfl)) (fun _ h9 => h9) rfl dX1_remember_14 ?_
  refine lv_aload_n hx hb dX1_remember_17 rfl (lv_at hl 0 rfl) ?_
  refine va_get (D := (dC, dI)) (ci := 1) (v := .int 1) (C := RX1) (T := TX1) (N := 2) hx hb hts (fun _ h => List.mem_cons_of_mem _ (List.mem_append_left _ (List.mem_append_right _ h))) hown hK hP 0 rfl rfl 1 (by decide) (hts (.fieldLink RX1 18 "SharedLine$Past" "size" "I") (List.mem_of_getElem? (i := 1) rfl)) (fun _ h9 => h9) rfl dX1_remember_18 ?_
  refine vq_aldK (k := 1) (v := (a 1)) hx hb hK hP 1 2 rfl rfl (by decide) (by decide) (by decide) (hra 1 (by decide)) dX1_remember_21 ?_
  refine lv_aload_n hx hb dX1_remember_22 rfl (lv_at hl 1 rfl) ?_
  refine vq_Vv (As := [.ref h1]) (rest := []) (W2 := (wQ h hr 1 ++ wR cO hr 6 r ++ wL cI (a 0) (b 0) (F 0) ++ wL cI (a 1) (b 1) (sX0_copyFrom (F 1) S1) ++ wL cI (a 2) (b 2) (F 2) ++ wL cI (a 3) (b 3) (F 3) ++ wL cI (a 4) (b 4) (F 4) ++ wL cI (a 5) (b 5) (F 5) ++ wL cI h1 hp1 S1)) hx hb hml hown hts hK hP hD hS hA hE hl.1 (cX0_copyFrom_c l ev dC dI cI cZ cO (a 1) (b 1) (F 1) h1 hp1 S1) gX1_remember_X0_copyFrom rfl hdX0_copyFrom (Nat.le_of_ble_eq_true rfl) (Nat.le_of_ble_eq_true rfl) rfl rfl (ci := 0) (qr := 4) rfl rfl rfl [4, 5, 14, 15] [0, 1, 2, 3, 6, 7, 8, 9, 10, 11, 12, 13] [0, 1, 2, 3, 12, 13, 4, 5, 6, 7, 8, 9, 10, 11, 14, 15] rfl rfl (by decide) (by decide) (by decide) rfl rfl rfl (Nat.le_of_ble_eq_true rfl) dX1_remember_23 ⟨Nat.zero_le _, Nat.zero_le _⟩ (fun H locs hP hD hS => ?_)
  refine lv_aload_n hx hb dX1_remember_26 rfl (lv_at hl 0 rfl) ?_
  refine lv_dup hx hb dX1_remember_27 rfl ?_
  refine va_get (D := (dC, dI)) (ci := 1) (v := .int 1) (C := RX1) (T := TX1) (N := 2) hx hb hts (fun _ h => List.mem_cons_of_mem _ (List.mem_append_left _ (List.mem_append_right _ h))) hown hK hP 0 rfl rfl 1 (by decide) (hts (.fieldLink RX1 18 "SharedLine$Past" "size" "I") (List.mem_of_getElem? (i := 1) rfl)) (fun _ h9 => h9) rfl dX1_remember_28 ?_
  refine lv_iconst (v := 1) hx hb dX1_remember_31 (by decide) ?_
  refine lv_iadd hx hb dX1_remember_32 ?_
  refine W.eq (g2 := F0 m 33 ls [.int 2, .ref h]) rfl ?_
  refine va_put (D := (dC, dI)) (ci := 1) (v := .int 2) (ty := .int) (C := RX1) (T := TX1) (N := 2) hx hb hts (fun _ h => List.mem_cons_of_mem _ (List.mem_append_left _ (List.mem_append_right _ h))) tyX1 tyX1_ok nmX1 hown hK hP hD hS 0 rfl rfl 1 (by decide) (hts (.fieldLink RX1 18 "SharedLine$Past" "size" "I") (List.mem_of_getElem? (i := 1) rfl)) (fun _ h9 => h9) rfl (tyX1_ok 1 (by decide)) rfl rfl (Nat.le_of_ble_eq_true rfl) dX1_remember_33 (fun H locs hP hD hS => ?_)
  have hP : va_P (dC, dI) vwCl (wQ h hr 2 ++ wR cO hr 6 r ++ wL cI (a 0) (b 0) (F 0) ++ wL cI (a 1) (b 1) (sX0_copyFrom (F 1) S1) ++ wL cI (a 2) (b 2) (F 2) ++ wL cI (a 3) (b 3) (F 3) ++ wL cI (a 4) (b 4) (F 4) ++ wL cI (a 5) (b 5) (F 5) ++ wL cI h1 hp1 S1) H := hP
  have hD : va_D A (wQ h hr 2 ++ wR cO hr 6 r ++ wL cI (a 0) (b 0) (F 0) ++ wL cI (a 1) (b 1) (sX0_copyFrom (F 1) S1) ++ wL cI (a 2) (b 2) (F 2) ++ wL cI (a 3) (b 3) (F 3) ++ wL cI (a 4) (b 4) (F 4) ++ wL cI (a 5) (b 5) (F 5) ++ wL cI h1 hp1 S1) := hD
  exact vq_vret hx hb hr1 hlocks hK (w' := (wQ h hr 2 ++ wR cO hr 6 r ++ w6 cI a b (va_up F 1 (sX0_copyFrom (F 1) S1))) ++ wL cI h1 hp1 S1) hP hD hS dX1_remember_36
set_option maxHeartbeats 4000000 in
set_option maxRecDepth 100000 in
theorem cX1_remember_2 (l : Launch) (ev : Nat → Nat) (dC : Nat → ClassId) (dI : Nat → Nat → Nat) (cI cZ cO : ClassId) (h hr : Nat) (r : Nat → Option Nat) (a b : Nat → Nat) (F : Nat → LSt) (h1 hp1 : Nat) (S1 : LSt) (hra : ∀ i, i < 6 → r i = some (a i)) : MetV l ev (dC, dI) (tyC cI cZ cO) yX1_remember wsX1_remember (rmF 2 100) [.ref h, .ref h1] ((wQ h hr 2 ++ wR cO hr 6 r ++ w6 cI a b F) ++ wL cI h1 hp1 S1) ((wQ h hr 3 ++ wR cO hr 6 r ++ w6 cI a b (va_up F 2 (sX0_copyFrom (F 2) S1))) ++ wL cI h1 hp1 S1) := by
  refine MetV_of (cc := cX1_remember) (maxL := 2) (ret := none) (by decide) rfl (Nat.le_of_ble_eq_true rfl) ?_
  intro p e s m below meth c A ls hx hb hr1 hml hts hown hlocks hin hK hP hD hA hE hl
  have hown : s.vm.findClass RX1 = some m.cls := hown
  have hl : lv_has ls 2 [(0, .ref h), (1, .ref h1)] := hl
  have hS : va_S A s.heap s.heap [] := va_S.rf
  refine lv_aload_n hx hb dX1_remember_0 rfl (lv_at hl 0 rfl) ?_
  refine va_get (D := (dC, dI)) (ci := 1) (v := .int 2) (C := RX1) (T := TX1) (N := 2) hx hb hts (fun _ h => List.mem_cons_of_mem _ (List.mem_append_left _ (List.mem_append_right _ h))) hown hK hP 0 rfl rfl 1 (by decide) (hts (.fieldLink RX1 18 "SharedLine$Past" "size" "I") (List.mem_of_getElem? (i := 1) rfl)) (fun _ h9 => h9) rfl dX1_remember_1 ?_
  refine lv_bipush (v := 6) hx hb dX1_remember_4 (by decide) ?_
  refine lv_icmp_lt (tgt := 13) hx hb dX1_remember_6 (by decide) (fun c6 => ?_) (fun c6 => absurd c6 (by decide))
  refine lv_aload_n hx hb dX1_remember_13 rfl (lv_at hl 0 rfl) ?_
  refine va_get (D := (dC, dI)) (ci := 1) (v := .ref hr) (C := RX1) (T := TX1) (N := 2) hx hb hts (fun _ h => List.mem_cons_of_mem _ (List.mem_append_left _ (List.mem_append_right _ h))) hown hK hP 0 rfl rfl 0 (by decide) (hts (.fieldLink RX1 11 "SharedLine$Past" "lines" "[LSharedLine$Line;") (List.mem_of_getElem? (i := 2) rfl)) (fun _ h9 => h9) rfl dX1_remember_14 ?_
  refine lv_aload_n hx hb dX1_remember_17 rfl (lv_at hl 0 rfl) ?_
  refine va_get (D := (dC, dI)) (ci := 1) (v := .int 2) (C := RX1) (T := TX1) (N := 2) hx hb hts (fun _ h => List.mem_cons_of_mem _ (List.mem_append_left _ (List.mem_append_right _ h))) hown hK hP 0 rfl rfl 1 (by decide) (hts (.fieldLink RX1 18 "SharedLine$Past" "size" "I") (List.mem_of_getElem? (i := 1) rfl)) (fun _ h9 => h9) rfl dX1_remember_18 ?_
  refine vq_aldK (k := 2) (v := (a 2)) hx hb hK hP 1 2 rfl rfl (by decide) (by decide) (by decide) (hra 2 (by decide)) dX1_remember_21 ?_
  refine lv_aload_n hx hb dX1_remember_22 rfl (lv_at hl 1 rfl) ?_
  refine vq_Vv (As := [.ref h1]) (rest := []) (W2 := (wQ h hr 2 ++ wR cO hr 6 r ++ wL cI (a 0) (b 0) (F 0) ++ wL cI (a 1) (b 1) (F 1) ++ wL cI (a 2) (b 2) (sX0_copyFrom (F 2) S1) ++ wL cI (a 3) (b 3) (F 3) ++ wL cI (a 4) (b 4) (F 4) ++ wL cI (a 5) (b 5) (F 5) ++ wL cI h1 hp1 S1)) hx hb hml hown hts hK hP hD hS hA hE hl.1 (cX0_copyFrom_c l ev dC dI cI cZ cO (a 2) (b 2) (F 2) h1 hp1 S1) gX1_remember_X0_copyFrom rfl hdX0_copyFrom (Nat.le_of_ble_eq_true rfl) (Nat.le_of_ble_eq_true rfl) rfl rfl (ci := 0) (qr := 6) rfl rfl rfl [6, 7, 14, 15] [0, 1, 2, 3, 4, 5, 8, 9, 10, 11, 12, 13] [0, 1, 2, 3, 4, 5, 12, 13, 6, 7, 8, 9, 10, 11, 14, 15] rfl rfl (by decide) (by decide) (by decide) rfl rfl rfl (Nat.le_of_ble_eq_true rfl) dX1_remember_23 ⟨Nat.zero_le _, Nat.zero_le _⟩ (fun H locs hP hD hS => ?_)
  refine lv_aload_n hx hb dX1_remember_26 rfl (lv_at hl 0 rfl) ?_
  refine lv_dup hx hb dX1_remember_27 rfl ?_
  refine va_get (D := (dC, dI)) (ci := 1) (v := .int 2) (C := RX1) (T := TX1) (N := 2) hx hb hts (fun _ h => List.mem_cons_of_mem _ (List.mem_append_left _ (List.mem_append_right _ h))) hown hK hP 0 rfl rfl 1 (by decide) (hts (.fieldLink RX1 18 "SharedLine$Past" "size" "I") (List.mem_of_getElem? (i := 1) rfl)) (fun _ h9 => h9) rfl dX1_remember_28 ?_
  refine lv_iconst (v := 1) hx hb dX1_remember_31 (by decide) ?_
  refine lv_iadd hx hb dX1_remember_32 ?_
  refine W.eq (g2 := F0 m 33 ls [.int 3, .ref h]) rfl ?_
  refine va_put (D := (dC, dI)) (ci := 1) (v := .int 3) (ty := .int) (C := RX1) (T := TX1) (N := 2) hx hb hts (fun _ h => List.mem_cons_of_mem _ (List.mem_append_left _ (List.mem_append_right _ h))) tyX1 tyX1_ok nmX1 hown hK hP hD hS 0 rfl rfl 1 (by decide) (hts (.fieldLink RX1 18 "SharedLine$Past" "size" "I") (List.mem_of_getElem? (i := 1) rfl)) (fun _ h9 => h9) rfl (tyX1_ok 1 (by decide)) rfl rfl (Nat.le_of_ble_eq_true rfl) dX1_remember_33 (fun H locs hP hD hS => ?_)
  have hP : va_P (dC, dI) vwCl (wQ h hr 3 ++ wR cO hr 6 r ++ wL cI (a 0) (b 0) (F 0) ++ wL cI (a 1) (b 1) (F 1) ++ wL cI (a 2) (b 2) (sX0_copyFrom (F 2) S1) ++ wL cI (a 3) (b 3) (F 3) ++ wL cI (a 4) (b 4) (F 4) ++ wL cI (a 5) (b 5) (F 5) ++ wL cI h1 hp1 S1) H := hP
  have hD : va_D A (wQ h hr 3 ++ wR cO hr 6 r ++ wL cI (a 0) (b 0) (F 0) ++ wL cI (a 1) (b 1) (F 1) ++ wL cI (a 2) (b 2) (sX0_copyFrom (F 2) S1) ++ wL cI (a 3) (b 3) (F 3) ++ wL cI (a 4) (b 4) (F 4) ++ wL cI (a 5) (b 5) (F 5) ++ wL cI h1 hp1 S1) := hD
  exact vq_vret hx hb hr1 hlocks hK (w' := (wQ h hr 3 ++ wR cO hr 6 r ++ w6 cI a b (va_up F 2 (sX0_copyFrom (F 2) S1))) ++ wL cI h1 hp1 S1) hP hD hS dX1_remember_36
set_option maxHeartbeats 4000000 in
set_option maxRecDepth 100000 in
theorem cX1_remember_3 (l : Launch) (ev : Nat → Nat) (dC : Nat → ClassId) (dI : Nat → Nat → Nat) (cI cZ cO : ClassId) (h hr : Nat) (r : Nat → Option Nat) (a b : Nat → Nat) (F : Nat → LSt) (h1 hp1 : Nat) (S1 : LSt) (hra : ∀ i, i < 6 → r i = some (a i)) : MetV l ev (dC, dI) (tyC cI cZ cO) yX1_remember wsX1_remember (rmF 2 100) [.ref h, .ref h1] ((wQ h hr 3 ++ wR cO hr 6 r ++ w6 cI a b F) ++ wL cI h1 hp1 S1) ((wQ h hr 4 ++ wR cO hr 6 r ++ w6 cI a b (va_up F 3 (sX0_copyFrom (F 3) S1))) ++ wL cI h1 hp1 S1) := by
  refine MetV_of (cc := cX1_remember) (maxL := 2) (ret := none) (by decide) rfl (Nat.le_of_ble_eq_true rfl) ?_
  intro p e s m below meth c A ls hx hb hr1 hml hts hown hlocks hin hK hP hD hA hE hl
  have hown : s.vm.findClass RX1 = some m.cls := hown
  have hl : lv_has ls 2 [(0, .ref h), (1, .ref h1)] := hl
  have hS : va_S A s.heap s.heap [] := va_S.rf
  refine lv_aload_n hx hb dX1_remember_0 rfl (lv_at hl 0 rfl) ?_
  refine va_get (D := (dC, dI)) (ci := 1) (v := .int 3) (C := RX1) (T := TX1) (N := 2) hx hb hts (fun _ h => List.mem_cons_of_mem _ (List.mem_append_left _ (List.mem_append_right _ h))) hown hK hP 0 rfl rfl 1 (by decide) (hts (.fieldLink RX1 18 "SharedLine$Past" "size" "I") (List.mem_of_getElem? (i := 1) rfl)) (fun _ h9 => h9) rfl dX1_remember_1 ?_
  refine lv_bipush (v := 6) hx hb dX1_remember_4 (by decide) ?_
  refine lv_icmp_lt (tgt := 13) hx hb dX1_remember_6 (by decide) (fun c6 => ?_) (fun c6 => absurd c6 (by decide))
  refine lv_aload_n hx hb dX1_remember_13 rfl (lv_at hl 0 rfl) ?_
  refine va_get (D := (dC, dI)) (ci := 1) (v := .ref hr) (C := RX1) (T := TX1) (N := 2) hx hb hts (fun _ h => List.mem_cons_of_mem _ (List.mem_append_left _ (List.mem_append_right _ h))) hown hK hP 0 rfl rfl 0 (by decide) (hts (.fieldLink RX1 11 "SharedLine$Past" "lines" "[LSharedLine$Line;") (List.mem_of_getElem? (i := 2) rfl)) (fun _ h9 => h9) rfl dX1_remember_14 ?_
  refine lv_aload_n hx hb dX1_remember_17 rfl (lv_at hl 0 rfl) ?_
  refine va_get (D := (dC, dI)) (ci := 1) (v := .int 3) (C := RX1) (T := TX1) (N := 2) hx hb hts (fun _ h => List.mem_cons_of_mem _ (List.mem_append_left _ (List.mem_append_right _ h))) hown hK hP 0 rfl rfl 1 (by decide) (hts (.fieldLink RX1 18 "SharedLine$Past" "size" "I") (List.mem_of_getElem? (i := 1) rfl)) (fun _ h9 => h9) rfl dX1_remember_18 ?_
  refine vq_aldK (k := 3) (v := (a 3)) hx hb hK hP 1 2 rfl rfl (by decide) (by decide) (by decide) (hra 3 (by decide)) dX1_remember_21 ?_
  refine lv_aload_n hx hb dX1_remember_22 rfl (lv_at hl 1 rfl) ?_
  refine vq_Vv (As := [.ref h1]) (rest := []) (W2 := (wQ h hr 3 ++ wR cO hr 6 r ++ wL cI (a 0) (b 0) (F 0) ++ wL cI (a 1) (b 1) (F 1) ++ wL cI (a 2) (b 2) (F 2) ++ wL cI (a 3) (b 3) (sX0_copyFrom (F 3) S1) ++ wL cI (a 4) (b 4) (F 4) ++ wL cI (a 5) (b 5) (F 5) ++ wL cI h1 hp1 S1)) hx hb hml hown hts hK hP hD hS hA hE hl.1 (cX0_copyFrom_c l ev dC dI cI cZ cO (a 3) (b 3) (F 3) h1 hp1 S1) gX1_remember_X0_copyFrom rfl hdX0_copyFrom (Nat.le_of_ble_eq_true rfl) (Nat.le_of_ble_eq_true rfl) rfl rfl (ci := 0) (qr := 8) rfl rfl rfl [8, 9, 14, 15] [0, 1, 2, 3, 4, 5, 6, 7, 10, 11, 12, 13] [0, 1, 2, 3, 4, 5, 6, 7, 12, 13, 8, 9, 10, 11, 14, 15] rfl rfl (by decide) (by decide) (by decide) rfl rfl rfl (Nat.le_of_ble_eq_true rfl) dX1_remember_23 ⟨Nat.zero_le _, Nat.zero_le _⟩ (fun H locs hP hD hS => ?_)
  refine lv_aload_n hx hb dX1_remember_26 rfl (lv_at hl 0 rfl) ?_
  refine lv_dup hx hb dX1_remember_27 rfl ?_
  refine va_get (D := (dC, dI)) (ci := 1) (v := .int 3) (C := RX1) (T := TX1) (N := 2) hx hb hts (fun _ h => List.mem_cons_of_mem _ (List.mem_append_left _ (List.mem_append_right _ h))) hown hK hP 0 rfl rfl 1 (by decide) (hts (.fieldLink RX1 18 "SharedLine$Past" "size" "I") (List.mem_of_getElem? (i := 1) rfl)) (fun _ h9 => h9) rfl dX1_remember_28 ?_
  refine lv_iconst (v := 1) hx hb dX1_remember_31 (by decide) ?_
  refine lv_iadd hx hb dX1_remember_32 ?_
  refine W.eq (g2 := F0 m 33 ls [.int 4, .ref h]) rfl ?_
  refine va_put (D := (dC, dI)) (ci := 1) (v := .int 4) (ty := .int) (C := RX1) (T := TX1) (N := 2) hx hb hts (fun _ h => List.mem_cons_of_mem _ (List.mem_append_left _ (List.mem_append_right _ h))) tyX1 tyX1_ok nmX1 hown hK hP hD hS 0 rfl rfl 1 (by decide) (hts (.fieldLink RX1 18 "SharedLine$Past" "size" "I") (List.mem_of_getElem? (i := 1) rfl)) (fun _ h9 => h9) rfl (tyX1_ok 1 (by decide)) rfl rfl (Nat.le_of_ble_eq_true rfl) dX1_remember_33 (fun H locs hP hD hS => ?_)
  have hP : va_P (dC, dI) vwCl (wQ h hr 4 ++ wR cO hr 6 r ++ wL cI (a 0) (b 0) (F 0) ++ wL cI (a 1) (b 1) (F 1) ++ wL cI (a 2) (b 2) (F 2) ++ wL cI (a 3) (b 3) (sX0_copyFrom (F 3) S1) ++ wL cI (a 4) (b 4) (F 4) ++ wL cI (a 5) (b 5) (F 5) ++ wL cI h1 hp1 S1) H := hP
  have hD : va_D A (wQ h hr 4 ++ wR cO hr 6 r ++ wL cI (a 0) (b 0) (F 0) ++ wL cI (a 1) (b 1) (F 1) ++ wL cI (a 2) (b 2) (F 2) ++ wL cI (a 3) (b 3) (sX0_copyFrom (F 3) S1) ++ wL cI (a 4) (b 4) (F 4) ++ wL cI (a 5) (b 5) (F 5) ++ wL cI h1 hp1 S1) := hD
  exact vq_vret hx hb hr1 hlocks hK (w' := (wQ h hr 4 ++ wR cO hr 6 r ++ w6 cI a b (va_up F 3 (sX0_copyFrom (F 3) S1))) ++ wL cI h1 hp1 S1) hP hD hS dX1_remember_36
set_option maxHeartbeats 4000000 in
set_option maxRecDepth 100000 in
theorem cX1_remember_4 (l : Launch) (ev : Nat → Nat) (dC : Nat → ClassId) (dI : Nat → Nat → Nat) (cI cZ cO : ClassId) (h hr : Nat) (r : Nat → Option Nat) (a b : Nat → Nat) (F : Nat → LSt) (h1 hp1 : Nat) (S1 : LSt) (hra : ∀ i, i < 6 → r i = some (a i)) : MetV l ev (dC, dI) (tyC cI cZ cO) yX1_remember wsX1_remember (rmF 2 100) [.ref h, .ref h1] ((wQ h hr 4 ++ wR cO hr 6 r ++ w6 cI a b F) ++ wL cI h1 hp1 S1) ((wQ h hr 5 ++ wR cO hr 6 r ++ w6 cI a b (va_up F 4 (sX0_copyFrom (F 4) S1))) ++ wL cI h1 hp1 S1) := by
  refine MetV_of (cc := cX1_remember) (maxL := 2) (ret := none) (by decide) rfl (Nat.le_of_ble_eq_true rfl) ?_
  intro p e s m below meth c A ls hx hb hr1 hml hts hown hlocks hin hK hP hD hA hE hl
  have hown : s.vm.findClass RX1 = some m.cls := hown
  have hl : lv_has ls 2 [(0, .ref h), (1, .ref h1)] := hl
  have hS : va_S A s.heap s.heap [] := va_S.rf
  refine lv_aload_n hx hb dX1_remember_0 rfl (lv_at hl 0 rfl) ?_
  refine va_get (D := (dC, dI)) (ci := 1) (v := .int 4) (C := RX1) (T := TX1) (N := 2) hx hb hts (fun _ h => List.mem_cons_of_mem _ (List.mem_append_left _ (List.mem_append_right _ h))) hown hK hP 0 rfl rfl 1 (by decide) (hts (.fieldLink RX1 18 "SharedLine$Past" "size" "I") (List.mem_of_getElem? (i := 1) rfl)) (fun _ h9 => h9) rfl dX1_remember_1 ?_
  refine lv_bipush (v := 6) hx hb dX1_remember_4 (by decide) ?_
  refine lv_icmp_lt (tgt := 13) hx hb dX1_remember_6 (by decide) (fun c6 => ?_) (fun c6 => absurd c6 (by decide))
  refine lv_aload_n hx hb dX1_remember_13 rfl (lv_at hl 0 rfl) ?_
  refine va_get (D := (dC, dI)) (ci := 1) (v := .ref hr) (C := RX1) (T := TX1) (N := 2) hx hb hts (fun _ h => List.mem_cons_of_mem _ (List.mem_append_left _ (List.mem_append_right _ h))) hown hK hP 0 rfl rfl 0 (by decide) (hts (.fieldLink RX1 11 "SharedLine$Past" "lines" "[LSharedLine$Line;") (List.mem_of_getElem? (i := 2) rfl)) (fun _ h9 => h9) rfl dX1_remember_14 ?_
  refine lv_aload_n hx hb dX1_remember_17 rfl (lv_at hl 0 rfl) ?_
  refine va_get (D := (dC, dI)) (ci := 1) (v := .int 4) (C := RX1) (T := TX1) (N := 2) hx hb hts (fun _ h => List.mem_cons_of_mem _ (List.mem_append_left _ (List.mem_append_right _ h))) hown hK hP 0 rfl rfl 1 (by decide) (hts (.fieldLink RX1 18 "SharedLine$Past" "size" "I") (List.mem_of_getElem? (i := 1) rfl)) (fun _ h9 => h9) rfl dX1_remember_18 ?_
  refine vq_aldK (k := 4) (v := (a 4)) hx hb hK hP 1 2 rfl rfl (by decide) (by decide) (by decide) (hra 4 (by decide)) dX1_remember_21 ?_
  refine lv_aload_n hx hb dX1_remember_22 rfl (lv_at hl 1 rfl) ?_
  refine vq_Vv (As := [.ref h1]) (rest := []) (W2 := (wQ h hr 4 ++ wR cO hr 6 r ++ wL cI (a 0) (b 0) (F 0) ++ wL cI (a 1) (b 1) (F 1) ++ wL cI (a 2) (b 2) (F 2) ++ wL cI (a 3) (b 3) (F 3) ++ wL cI (a 4) (b 4) (sX0_copyFrom (F 4) S1) ++ wL cI (a 5) (b 5) (F 5) ++ wL cI h1 hp1 S1)) hx hb hml hown hts hK hP hD hS hA hE hl.1 (cX0_copyFrom_c l ev dC dI cI cZ cO (a 4) (b 4) (F 4) h1 hp1 S1) gX1_remember_X0_copyFrom rfl hdX0_copyFrom (Nat.le_of_ble_eq_true rfl) (Nat.le_of_ble_eq_true rfl) rfl rfl (ci := 0) (qr := 10) rfl rfl rfl [10, 11, 14, 15] [0, 1, 2, 3, 4, 5, 6, 7, 8, 9, 12, 13] [0, 1, 2, 3, 4, 5, 6, 7, 8, 9, 12, 13, 10, 11, 14, 15] rfl rfl (by decide) (by decide) (by decide) rfl rfl rfl (Nat.le_of_ble_eq_true rfl) dX1_remember_23 ⟨Nat.zero_le _, Nat.zero_le _⟩ (fun H locs hP hD hS => ?_)
  refine lv_aload_n hx hb dX1_remember_26 rfl (lv_at hl 0 rfl) ?_
  refine lv_dup hx hb dX1_remember_27 rfl ?_
  refine va_get (D := (dC, dI)) (ci := 1) (v := .int 4) (C := RX1) (T := TX1) (N := 2) hx hb hts (fun _ h => List.mem_cons_of_mem _ (List.mem_append_left _ (List.mem_append_right _ h))) hown hK hP 0 rfl rfl 1 (by decide) (hts (.fieldLink RX1 18 "SharedLine$Past" "size" "I") (List.mem_of_getElem? (i := 1) rfl)) (fun _ h9 => h9) rfl dX1_remember_28 ?_
  refine lv_iconst (v := 1) hx hb dX1_remember_31 (by decide) ?_
  refine lv_iadd hx hb dX1_remember_32 ?_
  refine W.eq (g2 := F0 m 33 ls [.int 5, .ref h]) rfl ?_
  refine va_put (D := (dC, dI)) (ci := 1) (v := .int 5) (ty := .int) (C := RX1) (T := TX1) (N := 2) hx hb hts (fun _ h => List.mem_cons_of_mem _ (List.mem_append_left _ (List.mem_append_right _ h))) tyX1 tyX1_ok nmX1 hown hK hP hD hS 0 rfl rfl 1 (by decide) (hts (.fieldLink RX1 18 "SharedLine$Past" "size" "I") (List.mem_of_getElem? (i := 1) rfl)) (fun _ h9 => h9) rfl (tyX1_ok 1 (by decide)) rfl rfl (Nat.le_of_ble_eq_true rfl) dX1_remember_33 (fun H locs hP hD hS => ?_)
  have hP : va_P (dC, dI) vwCl (wQ h hr 5 ++ wR cO hr 6 r ++ wL cI (a 0) (b 0) (F 0) ++ wL cI (a 1) (b 1) (F 1) ++ wL cI (a 2) (b 2) (F 2) ++ wL cI (a 3) (b 3) (F 3) ++ wL cI (a 4) (b 4) (sX0_copyFrom (F 4) S1) ++ wL cI (a 5) (b 5) (F 5) ++ wL cI h1 hp1 S1) H := hP
  have hD : va_D A (wQ h hr 5 ++ wR cO hr 6 r ++ wL cI (a 0) (b 0) (F 0) ++ wL cI (a 1) (b 1) (F 1) ++ wL cI (a 2) (b 2) (F 2) ++ wL cI (a 3) (b 3) (F 3) ++ wL cI (a 4) (b 4) (sX0_copyFrom (F 4) S1) ++ wL cI (a 5) (b 5) (F 5) ++ wL cI h1 hp1 S1) := hD
  exact vq_vret hx hb hr1 hlocks hK (w' := (wQ h hr 5 ++ wR cO hr 6 r ++ w6 cI a b (va_up F 4 (sX0_copyFrom (F 4) S1))) ++ wL cI h1 hp1 S1) hP hD hS dX1_remember_36
set_option maxHeartbeats 4000000 in
set_option maxRecDepth 100000 in
theorem cX1_remember_5 (l : Launch) (ev : Nat → Nat) (dC : Nat → ClassId) (dI : Nat → Nat → Nat) (cI cZ cO : ClassId) (h hr : Nat) (r : Nat → Option Nat) (a b : Nat → Nat) (F : Nat → LSt) (h1 hp1 : Nat) (S1 : LSt) (hra : ∀ i, i < 6 → r i = some (a i)) : MetV l ev (dC, dI) (tyC cI cZ cO) yX1_remember wsX1_remember (rmF 2 100) [.ref h, .ref h1] ((wQ h hr 5 ++ wR cO hr 6 r ++ w6 cI a b F) ++ wL cI h1 hp1 S1) ((wQ h hr 6 ++ wR cO hr 6 r ++ w6 cI a b (va_up F 5 (sX0_copyFrom (F 5) S1))) ++ wL cI h1 hp1 S1) := by
  refine MetV_of (cc := cX1_remember) (maxL := 2) (ret := none) (by decide) rfl (Nat.le_of_ble_eq_true rfl) ?_
  intro p e s m below meth c A ls hx hb hr1 hml hts hown hlocks hin hK hP hD hA hE hl
  have hown : s.vm.findClass RX1 = some m.cls := hown
  have hl : lv_has ls 2 [(0, .ref h), (1, .ref h1)] := hl
  have hS : va_S A s.heap s.heap [] := va_S.rf
  refine lv_aload_n hx hb dX1_remember_0 rfl (lv_at hl 0 rfl) ?_
  refine va_get (D := (dC, dI)) (ci := 1) (v := .int 5) (C := RX1) (T := TX1) (N := 2) hx hb hts (fun _ h => List.mem_cons_of_mem _ (List.mem_append_left _ (List.mem_append_right _ h))) hown hK hP 0 rfl rfl 1 (by decide) (hts (.fieldLink RX1 18 "SharedLine$Past" "size" "I") (List.mem_of_getElem? (i := 1) rfl)) (fun _ h9 => h9) rfl dX1_remember_1 ?_
  refine lv_bipush (v := 6) hx hb dX1_remember_4 (by decide) ?_
  refine lv_icmp_lt (tgt := 13) hx hb dX1_remember_6 (by decide) (fun c6 => ?_) (fun c6 => absurd c6 (by decide))
  refine lv_aload_n hx hb dX1_remember_13 rfl (lv_at hl 0 rfl) ?_
  refine va_get (D := (dC, dI)) (ci := 1) (v := .ref hr) (C := RX1) (T := TX1) (N := 2) hx hb hts (fun _ h => List.mem_cons_of_mem _ (List.mem_append_left _ (List.mem_append_right _ h))) hown hK hP 0 rfl rfl 0 (by decide) (hts (.fieldLink RX1 11 "SharedLine$Past" "lines" "[LSharedLine$Line;") (List.mem_of_getElem? (i := 2) rfl)) (fun _ h9 => h9) rfl dX1_remember_14 ?_
  refine lv_aload_n hx hb dX1_remember_17 rfl (lv_at hl 0 rfl) ?_
  refine va_get (D := (dC, dI)) (ci := 1) (v := .int 5) (C := RX1) (T := TX1) (N := 2) hx hb hts (fun _ h => List.mem_cons_of_mem _ (List.mem_append_left _ (List.mem_append_right _ h))) hown hK hP 0 rfl rfl 1 (by decide) (hts (.fieldLink RX1 18 "SharedLine$Past" "size" "I") (List.mem_of_getElem? (i := 1) rfl)) (fun _ h9 => h9) rfl dX1_remember_18 ?_
  refine vq_aldK (k := 5) (v := (a 5)) hx hb hK hP 1 2 rfl rfl (by decide) (by decide) (by decide) (hra 5 (by decide)) dX1_remember_21 ?_
  refine lv_aload_n hx hb dX1_remember_22 rfl (lv_at hl 1 rfl) ?_
  refine vq_Vv (As := [.ref h1]) (rest := []) (W2 := (wQ h hr 5 ++ wR cO hr 6 r ++ wL cI (a 0) (b 0) (F 0) ++ wL cI (a 1) (b 1) (F 1) ++ wL cI (a 2) (b 2) (F 2) ++ wL cI (a 3) (b 3) (F 3) ++ wL cI (a 4) (b 4) (F 4) ++ wL cI (a 5) (b 5) (sX0_copyFrom (F 5) S1) ++ wL cI h1 hp1 S1)) hx hb hml hown hts hK hP hD hS hA hE hl.1 (cX0_copyFrom_c l ev dC dI cI cZ cO (a 5) (b 5) (F 5) h1 hp1 S1) gX1_remember_X0_copyFrom rfl hdX0_copyFrom (Nat.le_of_ble_eq_true rfl) (Nat.le_of_ble_eq_true rfl) rfl rfl (ci := 0) (qr := 12) rfl rfl rfl [12, 13, 14, 15] [0, 1, 2, 3, 4, 5, 6, 7, 8, 9, 10, 11] [0, 1, 2, 3, 4, 5, 6, 7, 8, 9, 10, 11, 12, 13, 14, 15] rfl rfl (by decide) (by decide) (by decide) rfl rfl rfl (Nat.le_of_ble_eq_true rfl) dX1_remember_23 ⟨Nat.zero_le _, Nat.zero_le _⟩ (fun H locs hP hD hS => ?_)
  refine lv_aload_n hx hb dX1_remember_26 rfl (lv_at hl 0 rfl) ?_
  refine lv_dup hx hb dX1_remember_27 rfl ?_
  refine va_get (D := (dC, dI)) (ci := 1) (v := .int 5) (C := RX1) (T := TX1) (N := 2) hx hb hts (fun _ h => List.mem_cons_of_mem _ (List.mem_append_left _ (List.mem_append_right _ h))) hown hK hP 0 rfl rfl 1 (by decide) (hts (.fieldLink RX1 18 "SharedLine$Past" "size" "I") (List.mem_of_getElem? (i := 1) rfl)) (fun _ h9 => h9) rfl dX1_remember_28 ?_
  refine lv_iconst (v := 1) hx hb dX1_remember_31 (by decide) ?_
  refine lv_iadd hx hb dX1_remember_32 ?_
  refine W.eq (g2 := F0 m 33 ls [.int 6, .ref h]) rfl ?_
  refine va_put (D := (dC, dI)) (ci := 1) (v := .int 6) (ty := .int) (C := RX1) (T := TX1) (N := 2) hx hb hts (fun _ h => List.mem_cons_of_mem _ (List.mem_append_left _ (List.mem_append_right _ h))) tyX1 tyX1_ok nmX1 hown hK hP hD hS 0 rfl rfl 1 (by decide) (hts (.fieldLink RX1 18 "SharedLine$Past" "size" "I") (List.mem_of_getElem? (i := 1) rfl)) (fun _ h9 => h9) rfl (tyX1_ok 1 (by decide)) rfl rfl (Nat.le_of_ble_eq_true rfl) dX1_remember_33 (fun H locs hP hD hS => ?_)
  have hP : va_P (dC, dI) vwCl (wQ h hr 6 ++ wR cO hr 6 r ++ wL cI (a 0) (b 0) (F 0) ++ wL cI (a 1) (b 1) (F 1) ++ wL cI (a 2) (b 2) (F 2) ++ wL cI (a 3) (b 3) (F 3) ++ wL cI (a 4) (b 4) (F 4) ++ wL cI (a 5) (b 5) (sX0_copyFrom (F 5) S1) ++ wL cI h1 hp1 S1) H := hP
  have hD : va_D A (wQ h hr 6 ++ wR cO hr 6 r ++ wL cI (a 0) (b 0) (F 0) ++ wL cI (a 1) (b 1) (F 1) ++ wL cI (a 2) (b 2) (F 2) ++ wL cI (a 3) (b 3) (F 3) ++ wL cI (a 4) (b 4) (F 4) ++ wL cI (a 5) (b 5) (sX0_copyFrom (F 5) S1) ++ wL cI h1 hp1 S1) := hD
  exact vq_vret hx hb hr1 hlocks hK (w' := (wQ h hr 6 ++ wR cO hr 6 r ++ w6 cI a b (va_up F 5 (sX0_copyFrom (F 5) S1))) ++ wL cI h1 hp1 S1) hP hD hS dX1_remember_36
set_option maxHeartbeats 4000000 in
set_option maxRecDepth 100000 in
theorem cX1_remember_6 (l : Launch) (ev : Nat → Nat) (dC : Nat → ClassId) (dI : Nat → Nat → Nat) (cI cZ cO : ClassId) (h hr : Nat) (r : Nat → Option Nat) (a b : Nat → Nat) (F : Nat → LSt) (h1 hp1 : Nat) (S1 : LSt) (hra : ∀ i, i < 6 → r i = some (a i)) : MetV l ev (dC, dI) (tyC cI cZ cO) yX1_remember wsX1_remember (rmF 2 100) [.ref h, .ref h1] ((wQ h hr 6 ++ wR cO hr 6 r ++ w6 cI a b F) ++ wL cI h1 hp1 S1) ((wQ h hr 6 ++ wR cO hr 6 (rotR r a) ++ w6 cI (rot a) (rot b) (va_up (rot F) 5 (sX0_copyFrom (F 0) S1))) ++ wL cI h1 hp1 S1) := by
  refine MetV_of (cc := cX1_remember) (maxL := 2) (ret := none) (by decide) rfl (Nat.le_of_ble_eq_true rfl) ?_
  intro p e s m below meth c A ls hx hb hr1 hml hts hown hlocks hin hK hP hD hA hE hl
  have hown : s.vm.findClass RX1 = some m.cls := hown
  have hl : lv_has ls 2 [(0, .ref h), (1, .ref h1)] := hl
  have hS : va_S A s.heap s.heap [] := va_S.rf
  refine lv_aload_n hx hb dX1_remember_0 rfl (lv_at hl 0 rfl) ?_
  refine va_get (D := (dC, dI)) (ci := 1) (v := .int 6) (C := RX1) (T := TX1) (N := 2) hx hb hts (fun _ h => List.mem_cons_of_mem _ (List.mem_append_left _ (List.mem_append_right _ h))) hown hK hP 0 rfl rfl 1 (by decide) (hts (.fieldLink RX1 18 "SharedLine$Past" "size" "I") (List.mem_of_getElem? (i := 1) rfl)) (fun _ h9 => h9) rfl dX1_remember_1 ?_
  refine lv_bipush (v := 6) hx hb dX1_remember_4 (by decide) ?_
  refine lv_icmp_lt (tgt := 13) hx hb dX1_remember_6 (by decide) (fun c6 => absurd c6 (by decide)) (fun c6 => ?_)
  refine lv_aload_n hx hb dX1_remember_9 rfl (lv_at hl 0 rfl) ?_
  refine vq_Vv (As := []) (rest := []) (W2 := (wQ h hr 5 ++ wR cO hr 6 (rotR r a) ++ wL cI (a 0) (b 0) (F 0) ++ wL cI (a 1) (b 1) (F 1) ++ wL cI (a 2) (b 2) (F 2) ++ wL cI (a 3) (b 3) (F 3) ++ wL cI (a 4) (b 4) (F 4) ++ wL cI (a 5) (b 5) (F 5) ++ wL cI h1 hp1 S1)) hx hb hml hown hts hK hP hD hS hA hE hl.1 (cX1_loseOldest_c l ev dC dI cI cZ cO h hr r a b F hra) gX1_remember_X1_loseOldest rfl hdX1_loseOldest (Nat.le_of_ble_eq_true rfl) (Nat.le_of_ble_eq_true rfl) rfl rfl (ci := 1) (qr := 0) rfl rfl rfl [0, 1, 2, 3, 4, 5, 6, 7, 8, 9, 10, 11, 12, 13] [14, 15] [2, 3, 4, 5, 6, 7, 8, 9, 10, 11, 12, 13, 14, 15, 0, 1] rfl rfl (by decide) (by decide) (by decide) rfl rfl rfl (Nat.le_of_ble_eq_true rfl) dX1_remember_10 ⟨Nat.zero_le _, Nat.zero_le _⟩ (fun H locs hP hD hS => ?_)
  refine lv_aload_n hx hb dX1_remember_13 rfl (lv_at hl 0 rfl) ?_
  refine va_get (D := (dC, dI)) (ci := 1) (v := .ref hr) (C := RX1) (T := TX1) (N := 2) hx hb hts (fun _ h => List.mem_cons_of_mem _ (List.mem_append_left _ (List.mem_append_right _ h))) hown hK hP 0 rfl rfl 0 (by decide) (hts (.fieldLink RX1 11 "SharedLine$Past" "lines" "[LSharedLine$Line;") (List.mem_of_getElem? (i := 2) rfl)) (fun _ h9 => h9) rfl dX1_remember_14 ?_
  refine lv_aload_n hx hb dX1_remember_17 rfl (lv_at hl 0 rfl) ?_
  refine va_get (D := (dC, dI)) (ci := 1) (v := .int 5) (C := RX1) (T := TX1) (N := 2) hx hb hts (fun _ h => List.mem_cons_of_mem _ (List.mem_append_left _ (List.mem_append_right _ h))) hown hK hP 0 rfl rfl 1 (by decide) (hts (.fieldLink RX1 18 "SharedLine$Past" "size" "I") (List.mem_of_getElem? (i := 1) rfl)) (fun _ h9 => h9) rfl dX1_remember_18 ?_
  refine vq_aldK (k := 5) (v := (a 0)) hx hb hK hP 1 2 rfl rfl (by decide) (by decide) (by decide) rfl dX1_remember_21 ?_
  refine lv_aload_n hx hb dX1_remember_22 rfl (lv_at hl 1 rfl) ?_
  refine vq_Vv (As := [.ref h1]) (rest := []) (W2 := (wQ h hr 5 ++ wR cO hr 6 (rotR r a) ++ wL cI (a 0) (b 0) (sX0_copyFrom (F 0) S1) ++ wL cI (a 1) (b 1) (F 1) ++ wL cI (a 2) (b 2) (F 2) ++ wL cI (a 3) (b 3) (F 3) ++ wL cI (a 4) (b 4) (F 4) ++ wL cI (a 5) (b 5) (F 5) ++ wL cI h1 hp1 S1)) hx hb hml hown hts hK hP hD hS hA hE hl.1 (cX0_copyFrom_c l ev dC dI cI cZ cO (a 0) (b 0) (F 0) h1 hp1 S1) gX1_remember_X0_copyFrom rfl hdX0_copyFrom (Nat.le_of_ble_eq_true rfl) (Nat.le_of_ble_eq_true rfl) rfl rfl (ci := 0) (qr := 2) rfl rfl rfl [2, 3, 14, 15] [0, 1, 4, 5, 6, 7, 8, 9, 10, 11, 12, 13] [0, 1, 12, 13, 2, 3, 4, 5, 6, 7, 8, 9, 10, 11, 14, 15] rfl rfl (by decide) (by decide) (by decide) rfl rfl rfl (Nat.le_of_ble_eq_true rfl) dX1_remember_23 ⟨Nat.zero_le _, Nat.zero_le _⟩ (fun H locs hP hD hS => ?_)
  refine lv_aload_n hx hb dX1_remember_26 rfl (lv_at hl 0 rfl) ?_
  refine lv_dup hx hb dX1_remember_27 rfl ?_
  refine va_get (D := (dC, dI)) (ci := 1) (v := .int 5) (C := RX1) (T := TX1) (N := 2) hx hb hts (fun _ h => List.mem_cons_of_mem _ (List.mem_append_left _ (List.mem_append_right _ h))) hown hK hP 0 rfl rfl 1 (by decide) (hts (.fieldLink RX1 18 "SharedLine$Past" "size" "I") (List.mem_of_getElem? (i := 1) rfl)) (fun _ h9 => h9) rfl dX1_remember_28 ?_
  refine lv_iconst (v := 1) hx hb dX1_remember_31 (by decide) ?_
  refine lv_iadd hx hb dX1_remember_32 ?_
  refine W.eq (g2 := F0 m 33 ls [.int 6, .ref h]) rfl ?_
  refine va_put (D := (dC, dI)) (ci := 1) (v := .int 6) (ty := .int) (C := RX1) (T := TX1) (N := 2) hx hb hts (fun _ h => List.mem_cons_of_mem _ (List.mem_append_left _ (List.mem_append_right _ h))) tyX1 tyX1_ok nmX1 hown hK hP hD hS 0 rfl rfl 1 (by decide) (hts (.fieldLink RX1 18 "SharedLine$Past" "size" "I") (List.mem_of_getElem? (i := 1) rfl)) (fun _ h9 => h9) rfl (tyX1_ok 1 (by decide)) rfl rfl (Nat.le_of_ble_eq_true rfl) dX1_remember_33 (fun H locs hP hD hS => ?_)
  have hP : va_P (dC, dI) vwCl (wQ h hr 6 ++ wR cO hr 6 (rotR r a) ++ wL cI (a 0) (b 0) (sX0_copyFrom (F 0) S1) ++ wL cI (a 1) (b 1) (F 1) ++ wL cI (a 2) (b 2) (F 2) ++ wL cI (a 3) (b 3) (F 3) ++ wL cI (a 4) (b 4) (F 4) ++ wL cI (a 5) (b 5) (F 5) ++ wL cI h1 hp1 S1) H := hP
  have hD : va_D A (wQ h hr 6 ++ wR cO hr 6 (rotR r a) ++ wL cI (a 0) (b 0) (sX0_copyFrom (F 0) S1) ++ wL cI (a 1) (b 1) (F 1) ++ wL cI (a 2) (b 2) (F 2) ++ wL cI (a 3) (b 3) (F 3) ++ wL cI (a 4) (b 4) (F 4) ++ wL cI (a 5) (b 5) (F 5) ++ wL cI h1 hp1 S1) := hD
  have hP9 : va_P (dC, dI) vwCl ((wQ h hr 6 ++ wR cO hr 6 (rotR r a) ++ w6 cI (rot a) (rot b) (va_up (rot F) 5 (sX0_copyFrom (F 0) S1))) ++ wL cI h1 hp1 S1) H := hP.sub [0, 1, 4, 5, 6, 7, 8, 9, 10, 11, 12, 13, 2, 3, 14, 15] rfl
  have hD9 : va_D A ((wQ h hr 6 ++ wR cO hr 6 (rotR r a) ++ w6 cI (rot a) (rot b) (va_up (rot F) 5 (sX0_copyFrom (F 0) S1))) ++ wL cI h1 hp1 S1) := hD.sub [0, 1, 4, 5, 6, 7, 8, 9, 10, 11, 12, 13, 2, 3, 14, 15] (by decide) rfl
  exact vq_vret hx hb hr1 hlocks hK hP9 hD9 hS dX1_remember_36
theorem cX1_remember_c (l : Launch) (ev : Nat → Nat) (dC : Nat → ClassId) (dI : Nat → Nat → Nat) (cI cZ cO : ClassId) (h hr : Nat) (z : Int32) (r : Nat → Option Nat) (a b : Nat → Nat) (F : Nat → LSt) (h1 hp1 : Nat) (S1 : LSt) (hz : ∃ k : Nat, z = nI k ∧ k ≤ 6) (hra : ∀ i, i < 6 → r i = some (a i)) : MetV l ev (dC, dI) (tyC cI cZ cO) yX1_remember wsX1_remember (rmF 2 100) [.ref h, .ref h1] ((wQ h hr z ++ wR cO hr 6 r ++ w6 cI a b F) ++ wL cI h1 hp1 S1) ((wQ h hr (pz z) ++ wR cO hr 6 (pr z r a) ++ w6 cI (pa z a) (pa z b) (pF z F S1)) ++ wL cI h1 hp1 S1) := by
  obtain ⟨k, rfl, hk⟩ := hz
  rcases (show k = 0 ∨ k = 1 ∨ k = 2 ∨ k = 3 ∨ k = 4 ∨ k = 5 ∨ k = 6 by omega) with rfl | rfl | rfl | rfl | rfl | rfl | rfl
  · rw [show pz (nI 0) = 1 from rfl, show pr (nI 0) r a = r from if_neg (by decide), show pa (nI 0) a = a from if_neg (by decide), show pa (nI 0) b = b from if_neg (by decide), show pF (nI 0) F S1 = va_up F 0 (sX0_copyFrom (F 0) S1) from if_neg (by decide)]
    exact cX1_remember_0 l ev dC dI cI cZ cO h hr r a b F h1 hp1 S1 hra
  · rw [show pz (nI 1) = 2 from rfl, show pr (nI 1) r a = r from if_neg (by decide), show pa (nI 1) a = a from if_neg (by decide), show pa (nI 1) b = b from if_neg (by decide), show pF (nI 1) F S1 = va_up F 1 (sX0_copyFrom (F 1) S1) from if_neg (by decide)]
    exact cX1_remember_1 l ev dC dI cI cZ cO h hr r a b F h1 hp1 S1 hra
  · rw [show pz (nI 2) = 3 from rfl, show pr (nI 2) r a = r from if_neg (by decide), show pa (nI 2) a = a from if_neg (by decide), show pa (nI 2) b = b from if_neg (by decide), show pF (nI 2) F S1 = va_up F 2 (sX0_copyFrom (F 2) S1) from if_neg (by decide)]
    exact cX1_remember_2 l ev dC dI cI cZ cO h hr r a b F h1 hp1 S1 hra
  · rw [show pz (nI 3) = 4 from rfl, show pr (nI 3) r a = r from if_neg (by decide), show pa (nI 3) a = a from if_neg (by decide), show pa (nI 3) b = b from if_neg (by decide), show pF (nI 3) F S1 = va_up F 3 (sX0_copyFrom (F 3) S1) from if_neg (by decide)]
    exact cX1_remember_3 l ev dC dI cI cZ cO h hr r a b F h1 hp1 S1 hra
  · rw [show pz (nI 4) = 5 from rfl, show pr (nI 4) r a = r from if_neg (by decide), show pa (nI 4) a = a from if_neg (by decide), show pa (nI 4) b = b from if_neg (by decide), show pF (nI 4) F S1 = va_up F 4 (sX0_copyFrom (F 4) S1) from if_neg (by decide)]
    exact cX1_remember_4 l ev dC dI cI cZ cO h hr r a b F h1 hp1 S1 hra
  · rw [show pz (nI 5) = 6 from rfl, show pr (nI 5) r a = r from if_neg (by decide), show pa (nI 5) a = a from if_neg (by decide), show pa (nI 5) b = b from if_neg (by decide), show pF (nI 5) F S1 = va_up F 5 (sX0_copyFrom (F 5) S1) from if_neg (by decide)]
    exact cX1_remember_5 l ev dC dI cI cZ cO h hr r a b F h1 hp1 S1 hra
  · rw [show pz (nI 6) = 6 from rfl, show pr (nI 6) r a = rotR r a from if_pos rfl, show pa (nI 6) a = rot a from if_pos rfl, show pa (nI 6) b = rot b from if_pos rfl, show pF (nI 6) F S1 = va_up (rot F) 5 (sX0_copyFrom (F 0) S1) from if_pos rfl]
    exact cX1_remember_6 l ev dC dI cI cZ cO h hr r a b F h1 hp1 S1 hra
theorem hdX1_recall : yX1_recall.cls = RX1 ∧ yX1_recall.cls ≠ "java/lang/invoke/MethodHandle" ∧ yX1_recall.cls ≠ "java/lang/invoke/VarHandle" ∧ (parseMethodDescriptor yX1_recall.desc).map (fun d => d.parameters.length) = some 1 := by decide +kernel
set_option maxHeartbeats 4000000 in
set_option maxRecDepth 100000 in
theorem cX1_recall_0 (l : Launch) (ev : Nat → Nat) (dC : Nat → ClassId) (dI : Nat → Nat → Nat) (cI cZ cO : ClassId) (h hr : Nat) (r : Nat → Option Nat) (a b : Nat → Nat) (F : Nat → LSt) (h1 hp1 : Nat) (S1 : LSt) (hra : ∀ i, i < 6 → r i = some (a i)) : MetI l ev (dC, dI) (tyC cI cZ cO) yX1_recall wsX1_recall (rmF 2 100) [.ref h, .ref h1] ((wQ h hr 0 ++ wR cO hr 6 r ++ w6 cI a b F) ++ wL cI h1 hp1 S1) 0 ((wQ h hr 0 ++ wR cO hr 6 r ++ w6 cI a b F) ++ wL cI h1 hp1 S1) := by
  refine MetI_of (cc := cX1_recall) (maxL := 2) (ret := (some .boolean)) (by decide) rfl (Nat.le_of_ble_eq_true rfl) ?_
  intro p e s m below meth c A ls hx hb hr1 hml hts hown hlocks hin hK hP hD hA hE hl
  have hown : s.vm.findClass RX1 = some m.cls := hown
  have hl : lv_has ls 2 [(0, .ref h), (1, .ref h1)] := hl
  have hS : va_S A s.heap s.heap [] := va_S.rf
  refine lv_aload_n hx hb dX1_recall_0 rfl (lv_at hl 0 rfl) ?_
  refine va_get (D := (dC, dI)) (ci := 1) (v := .int 0) (C := RX1) (T := TX1) (N := 2) hx hb hts (fun _ h => List.mem_cons_of_mem _ (List.mem_append_left _ (List.mem_append_right _ h))) hown hK hP 0 rfl rfl 1 (by decide) (hts (.fieldLink RX1 18 "SharedLine$Past" "size" "I") (List.mem_of_getElem? (i := 1) rfl)) (fun _ h9 => h9) rfl dX1_recall_1 ?_
  refine lv_if_gt (tgt := 9) hx hb dX1_recall_4 (by decide) (fun c4 => absurd c4 (by decide)) (fun c4 => ?_)
  refine lv_iconst (v := 0) hx hb dX1_recall_7 (by decide) ?_
  exact vq_zret hx hb hr1 hlocks hK hP hD hS rfl rfl dX1_recall_8
set_option maxHeartbeats 4000000 in
set_option maxRecDepth 100000 in
theorem cX1_recall_1 (l : Launch) (ev : Nat → Nat) (dC : Nat → ClassId) (dI : Nat → Nat → Nat) (cI cZ cO : ClassId) (h hr : Nat) (r : Nat → Option Nat) (a b : Nat → Nat) (F : Nat → LSt) (h1 hp1 : Nat) (S1 : LSt) (hra : ∀ i, i < 6 → r i = some (a i)) : MetI l ev (dC, dI) (tyC cI cZ cO) yX1_recall wsX1_recall (rmF 2 100) [.ref h, .ref h1] ((wQ h hr 1 ++ wR cO hr 6 r ++ w6 cI a b F) ++ wL cI h1 hp1 S1) 1 (((wQ h hr 0 ++ wR cO hr 6 r ++ w6 cI a b F)) ++ wL cI h1 hp1 (sX0_copyFrom S1 (F 0))) := by
  refine MetI_of (cc := cX1_recall) (maxL := 2) (ret := (some .boolean)) (by decide) rfl (Nat.le_of_ble_eq_true rfl) ?_
  intro p e s m below meth c A ls hx hb hr1 hml hts hown hlocks hin hK hP hD hA hE hl
  have hown : s.vm.findClass RX1 = some m.cls := hown
  have hl : lv_has ls 2 [(0, .ref h), (1, .ref h1)] := hl
  have hS : va_S A s.heap s.heap [] := va_S.rf
  refine lv_aload_n hx hb dX1_recall_0 rfl (lv_at hl 0 rfl) ?_
  refine va_get (D := (dC, dI)) (ci := 1) (v := .int 1) (C := RX1) (T := TX1) (N := 2) hx hb hts (fun _ h => List.mem_cons_of_mem _ (List.mem_append_left _ (List.mem_append_right _ h))) hown hK hP 0 rfl rfl 1 (by decide) (hts (.fieldLink RX1 18 "SharedLine$Past" "size" "I") (List.mem_of_getElem? (i := 1) rfl)) (fun _ h9 => h9) rfl dX1_recall_1 ?_
  refine lv_if_gt (tgt := 9) hx hb dX1_recall_4 (by decide) (fun c4 => ?_) (fun c4 => absurd c4 (by decide))
  refine lv_aload_n hx hb dX1_recall_9 rfl (lv_at hl 0 rfl) ?_
  refine lv_dup hx hb dX1_recall_10 rfl ?_
  refine va_get (D := (dC, dI)) (ci := 1) (v := .int 1) (C := RX1) (T := TX1) (N := 2) hx hb hts (fun _ h => List.mem_cons_of_mem _ (List.mem_append_left _ (List.mem_append_right _ h))) hown hK hP 0 rfl rfl 1 (by decide) (hts (.fieldLink RX1 18 "SharedLine$Past" "size" "I") (List.mem_of_getElem? (i := 1) rfl)) (fun _ h9 => h9) rfl dX1_recall_11 ?_
  refine lv_iconst (v := 1) hx hb dX1_recall_14 (by decide) ?_
  refine lv_isub hx hb dX1_recall_15 ?_
  refine W.eq (g2 := F0 m 16 ls [.int 0, .ref h]) rfl ?_
  refine va_put (D := (dC, dI)) (ci := 1) (v := .int 0) (ty := .int) (C := RX1) (T := TX1) (N := 2) hx hb hts (fun _ h => List.mem_cons_of_mem _ (List.mem_append_left _ (List.mem_append_right _ h))) tyX1 tyX1_ok nmX1 hown hK hP hD hS 0 rfl rfl 1 (by decide) (hts (.fieldLink RX1 18 "SharedLine$Past" "size" "I") (List.mem_of_getElem? (i := 1) rfl)) (fun _ h9 => h9) rfl (tyX1_ok 1 (by decide)) rfl rfl (Nat.le_of_ble_eq_true rfl) dX1_recall_16 (fun H locs hP hD hS => ?_)
  have hP : va_P (dC, dI) vwCl (wQ h hr 0 ++ wR cO hr 6 r ++ wL cI (a 0) (b 0) (F 0) ++ wL cI (a 1) (b 1) (F 1) ++ wL cI (a 2) (b 2) (F 2) ++ wL cI (a 3) (b 3) (F 3) ++ wL cI (a 4) (b 4) (F 4) ++ wL cI (a 5) (b 5) (F 5) ++ wL cI h1 hp1 S1) H := hP
  have hD : va_D A (wQ h hr 0 ++ wR cO hr 6 r ++ wL cI (a 0) (b 0) (F 0) ++ wL cI (a 1) (b 1) (F 1) ++ wL cI (a 2) (b 2) (F 2) ++ wL cI (a 3) (b 3) (F 3) ++ wL cI (a 4) (b 4) (F 4) ++ wL cI (a 5) (b 5) (F 5) ++ wL cI h1 hp1 S1) := hD
  refine lv_aload_n hx hb dX1_recall_19 rfl (lv_at hl 1 rfl) ?_
  refine lv_aload_n hx hb dX1_recall_20 rfl (lv_at hl 0 rfl) ?_
  refine va_get (D := (dC, dI)) (ci := 1) (v := .ref hr) (C := RX1) (T := TX1) (N := 2) hx hb hts (fun _ h => List.mem_cons_of_mem _ (List.mem_append_left _ (List.mem_append_right _ h))) hown hK hP 0 rfl rfl 0 (by decide) (hts (.fieldLink RX1 11 "SharedLine$Past" "lines" "[LSharedLine$Line;") (List.mem_of_getElem? (i := 2) rfl)) (fun _ h9 => h9) rfl dX1_recall_21 ?_
  refine lv_aload_n hx hb dX1_recall_24 rfl (lv_at hl 0 rfl) ?_
  refine va_get (D := (dC, dI)) (ci := 1) (v := .int 0) (C := RX1) (T := TX1) (N := 2) hx hb hts (fun _ h => List.mem_cons_of_mem _ (List.mem_append_left _ (List.mem_append_right _ h))) hown hK hP 0 rfl rfl 1 (by decide) (hts (.fieldLink RX1 18 "SharedLine$Past" "size" "I") (List.mem_of_getElem? (i := 1) rfl)) (fun _ h9 => h9) rfl dX1_recall_25 ?_
  refine vq_aldK (k := 0) (v := (a 0)) hx hb hK hP 1 2 rfl rfl (by decide) (by decide) (by decide) (hra 0 (by decide)) dX1_recall_28 ?_
  refine vq_Vv (As := [.ref (a 0)]) (rest := []) (W2 := (wQ h hr 0 ++ wR cO hr 6 r ++ wL cI (a 0) (b 0) (F 0) ++ wL cI (a 1) (b 1) (F 1) ++ wL cI (a 2) (b 2) (F 2) ++ wL cI (a 3) (b 3) (F 3) ++ wL cI (a 4) (b 4) (F 4) ++ wL cI (a 5) (b 5) (F 5) ++ wL cI h1 hp1 (sX0_copyFrom S1 (F 0)))) hx hb hml hown hts hK hP hD hS hA hE hl.1 (cX0_copyFrom_c l ev dC dI cI cZ cO h1 hp1 S1 (a 0) (b 0) (F 0)) gX1_recall_X0_copyFrom rfl hdX0_copyFrom (Nat.le_of_ble_eq_true rfl) (Nat.le_of_ble_eq_true rfl) rfl rfl (ci := 0) (qr := 14) rfl rfl rfl [14, 15, 2, 3] [0, 1, 4, 5, 6, 7, 8, 9, 10, 11, 12, 13] [0, 1, 14, 15, 2, 3, 4, 5, 6, 7, 8, 9, 10, 11, 12, 13] rfl rfl (by decide) (by decide) (by decide) rfl rfl rfl (Nat.le_of_ble_eq_true rfl) dX1_recall_29 ⟨Nat.zero_le _, Nat.zero_le _⟩ (fun H locs hP hD hS => ?_)
  refine lv_iconst (v := 1) hx hb dX1_recall_32 (by decide) ?_
  exact vq_zret hx hb hr1 hlocks hK hP hD hS rfl rfl dX1_recall_33
set_option maxHeartbeats 4000000 in
set_option maxRecDepth 100000 in
theorem cX1_recall_2 (l : Launch) (ev : Nat → Nat) (dC : Nat → ClassId) (dI : Nat → Nat → Nat) (cI cZ cO : ClassId) (h hr : Nat) (r : Nat → Option Nat) (a b : Nat → Nat) (F : Nat → LSt) (h1 hp1 : Nat) (S1 : LSt) (hra : ∀ i, i < 6 → r i = some (a i)) : MetI l ev (dC, dI) (tyC cI cZ cO) yX1_recall wsX1_recall (rmF 2 100) [.ref h, .ref h1] ((wQ h hr 2 ++ wR cO hr 6 r ++ w6 cI a b F) ++ wL cI h1 hp1 S1) 1 (((wQ h hr 1 ++ wR cO hr 6 r ++ w6 cI a b F)) ++ wL cI h1 hp1 (sX0_copyFrom S1 (F 1))) := by
  refine MetI_of (cc := cX1_recall) (maxL := 2) (ret := (some .boolean)) (by decide) rfl (Nat.le_of_ble_eq_true rfl) ?_
  intro p e s m below meth c A ls hx hb hr1 hml hts hown hlocks hin hK hP hD hA hE hl
  have hown : s.vm.findClass RX1 = some m.cls := hown
  have hl : lv_has ls 2 [(0, .ref h), (1, .ref h1)] := hl
  have hS : va_S A s.heap s.heap [] := va_S.rf
  refine lv_aload_n hx hb dX1_recall_0 rfl (lv_at hl 0 rfl) ?_
  refine va_get (D := (dC, dI)) (ci := 1) (v := .int 2) (C := RX1) (T := TX1) (N := 2) hx hb hts (fun _ h => List.mem_cons_of_mem _ (List.mem_append_left _ (List.mem_append_right _ h))) hown hK hP 0 rfl rfl 1 (by decide) (hts (.fieldLink RX1 18 "SharedLine$Past" "size" "I") (List.mem_of_getElem? (i := 1) rfl)) (fun _ h9 => h9) rfl dX1_recall_1 ?_
  refine lv_if_gt (tgt := 9) hx hb dX1_recall_4 (by decide) (fun c4 => ?_) (fun c4 => absurd c4 (by decide))
  refine lv_aload_n hx hb dX1_recall_9 rfl (lv_at hl 0 rfl) ?_
  refine lv_dup hx hb dX1_recall_10 rfl ?_
  refine va_get (D := (dC, dI)) (ci := 1) (v := .int 2) (C := RX1) (T := TX1) (N := 2) hx hb hts (fun _ h => List.mem_cons_of_mem _ (List.mem_append_left _ (List.mem_append_right _ h))) hown hK hP 0 rfl rfl 1 (by decide) (hts (.fieldLink RX1 18 "SharedLine$Past" "size" "I") (List.mem_of_getElem? (i := 1) rfl)) (fun _ h9 => h9) rfl dX1_recall_11 ?_
  refine lv_iconst (v := 1) hx hb dX1_recall_14 (by decide) ?_
  refine lv_isub hx hb dX1_recall_15 ?_
  refine W.eq (g2 := F0 m 16 ls [.int 1, .ref h]) rfl ?_
  refine va_put (D := (dC, dI)) (ci := 1) (v := .int 1) (ty := .int) (C := RX1) (T := TX1) (N := 2) hx hb hts (fun _ h => List.mem_cons_of_mem _ (List.mem_append_left _ (List.mem_append_right _ h))) tyX1 tyX1_ok nmX1 hown hK hP hD hS 0 rfl rfl 1 (by decide) (hts (.fieldLink RX1 18 "SharedLine$Past" "size" "I") (List.mem_of_getElem? (i := 1) rfl)) (fun _ h9 => h9) rfl (tyX1_ok 1 (by decide)) rfl rfl (Nat.le_of_ble_eq_true rfl) dX1_recall_16 (fun H locs hP hD hS => ?_)
  have hP : va_P (dC, dI) vwCl (wQ h hr 1 ++ wR cO hr 6 r ++ wL cI (a 0) (b 0) (F 0) ++ wL cI (a 1) (b 1) (F 1) ++ wL cI (a 2) (b 2) (F 2) ++ wL cI (a 3) (b 3) (F 3) ++ wL cI (a 4) (b 4) (F 4) ++ wL cI (a 5) (b 5) (F 5) ++ wL cI h1 hp1 S1) H := hP
  have hD : va_D A (wQ h hr 1 ++ wR cO hr 6 r ++ wL cI (a 0) (b 0) (F 0) ++ wL cI (a 1) (b 1) (F 1) ++ wL cI (a 2) (b 2) (F 2) ++ wL cI (a 3) (b 3) (F 3) ++ wL cI (a 4) (b 4) (F 4) ++ wL cI (a 5) (b 5) (F 5) ++ wL cI h1 hp1 S1) := hD
  refine lv_aload_n hx hb dX1_recall_19 rfl (lv_at hl 1 rfl) ?_
  refine lv_aload_n hx hb dX1_recall_20 rfl (lv_at hl 0 rfl) ?_
  refine va_get (D := (dC, dI)) (ci := 1) (v := .ref hr) (C := RX1) (T := TX1) (N := 2) hx hb hts (fun _ h => List.mem_cons_of_mem _ (List.mem_append_left _ (List.mem_append_right _ h))) hown hK hP 0 rfl rfl 0 (by decide) (hts (.fieldLink RX1 11 "SharedLine$Past" "lines" "[LSharedLine$Line;") (List.mem_of_getElem? (i := 2) rfl)) (fun _ h9 => h9) rfl dX1_recall_21 ?_
  refine lv_aload_n hx hb dX1_recall_24 rfl (lv_at hl 0 rfl) ?_
  refine va_get (D := (dC, dI)) (ci := 1) (v := .int 1) (C := RX1) (T := TX1) (N := 2) hx hb hts (fun _ h => List.mem_cons_of_mem _ (List.mem_append_left _ (List.mem_append_right _ h))) hown hK hP 0 rfl rfl 1 (by decide) (hts (.fieldLink RX1 18 "SharedLine$Past" "size" "I") (List.mem_of_getElem? (i := 1) rfl)) (fun _ h9 => h9) rfl dX1_recall_25 ?_
  refine vq_aldK (k := 1) (v := (a 1)) hx hb hK hP 1 2 rfl rfl (by decide) (by decide) (by decide) (hra 1 (by decide)) dX1_recall_28 ?_
  refine vq_Vv (As := [.ref (a 1)]) (rest := []) (W2 := (wQ h hr 1 ++ wR cO hr 6 r ++ wL cI (a 0) (b 0) (F 0) ++ wL cI (a 1) (b 1) (F 1) ++ wL cI (a 2) (b 2) (F 2) ++ wL cI (a 3) (b 3) (F 3) ++ wL cI (a 4) (b 4) (F 4) ++ wL cI (a 5) (b 5) (F 5) ++ wL cI h1 hp1 (sX0_copyFrom S1 (F 1)))) hx hb hml hown hts hK hP hD hS hA hE hl.1 (cX0_copyFrom_c l ev dC dI cI cZ cO h1 hp1 S1 (a 1) (b 1) (F 1)) gX1_recall_X0_copyFrom rfl hdX0_copyFrom (Nat.le_of_ble_eq_true rfl) (Nat.le_of_ble_eq_true rfl) rfl rfl (ci := 0) (qr := 14) rfl rfl rfl [14, 15, 4, 5] [0, 1, 2, 3, 6, 7, 8, 9, 10, 11, 12, 13] [0, 1, 2, 3, 14, 15, 4, 5, 6, 7, 8, 9, 10, 11, 12, 13] rfl rfl (by decide) (by decide) (by decide) rfl rfl rfl (Nat.le_of_ble_eq_true rfl) dX1_recall_29 ⟨Nat.zero_le _, Nat.zero_le _⟩ (fun H locs hP hD hS => ?_)
  refine lv_iconst (v := 1) hx hb dX1_recall_32 (by decide) ?_
  exact vq_zret hx hb hr1 hlocks hK hP hD hS rfl rfl dX1_recall_33
set_option maxHeartbeats 4000000 in
set_option maxRecDepth 100000 in
theorem cX1_recall_3 (l : Launch) (ev : Nat → Nat) (dC : Nat → ClassId) (dI : Nat → Nat → Nat) (cI cZ cO : ClassId) (h hr : Nat) (r : Nat → Option Nat) (a b : Nat → Nat) (F : Nat → LSt) (h1 hp1 : Nat) (S1 : LSt) (hra : ∀ i, i < 6 → r i = some (a i)) : MetI l ev (dC, dI) (tyC cI cZ cO) yX1_recall wsX1_recall (rmF 2 100) [.ref h, .ref h1] ((wQ h hr 3 ++ wR cO hr 6 r ++ w6 cI a b F) ++ wL cI h1 hp1 S1) 1 (((wQ h hr 2 ++ wR cO hr 6 r ++ w6 cI a b F)) ++ wL cI h1 hp1 (sX0_copyFrom S1 (F 2))) := by
  refine MetI_of (cc := cX1_recall) (maxL := 2) (ret := (some .boolean)) (by decide) rfl (Nat.le_of_ble_eq_true rfl) ?_
  intro p e s m below meth c A ls hx hb hr1 hml hts hown hlocks hin hK hP hD hA hE hl
  have hown : s.vm.findClass RX1 = some m.cls := hown
  have hl : lv_has ls 2 [(0, .ref h), (1, .ref h1)] := hl
  have hS : va_S A s.heap s.heap [] := va_S.rf
  refine lv_aload_n hx hb dX1_recall_0 rfl (lv_at hl 0 rfl) ?_
  refine va_get (D := (dC, dI)) (ci := 1) (v := .int 3) (C := RX1) (T := TX1) (N := 2) hx hb hts (fun _ h => List.mem_cons_of_mem _ (List.mem_append_left _ (List.mem_append_right _ h))) hown hK hP 0 rfl rfl 1 (by decide) (hts (.fieldLink RX1 18 "SharedLine$Past" "size" "I") (List.mem_of_getElem? (i := 1) rfl)) (fun _ h9 => h9) rfl dX1_recall_1 ?_
  refine lv_if_gt (tgt := 9) hx hb dX1_recall_4 (by decide) (fun c4 => ?_) (fun c4 => absurd c4 (by decide))
  refine lv_aload_n hx hb dX1_recall_9 rfl (lv_at hl 0 rfl) ?_
  refine lv_dup hx hb dX1_recall_10 rfl ?_
  refine va_get (D := (dC, dI)) (ci := 1) (v := .int 3) (C := RX1) (T := TX1) (N := 2) hx hb hts (fun _ h => List.mem_cons_of_mem _ (List.mem_append_left _ (List.mem_append_right _ h))) hown hK hP 0 rfl rfl 1 (by decide) (hts (.fieldLink RX1 18 "SharedLine$Past" "size" "I") (List.mem_of_getElem? (i := 1) rfl)) (fun _ h9 => h9) rfl dX1_recall_11 ?_
  refine lv_iconst (v := 1) hx hb dX1_recall_14 (by decide) ?_
  refine lv_isub hx hb dX1_recall_15 ?_
  refine W.eq (g2 := F0 m 16 ls [.int 2, .ref h]) rfl ?_
  refine va_put (D := (dC, dI)) (ci := 1) (v := .int 2) (ty := .int) (C := RX1) (T := TX1) (N := 2) hx hb hts (fun _ h => List.mem_cons_of_mem _ (List.mem_append_left _ (List.mem_append_right _ h))) tyX1 tyX1_ok nmX1 hown hK hP hD hS 0 rfl rfl 1 (by decide) (hts (.fieldLink RX1 18 "SharedLine$Past" "size" "I") (List.mem_of_getElem? (i := 1) rfl)) (fun _ h9 => h9) rfl (tyX1_ok 1 (by decide)) rfl rfl (Nat.le_of_ble_eq_true rfl) dX1_recall_16 (fun H locs hP hD hS => ?_)
  have hP : va_P (dC, dI) vwCl (wQ h hr 2 ++ wR cO hr 6 r ++ wL cI (a 0) (b 0) (F 0) ++ wL cI (a 1) (b 1) (F 1) ++ wL cI (a 2) (b 2) (F 2) ++ wL cI (a 3) (b 3) (F 3) ++ wL cI (a 4) (b 4) (F 4) ++ wL cI (a 5) (b 5) (F 5) ++ wL cI h1 hp1 S1) H := hP
  have hD : va_D A (wQ h hr 2 ++ wR cO hr 6 r ++ wL cI (a 0) (b 0) (F 0) ++ wL cI (a 1) (b 1) (F 1) ++ wL cI (a 2) (b 2) (F 2) ++ wL cI (a 3) (b 3) (F 3) ++ wL cI (a 4) (b 4) (F 4) ++ wL cI (a 5) (b 5) (F 5) ++ wL cI h1 hp1 S1) := hD
  refine lv_aload_n hx hb dX1_recall_19 rfl (lv_at hl 1 rfl) ?_
  refine lv_aload_n hx hb dX1_recall_20 rfl (lv_at hl 0 rfl) ?_
  refine va_get (D := (dC, dI)) (ci := 1) (v := .ref hr) (C := RX1) (T := TX1) (N := 2) hx hb hts (fun _ h => List.mem_cons_of_mem _ (List.mem_append_left _ (List.mem_append_right _ h))) hown hK hP 0 rfl rfl 0 (by decide) (hts (.fieldLink RX1 11 "SharedLine$Past" "lines" "[LSharedLine$Line;") (List.mem_of_getElem? (i := 2) rfl)) (fun _ h9 => h9) rfl dX1_recall_21 ?_
  refine lv_aload_n hx hb dX1_recall_24 rfl (lv_at hl 0 rfl) ?_
  refine va_get (D := (dC, dI)) (ci := 1) (v := .int 2) (C := RX1) (T := TX1) (N := 2) hx hb hts (fun _ h => List.mem_cons_of_mem _ (List.mem_append_left _ (List.mem_append_right _ h))) hown hK hP 0 rfl rfl 1 (by decide) (hts (.fieldLink RX1 18 "SharedLine$Past" "size" "I") (List.mem_of_getElem? (i := 1) rfl)) (fun _ h9 => h9) rfl dX1_recall_25 ?_
  refine vq_aldK (k := 2) (v := (a 2)) hx hb hK hP 1 2 rfl rfl (by decide) (by decide) (by decide) (hra 2 (by decide)) dX1_recall_28 ?_
  refine vq_Vv (As := [.ref (a 2)]) (rest := []) (W2 := (wQ h hr 2 ++ wR cO hr 6 r ++ wL cI (a 0) (b 0) (F 0) ++ wL cI (a 1) (b 1) (F 1) ++ wL cI (a 2) (b 2) (F 2) ++ wL cI (a 3) (b 3) (F 3) ++ wL cI (a 4) (b 4) (F 4) ++ wL cI (a 5) (b 5) (F 5) ++ wL cI h1 hp1 (sX0_copyFrom S1 (F 2)))) hx hb hml hown hts hK hP hD hS hA hE hl.1 (cX0_copyFrom_c l ev dC dI cI cZ cO h1 hp1 S1 (a 2) (b 2) (F 2)) gX1_recall_X0_copyFrom rfl hdX0_copyFrom (Nat.le_of_ble_eq_true rfl) (Nat.le_of_ble_eq_true rfl) rfl rfl (ci := 0) (qr := 14) rfl rfl rfl [14, 15, 6, 7] [0, 1, 2, 3, 4, 5, 8, 9, 10, 11, 12, 13] [0, 1, 2, 3, 4, 5, 14, 15, 6, 7, 8, 9, 10, 11, 12, 13] rfl rfl (by decide) (by decide) (by decide) rfl rfl rfl (Nat.le_of_ble_eq_true rfl) dX1_recall_29 ⟨Nat.zero_le _, Nat.zero_le _⟩ (fun H locs hP hD hS => ?_)
  refine lv_iconst (v := 1) hx hb dX1_recall_32 (by decide) ?_
  exact vq_zret hx hb hr1 hlocks hK hP hD hS rfl rfl dX1_recall_33
set_option maxHeartbeats 4000000 in
set_option maxRecDepth 100000 in
theorem cX1_recall_4 (l : Launch) (ev : Nat → Nat) (dC : Nat → ClassId) (dI : Nat → Nat → Nat) (cI cZ cO : ClassId) (h hr : Nat) (r : Nat → Option Nat) (a b : Nat → Nat) (F : Nat → LSt) (h1 hp1 : Nat) (S1 : LSt) (hra : ∀ i, i < 6 → r i = some (a i)) : MetI l ev (dC, dI) (tyC cI cZ cO) yX1_recall wsX1_recall (rmF 2 100) [.ref h, .ref h1] ((wQ h hr 4 ++ wR cO hr 6 r ++ w6 cI a b F) ++ wL cI h1 hp1 S1) 1 (((wQ h hr 3 ++ wR cO hr 6 r ++ w6 cI a b F)) ++ wL cI h1 hp1 (sX0_copyFrom S1 (F 3))) := by
  refine MetI_of (cc := cX1_recall) (maxL := 2) (ret := (some .boolean)) (by decide) rfl (Nat.le_of_ble_eq_true rfl) ?_
  intro p e s m below meth c A ls hx hb hr1 hml hts hown hlocks hin hK hP hD hA hE hl
  have hown : s.vm.findClass RX1 = some m.cls := hown
  have hl : lv_has ls 2 [(0, .ref h), (1, .ref h1)] := hl
  have hS : va_S A s.heap s.heap [] := va_S.rf
  refine lv_aload_n hx hb dX1_recall_0 rfl (lv_at hl 0 rfl) ?_
  refine va_get (D := (dC, dI)) (ci := 1) (v := .int 4) (C := RX1) (T := TX1) (N := 2) hx hb hts (fun _ h => List.mem_cons_of_mem _ (List.mem_append_left _ (List.mem_append_right _ h))) hown hK hP 0 rfl rfl 1 (by decide) (hts (.fieldLink RX1 18 "SharedLine$Past" "size" "I") (List.mem_of_getElem? (i := 1) rfl)) (fun _ h9 => h9) rfl dX1_recall_1 ?_
  refine lv_if_gt (tgt := 9) hx hb dX1_recall_4 (by decide) (fun c4 => ?_) (fun c4 => absurd c4 (by decide))
  refine lv_aload_n hx hb dX1_recall_9 rfl (lv_at hl 0 rfl) ?_
  refine lv_dup hx hb dX1_recall_10 rfl ?_
  refine va_get (D := (dC, dI)) (ci := 1) (v := .int 4) (C := RX1) (T := TX1) (N := 2) hx hb hts (fun _ h => List.mem_cons_of_mem _ (List.mem_append_left _ (List.mem_append_right _ h))) hown hK hP 0 rfl rfl 1 (by decide) (hts (.fieldLink RX1 18 "SharedLine$Past" "size" "I") (List.mem_of_getElem? (i := 1) rfl)) (fun _ h9 => h9) rfl dX1_recall_11 ?_
  refine lv_iconst (v := 1) hx hb dX1_recall_14 (by decide) ?_
  refine lv_isub hx hb dX1_recall_15 ?_
  refine W.eq (g2 := F0 m 16 ls [.int 3, .ref h]) rfl ?_
  refine va_put (D := (dC, dI)) (ci := 1) (v := .int 3) (ty := .int) (C := RX1) (T := TX1) (N := 2) hx hb hts (fun _ h => List.mem_cons_of_mem _ (List.mem_append_left _ (List.mem_append_right _ h))) tyX1 tyX1_ok nmX1 hown hK hP hD hS 0 rfl rfl 1 (by decide) (hts (.fieldLink RX1 18 "SharedLine$Past" "size" "I") (List.mem_of_getElem? (i := 1) rfl)) (fun _ h9 => h9) rfl (tyX1_ok 1 (by decide)) rfl rfl (Nat.le_of_ble_eq_true rfl) dX1_recall_16 (fun H locs hP hD hS => ?_)
  have hP : va_P (dC, dI) vwCl (wQ h hr 3 ++ wR cO hr 6 r ++ wL cI (a 0) (b 0) (F 0) ++ wL cI (a 1) (b 1) (F 1) ++ wL cI (a 2) (b 2) (F 2) ++ wL cI (a 3) (b 3) (F 3) ++ wL cI (a 4) (b 4) (F 4) ++ wL cI (a 5) (b 5) (F 5) ++ wL cI h1 hp1 S1) H := hP
  have hD : va_D A (wQ h hr 3 ++ wR cO hr 6 r ++ wL cI (a 0) (b 0) (F 0) ++ wL cI (a 1) (b 1) (F 1) ++ wL cI (a 2) (b 2) (F 2) ++ wL cI (a 3) (b 3) (F 3) ++ wL cI (a 4) (b 4) (F 4) ++ wL cI (a 5) (b 5) (F 5) ++ wL cI h1 hp1 S1) := hD
  refine lv_aload_n hx hb dX1_recall_19 rfl (lv_at hl 1 rfl) ?_
  refine lv_aload_n hx hb dX1_recall_20 rfl (lv_at hl 0 rfl) ?_
  refine va_get (D := (dC, dI)) (ci := 1) (v := .ref hr) (C := RX1) (T := TX1) (N := 2) hx hb hts (fun _ h => List.mem_cons_of_mem _ (List.mem_append_left _ (List.mem_append_right _ h))) hown hK hP 0 rfl rfl 0 (by decide) (hts (.fieldLink RX1 11 "SharedLine$Past" "lines" "[LSharedLine$Line;") (List.mem_of_getElem? (i := 2) rfl)) (fun _ h9 => h9) rfl dX1_recall_21 ?_
  refine lv_aload_n hx hb dX1_recall_24 rfl (lv_at hl 0 rfl) ?_
  refine va_get (D := (dC, dI)) (ci := 1) (v := .int 3) (C := RX1) (T := TX1) (N := 2) hx hb hts (fun _ h => List.mem_cons_of_mem _ (List.mem_append_left _ (List.mem_append_right _ h))) hown hK hP 0 rfl rfl 1 (by decide) (hts (.fieldLink RX1 18 "SharedLine$Past" "size" "I") (List.mem_of_getElem? (i := 1) rfl)) (fun _ h9 => h9) rfl dX1_recall_25 ?_
  refine vq_aldK (k := 3) (v := (a 3)) hx hb hK hP 1 2 rfl rfl (by decide) (by decide) (by decide) (hra 3 (by decide)) dX1_recall_28 ?_
  refine vq_Vv (As := [.ref (a 3)]) (rest := []) (W2 := (wQ h hr 3 ++ wR cO hr 6 r ++ wL cI (a 0) (b 0) (F 0) ++ wL cI (a 1) (b 1) (F 1) ++ wL cI (a 2) (b 2) (F 2) ++ wL cI (a 3) (b 3) (F 3) ++ wL cI (a 4) (b 4) (F 4) ++ wL cI (a 5) (b 5) (F 5) ++ wL cI h1 hp1 (sX0_copyFrom S1 (F 3)))) hx hb hml hown hts hK hP hD hS hA hE hl.1 (cX0_copyFrom_c l ev dC dI cI cZ cO h1 hp1 S1 (a 3) (b 3) (F 3)) gX1_recall_X0_copyFrom rfl hdX0_copyFrom (Nat.le_of_ble_eq_true rfl) (Nat.le_of_ble_eq_true rfl) rfl rfl (ci := 0) (qr := 14) rfl rfl rfl [14, 15, 8, 9] [0, 1, 2, 3, 4, 5, 6, 7, 10, 11, 12, 13] [0, 1, 2, 3, 4, 5, 6, 7, 14, 15, 8, 9, 10, 11, 12, 13] rfl rfl (by decide) (by decide) (by decide) rfl rfl rfl (Nat.le_of_ble_eq_true rfl) dX1_recall_29 ⟨Nat.zero_le _, Nat.zero_le _⟩ (fun H locs hP hD hS => ?_)
  refine lv_iconst (v := 1) hx hb dX1_recall_32 (by decide) ?_
  exact vq_zret hx hb hr1 hlocks hK hP hD hS rfl rfl dX1_recall_33
set_option maxHeartbeats 4000000 in
set_option maxRecDepth 100000 in
theorem cX1_recall_5 (l : Launch) (ev : Nat → Nat) (dC : Nat → ClassId) (dI : Nat → Nat → Nat) (cI cZ cO : ClassId) (h hr : Nat) (r : Nat → Option Nat) (a b : Nat → Nat) (F : Nat → LSt) (h1 hp1 : Nat) (S1 : LSt) (hra : ∀ i, i < 6 → r i = some (a i)) : MetI l ev (dC, dI) (tyC cI cZ cO) yX1_recall wsX1_recall (rmF 2 100) [.ref h, .ref h1] ((wQ h hr 5 ++ wR cO hr 6 r ++ w6 cI a b F) ++ wL cI h1 hp1 S1) 1 (((wQ h hr 4 ++ wR cO hr 6 r ++ w6 cI a b F)) ++ wL cI h1 hp1 (sX0_copyFrom S1 (F 4))) := by
  refine MetI_of (cc := cX1_recall) (maxL := 2) (ret := (some .boolean)) (by decide) rfl (Nat.le_of_ble_eq_true rfl) ?_
  intro p e s m below meth c A ls hx hb hr1 hml hts hown hlocks hin hK hP hD hA hE hl
  have hown : s.vm.findClass RX1 = some m.cls := hown
  have hl : lv_has ls 2 [(0, .ref h), (1, .ref h1)] := hl
  have hS : va_S A s.heap s.heap [] := va_S.rf
  refine lv_aload_n hx hb dX1_recall_0 rfl (lv_at hl 0 rfl) ?_
  refine va_get (D := (dC, dI)) (ci := 1) (v := .int 5) (C := RX1) (T := TX1) (N := 2) hx hb hts (fun _ h => List.mem_cons_of_mem _ (List.mem_append_left _ (List.mem_append_right _ h))) hown hK hP 0 rfl rfl 1 (by decide) (hts (.fieldLink RX1 18 "SharedLine$Past" "size" "I") (List.mem_of_getElem? (i := 1) rfl)) (fun _ h9 => h9) rfl dX1_recall_1 ?_
  refine lv_if_gt (tgt := 9) hx hb dX1_recall_4 (by decide) (fun c4 => ?_) (fun c4 => absurd c4 (by decide))
  refine lv_aload_n hx hb dX1_recall_9 rfl (lv_at hl 0 rfl) ?_
  refine lv_dup hx hb dX1_recall_10 rfl ?_
  refine va_get (D := (dC, dI)) (ci := 1) (v := .int 5) (C := RX1) (T := TX1) (N := 2) hx hb hts (fun _ h => List.mem_cons_of_mem _ (List.mem_append_left _ (List.mem_append_right _ h))) hown hK hP 0 rfl rfl 1 (by decide) (hts (.fieldLink RX1 18 "SharedLine$Past" "size" "I") (List.mem_of_getElem? (i := 1) rfl)) (fun _ h9 => h9) rfl dX1_recall_11 ?_
  refine lv_iconst (v := 1) hx hb dX1_recall_14 (by decide) ?_
  refine lv_isub hx hb dX1_recall_15 ?_
  refine W.eq (g2 := F0 m 16 ls [.int 4, .ref h]) rfl ?_
  refine va_put (D := (dC, dI)) (ci := 1) (v := .int 4) (ty := .int) (C := RX1) (T := TX1) (N := 2) hx hb hts (fun _ h => List.mem_cons_of_mem _ (List.mem_append_left _ (List.mem_append_right _ h))) tyX1 tyX1_ok nmX1 hown hK hP hD hS 0 rfl rfl 1 (by decide) (hts (.fieldLink RX1 18 "SharedLine$Past" "size" "I") (List.mem_of_getElem? (i := 1) rfl)) (fun _ h9 => h9) rfl (tyX1_ok 1 (by decide)) rfl rfl (Nat.le_of_ble_eq_true rfl) dX1_recall_16 (fun H locs hP hD hS => ?_)
  have hP : va_P (dC, dI) vwCl (wQ h hr 4 ++ wR cO hr 6 r ++ wL cI (a 0) (b 0) (F 0) ++ wL cI (a 1) (b 1) (F 1) ++ wL cI (a 2) (b 2) (F 2) ++ wL cI (a 3) (b 3) (F 3) ++ wL cI (a 4) (b 4) (F 4) ++ wL cI (a 5) (b 5) (F 5) ++ wL cI h1 hp1 S1) H := hP
  have hD : va_D A (wQ h hr 4 ++ wR cO hr 6 r ++ wL cI (a 0) (b 0) (F 0) ++ wL cI (a 1) (b 1) (F 1) ++ wL cI (a 2) (b 2) (F 2) ++ wL cI (a 3) (b 3) (F 3) ++ wL cI (a 4) (b 4) (F 4) ++ wL cI (a 5) (b 5) (F 5) ++ wL cI h1 hp1 S1) := hD
  refine lv_aload_n hx hb dX1_recall_19 rfl (lv_at hl 1 rfl) ?_
  refine lv_aload_n hx hb dX1_recall_20 rfl (lv_at hl 0 rfl) ?_
  refine va_get (D := (dC, dI)) (ci := 1) (v := .ref hr) (C := RX1) (T := TX1) (N := 2) hx hb hts (fun _ h => List.mem_cons_of_mem _ (List.mem_append_left _ (List.mem_append_right _ h))) hown hK hP 0 rfl rfl 0 (by decide) (hts (.fieldLink RX1 11 "SharedLine$Past" "lines" "[LSharedLine$Line;") (List.mem_of_getElem? (i := 2) rfl)) (fun _ h9 => h9) rfl dX1_recall_21 ?_
  refine lv_aload_n hx hb dX1_recall_24 rfl (lv_at hl 0 rfl) ?_
  refine va_get (D := (dC, dI)) (ci := 1) (v := .int 4) (C := RX1) (T := TX1) (N := 2) hx hb hts (fun _ h => List.mem_cons_of_mem _ (List.mem_append_left _ (List.mem_append_right _ h))) hown hK hP 0 rfl rfl 1 (by decide) (hts (.fieldLink RX1 18 "SharedLine$Past" "size" "I") (List.mem_of_getElem? (i := 1) rfl)) (fun _ h9 => h9) rfl dX1_recall_25 ?_
  refine vq_aldK (k := 4) (v := (a 4)) hx hb hK hP 1 2 rfl rfl (by decide) (by decide) (by decide) (hra 4 (by decide)) dX1_recall_28 ?_
  refine vq_Vv (As := [.ref (a 4)]) (rest := []) (W2 := (wQ h hr 4 ++ wR cO hr 6 r ++ wL cI (a 0) (b 0) (F 0) ++ wL cI (a 1) (b 1) (F 1) ++ wL cI (a 2) (b 2) (F 2) ++ wL cI (a 3) (b 3) (F 3) ++ wL cI (a 4) (b 4) (F 4) ++ wL cI (a 5) (b 5) (F 5) ++ wL cI h1 hp1 (sX0_copyFrom S1 (F 4)))) hx hb hml hown hts hK hP hD hS hA hE hl.1 (cX0_copyFrom_c l ev dC dI cI cZ cO h1 hp1 S1 (a 4) (b 4) (F 4)) gX1_recall_X0_copyFrom rfl hdX0_copyFrom (Nat.le_of_ble_eq_true rfl) (Nat.le_of_ble_eq_true rfl) rfl rfl (ci := 0) (qr := 14) rfl rfl rfl [14, 15, 10, 11] [0, 1, 2, 3, 4, 5, 6, 7, 8, 9, 12, 13] [0, 1, 2, 3, 4, 5, 6, 7, 8, 9, 14, 15, 10, 11, 12, 13] rfl rfl (by decide) (by decide) (by decide) rfl rfl rfl (Nat.le_of_ble_eq_true rfl) dX1_recall_29 ⟨Nat.zero_le _, Nat.zero_le _⟩ (fun H locs hP hD hS => ?_)
  refine lv_iconst (v := 1) hx hb dX1_recall_32 (by decide) ?_
  exact vq_zret hx hb hr1 hlocks hK hP hD hS rfl rfl dX1_recall_33
set_option maxHeartbeats 4000000 in
set_option maxRecDepth 100000 in
theorem cX1_recall_6 (l : Launch) (ev : Nat → Nat) (dC : Nat → ClassId) (dI : Nat → Nat → Nat) (cI cZ cO : ClassId) (h hr : Nat) (r : Nat → Option Nat) (a b : Nat → Nat) (F : Nat → LSt) (h1 hp1 : Nat) (S1 : LSt) (hra : ∀ i, i < 6 → r i = some (a i)) : MetI l ev (dC, dI) (tyC cI cZ cO) yX1_recall wsX1_recall (rmF 2 100) [.ref h, .ref h1] ((wQ h hr 6 ++ wR cO hr 6 r ++ w6 cI a b F) ++ wL cI h1 hp1 S1) 1 (((wQ h hr 5 ++ wR cO hr 6 r ++ w6 cI a b F)) ++ wL cI h1 hp1 (sX0_copyFrom S1 (F 5))) := by
  refine MetI_of (cc := cX1_recall) (maxL := 2) (ret := (some .boolean)) (by decide) rfl (Nat.le_of_ble_eq_true rfl) ?_
  intro p e s m below meth c A ls hx hb hr1 hml hts hown hlocks hin hK hP hD hA hE hl
  have hown : s.vm.findClass RX1 = some m.cls := hown
  have hl : lv_has ls 2 [(0, .ref h), (1, .ref h1)] := hl
  have hS : va_S A s.heap s.heap [] := va_S.rf
  refine lv_aload_n hx hb dX1_recall_0 rfl (lv_at hl 0 rfl) ?_
  refine va_get (D := (dC, dI)) (ci := 1) (v := .int 6) (C := RX1) (T := TX1) (N := 2) hx hb hts (fun _ h => List.mem_cons_of_mem _ (List.mem_append_left _ (List.mem_append_right _ h))) hown hK hP 0 rfl rfl 1 (by decide) (hts (.fieldLink RX1 18 "SharedLine$Past" "size" "I") (List.mem_of_getElem? (i := 1) rfl)) (fun _ h9 => h9) rfl dX1_recall_1 ?_
  refine lv_if_gt (tgt := 9) hx hb dX1_recall_4 (by decide) (fun c4 => ?_) (fun c4 => absurd c4 (by decide))
  refine lv_aload_n hx hb dX1_recall_9 rfl (lv_at hl 0 rfl) ?_
  refine lv_dup hx hb dX1_recall_10 rfl ?_
  refine va_get (D := (dC, dI)) (ci := 1) (v := .int 6) (C := RX1) (T := TX1) (N := 2) hx hb hts (fun _ h => List.mem_cons_of_mem _ (List.mem_append_left _ (List.mem_append_right _ h))) hown hK hP 0 rfl rfl 1 (by decide) (hts (.fieldLink RX1 18 "SharedLine$Past" "size" "I") (List.mem_of_getElem? (i := 1) rfl)) (fun _ h9 => h9) rfl dX1_recall_11 ?_
  refine lv_iconst (v := 1) hx hb dX1_recall_14 (by decide) ?_
  refine lv_isub hx hb dX1_recall_15 ?_
  refine W.eq (g2 := F0 m 16 ls [.int 5, .ref h]) rfl ?_
  refine va_put (D := (dC, dI)) (ci := 1) (v := .int 5) (ty := .int) (C := RX1) (T := TX1) (N := 2) hx hb hts (fun _ h => List.mem_cons_of_mem _ (List.mem_append_left _ (List.mem_append_right _ h))) tyX1 tyX1_ok nmX1 hown hK hP hD hS 0 rfl rfl 1 (by decide) (hts (.fieldLink RX1 18 "SharedLine$Past" "size" "I") (List.mem_of_getElem? (i := 1) rfl)) (fun _ h9 => h9) rfl (tyX1_ok 1 (by decide)) rfl rfl (Nat.le_of_ble_eq_true rfl) dX1_recall_16 (fun H locs hP hD hS => ?_)
  have hP : va_P (dC, dI) vwCl (wQ h hr 5 ++ wR cO hr 6 r ++ wL cI (a 0) (b 0) (F 0) ++ wL cI (a 1) (b 1) (F 1) ++ wL cI (a 2) (b 2) (F 2) ++ wL cI (a 3) (b 3) (F 3) ++ wL cI (a 4) (b 4) (F 4) ++ wL cI (a 5) (b 5) (F 5) ++ wL cI h1 hp1 S1) H := hP
  have hD : va_D A (wQ h hr 5 ++ wR cO hr 6 r ++ wL cI (a 0) (b 0) (F 0) ++ wL cI (a 1) (b 1) (F 1) ++ wL cI (a 2) (b 2) (F 2) ++ wL cI (a 3) (b 3) (F 3) ++ wL cI (a 4) (b 4) (F 4) ++ wL cI (a 5) (b 5) (F 5) ++ wL cI h1 hp1 S1) := hD
  refine lv_aload_n hx hb dX1_recall_19 rfl (lv_at hl 1 rfl) ?_
  refine lv_aload_n hx hb dX1_recall_20 rfl (lv_at hl 0 rfl) ?_
  refine va_get (D := (dC, dI)) (ci := 1) (v := .ref hr) (C := RX1) (T := TX1) (N := 2) hx hb hts (fun _ h => List.mem_cons_of_mem _ (List.mem_append_left _ (List.mem_append_right _ h))) hown hK hP 0 rfl rfl 0 (by decide) (hts (.fieldLink RX1 11 "SharedLine$Past" "lines" "[LSharedLine$Line;") (List.mem_of_getElem? (i := 2) rfl)) (fun _ h9 => h9) rfl dX1_recall_21 ?_
  refine lv_aload_n hx hb dX1_recall_24 rfl (lv_at hl 0 rfl) ?_
  refine va_get (D := (dC, dI)) (ci := 1) (v := .int 5) (C := RX1) (T := TX1) (N := 2) hx hb hts (fun _ h => List.mem_cons_of_mem _ (List.mem_append_left _ (List.mem_append_right _ h))) hown hK hP 0 rfl rfl 1 (by decide) (hts (.fieldLink RX1 18 "SharedLine$Past" "size" "I") (List.mem_of_getElem? (i := 1) rfl)) (fun _ h9 => h9) rfl dX1_recall_25 ?_
  refine vq_aldK (k := 5) (v := (a 5)) hx hb hK hP 1 2 rfl rfl (by decide) (by decide) (by decide) (hra 5 (by decide)) dX1_recall_28 ?_
  refine vq_Vv (As := [.ref (a 5)]) (rest := []) (W2 := (wQ h hr 5 ++ wR cO hr 6 r ++ wL cI (a 0) (b 0) (F 0) ++ wL cI (a 1) (b 1) (F 1) ++ wL cI (a 2) (b 2) (F 2) ++ wL cI (a 3) (b 3) (F 3) ++ wL cI (a 4) (b 4) (F 4) ++ wL cI (a 5) (b 5) (F 5) ++ wL cI h1 hp1 (sX0_copyFrom S1 (F 5)))) hx hb hml hown hts hK hP hD hS hA hE hl.1 (cX0_copyFrom_c l ev dC dI cI cZ cO h1 hp1 S1 (a 5) (b 5) (F 5)) gX1_recall_X0_copyFrom rfl hdX0_copyFrom (Nat.le_of_ble_eq_true rfl) (Nat.le_of_ble_eq_true rfl) rfl rfl (ci := 0) (qr := 14) rfl rfl rfl [14, 15, 12, 13] [0, 1, 2, 3, 4, 5, 6, 7, 8, 9, 10, 11] [0, 1, 2, 3, 4, 5, 6, 7, 8, 9, 10, 11, 14, 15, 12, 13] rfl rfl (by decide) (by decide) (by decide) rfl rfl rfl (Nat.le_of_ble_eq_true rfl) dX1_recall_29 ⟨Nat.zero_le _, Nat.zero_le _⟩ (fun H locs hP hD hS => ?_)
  refine lv_iconst (v := 1) hx hb dX1_recall_32 (by decide) ?_
  exact vq_zret hx hb hr1 hlocks hK hP hD hS rfl rfl dX1_recall_33
theorem cX1_recall_c (l : Launch) (ev : Nat → Nat) (dC : Nat → ClassId) (dI : Nat → Nat → Nat) (cI cZ cO : ClassId) (h hr : Nat) (z : Int32) (r : Nat → Option Nat) (a b : Nat → Nat) (F : Nat → LSt) (h1 hp1 : Nat) (S1 : LSt) (hz : ∃ k : Nat, z = nI k ∧ k ≤ 6) (hra : ∀ i, i < 6 → r i = some (a i)) : MetI l ev (dC, dI) (tyC cI cZ cO) yX1_recall wsX1_recall (rmF 2 100) [.ref h, .ref h1] ((wQ h hr z ++ wR cO hr 6 r ++ w6 cI a b F) ++ wL cI h1 hp1 S1) (bI (decide (¬ z = 0))) ((wQ h hr (qz z) ++ wR cO hr 6 r ++ w6 cI a b F) ++ wL cI h1 hp1 (qF z F S1)) := by
  obtain ⟨k, rfl, hk⟩ := hz
  rcases (show k = 0 ∨ k = 1 ∨ k = 2 ∨ k = 3 ∨ k = 4 ∨ k = 5 ∨ k = 6 by omega) with rfl | rfl | rfl | rfl | rfl | rfl | rfl
  · rw [show qz (nI 0) = 0 from rfl, show qF (nI 0) F S1 = S1 from if_pos rfl, show bI (decide (¬ nI 0 = 0)) = 0 from by decide]
    exact cX1_recall_0 l ev dC dI cI cZ cO h hr r a b F h1 hp1 S1 hra
  · rw [show qz (nI 1) = 0 from rfl, show qF (nI 1) F S1 = sX0_copyFrom S1 (F 0) from if_neg (by decide), show bI (decide (¬ nI 1 = 0)) = 1 from by decide]
    exact cX1_recall_1 l ev dC dI cI cZ cO h hr r a b F h1 hp1 S1 hra
  · rw [show qz (nI 2) = 1 from rfl, show qF (nI 2) F S1 = sX0_copyFrom S1 (F 1) from if_neg (by decide), show bI (decide (¬ nI 2 = 0)) = 1 from by decide]
    exact cX1_recall_2 l ev dC dI cI cZ cO h hr r a b F h1 hp1 S1 hra
  · rw [show qz (nI 3) = 2 from rfl, show qF (nI 3) F S1 = sX0_copyFrom S1 (F 2) from if_neg (by decide), show bI (decide (¬ nI 3 = 0)) = 1 from by decide]
    exact cX1_recall_3 l ev dC dI cI cZ cO h hr r a b F h1 hp1 S1 hra
  · rw [show qz (nI 4) = 3 from rfl, show qF (nI 4) F S1 = sX0_copyFrom S1 (F 3) from if_neg (by decide), show bI (decide (¬ nI 4 = 0)) = 1 from by decide]
    exact cX1_recall_4 l ev dC dI cI cZ cO h hr r a b F h1 hp1 S1 hra
  · rw [show qz (nI 5) = 4 from rfl, show qF (nI 5) F S1 = sX0_copyFrom S1 (F 4) from if_neg (by decide), show bI (decide (¬ nI 5 = 0)) = 1 from by decide]
    exact cX1_recall_5 l ev dC dI cI cZ cO h hr r a b F h1 hp1 S1 hra
  · rw [show qz (nI 6) = 5 from rfl, show qF (nI 6) F S1 = sX0_copyFrom S1 (F 5) from if_neg (by decide), show bI (decide (¬ nI 6 = 0)) = 1 from by decide]
    exact cX1_recall_6 l ev dC dI cI cZ cO h hr r a b F h1 hp1 S1 hra
