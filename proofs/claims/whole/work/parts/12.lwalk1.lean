theorem hdJ6_bitCount_0f7a4 : yJ6_bitCount_0f7a4.cls ≠ "java/lang/invoke/MethodHandle" ∧ yJ6_bitCount_0f7a4.cls ≠ "java/lang/invoke/VarHandle" ∧ (parseMethodDescriptor yJ6_bitCount_0f7a4.desc).map (fun d => d.parameters.length) = some 1 := by decide +kernel
set_option maxHeartbeats 4000000 in
set_option maxRecDepth 100000 in
theorem cJ6_bitCount_0f7a4_c (l : Launch) (ev : Nat → Nat) (dC : Nat → ClassId) (dI : Nat → Nat → Nat) (cI cZ cO : ClassId) (p1 : Int32) : MetI l ev (dC, dI) (tyC cI cZ cO) yJ6_bitCount_0f7a4 wsJ6_bitCount_0f7a4 (rmF 0 0) [.int p1] ([] : va_W) (sJ6_bitCount_0f7a4 p1) ([] : va_W) := by
  refine MetI_of (cc := cJ6_bitCount_0f7a4) (maxL := 1) (ret := (some .int)) (by decide) rfl (Nat.le_of_ble_eq_true rfl) ?_
  intro p e s m below meth c A ls hx hb hr hml hts hown hlocks hin hK hP hD hA hE hl
  have hown : s.vm.findClass RJ6 = some m.cls := hown
  have hl : lv_has ls 1 [(0, .int p1)] := hl
  have hS : va_S A s.heap s.heap [] := va_S.rf
  obtain ⟨σ, hσ⟩ : ∃ σ, (sJ6_bitCount_0f7a4 p1) = σ := ⟨_, rfl⟩
  rw [hσ]
  rw [sJ6_bitCount_0f7a4] at hσ
  refine lv_iload_n hx hb dJ6_bitCount_0f7a4_0 rfl (lv_at hl 0 rfl) ?_
  refine lv_iload_n hx hb dJ6_bitCount_0f7a4_1 rfl (lv_at hl 0 rfl) ?_
  refine lv_iconst (v := 1) hx hb dJ6_bitCount_0f7a4_2 (by decide) ?_
  refine lv_iushr (v := ((p1).toUInt32 >>> (((1 : Int32)).toUInt32 &&& Int32.toUInt32 31)).toInt32) hx hb dJ6_bitCount_0f7a4_3 rfl ?_
  refine lv_ldcw (v := 1431655765) hx hb hown (hts (.constant RJ6 265 (1431655765)) (List.mem_of_getElem? (i := 1) rfl)) dJ6_bitCount_0f7a4_4 ?_
  refine lv_iand hx hb dJ6_bitCount_0f7a4_7 ?_
  refine lv_isub hx hb dJ6_bitCount_0f7a4_8 ?_
  refine lv_istore_n (lv' := [(0, .int (p1 - ((((p1).toUInt32 >>> (((1 : Int32)).toUInt32 &&& Int32.toUInt32 31)).toInt32) &&& 1431655765)))]) hx hb dJ6_bitCount_0f7a4_9 rfl hl (by decide) rfl (fun ls hl => ?_)
  refine lv_iload_n hx hb dJ6_bitCount_0f7a4_10 rfl (lv_at hl 0 rfl) ?_
  refine lv_ldcw (v := 858993459) hx hb hown (hts (.constant RJ6 266 (858993459)) (List.mem_of_getElem? (i := 2) rfl)) dJ6_bitCount_0f7a4_11 ?_
  refine lv_iand hx hb dJ6_bitCount_0f7a4_14 ?_
  refine lv_iload_n hx hb dJ6_bitCount_0f7a4_15 rfl (lv_at hl 0 rfl) ?_
  refine lv_iconst (v := 2) hx hb dJ6_bitCount_0f7a4_16 (by decide) ?_
  refine lv_iushr (v := (((p1 - ((((p1).toUInt32 >>> (((1 : Int32)).toUInt32 &&& Int32.toUInt32 31)).toInt32) &&& 1431655765))).toUInt32 >>> (((2 : Int32)).toUInt32 &&& Int32.toUInt32 31)).toInt32) hx hb dJ6_bitCount_0f7a4_17 rfl ?_
  refine lv_ldcw (v := 858993459) hx hb hown (hts (.constant RJ6 266 (858993459)) (List.mem_of_getElem? (i := 2) rfl)) dJ6_bitCount_0f7a4_18 ?_
  refine lv_iand hx hb dJ6_bitCount_0f7a4_21 ?_
  refine lv_iadd hx hb dJ6_bitCount_0f7a4_22 ?_
  refine lv_istore_n (lv' := [(0, .int (((p1 - ((((p1).toUInt32 >>> (((1 : Int32)).toUInt32 &&& Int32.toUInt32 31)).toInt32) &&& 1431655765)) &&& 858993459) + (((((p1 - ((((p1).toUInt32 >>> (((1 : Int32)).toUInt32 &&& Int32.toUInt32 31)).toInt32) &&& 1431655765))).toUInt32 >>> (((2 : Int32)).toUInt32 &&& Int32.toUInt32 31)).toInt32) &&& 858993459)))]) hx hb dJ6_bitCount_0f7a4_23 rfl hl (by decide) rfl (fun ls hl => ?_)
  refine lv_iload_n hx hb dJ6_bitCount_0f7a4_24 rfl (lv_at hl 0 rfl) ?_
  refine lv_iload_n hx hb dJ6_bitCount_0f7a4_25 rfl (lv_at hl 0 rfl) ?_
  refine lv_iconst (v := 4) hx hb dJ6_bitCount_0f7a4_26 (by decide) ?_
  refine lv_iushr (v := (((((p1 - ((((p1).toUInt32 >>> (((1 : Int32)).toUInt32 &&& Int32.toUInt32 31)).toInt32) &&& 1431655765)) &&& 858993459) + (((((p1 - ((((p1).toUInt32 >>> (((1 : Int32)).toUInt32 &&& Int32.toUInt32 31)).toInt32) &&& 1431655765))).toUInt32 >>> (((2 : Int32)).toUInt32 &&& Int32.toUInt32 31)).toInt32) &&& 858993459))).toUInt32 >>> (((4 : Int32)).toUInt32 &&& Int32.toUInt32 31)).toInt32) hx hb dJ6_bitCount_0f7a4_27 rfl ?_
  refine lv_iadd hx hb dJ6_bitCount_0f7a4_28 ?_
  refine lv_ldcw (v := 252645135) hx hb hown (hts (.constant RJ6 267 (252645135)) (List.mem_of_getElem? (i := 3) rfl)) dJ6_bitCount_0f7a4_29 ?_
  refine lv_iand hx hb dJ6_bitCount_0f7a4_32 ?_
  refine lv_istore_n (lv' := [(0, .int (((((p1 - ((((p1).toUInt32 >>> (((1 : Int32)).toUInt32 &&& Int32.toUInt32 31)).toInt32) &&& 1431655765)) &&& 858993459) + (((((p1 - ((((p1).toUInt32 >>> (((1 : Int32)).toUInt32 &&& Int32.toUInt32 31)).toInt32) &&& 1431655765))).toUInt32 >>> (((2 : Int32)).toUInt32 &&& Int32.toUInt32 31)).toInt32) &&& 858993459)) + ((((((p1 - ((((p1).toUInt32 >>> (((1 : Int32)).toUInt32 &&& Int32.toUInt32 31)).toInt32) &&& 1431655765)) &&& 858993459) + (((((p1 - ((((p1).toUInt32 >>> (((1 : Int32)).toUInt32 &&& Int32.toUInt32 31)).toInt32) &&& 1431655765))).toUInt32 >>> (((2 : Int32)).toUInt32 &&& Int32.toUInt32 31)).toInt32) &&& 858993459))).toUInt32 >>> (((4 : Int32)).toUInt32 &&& Int32.toUInt32 31)).toInt32)) &&& 252645135))]) hx hb dJ6_bitCount_0f7a4_33 rfl hl (by decide) rfl (fun ls hl => ?_)
  refine lv_iload_n hx hb dJ6_bitCount_0f7a4_34 rfl (lv_at hl 0 rfl) ?_
  refine lv_iload_n hx hb dJ6_bitCount_0f7a4_35 rfl (lv_at hl 0 rfl) ?_
  refine lv_bipush (v := 8) hx hb dJ6_bitCount_0f7a4_36 (by decide) ?_
  refine lv_iushr (v := (((((((p1 - ((((p1).toUInt32 >>> (((1 : Int32)).toUInt32 &&& Int32.toUInt32 31)).toInt32) &&& 1431655765)) &&& 858993459) + (((((p1 - ((((p1).toUInt32 >>> (((1 : Int32)).toUInt32 &&& Int32.toUInt32 31)).toInt32) &&& 1431655765))).toUInt32 >>> (((2 : Int32)).toUInt32 &&& Int32.toUInt32 31)).toInt32) &&& 858993459)) + ((((((p1 - ((((p1).toUInt32 >>> (((1 : Int32)).toUInt32 &&& Int32.toUInt32 31)).toInt32) &&& 1431655765)) &&& 858993459) + (((((p1 - ((((p1).toUInt32 >>> (((1 : Int32)).toUInt32 &&& Int32.toUInt32 31)).toInt32) &&& 1431655765))).toUInt32 >>> (((2 : Int32)).toUInt32 &&& Int32.toUInt32 31)).toInt32) &&& 858993459))).toUInt32 >>> (((4 : Int32)).toUInt32 &&& Int32.toUInt32 31)).toInt32)) &&& 252645135)).toUInt32 >>> (((8 : Int32)).toUInt32 &&& Int32.toUInt32 31)).toInt32) hx hb dJ6_bitCount_0f7a4_38 rfl ?_
  refine lv_iadd hx hb dJ6_bitCount_0f7a4_39 ?_
  refine lv_istore_n (lv' := [(0, .int ((((((p1 - ((((p1).toUInt32 >>> (((1 : Int32)).toUInt32 &&& Int32.toUInt32 31)).toInt32) &&& 1431655765)) &&& 858993459) + (((((p1 - ((((p1).toUInt32 >>> (((1 : Int32)).toUInt32 &&& Int32.toUInt32 31)).toInt32) &&& 1431655765))).toUInt32 >>> (((2 : Int32)).toUInt32 &&& Int32.toUInt32 31)).toInt32) &&& 858993459)) + ((((((p1 - ((((p1).toUInt32 >>> (((1 : Int32)).toUInt32 &&& Int32.toUInt32 31)).toInt32) &&& 1431655765)) &&& 858993459) + (((((p1 - ((((p1).toUInt32 >>> (((1 : Int32)).toUInt32 &&& Int32.toUInt32 31)).toInt32) &&& 1431655765))).toUInt32 >>> (((2 : Int32)).toUInt32 &&& Int32.toUInt32 31)).toInt32) &&& 858993459))).toUInt32 >>> (((4 : Int32)).toUInt32 &&& Int32.toUInt32 31)).toInt32)) &&& 252645135) + ((((((((p1 - ((((p1).toUInt32 >>> (((1 : Int32)).toUInt32 &&& Int32.toUInt32 31)).toInt32) &&& 1431655765)) &&& 858993459) + (((((p1 - ((((p1).toUInt32 >>> (((1 : Int32)).toUInt32 &&& Int32.toUInt32 31)).toInt32) &&& 1431655765))).toUInt32 >>> (((2 : Int32)).toUInt32 &&& Int32.toUInt32 31)).toInt32) &&& 858993459)) + ((((((p1 - ((((p1).toUInt32 >>> (((1 : Int32)).toUInt32 &&& Int32.toUInt32 31)).toInt32) &&& 1431655765)) &&& 858993459) + (((((p1 - ((((p1).toUInt32 >>> (((1 : Int32)).toUInt32 &&& Int32.toUInt32 31)).toInt32) &&& 1431655765))).toUInt32 >>> (((2 : Int32)).toUInt32 &&& Int32.toUInt32 31)).toInt32) &&& 858993459))).toUInt32 >>> (((4 : Int32)).toUInt32 &&& Int32.toUInt32 31)).toInt32)) &&& 252645135)).toUInt32 >>> (((8 : Int32)).toUInt32 &&& Int32.toUInt32 31)).toInt32)))]) hx hb dJ6_bitCount_0f7a4_40 rfl hl (by decide) rfl (fun ls hl => ?_)
  refine lv_iload_n hx hb dJ6_bitCount_0f7a4_41 rfl (lv_at hl 0 rfl) ?_
  refine lv_iload_n hx hb dJ6_bitCount_0f7a4_42 rfl (lv_at hl 0 rfl) ?_
  refine lv_bipush (v := 16) hx hb dJ6_bitCount_0f7a4_43 (by decide) ?_
  refine lv_iushr (v := ((((((((p1 - ((((p1).toUInt32 >>> (((1 : Int32)).toUInt32 &&& Int32.toUInt32 31)).toInt32) &&& 1431655765)) &&& 858993459) + (((((p1 - ((((p1).toUInt32 >>> (((1 : Int32)).toUInt32 &&& Int32.toUInt32 31)).toInt32) &&& 1431655765))).toUInt32 >>> (((2 : Int32)).toUInt32 &&& Int32.toUInt32 31)).toInt32) &&& 858993459)) + ((((((p1 - ((((p1).toUInt32 >>> (((1 : Int32)).toUInt32 &&& Int32.toUInt32 31)).toInt32) &&& 1431655765)) &&& 858993459) + (((((p1 - ((((p1).toUInt32 >>> (((1 : Int32)).toUInt32 &&& Int32.toUInt32 31)).toInt32) &&& 1431655765))).toUInt32 >>> (((2 : Int32)).toUInt32 &&& Int32.toUInt32 31)).toInt32) &&& 858993459))).toUInt32 >>> (((4 : Int32)).toUInt32 &&& Int32.toUInt32 31)).toInt32)) &&& 252645135) + ((((((((p1 - ((((p1).toUInt32 >>> (((1 : Int32)).toUInt32 &&& Int32.toUInt32 31)).toInt32) &&& 1431655765)) &&& 858993459) + (((((p1 - ((((p1).toUInt32 >>> (((1 : Int32)).toUInt32 &&& Int32.toUInt32 31)).toInt32) &&& 1431655765))).toUInt32 >>> (((2 : Int32)).toUInt32 &&& Int32.toUInt32 31)).toInt32) &&& 858993459)) + ((((((p1 - ((((p1).toUInt32 >>> (((1 : Int32)).toUInt32 &&& Int32.toUInt32 31)).toInt32) &&& 1431655765)) &&& 858993459) + (((((p1 - ((((p1).toUInt32 >>> (((1 : Int32)).toUInt32 &&& Int32.toUInt32 31)).toInt32) &&& 1431655765))).toUInt32 >>> (((2 : Int32)).toUInt32 &&& Int32.toUInt32 31)).toInt32) &&& 858993459))).toUInt32 >>> (((4 : Int32)).toUInt32 &&& Int32.toUInt32 31)).toInt32)) &&& 252645135)).toUInt32 >>> (((8 : Int32)).toUInt32 &&& Int32.toUInt32 31)).toInt32))).toUInt32 >>> (((16 : Int32)).toUInt32 &&& Int32.toUInt32 31)).toInt32) hx hb dJ6_bitCount_0f7a4_45 rfl ?_
  refine lv_iadd hx hb dJ6_bitCount_0f7a4_46 ?_
  refine lv_istore_n (lv' := [(0, .int (((((((p1 - ((((p1).toUInt32 >>> (((1 : Int32)).toUInt32 &&& Int32.toUInt32 31)).toInt32) &&& 1431655765)) &&& 858993459) + (((((p1 - ((((p1).toUInt32 >>> (((1 : Int32)).toUInt32 &&& Int32.toUInt32 31)).toInt32) &&& 1431655765))).toUInt32 >>> (((2 : Int32)).toUInt32 &&& Int32.toUInt32 31)).toInt32) &&& 858993459)) + ((((((p1 - ((((p1).toUInt32 >>> (((1 : Int32)).toUInt32 &&& Int32.toUInt32 31)).toInt32) &&& 1431655765)) &&& 858993459) + (((((p1 - ((((p1).toUInt32 >>> (((1 : Int32)).toUInt32 &&& Int32.toUInt32 31)).toInt32) &&& 1431655765))).toUInt32 >>> (((2 : Int32)).toUInt32 &&& Int32.toUInt32 31)).toInt32) &&& 858993459))).toUInt32 >>> (((4 : Int32)).toUInt32 &&& Int32.toUInt32 31)).toInt32)) &&& 252645135) + ((((((((p1 - ((((p1).toUInt32 >>> (((1 : Int32)).toUInt32 &&& Int32.toUInt32 31)).toInt32) &&& 1431655765)) &&& 858993459) + (((((p1 - ((((p1).toUInt32 >>> (((1 : Int32)).toUInt32 &&& Int32.toUInt32 31)).toInt32) &&& 1431655765))).toUInt32 >>> (((2 : Int32)).toUInt32 &&& Int32.toUInt32 31)).toInt32) &&& 858993459)) + ((((((p1 - ((((p1).toUInt32 >>> (((1 : Int32)).toUInt32 &&& Int32.toUInt32 31)).toInt32) &&& 1431655765)) &&& 858993459) + (((((p1 - ((((p1).toUInt32 >>> (((1 : Int32)).toUInt32 &&& Int32.toUInt32 31)).toInt32) &&& 1431655765))).toUInt32 >>> (((2 : Int32)).toUInt32 &&& Int32.toUInt32 31)).toInt32) &&& 858993459))).toUInt32 >>> (((4 : Int32)).toUInt32 &&& Int32.toUInt32 31)).toInt32)) &&& 252645135)).toUInt32 >>> (((8 : Int32)).toUInt32 &&& Int32.toUInt32 31)).toInt32)) + (((((((((p1 - ((((p1).toUInt32 >>> (((1 : Int32)).toUInt32 &&& Int32.toUInt32 31)).toInt32) &&& 1431655765)) &&& 858993459) + (((((p1 - ((((p1).toUInt32 >>> (((1 : Int32)).toUInt32 &&& Int32.toUInt32 31)).toInt32) &&& 1431655765))).toUInt32 >>> (((2 : Int32)).toUInt32 &&& Int32.toUInt32 31)).toInt32) &&& 858993459)) + ((((((p1 - ((((p1).toUInt32 >>> (((1 : Int32)).toUInt32 &&& Int32.toUInt32 31)).toInt32) &&& 1431655765)) &&& 858993459) + (((((p1 - ((((p1).toUInt32 >>> (((1 : Int32)).toUInt32 &&& Int32.toUInt32 31)).toInt32) &&& 1431655765))).toUInt32 >>> (((2 : Int32)).toUInt32 &&& Int32.toUInt32 31)).toInt32) &&& 858993459))).toUInt32 >>> (((4 : Int32)).toUInt32 &&& Int32.toUInt32 31)).toInt32)) &&& 252645135) + ((((((((p1 - ((((p1).toUInt32 >>> (((1 : Int32)).toUInt32 &&& Int32.toUInt32 31)).toInt32) &&& 1431655765)) &&& 858993459) + (((((p1 - ((((p1).toUInt32 >>> (((1 : Int32)).toUInt32 &&& Int32.toUInt32 31)).toInt32) &&& 1431655765))).toUInt32 >>> (((2 : Int32)).toUInt32 &&& Int32.toUInt32 31)).toInt32) &&& 858993459)) + ((((((p1 - ((((p1).toUInt32 >>> (((1 : Int32)).toUInt32 &&& Int32.toUInt32 31)).toInt32) &&& 1431655765)) &&& 858993459) + (((((p1 - ((((p1).toUInt32 >>> (((1 : Int32)).toUInt32 &&& Int32.toUInt32 31)).toInt32) &&& 1431655765))).toUInt32 >>> (((2 : Int32)).toUInt32 &&& Int32.toUInt32 31)).toInt32) &&& 858993459))).toUInt32 >>> (((4 : Int32)).toUInt32 &&& Int32.toUInt32 31)).toInt32)) &&& 252645135)).toUInt32 >>> (((8 : Int32)).toUInt32 &&& Int32.toUInt32 31)).toInt32))).toUInt32 >>> (((16 : Int32)).toUInt32 &&& Int32.toUInt32 31)).toInt32)))]) hx hb dJ6_bitCount_0f7a4_47 rfl hl (by decide) rfl (fun ls hl => ?_)
  refine lv_iload_n hx hb dJ6_bitCount_0f7a4_48 rfl (lv_at hl 0 rfl) ?_
  refine lv_bipush (v := 63) hx hb dJ6_bitCount_0f7a4_49 (by decide) ?_
  refine lv_iand hx hb dJ6_bitCount_0f7a4_51 ?_
  subst hσ
  exact vq_iret hx hb hr hlocks hK hP hD hS rfl dJ6_bitCount_0f7a4_52
theorem hdJ7_fill_53178 : yJ7_fill_53178.cls ≠ "java/lang/invoke/MethodHandle" ∧ yJ7_fill_53178.cls ≠ "java/lang/invoke/VarHandle" ∧ (parseMethodDescriptor yJ7_fill_53178.desc).map (fun d => d.parameters.length) = some 2 := by decide +kernel
set_option maxHeartbeats 4000000 in
set_option maxRecDepth 100000 in
theorem cJ7_fill_53178_c (l : Launch) (ev : Nat → Nat) (dC : Nat → ClassId) (dI : Nat → Nat → Nat) (cI cZ cO : ClassId) (h : Nat) (n : Nat) (S : (Nat → Int32)) (p2 : Int32) (hn : n < 2 ^ 31) : MetV l ev (dC, dI) (tyC cI cZ cO) yJ7_fill_53178 wsJ7_fill_53178 (rmF 0 0) [.ref h, .int p2] (wA cI h n S) (wA cI h n (sJ7_fill_53178 n S p2)) := by
  refine MetV_of (cc := cJ7_fill_53178) (maxL := 4) (ret := none) (by decide) rfl (Nat.le_of_ble_eq_true rfl) ?_
  intro p e s m below meth c A ls hx hb hr hml hts hown hlocks hin hK hP hD hA hE hl
  have hown : s.vm.findClass RJ7 = some m.cls := hown
  have hl : lv_has ls 4 [(0, .ref h), (1, .int p2)] := hl
  have hS : va_S A s.heap s.heap [] := va_S.rf
  obtain ⟨σ, hσ⟩ : ∃ σ, (sJ7_fill_53178 n S p2) = σ := ⟨_, rfl⟩
  rw [hσ]
  rw [sJ7_fill_53178] at hσ
  refine lv_iconst (v := 0) hx hb dJ7_fill_53178_0 (by decide) ?_
  refine lv_istore_n (lv' := [(2, .int 0), (0, .ref h), (1, .int p2)]) hx hb dJ7_fill_53178_1 rfl hl (by decide) rfl (fun ls hl => ?_)
  refine lv_aload_n hx hb dJ7_fill_53178_2 rfl (lv_at hl 1 rfl) ?_
  refine va_alen hx hb hK hP 0 0 rfl rfl (v := nI n) rfl dJ7_fill_53178_3 ?_
  refine lv_istore_n (lv' := [(3, .int (nI n)), (2, .int 0), (0, .ref h), (1, .int p2)]) hx hb dJ7_fill_53178_4 rfl hl (by decide) rfl (fun ls hl => ?_)
  have key5 : ∀ (n5 : Nat) (x2_5 : Int32) (x3_5 : Int32) (Y_5 : (Nat → Int32)) (k5 : Nat), (x2_5 = nI k5) → (k5 ≤ n) → (n + 1 ≤ n5 + k5) → (x3_5 = nI n) → (sJ7_fill_53178_L5 p2 n5 x2_5 x3_5 Y_5) = σ → ∀ (H : Heap) (locs : List Loc) (ls : Array Slot), va_P (dC, dI) vwCl (wA cI h n Y_5) H → va_D A (wA cI h n Y_5) → va_S A s.heap H locs → lv_has ls 4 [(0, .ref h), (1, .int p2), (2, .int x2_5), (3, .int x3_5)] → W p l e (headSpec wsJ7_fill_53178 (rmF 0 0)).room s m ([.ref h, .int p2] : List Value).toArray below meth c H locs 0 0 (MQ below (va_Qv (fun (_ : Unit) => True) (fun _ t => PoW (dC, dI) (tyC cI cZ cO) A (wA cI h n σ) t) A) ([.ref h, .int p2] : List Value).toArray s 0 0 A) (F0 m 5 ls []) := by
    intro n5
    induction n5 with
    | zero =>
      intro x2_5 x3_5 Y_5 k5 e5 hk5 hn5 l5
      exact absurd hn5 (by omega)
    | succ n5 ih5 =>
      intro x2_5 x3_5 Y_5 k5 e5 hk5 hn5 l5 hσ H locs ls hP hD hS hl
      rw [sJ7_fill_53178_L5_s] at hσ
      refine lv_iload_n hx hb dJ7_fill_53178_5 rfl (lv_at hl 2 rfl) ?_
      refine lv_iload_n hx hb dJ7_fill_53178_6 rfl (lv_at hl 3 rfl) ?_
      refine lv_icmp_ge (tgt := 20) hx hb dJ7_fill_53178_7 (by decide) (fun c7 => ?_) (fun c7 => ?_)
      · rw [if_pos c7] at hσ
        subst hσ
        exact vq_vret hx hb hr hlocks hK hP hD hS dJ7_fill_53178_20
      · rw [if_neg c7] at hσ
        refine lv_aload_n hx hb dJ7_fill_53178_10 rfl (lv_at hl 0 rfl) ?_
        refine lv_iload_n hx hb dJ7_fill_53178_11 rfl (lv_at hl 2 rfl) ?_
        refine lv_iload_n hx hb dJ7_fill_53178_12 rfl (lv_at hl 1 rfl) ?_
        refine va_iast hx hb hK hP hD hS 0 0 rfl rfl (i := x2_5) (up_in e5 (up_lt e5 l5 (by omega) c7) hn) dJ7_fill_53178_13 (fun H locs hP hD hS => ?_)
        have hP : va_P (dC, dI) vwCl (wA cI h n (upd Y_5 (x2_5).toNatClampNeg p2)) H := hP
        have hD : va_D A (wA cI h n (upd Y_5 (x2_5).toNatClampNeg p2)) := hD
        refine lv_iinc (v := (x2_5 + 1)) (lv' := [(2, .int (x2_5 + 1)), (0, .ref h), (1, .int p2), (3, .int x3_5)]) hx hb dJ7_fill_53178_14 hl (k := 2) rfl rfl (by decide) rfl (fun ls hl => ?_)
        refine lv_goto (tgt := 5) hx hb dJ7_fill_53178_17 (by decide) ?_
        exact ih5 (x2_5 + 1) x3_5 (upd Y_5 (x2_5).toNatClampNeg p2) (k5 + 1) (up_s e5) (by have := up_lt e5 l5 (by omega) c7; omega) (by omega) l5 hσ _ _ _ hP hD hS (lv_sub hl [1, 2, 0, 3] rfl)
  exact key5 (n + 1) (0 : Int32) (nI n) S 0 nI_0.symm (Nat.zero_le _) (Nat.le_refl _) rfl hσ _ _ _ hP hD hS (lv_sub hl [2, 3, 1, 0] rfl)
theorem hdX0_hasTick : yX0_hasTick.cls = RX0 ∧ yX0_hasTick.cls ≠ "java/lang/invoke/MethodHandle" ∧ yX0_hasTick.cls ≠ "java/lang/invoke/VarHandle" ∧ (parseMethodDescriptor yX0_hasTick.desc).map (fun d => d.parameters.length) = some 1 := by decide +kernel
set_option maxHeartbeats 4000000 in
set_option maxRecDepth 100000 in
theorem cX0_hasTick_c (l : Launch) (ev : Nat → Nat) (dC : Nat → ClassId) (dI : Nat → Nat → Nat) (cI cZ cO : ClassId) (h : Nat) (hp : Nat) (S : LSt) (p1 : Int32) : MetI l ev (dC, dI) (tyC cI cZ cO) yX0_hasTick wsX0_hasTick (rmF 0 0) [.ref h, .int p1] (wL cI h hp S) (bI (sX0_hasTick S p1)) (wL cI h hp S) := by
  refine MetI_of (cc := cX0_hasTick) (maxL := 2) (ret := (some .boolean)) (by decide) rfl (Nat.le_of_ble_eq_true rfl) ?_
  intro p e s m below meth c A ls hx hb hr hml hts hown hlocks hin hK hP hD hA hE hl
  have hown : s.vm.findClass RX0 = some m.cls := hown
  have hl : lv_has ls 2 [(0, .ref h), (1, .int p1)] := hl
  have hS : va_S A s.heap s.heap [] := va_S.rf
  obtain ⟨σ, hσ⟩ : ∃ σ, (sX0_hasTick S p1) = σ := ⟨_, rfl⟩
  rw [hσ]
  rw [sX0_hasTick] at hσ
  refine lv_iload_n hx hb dX0_hasTick_0 rfl (lv_at hl 1 rfl) ?_
  refine lv_if_lt (tgt := 16) hx hb dX0_hasTick_1 (by decide) (fun c1 => ?_) (fun c1 => ?_)
  · rw [if_pos c1] at hσ
    refine lv_iconst (v := 0) hx hb dX0_hasTick_16 (by decide) ?_
    subst hσ
    exact vq_zret hx hb hr hlocks hK hP hD hS rfl rfl dX0_hasTick_17
  · rw [if_neg c1] at hσ
    refine lv_iload_n hx hb dX0_hasTick_4 rfl (lv_at hl 1 rfl) ?_
    refine lv_aload_n hx hb dX0_hasTick_5 rfl (lv_at hl 0 rfl) ?_
    refine va_get (D := (dC, dI)) (ci := 0) (v := .int (S.1 0)) (C := RX0) (T := TX0) (N := 7) hx hb hts (fun _ h => List.mem_cons_of_mem _ (List.mem_append_right _ h)) hown hK hP 0 rfl rfl 1 (by decide) (hts (.fieldLink RX0 24 "SharedLine$Line" "ticks" "I") (List.mem_of_getElem? (i := 1) rfl)) (fun _ h9 => h9) rfl dX0_hasTick_6 ?_
    refine lv_icmp_ge (tgt := 16) hx hb dX0_hasTick_9 (by decide) (fun c9 => ?_) (fun c9 => ?_)
    · rw [if_pos c9] at hσ
      refine lv_iconst (v := 0) hx hb dX0_hasTick_16 (by decide) ?_
      subst hσ
      exact vq_zret hx hb hr hlocks hK hP hD hS rfl rfl dX0_hasTick_17
    · rw [if_neg c9] at hσ
      refine lv_iconst (v := 1) hx hb dX0_hasTick_12 (by decide) ?_
      refine lv_goto (tgt := 17) hx hb dX0_hasTick_13 (by decide) ?_
      subst hσ
      exact vq_zret hx hb hr hlocks hK hP hD hS rfl rfl dX0_hasTick_17
theorem hdX0_hasNote : yX0_hasNote.cls = RX0 ∧ yX0_hasNote.cls ≠ "java/lang/invoke/MethodHandle" ∧ yX0_hasNote.cls ≠ "java/lang/invoke/VarHandle" ∧ (parseMethodDescriptor yX0_hasNote.desc).map (fun d => d.parameters.length) = some 1 := by decide +kernel
set_option maxHeartbeats 4000000 in
set_option maxRecDepth 100000 in
theorem cX0_hasNote_c (l : Launch) (ev : Nat → Nat) (dC : Nat → ClassId) (dI : Nat → Nat → Nat) (cI cZ cO : ClassId) (h : Nat) (hp : Nat) (S : LSt) (p1 : Int32) : MetI l ev (dC, dI) (tyC cI cZ cO) yX0_hasNote wsX0_hasNote (rmF 0 0) [.ref h, .int p1] (wL cI h hp S) (bI (sX0_hasNote S p1)) (wL cI h hp S) := by
  refine MetI_of (cc := cX0_hasNote) (maxL := 2) (ret := (some .boolean)) (by decide) rfl (Nat.le_of_ble_eq_true rfl) ?_
  intro p e s m below meth c A ls hx hb hr hml hts hown hlocks hin hK hP hD hA hE hl
  have hown : s.vm.findClass RX0 = some m.cls := hown
  have hl : lv_has ls 2 [(0, .ref h), (1, .int p1)] := hl
  have hS : va_S A s.heap s.heap [] := va_S.rf
  obtain ⟨σ, hσ⟩ : ∃ σ, (sX0_hasNote S p1) = σ := ⟨_, rfl⟩
  rw [hσ]
  rw [sX0_hasNote] at hσ
  refine lv_iload_n hx hb dX0_hasNote_0 rfl (lv_at hl 1 rfl) ?_
  refine lv_if_lt (tgt := 28) hx hb dX0_hasNote_1 (by decide) (fun c1 => ?_) (fun c1 => ?_)
  · rw [if_pos c1] at hσ
    refine lv_iconst (v := 0) hx hb dX0_hasNote_28 (by decide) ?_
    subst hσ
    exact vq_zret hx hb hr hlocks hK hP hD hS rfl rfl dX0_hasNote_29
  · rw [if_neg c1] at hσ
    refine lv_iload_n hx hb dX0_hasNote_4 rfl (lv_at hl 1 rfl) ?_
    refine lv_aload_n hx hb dX0_hasNote_5 rfl (lv_at hl 0 rfl) ?_
    refine va_get (D := (dC, dI)) (ci := 0) (v := .int (S.1 0)) (C := RX0) (T := TX0) (N := 7) hx hb hts (fun _ h => List.mem_cons_of_mem _ (List.mem_append_right _ h)) hown hK hP 0 rfl rfl 1 (by decide) (hts (.fieldLink RX0 24 "SharedLine$Line" "ticks" "I") (List.mem_of_getElem? (i := 1) rfl)) (fun _ h9 => h9) rfl dX0_hasNote_6 ?_
    refine lv_icmp_ge (tgt := 28) hx hb dX0_hasNote_9 (by decide) (fun c9 => ?_) (fun c9 => ?_)
    · rw [if_pos c9] at hσ
      refine lv_iconst (v := 0) hx hb dX0_hasNote_28 (by decide) ?_
      subst hσ
      exact vq_zret hx hb hr hlocks hK hP hD hS rfl rfl dX0_hasNote_29
    · rw [if_neg c9] at hσ
      refine lv_aload_n hx hb dX0_hasNote_12 rfl (lv_at hl 0 rfl) ?_
      refine va_get (D := (dC, dI)) (ci := 0) (v := .int (S.1 1)) (C := RX0) (T := TX0) (N := 7) hx hb hts (fun _ h => List.mem_cons_of_mem _ (List.mem_append_right _ h)) hown hK hP 0 rfl rfl 2 (by decide) (hts (.fieldLink RX0 28 "SharedLine$Line" "notes" "I") (List.mem_of_getElem? (i := 2) rfl)) (fun _ h9 => h9) rfl dX0_hasNote_13 ?_
      refine lv_iload_n hx hb dX0_hasNote_16 rfl (lv_at hl 1 rfl) ?_
      refine lv_ishr hx hb dX0_hasNote_17 ?_
      refine lv_iconst (v := 1) hx hb dX0_hasNote_18 (by decide) ?_
      refine lv_iand hx hb dX0_hasNote_19 ?_
      refine lv_iconst (v := 1) hx hb dX0_hasNote_20 (by decide) ?_
      refine lv_icmp_ne (tgt := 28) hx hb dX0_hasNote_21 (by decide) (fun c21 => ?_) (fun c21 => ?_)
      · rw [if_neg c21] at hσ
        refine lv_iconst (v := 0) hx hb dX0_hasNote_28 (by decide) ?_
        subst hσ
        exact vq_zret hx hb hr hlocks hK hP hD hS rfl rfl dX0_hasNote_29
      · rw [if_pos c21] at hσ
        refine lv_iconst (v := 1) hx hb dX0_hasNote_24 (by decide) ?_
        refine lv_goto (tgt := 29) hx hb dX0_hasNote_25 (by decide) ?_
        subst hσ
        exact vq_zret hx hb hr hlocks hK hP hD hS rfl rfl dX0_hasNote_29
theorem hdX0_handAt : yX0_handAt.cls = RX0 ∧ yX0_handAt.cls ≠ "java/lang/invoke/MethodHandle" ∧ yX0_handAt.cls ≠ "java/lang/invoke/VarHandle" ∧ (parseMethodDescriptor yX0_handAt.desc).map (fun d => d.parameters.length) = some 1 := by decide +kernel
set_option maxHeartbeats 4000000 in
set_option maxRecDepth 100000 in
theorem cX0_handAt_c (l : Launch) (ev : Nat → Nat) (dC : Nat → ClassId) (dI : Nat → Nat → Nat) (cI cZ cO : ClassId) (h : Nat) (hp : Nat) (S : LSt) (p1 : Int32) : MetI l ev (dC, dI) (tyC cI cZ cO) yX0_handAt wsX0_handAt (rmF 0 0) [.ref h, .int p1] (wL cI h hp S) (sX0_handAt S p1) (wL cI h hp S) := by
  refine MetI_of (cc := cX0_handAt) (maxL := 2) (ret := (some .int)) (by decide) rfl (Nat.le_of_ble_eq_true rfl) ?_
  intro p e s m below meth c A ls hx hb hr hml hts hown hlocks hin hK hP hD hA hE hl
  have hown : s.vm.findClass RX0 = some m.cls := hown
  have hl : lv_has ls 2 [(0, .ref h), (1, .int p1)] := hl
  have hS : va_S A s.heap s.heap [] := va_S.rf
  obtain ⟨σ, hσ⟩ : ∃ σ, (sX0_handAt S p1) = σ := ⟨_, rfl⟩
  rw [hσ]
  rw [sX0_handAt] at hσ
  refine lv_aload_n hx hb dX0_handAt_0 rfl (lv_at hl 0 rfl) ?_
  refine va_get (D := (dC, dI)) (ci := 0) (v := .int (S.1 2)) (C := RX0) (T := TX0) (N := 7) hx hb hts (fun _ h => List.mem_cons_of_mem _ (List.mem_append_right _ h)) hown hK hP 0 rfl rfl 3 (by decide) (hts (.fieldLink RX0 31 "SharedLine$Line" "hands" "I") (List.mem_of_getElem? (i := 1) rfl)) (fun _ h9 => h9) rfl dX0_handAt_1 ?_
  refine lv_iload_n hx hb dX0_handAt_4 rfl (lv_at hl 1 rfl) ?_
  refine lv_ishr hx hb dX0_handAt_5 ?_
  refine lv_iconst (v := 1) hx hb dX0_handAt_6 (by decide) ?_
  refine lv_iand hx hb dX0_handAt_7 ?_
  subst hσ
  exact vq_iret hx hb hr hlocks hK hP hD hS rfl dX0_handAt_8
theorem hdX0_notesOf : yX0_notesOf.cls = RX0 ∧ yX0_notesOf.cls ≠ "java/lang/invoke/MethodHandle" ∧ yX0_notesOf.cls ≠ "java/lang/invoke/VarHandle" ∧ (parseMethodDescriptor yX0_notesOf.desc).map (fun d => d.parameters.length) = some 1 := by decide +kernel
set_option maxHeartbeats 4000000 in
set_option maxRecDepth 100000 in
theorem cX0_notesOf_c (l : Launch) (ev : Nat → Nat) (dC : Nat → ClassId) (dI : Nat → Nat → Nat) (cI cZ cO : ClassId) (h : Nat) (hp : Nat) (S : LSt) (p1 : Int32) : MetI l ev (dC, dI) (tyC cI cZ cO) yX0_notesOf wsX0_notesOf (rmF 0 0) [.ref h, .int p1] (wL cI h hp S) (sX0_notesOf S p1) (wL cI h hp S) := by
  refine MetI_of (cc := cX0_notesOf) (maxL := 2) (ret := (some .int)) (by decide) rfl (Nat.le_of_ble_eq_true rfl) ?_
  intro p e s m below meth c A ls hx hb hr hml hts hown hlocks hin hK hP hD hA hE hl
  have hown : s.vm.findClass RX0 = some m.cls := hown
  have hl : lv_has ls 2 [(0, .ref h), (1, .int p1)] := hl
  have hS : va_S A s.heap s.heap [] := va_S.rf
  obtain ⟨σ, hσ⟩ : ∃ σ, (sX0_notesOf S p1) = σ := ⟨_, rfl⟩
  rw [hσ]
  rw [sX0_notesOf] at hσ
  refine lv_iload_n hx hb dX0_notesOf_0 rfl (lv_at hl 1 rfl) ?_
  refine lv_if_ne (tgt := 18) hx hb dX0_notesOf_1 (by decide) (fun c1 => ?_) (fun c1 => ?_)
  · rw [if_neg c1] at hσ
    refine lv_aload_n hx hb dX0_notesOf_18 rfl (lv_at hl 0 rfl) ?_
    refine va_get (D := (dC, dI)) (ci := 0) (v := .int (S.1 2)) (C := RX0) (T := TX0) (N := 7) hx hb hts (fun _ h => List.mem_cons_of_mem _ (List.mem_append_right _ h)) hown hK hP 0 rfl rfl 3 (by decide) (hts (.fieldLink RX0 31 "SharedLine$Line" "hands" "I") (List.mem_of_getElem? (i := 2) rfl)) (fun _ h9 => h9) rfl dX0_notesOf_19 ?_
    subst hσ
    exact vq_iret hx hb hr hlocks hK hP hD hS rfl dX0_notesOf_22
  · rw [if_pos c1] at hσ
    refine lv_aload_n hx hb dX0_notesOf_4 rfl (lv_at hl 0 rfl) ?_
    refine va_get (D := (dC, dI)) (ci := 0) (v := .int (S.1 1)) (C := RX0) (T := TX0) (N := 7) hx hb hts (fun _ h => List.mem_cons_of_mem _ (List.mem_append_right _ h)) hown hK hP 0 rfl rfl 2 (by decide) (hts (.fieldLink RX0 28 "SharedLine$Line" "notes" "I") (List.mem_of_getElem? (i := 1) rfl)) (fun _ h9 => h9) rfl dX0_notesOf_5 ?_
    refine lv_aload_n hx hb dX0_notesOf_8 rfl (lv_at hl 0 rfl) ?_
    refine va_get (D := (dC, dI)) (ci := 0) (v := .int (S.1 2)) (C := RX0) (T := TX0) (N := 7) hx hb hts (fun _ h => List.mem_cons_of_mem _ (List.mem_append_right _ h)) hown hK hP 0 rfl rfl 3 (by decide) (hts (.fieldLink RX0 31 "SharedLine$Line" "hands" "I") (List.mem_of_getElem? (i := 2) rfl)) (fun _ h9 => h9) rfl dX0_notesOf_9 ?_
    refine lv_iconst (v := (-1)) hx hb dX0_notesOf_12 (by decide) ?_
    refine lv_ixor hx hb dX0_notesOf_13 ?_
    refine lv_iand hx hb dX0_notesOf_14 ?_
    refine lv_goto (tgt := 22) hx hb dX0_notesOf_15 (by decide) ?_
    subst hσ
    exact vq_iret hx hb hr hlocks hK hP hD hS rfl dX0_notesOf_22
theorem hdX0_isTooSoon : yX0_isTooSoon.cls = RX0 ∧ yX0_isTooSoon.cls ≠ "java/lang/invoke/MethodHandle" ∧ yX0_isTooSoon.cls ≠ "java/lang/invoke/VarHandle" ∧ (parseMethodDescriptor yX0_isTooSoon.desc).map (fun d => d.parameters.length) = some 2 := by decide +kernel
set_option maxHeartbeats 4000000 in
set_option maxRecDepth 100000 in
theorem cX0_isTooSoon_c (l : Launch) (ev : Nat → Nat) (dC : Nat → ClassId) (dI : Nat → Nat → Nat) (cI cZ cO : ClassId) (h : Nat) (hp : Nat) (S : LSt) (p1 : Int32) (p2 : Int32) : MetI l ev (dC, dI) (tyC cI cZ cO) yX0_isTooSoon wsX0_isTooSoon (rmF 0 0) [.ref h, .int p1, .int p2] (wL cI h hp S) (bI (sX0_isTooSoon S p1 p2)) (wL cI h hp S) := by
  refine MetI_of (cc := cX0_isTooSoon) (maxL := 3) (ret := (some .boolean)) (by decide) rfl (Nat.le_of_ble_eq_true rfl) ?_
  intro p e s m below meth c A ls hx hb hr hml hts hown hlocks hin hK hP hD hA hE hl
  have hown : s.vm.findClass RX0 = some m.cls := hown
  have hl : lv_has ls 3 [(0, .ref h), (1, .int p1), (2, .int p2)] := hl
  have hS : va_S A s.heap s.heap [] := va_S.rf
  obtain ⟨σ, hσ⟩ : ∃ σ, (sX0_isTooSoon S p1 p2) = σ := ⟨_, rfl⟩
  rw [hσ]
  rw [sX0_isTooSoon] at hσ
  refine lv_iload_n hx hb dX0_isTooSoon_0 rfl (lv_at hl 2 rfl) ?_
  refine lv_iload_n hx hb dX0_isTooSoon_1 rfl (lv_at hl 1 rfl) ?_
  refine lv_isub hx hb dX0_isTooSoon_2 ?_
  refine lv_aload_n hx hb dX0_isTooSoon_3 rfl (lv_at hl 0 rfl) ?_
  refine va_get (D := (dC, dI)) (ci := 0) (v := .int (S.1 3)) (C := RX0) (T := TX0) (N := 7) hx hb hts (fun _ h => List.mem_cons_of_mem _ (List.mem_append_right _ h)) hown hK hP 0 rfl rfl 4 (by decide) (hts (.fieldLink RX0 37 "SharedLine$Line" "wait" "I") (List.mem_of_getElem? (i := 1) rfl)) (fun _ h9 => h9) rfl dX0_isTooSoon_4 ?_
  refine lv_icmp_ge (tgt := 14) hx hb dX0_isTooSoon_7 (by decide) (fun c7 => ?_) (fun c7 => ?_)
  · rw [if_pos c7] at hσ
    refine lv_iconst (v := 0) hx hb dX0_isTooSoon_14 (by decide) ?_
    subst hσ
    exact vq_zret hx hb hr hlocks hK hP hD hS rfl rfl dX0_isTooSoon_15
  · rw [if_neg c7] at hσ
    refine lv_iconst (v := 1) hx hb dX0_isTooSoon_10 (by decide) ?_
    refine lv_goto (tgt := 15) hx hb dX0_isTooSoon_11 (by decide) ?_
    subst hσ
    exact vq_zret hx hb hr hlocks hK hP hD hS rfl rfl dX0_isTooSoon_15
theorem hdX0_number : yX0_number.cls = RX0 ∧ yX0_number.cls ≠ "java/lang/invoke/MethodHandle" ∧ yX0_number.cls ≠ "java/lang/invoke/VarHandle" ∧ (parseMethodDescriptor yX0_number.desc).map (fun d => d.parameters.length) = some 1 := by decide +kernel
set_option maxHeartbeats 4000000 in
set_option maxRecDepth 100000 in
theorem cX0_number_c (l : Launch) (ev : Nat → Nat) (dC : Nat → ClassId) (dI : Nat → Nat → Nat) (cI cZ cO : ClassId) (h : Nat) (hp : Nat) (S : LSt) (p1 : Int32) : MetI l ev (dC, dI) (tyC cI cZ cO) yX0_number wsX0_number (rmF 0 0) [.ref h, .int p1] (wL cI h hp S) (sX0_number S p1) (wL cI h hp S) := by
  refine MetI_of (cc := cX0_number) (maxL := 2) (ret := (some .int)) (by decide) rfl (Nat.le_of_ble_eq_true rfl) ?_
  intro p e s m below meth c A ls hx hb hr hml hts hown hlocks hin hK hP hD hA hE hl
  have hown : s.vm.findClass RX0 = some m.cls := hown
  have hl : lv_has ls 2 [(0, .ref h), (1, .int p1)] := hl
  have hS : va_S A s.heap s.heap [] := va_S.rf
  obtain ⟨σ, hσ⟩ : ∃ σ, (sX0_number S p1) = σ := ⟨_, rfl⟩
  rw [hσ]
  rw [sX0_number] at hσ
  refine lv_iload_n hx hb dX0_number_0 rfl (lv_at hl 1 rfl) ?_
  by_cases c1_0 : p1 = 0
  · rw [if_pos c1_0] at hσ
    refine lv_lookup (x := p1) (off := 27) (tgt := 28) hx hb dX0_number_1 (by decide) (by rw [c1_0]; decide) (by decide) ?_
    refine lv_aload_n hx hb dX0_number_28 rfl (lv_at hl 0 rfl) ?_
    refine va_get (D := (dC, dI)) (ci := 0) (v := .int (S.1 3)) (C := RX0) (T := TX0) (N := 7) hx hb hts (fun _ h => List.mem_cons_of_mem _ (List.mem_append_right _ h)) hown hK hP 0 rfl rfl 4 (by decide) (hts (.fieldLink RX0 37 "SharedLine$Line" "wait" "I") (List.mem_of_getElem? (i := 1) rfl)) (fun _ h9 => h9) rfl dX0_number_29 ?_
    subst hσ
    exact vq_iret hx hb hr hlocks hK hP hD hS rfl dX0_number_32
  · rw [if_neg c1_0] at hσ
    by_cases c1_1 : p1 = 1
    · rw [if_pos c1_1] at hσ
      refine lv_lookup (x := p1) (off := 32) (tgt := 33) hx hb dX0_number_1 (by decide) (by rw [c1_1]; decide) (by decide) ?_
      refine lv_aload_n hx hb dX0_number_33 rfl (lv_at hl 0 rfl) ?_
      refine va_get (D := (dC, dI)) (ci := 0) (v := .int (S.1 4)) (C := RX0) (T := TX0) (N := 7) hx hb hts (fun _ h => List.mem_cons_of_mem _ (List.mem_append_right _ h)) hown hK hP 0 rfl rfl 5 (by decide) (hts (.fieldLink RX0 40 "SharedLine$Line" "reach" "I") (List.mem_of_getElem? (i := 2) rfl)) (fun _ h9 => h9) rfl dX0_number_34 ?_
      subst hσ
      exact vq_iret hx hb hr hlocks hK hP hD hS rfl dX0_number_37
    · rw [if_neg c1_1] at hσ
      refine lv_lookup (x := p1) (off := 37) (tgt := 38) hx hb dX0_number_1 (by decide) (by rw [show (#[(0, 27), (1, 32)] : Array (Int × Int)).toList = [(0, 27), (1, 32)] from rfl, lv_osw c1_0 (by decide), lv_osw c1_1 (by decide)]; rfl) (by decide) ?_
      refine lv_aload_n hx hb dX0_number_38 rfl (lv_at hl 0 rfl) ?_
      refine va_get (D := (dC, dI)) (ci := 0) (v := .int (S.1 5)) (C := RX0) (T := TX0) (N := 7) hx hb hts (fun _ h => List.mem_cons_of_mem _ (List.mem_append_right _ h)) hown hK hP 0 rfl rfl 6 (by decide) (hts (.fieldLink RX0 43 "SharedLine$Line" "bar" "I") (List.mem_of_getElem? (i := 3) rfl)) (fun _ h9 => h9) rfl dX0_number_39 ?_
      subst hσ
      exact vq_iret hx hb hr hlocks hK hP hD hS rfl dX0_number_42
theorem hdX0_setNumber : yX0_setNumber.cls = RX0 ∧ yX0_setNumber.cls ≠ "java/lang/invoke/MethodHandle" ∧ yX0_setNumber.cls ≠ "java/lang/invoke/VarHandle" ∧ (parseMethodDescriptor yX0_setNumber.desc).map (fun d => d.parameters.length) = some 2 := by decide +kernel
set_option maxHeartbeats 4000000 in
set_option maxRecDepth 100000 in
theorem cX0_setNumber_c (l : Launch) (ev : Nat → Nat) (dC : Nat → ClassId) (dI : Nat → Nat → Nat) (cI cZ cO : ClassId) (h : Nat) (hp : Nat) (S : LSt) (p1 : Int32) (p2 : Int32) : MetV l ev (dC, dI) (tyC cI cZ cO) yX0_setNumber wsX0_setNumber (rmF 0 0) [.ref h, .int p1, .int p2] (wL cI h hp S) (wL cI h hp (sX0_setNumber S p1 p2)) := by
  refine MetV_of (cc := cX0_setNumber) (maxL := 3) (ret := none) (by decide) rfl (Nat.le_of_ble_eq_true rfl) ?_
  intro p e s m below meth c A ls hx hb hr hml hts hown hlocks hin hK hP hD hA hE hl
  have hown : s.vm.findClass RX0 = some m.cls := hown
  have hl : lv_has ls 3 [(0, .ref h), (1, .int p1), (2, .int p2)] := hl
  have hS : va_S A s.heap s.heap [] := va_S.rf
  obtain ⟨σ, hσ⟩ : ∃ σ, (sX0_setNumber S p1 p2) = σ := ⟨_, rfl⟩
  rw [hσ]
  rw [sX0_setNumber] at hσ
  refine lv_iload_n hx hb dX0_setNumber_0 rfl (lv_at hl 1 rfl) ?_
  by_cases c1_0 : p1 = 0
  · rw [if_pos c1_0] at hσ
    refine lv_lookup (x := p1) (off := 27) (tgt := 28) hx hb dX0_setNumber_1 (by decide) (by rw [c1_0]; decide) (by decide) ?_
    refine lv_aload_n hx hb dX0_setNumber_28 rfl (lv_at hl 0 rfl) ?_
    refine lv_iload_n hx hb dX0_setNumber_29 rfl (lv_at hl 2 rfl) ?_
    refine va_put (D := (dC, dI)) (ci := 0) (v := .int p2) (ty := .int) (C := RX0) (T := TX0) (N := 7) hx hb hts (fun _ h => List.mem_cons_of_mem _ (List.mem_append_right _ h)) tyX0 tyX0_ok nmX0 hown hK hP hD hS 0 rfl rfl 4 (by decide) (hts (.fieldLink RX0 37 "SharedLine$Line" "wait" "I") (List.mem_of_getElem? (i := 1) rfl)) (fun _ h9 => h9) rfl (tyX0_ok 4 (by decide)) rfl rfl (Nat.le_of_ble_eq_true rfl) dX0_setNumber_30 (fun H locs hP hD hS => ?_)
    have hP : va_P (dC, dI) vwCl (wL cI h hp ((upd S.1 3 p2), S.2)) H := hP
    have hD : va_D A (wL cI h hp ((upd S.1 3 p2), S.2)) := hD
    refine lv_goto (tgt := 49) hx hb dX0_setNumber_33 (by decide) ?_
    subst hσ
    exact vq_vret hx hb hr hlocks hK hP hD hS dX0_setNumber_49
  · rw [if_neg c1_0] at hσ
    by_cases c1_1 : p1 = 1
    · rw [if_pos c1_1] at hσ
      refine lv_lookup (x := p1) (off := 35) (tgt := 36) hx hb dX0_setNumber_1 (by decide) (by rw [c1_1]; decide) (by decide) ?_
      refine lv_aload_n hx hb dX0_setNumber_36 rfl (lv_at hl 0 rfl) ?_
      refine lv_iload_n hx hb dX0_setNumber_37 rfl (lv_at hl 2 rfl) ?_
      refine va_put (D := (dC, dI)) (ci := 0) (v := .int p2) (ty := .int) (C := RX0) (T := TX0) (N := 7) hx hb hts (fun _ h => List.mem_cons_of_mem _ (List.mem_append_right _ h)) tyX0 tyX0_ok nmX0 hown hK hP hD hS 0 rfl rfl 5 (by decide) (hts (.fieldLink RX0 40 "SharedLine$Line" "reach" "I") (List.mem_of_getElem? (i := 2) rfl)) (fun _ h9 => h9) rfl (tyX0_ok 5 (by decide)) rfl rfl (Nat.le_of_ble_eq_true rfl) dX0_setNumber_38 (fun H locs hP hD hS => ?_)
      have hP : va_P (dC, dI) vwCl (wL cI h hp ((upd S.1 4 p2), S.2)) H := hP
      have hD : va_D A (wL cI h hp ((upd S.1 4 p2), S.2)) := hD
      refine lv_goto (tgt := 49) hx hb dX0_setNumber_41 (by decide) ?_
      subst hσ
      exact vq_vret hx hb hr hlocks hK hP hD hS dX0_setNumber_49
    · rw [if_neg c1_1] at hσ
      refine lv_lookup (x := p1) (off := 43) (tgt := 44) hx hb dX0_setNumber_1 (by decide) (by rw [show (#[(0, 27), (1, 35)] : Array (Int × Int)).toList = [(0, 27), (1, 35)] from rfl, lv_osw c1_0 (by decide), lv_osw c1_1 (by decide)]; rfl) (by decide) ?_
      refine lv_aload_n hx hb dX0_setNumber_44 rfl (lv_at hl 0 rfl) ?_
      refine lv_iload_n hx hb dX0_setNumber_45 rfl (lv_at hl 2 rfl) ?_
      refine va_put (D := (dC, dI)) (ci := 0) (v := .int p2) (ty := .int) (C := RX0) (T := TX0) (N := 7) hx hb hts (fun _ h => List.mem_cons_of_mem _ (List.mem_append_right _ h)) tyX0 tyX0_ok nmX0 hown hK hP hD hS 0 rfl rfl 6 (by decide) (hts (.fieldLink RX0 43 "SharedLine$Line" "bar" "I") (List.mem_of_getElem? (i := 3) rfl)) (fun _ h9 => h9) rfl (tyX0_ok 6 (by decide)) rfl rfl (Nat.le_of_ble_eq_true rfl) dX0_setNumber_46 (fun H locs hP hD hS => ?_)
      have hP : va_P (dC, dI) vwCl (wL cI h hp ((upd S.1 5 p2), S.2)) H := hP
      have hD : va_D A (wL cI h hp ((upd S.1 5 p2), S.2)) := hD
      subst hσ
      exact vq_vret hx hb hr hlocks hK hP hD hS dX0_setNumber_49
theorem hdX0_pitchAt : yX0_pitchAt.cls = RX0 ∧ yX0_pitchAt.cls ≠ "java/lang/invoke/MethodHandle" ∧ yX0_pitchAt.cls ≠ "java/lang/invoke/VarHandle" ∧ (parseMethodDescriptor yX0_pitchAt.desc).map (fun d => d.parameters.length) = some 1 := by decide +kernel
set_option maxHeartbeats 4000000 in
set_option maxRecDepth 100000 in
theorem cX0_pitchAt_c (l : Launch) (ev : Nat → Nat) (dC : Nat → ClassId) (dI : Nat → Nat → Nat) (cI cZ cO : ClassId) (h : Nat) (hp : Nat) (S : LSt) (p1 : Int32) : MetI l ev (dC, dI) (tyC cI cZ cO) yX0_pitchAt wsX0_pitchAt (rmF 0 0) [.ref h, .int p1] (wL cI h hp S) (sX0_pitchAt S p1) (wL cI h hp S) := by
  refine MetI_of (cc := cX0_pitchAt) (maxL := 2) (ret := (some .int)) (by decide) rfl (Nat.le_of_ble_eq_true rfl) ?_
  intro p e s m below meth c A ls hx hb hr hml hts hown hlocks hin hK hP hD hA hE hl
  have hown : s.vm.findClass RX0 = some m.cls := hown
  have hl : lv_has ls 2 [(0, .ref h), (1, .int p1)] := hl
  have hS : va_S A s.heap s.heap [] := va_S.rf
  obtain ⟨σ, hσ⟩ : ∃ σ, (sX0_pitchAt S p1) = σ := ⟨_, rfl⟩
  rw [hσ]
  rw [sX0_pitchAt] at hσ
  refine lv_iload_n hx hb dX0_pitchAt_0 rfl (lv_at hl 1 rfl) ?_
  refine lv_if_lt (tgt := 19) hx hb dX0_pitchAt_1 (by decide) (fun c1 => ?_) (fun c1 => ?_)
  · rw [if_pos c1] at hσ
    refine lv_iconst (v := 0) hx hb dX0_pitchAt_19 (by decide) ?_
    subst hσ
    exact vq_iret hx hb hr hlocks hK hP hD hS rfl dX0_pitchAt_20
  · rw [if_neg c1] at hσ
    refine lv_iload_n hx hb dX0_pitchAt_4 rfl (lv_at hl 1 rfl) ?_
    refine lv_bipush (v := 12) hx hb dX0_pitchAt_5 (by decide) ?_
    refine lv_icmp_ge (tgt := 19) hx hb dX0_pitchAt_7 (by decide) (fun c7 => ?_) (fun c7 => ?_)
    · rw [if_pos c7] at hσ
      refine lv_iconst (v := 0) hx hb dX0_pitchAt_19 (by decide) ?_
      subst hσ
      exact vq_iret hx hb hr hlocks hK hP hD hS rfl dX0_pitchAt_20
    · rw [if_neg c7] at hσ
      refine lv_aload_n hx hb dX0_pitchAt_10 rfl (lv_at hl 0 rfl) ?_
      refine va_get (D := (dC, dI)) (ci := 0) (v := .ref hp) (C := RX0) (T := TX0) (N := 7) hx hb hts (fun _ h => List.mem_cons_of_mem _ (List.mem_append_right _ h)) hown hK hP 0 rfl rfl 0 (by decide) (hts (.fieldLink RX0 9 "SharedLine$Line" "pitches" "[I") (List.mem_of_getElem? (i := 1) rfl)) (fun _ h9 => h9) rfl dX0_pitchAt_11 ?_
      refine lv_iload_n hx hb dX0_pitchAt_14 rfl (lv_at hl 1 rfl) ?_
      refine va_iald hx hb hK hP 1 0 rfl rfl (i := p1) (rng_in (by decide) c1 c7) dX0_pitchAt_15 ?_
      refine lv_goto (tgt := 20) hx hb dX0_pitchAt_16 (by decide) ?_
      subst hσ
      exact vq_iret hx hb hr hlocks hK hP hD hS rfl dX0_pitchAt_20
theorem hdX0_setPitch : yX0_setPitch.cls = RX0 ∧ yX0_setPitch.cls ≠ "java/lang/invoke/MethodHandle" ∧ yX0_setPitch.cls ≠ "java/lang/invoke/VarHandle" ∧ (parseMethodDescriptor yX0_setPitch.desc).map (fun d => d.parameters.length) = some 2 := by decide +kernel
set_option maxHeartbeats 4000000 in
set_option maxRecDepth 100000 in
theorem cX0_setPitch_c (l : Launch) (ev : Nat → Nat) (dC : Nat → ClassId) (dI : Nat → Nat → Nat) (cI cZ cO : ClassId) (h : Nat) (hp : Nat) (S : LSt) (p1 : Int32) (p2 : Int32) : MetV l ev (dC, dI) (tyC cI cZ cO) yX0_setPitch wsX0_setPitch (rmF 0 0) [.ref h, .int p1, .int p2] (wL cI h hp S) (wL cI h hp (sX0_setPitch S p1 p2)) := by
  refine MetV_of (cc := cX0_setPitch) (maxL := 3) (ret := none) (by decide) rfl (Nat.le_of_ble_eq_true rfl) ?_
  intro p e s m below meth c A ls hx hb hr hml hts hown hlocks hin hK hP hD hA hE hl
  have hown : s.vm.findClass RX0 = some m.cls := hown
  have hl : lv_has ls 3 [(0, .ref h), (1, .int p1), (2, .int p2)] := hl
  have hS : va_S A s.heap s.heap [] := va_S.rf
  obtain ⟨σ, hσ⟩ : ∃ σ, (sX0_setPitch S p1 p2) = σ := ⟨_, rfl⟩
  rw [hσ]
  rw [sX0_setPitch] at hσ
  refine lv_iload_n hx hb dX0_setPitch_0 rfl (lv_at hl 1 rfl) ?_
  refine lv_if_lt (tgt := 10) hx hb dX0_setPitch_1 (by decide) (fun c1 => ?_) (fun c1 => ?_)
  · rw [if_pos c1] at hσ
    subst hσ
    exact vq_vret hx hb hr hlocks hK hP hD hS dX0_setPitch_10
  · rw [if_neg c1] at hσ
    refine lv_iload_n hx hb dX0_setPitch_4 rfl (lv_at hl 1 rfl) ?_
    refine lv_bipush (v := 12) hx hb dX0_setPitch_5 (by decide) ?_
    refine lv_icmp_lt (tgt := 11) hx hb dX0_setPitch_7 (by decide) (fun c7 => ?_) (fun c7 => ?_)
    · rw [if_pos c7] at hσ
      refine lv_aload_n hx hb dX0_setPitch_11 rfl (lv_at hl 0 rfl) ?_
      refine va_get (D := (dC, dI)) (ci := 0) (v := .ref hp) (C := RX0) (T := TX0) (N := 7) hx hb hts (fun _ h => List.mem_cons_of_mem _ (List.mem_append_right _ h)) hown hK hP 0 rfl rfl 0 (by decide) (hts (.fieldLink RX0 9 "SharedLine$Line" "pitches" "[I") (List.mem_of_getElem? (i := 1) rfl)) (fun _ h9 => h9) rfl dX0_setPitch_12 ?_
      refine lv_iload_n hx hb dX0_setPitch_15 rfl (lv_at hl 1 rfl) ?_
      refine lv_iload_n hx hb dX0_setPitch_16 rfl (lv_at hl 2 rfl) ?_
      refine va_iast hx hb hK hP hD hS 1 0 rfl rfl (i := p1) (rng_in2 (by decide) c1 c7) dX0_setPitch_17 (fun H locs hP hD hS => ?_)
      have hP : va_P (dC, dI) vwCl (wL cI h hp (S.1, (upd S.2 (p1).toNatClampNeg p2))) H := hP
      have hD : va_D A (wL cI h hp (S.1, (upd S.2 (p1).toNatClampNeg p2))) := hD
      refine lv_iload_n hx hb dX0_setPitch_18 rfl (lv_at hl 2 rfl) ?_
      refine lv_if_eq (tgt := 34) hx hb dX0_setPitch_19 (by decide) (fun c19 => ?_) (fun c19 => ?_)
      · rw [if_pos c19] at hσ
        subst hσ
        exact vq_vret hx hb hr hlocks hK hP hD hS dX0_setPitch_34
      · rw [if_neg c19] at hσ
        refine lv_aload_n hx hb dX0_setPitch_22 rfl (lv_at hl 0 rfl) ?_
        refine lv_dup hx hb dX0_setPitch_23 rfl ?_
        refine va_get (D := (dC, dI)) (ci := 0) (v := .int (S.1 1)) (C := RX0) (T := TX0) (N := 7) hx hb hts (fun _ h => List.mem_cons_of_mem _ (List.mem_append_right _ h)) hown hK hP 0 rfl rfl 2 (by decide) (hts (.fieldLink RX0 28 "SharedLine$Line" "notes" "I") (List.mem_of_getElem? (i := 2) rfl)) (fun _ h9 => h9) rfl dX0_setPitch_24 ?_
        refine lv_iconst (v := 1) hx hb dX0_setPitch_27 (by decide) ?_
        refine lv_iload_n hx hb dX0_setPitch_28 rfl (lv_at hl 1 rfl) ?_
        refine lv_ishl hx hb dX0_setPitch_29 ?_
        refine lv_ior hx hb dX0_setPitch_30 ?_
        refine va_put (D := (dC, dI)) (ci := 0) (v := .int ((S.1 1) ||| ((1 : Int32) <<< (p1 &&& 31)))) (ty := .int) (C := RX0) (T := TX0) (N := 7) hx hb hts (fun _ h => List.mem_cons_of_mem _ (List.mem_append_right _ h)) tyX0 tyX0_ok nmX0 hown hK hP hD hS 0 rfl rfl 2 (by decide) (hts (.fieldLink RX0 28 "SharedLine$Line" "notes" "I") (List.mem_of_getElem? (i := 2) rfl)) (fun _ h9 => h9) rfl (tyX0_ok 2 (by decide)) rfl rfl (Nat.le_of_ble_eq_true rfl) dX0_setPitch_31 (fun H locs hP hD hS => ?_)
        have hP : va_P (dC, dI) vwCl (wL cI h hp ((upd S.1 1 ((S.1 1) ||| ((1 : Int32) <<< (p1 &&& 31)))), (upd S.2 (p1).toNatClampNeg p2))) H := hP
        have hD : va_D A (wL cI h hp ((upd S.1 1 ((S.1 1) ||| ((1 : Int32) <<< (p1 &&& 31)))), (upd S.2 (p1).toNatClampNeg p2))) := hD
        subst hσ
        exact vq_vret hx hb hr hlocks hK hP hD hS dX0_setPitch_34
    · rw [if_neg c7] at hσ
      subst hσ
      exact vq_vret hx hb hr hlocks hK hP hD hS dX0_setPitch_10
theorem hdX0_isTooFar : yX0_isTooFar.cls = RX0 ∧ yX0_isTooFar.cls ≠ "java/lang/invoke/MethodHandle" ∧ yX0_isTooFar.cls ≠ "java/lang/invoke/VarHandle" ∧ (parseMethodDescriptor yX0_isTooFar.desc).map (fun d => d.parameters.length) = some 2 := by decide +kernel
set_option maxHeartbeats 4000000 in
set_option maxRecDepth 100000 in
theorem cX0_isTooFar_c (l : Launch) (ev : Nat → Nat) (dC : Nat → ClassId) (dI : Nat → Nat → Nat) (cI cZ cO : ClassId) (h : Nat) (hp : Nat) (S : LSt) (p1 : Int32) (p2 : Int32) : MetI l ev (dC, dI) (tyC cI cZ cO) yX0_isTooFar wsX0_isTooFar (rmF 1 21) [.ref h, .int p1, .int p2] (wL cI h hp S) (bI (sX0_isTooFar S p1 p2)) (wL cI h hp S) := by
  refine MetI_of (cc := cX0_isTooFar) (maxL := 3) (ret := (some .boolean)) (by decide) rfl (Nat.le_of_ble_eq_true rfl) ?_
  intro p e s m below meth c A ls hx hb hr hml hts hown hlocks hin hK hP hD hA hE hl
  have hown : s.vm.findClass RX0 = some m.cls := hown
  have hl : lv_has ls 3 [(0, .ref h), (1, .int p1), (2, .int p2)] := hl
  have hS : va_S A s.heap s.heap [] := va_S.rf
  obtain ⟨σ, hσ⟩ : ∃ σ, (sX0_isTooFar S p1 p2) = σ := ⟨_, rfl⟩
  rw [hσ]
  rw [sX0_isTooFar] at hσ
  refine lv_aload_n hx hb dX0_isTooFar_0 rfl (lv_at hl 0 rfl) ?_
  refine lv_iload_n hx hb dX0_isTooFar_1 rfl (lv_at hl 1 rfl) ?_
  refine vq_Vi (As := [.int p1]) (rest := []) (W2 := (wL cI h hp S)) (f := (sX0_pitchAt S p1)) hx hb hml hown hts hK hP hD hS hA hE hl.1 (cX0_pitchAt_c l ev dC dI cI cZ cO h hp S p1) gX0_isTooFar_X0_pitchAt rfl hdX0_pitchAt (Nat.le_of_ble_eq_true rfl) (Nat.le_of_ble_eq_true rfl) rfl rfl (ci := 0) (qr := 0) rfl rfl rfl [0, 1] [] [0, 1] rfl rfl (by decide) (by decide) (by decide) rfl rfl rfl (Nat.le_of_ble_eq_true rfl) dX0_isTooFar_2 ⟨Nat.zero_le _, Nat.zero_le _⟩ (fun H locs hP hD hS => ?_)
  refine lv_aload_n hx hb dX0_isTooFar_5 rfl (lv_at hl 0 rfl) ?_
  refine lv_iload_n hx hb dX0_isTooFar_6 rfl (lv_at hl 2 rfl) ?_
  refine vq_Vi (As := [.int p2]) (rest := [.int (sX0_pitchAt S p1)]) (W2 := (wL cI h hp S)) (f := (sX0_pitchAt S p2)) hx hb hml hown hts hK hP hD hS hA hE hl.1 (cX0_pitchAt_c l ev dC dI cI cZ cO h hp S p2) gX0_isTooFar_X0_pitchAt rfl hdX0_pitchAt (Nat.le_of_ble_eq_true rfl) (Nat.le_of_ble_eq_true rfl) rfl rfl (ci := 0) (qr := 0) rfl rfl rfl [0, 1] [] [0, 1] rfl rfl (by decide) (by decide) (by decide) rfl rfl rfl (Nat.le_of_ble_eq_true rfl) dX0_isTooFar_7 ⟨Nat.zero_le _, Nat.zero_le _⟩ (fun H locs hP hD hS => ?_)
  refine lv_isub hx hb dX0_isTooFar_10 ?_
  refine va_mabs (x := ((sX0_pitchAt S p1) - (sX0_pitchAt S p2))) hx hb (hml.trans hl.1.symm) hown (hts (.methodLink RX0 56 Lib.Math.abs.name) (List.mem_of_getElem? (i := 1) rfl)) (hts (.static Lib.Math.abs.name) (List.mem_of_getElem? (i := 2) rfl)) (hts (.initialized "java/lang/Math") (List.mem_of_getElem? (i := 3) rfl)) (hts (.code Lib.Math.abs.name Lib.Math.abs.code 1 (some .int)) (List.mem_of_getElem? (i := 4) rfl)) (Nat.le_of_ble_eq_true rfl) (Nat.le_of_ble_eq_true rfl) (Nat.zero_le _) (Nat.zero_le _) dX0_isTooFar_11 ?_
  refine lv_aload_n hx hb dX0_isTooFar_14 rfl (lv_at hl 0 rfl) ?_
  refine va_get (D := (dC, dI)) (ci := 0) (v := .int (S.1 4)) (C := RX0) (T := TX0) (N := 7) hx hb hts (fun _ h => List.mem_cons_of_mem _ (List.mem_append_right _ h)) hown hK hP 0 rfl rfl 5 (by decide) (hts (.fieldLink RX0 40 "SharedLine$Line" "reach" "I") (List.mem_of_getElem? (i := 5) rfl)) (fun _ h9 => h9) rfl dX0_isTooFar_15 ?_
  refine lv_iload_n hx hb dX0_isTooFar_18 rfl (lv_at hl 2 rfl) ?_
  refine lv_iadd hx hb dX0_isTooFar_19 ?_
  refine lv_iload_n hx hb dX0_isTooFar_20 rfl (lv_at hl 1 rfl) ?_
  refine lv_isub hx hb dX0_isTooFar_21 ?_
  refine lv_icmp_le (tgt := 29) hx hb dX0_isTooFar_22 (by decide) (fun c22 => ?_) (fun c22 => ?_)
  · rw [if_pos c22] at hσ
    refine lv_iconst (v := 0) hx hb dX0_isTooFar_29 (by decide) ?_
    subst hσ
    exact vq_zret hx hb hr hlocks hK hP hD hS rfl rfl dX0_isTooFar_30
  · rw [if_neg c22] at hσ
    refine lv_iconst (v := 1) hx hb dX0_isTooFar_25 (by decide) ?_
    refine lv_goto (tgt := 30) hx hb dX0_isTooFar_26 (by decide) ?_
    subst hσ
    exact vq_zret hx hb hr hlocks hK hP hD hS rfl rfl dX0_isTooFar_30
theorem hdX0_mayStrike : yX0_mayStrike.cls = RX0 ∧ yX0_mayStrike.cls ≠ "java/lang/invoke/MethodHandle" ∧ yX0_mayStrike.cls ≠ "java/lang/invoke/VarHandle" ∧ (parseMethodDescriptor yX0_mayStrike.desc).map (fun d => d.parameters.length) = some 2 := by decide +kernel
set_option maxHeartbeats 4000000 in
set_option maxRecDepth 100000 in
theorem cX0_mayStrike_c (l : Launch) (ev : Nat → Nat) (dC : Nat → ClassId) (dI : Nat → Nat → Nat) (cI cZ cO : ClassId) (h : Nat) (hp : Nat) (S : LSt) (p1 : Int32) (p2 : Int32) : MetI l ev (dC, dI) (tyC cI cZ cO) yX0_mayStrike wsX0_mayStrike (rmF 2 43) [.ref h, .int p1, .int p2] (wL cI h hp S) (bI (sX0_mayStrike S p1 p2)) (wL cI h hp S) := by
  refine MetI_of (cc := cX0_mayStrike) (maxL := 3) (ret := (some .boolean)) (by decide) rfl (Nat.le_of_ble_eq_true rfl) ?_
  intro p e s m below meth c A ls hx hb hr hml hts hown hlocks hin hK hP hD hA hE hl
  have hown : s.vm.findClass RX0 = some m.cls := hown
  have hl : lv_has ls 3 [(0, .ref h), (1, .int p1), (2, .int p2)] := hl
  have hS : va_S A s.heap s.heap [] := va_S.rf
  obtain ⟨σ, hσ⟩ : ∃ σ, (sX0_mayStrike S p1 p2) = σ := ⟨_, rfl⟩
  rw [hσ]
  rw [sX0_mayStrike] at hσ
  refine lv_iload_n hx hb dX0_mayStrike_0 rfl (lv_at hl 1 rfl) ?_
  refine lv_bipush (v := (-9)) hx hb dX0_mayStrike_1 (by decide) ?_
  refine lv_icmp_eq (tgt := 24) hx hb dX0_mayStrike_3 (by decide) (fun c3 => ?_) (fun c3 => ?_)
  · rw [if_pos c3] at hσ
    refine lv_iconst (v := 1) hx hb dX0_mayStrike_24 (by decide) ?_
    refine lv_goto (tgt := 29) hx hb dX0_mayStrike_25 (by decide) ?_
    subst hσ
    exact vq_zret hx hb hr hlocks hK hP hD hS rfl rfl dX0_mayStrike_29
  · rw [if_neg c3] at hσ
    refine lv_aload_n hx hb dX0_mayStrike_6 rfl (lv_at hl 0 rfl) ?_
    refine lv_iload_n hx hb dX0_mayStrike_7 rfl (lv_at hl 1 rfl) ?_
    refine lv_iload_n hx hb dX0_mayStrike_8 rfl (lv_at hl 2 rfl) ?_
    refine vq_Vi (As := [.int p1, .int p2]) (rest := []) (W2 := (wL cI h hp S)) (f := (bI (sX0_isTooSoon S p1 p2))) hx hb hml hown hts hK hP hD hS hA hE hl.1 (cX0_isTooSoon_c l ev dC dI cI cZ cO h hp S p1 p2) gX0_mayStrike_X0_isTooSoon rfl hdX0_isTooSoon (Nat.le_of_ble_eq_true rfl) (Nat.le_of_ble_eq_true rfl) rfl rfl (ci := 0) (qr := 0) rfl rfl rfl [0, 1] [] [0, 1] rfl rfl (by decide) (by decide) (by decide) rfl rfl rfl (Nat.le_of_ble_eq_true rfl) dX0_mayStrike_9 ⟨Nat.zero_le _, Nat.zero_le _⟩ (fun H locs hP hD hS => ?_)
    refine lv_if_neB (tgt := 28) hx hb dX0_mayStrike_12 (by decide) (fun c12 => ?_) (fun c12 => ?_)
    · rw [if_pos c12] at hσ
      refine lv_iconst (v := 0) hx hb dX0_mayStrike_28 (by decide) ?_
      subst hσ
      exact vq_zret hx hb hr hlocks hK hP hD hS rfl rfl dX0_mayStrike_29
    · rw [if_neg (Bool.eq_false_iff.mp c12)] at hσ
      refine lv_aload_n hx hb dX0_mayStrike_15 rfl (lv_at hl 0 rfl) ?_
      refine lv_iload_n hx hb dX0_mayStrike_16 rfl (lv_at hl 1 rfl) ?_
      refine lv_iload_n hx hb dX0_mayStrike_17 rfl (lv_at hl 2 rfl) ?_
      refine vq_Vi (As := [.int p1, .int p2]) (rest := []) (W2 := (wL cI h hp S)) (f := (bI (sX0_isTooFar S p1 p2))) hx hb hml hown hts hK hP hD hS hA hE hl.1 (cX0_isTooFar_c l ev dC dI cI cZ cO h hp S p1 p2) gX0_mayStrike_X0_isTooFar rfl hdX0_isTooFar (Nat.le_of_ble_eq_true rfl) (Nat.le_of_ble_eq_true rfl) rfl rfl (ci := 0) (qr := 0) rfl rfl rfl [0, 1] [] [0, 1] rfl rfl (by decide) (by decide) (by decide) rfl rfl rfl (Nat.le_of_ble_eq_true rfl) dX0_mayStrike_18 ⟨Nat.zero_le _, Nat.zero_le _⟩ (fun H locs hP hD hS => ?_)
      refine lv_if_neB (tgt := 28) hx hb dX0_mayStrike_21 (by decide) (fun c21 => ?_) (fun c21 => ?_)
      · rw [if_pos c21] at hσ
        refine lv_iconst (v := 0) hx hb dX0_mayStrike_28 (by decide) ?_
        subst hσ
        exact vq_zret hx hb hr hlocks hK hP hD hS rfl rfl dX0_mayStrike_29
      · rw [if_neg (Bool.eq_false_iff.mp c21)] at hσ
        refine lv_iconst (v := 1) hx hb dX0_mayStrike_24 (by decide) ?_
        refine lv_goto (tgt := 29) hx hb dX0_mayStrike_25 (by decide) ?_
        subst hσ
        exact vq_zret hx hb hr hlocks hK hP hD hS rfl rfl dX0_mayStrike_29
theorem hdX0_nextOfHand : yX0_nextOfHand.cls = RX0 ∧ yX0_nextOfHand.cls ≠ "java/lang/invoke/MethodHandle" ∧ yX0_nextOfHand.cls ≠ "java/lang/invoke/VarHandle" ∧ (parseMethodDescriptor yX0_nextOfHand.desc).map (fun d => d.parameters.length) = some 1 := by decide +kernel
set_option maxHeartbeats 4000000 in
set_option maxRecDepth 100000 in
theorem cX0_nextOfHand_c (l : Launch) (ev : Nat → Nat) (dC : Nat → ClassId) (dI : Nat → Nat → Nat) (cI cZ cO : ClassId) (h : Nat) (hp : Nat) (S : LSt) (p1 : Int32) (hT : XOK S) : MetI l ev (dC, dI) (tyC cI cZ cO) yX0_nextOfHand wsX0_nextOfHand (rmF 1 21) [.ref h, .int p1] (wL cI h hp S) (sX0_nextOfHand S p1) (wL cI h hp S) := by
  refine MetI_of (cc := cX0_nextOfHand) (maxL := 3) (ret := (some .int)) (by decide) rfl (Nat.le_of_ble_eq_true rfl) ?_
  intro p e s m below meth c A ls hx hb hr hml hts hown hlocks hin hK hP hD hA hE hl
  have hown : s.vm.findClass RX0 = some m.cls := hown
  have hl : lv_has ls 3 [(0, .ref h), (1, .int p1)] := hl
  have hS : va_S A s.heap s.heap [] := va_S.rf
  obtain ⟨σ, hσ⟩ : ∃ σ, (sX0_nextOfHand S p1) = σ := ⟨_, rfl⟩
  rw [hσ]
  rw [sX0_nextOfHand] at hσ
  obtain ⟨T, eT, hT1, hT2⟩ := id hT
  refine lv_aload_n hx hb dX0_nextOfHand_0 rfl (lv_at hl 0 rfl) ?_
  refine lv_iload_n hx hb dX0_nextOfHand_1 rfl (lv_at hl 1 rfl) ?_
  refine vq_Vi (As := [.int p1]) (rest := []) (W2 := (wL cI h hp S)) (f := (bI (sX0_hasNote S p1))) hx hb hml hown hts hK hP hD hS hA hE hl.1 (cX0_hasNote_c l ev dC dI cI cZ cO h hp S p1) gX0_nextOfHand_X0_hasNote rfl hdX0_hasNote (Nat.le_of_ble_eq_true rfl) (Nat.le_of_ble_eq_true rfl) rfl rfl (ci := 0) (qr := 0) rfl rfl rfl [0, 1] [] [0, 1] rfl rfl (by decide) (by decide) (by decide) rfl rfl rfl (Nat.le_of_ble_eq_true rfl) dX0_nextOfHand_2 ⟨Nat.zero_le _, Nat.zero_le _⟩ (fun H locs hP hD hS => ?_)
  refine lv_if_neB (tgt := 11) hx hb dX0_nextOfHand_5 (by decide) (fun c5 => ?_) (fun c5 => ?_)
  · rw [if_pos c5] at hσ
    refine lv_iload_n hx hb dX0_nextOfHand_11 rfl (lv_at hl 1 rfl) ?_
    refine lv_iconst (v := 1) hx hb dX0_nextOfHand_12 (by decide) ?_
    refine lv_iadd hx hb dX0_nextOfHand_13 ?_
    refine lv_istore_n (lv' := [(2, .int (p1 + 1)), (0, .ref h), (1, .int p1)]) hx hb dX0_nextOfHand_14 rfl hl (by decide) rfl (fun ls hl => ?_)
    obtain ⟨j, ej, hj⟩ := has_j hT c5
    have key15 : ∀ (n15 : Nat) (x2_15 : Int32)  (k15 : Nat), (x2_15 = nI k15) → (k15 ≤ 12) → (12 + 1 ≤ n15 + k15) → (sX0_nextOfHand_L15 S p1 n15 x2_15) = σ → ∀ (H : Heap) (locs : List Loc) (ls : Array Slot), va_P (dC, dI) vwCl (wL cI h hp S) H → va_D A (wL cI h hp S) → va_S A s.heap H locs → lv_has ls 3 [(0, .ref h), (1, .int p1), (2, .int x2_15)] → W p l e (headSpec wsX0_nextOfHand (rmF 1 21)).room s m ([.ref h, .int p1] : List Value).toArray below meth c H locs 0 0 (MQ below (va_Qi (fun (x : Int32) (_ : Unit) => x = σ) (fun _ t => PoW (dC, dI) (tyC cI cZ cO) A (wL cI h hp S) t) A) ([.ref h, .int p1] : List Value).toArray s 0 0 A) (F0 m 15 ls []) := by
      intro n15
      induction n15 with
      | zero =>
        intro x2_15 k15 e15 hk15 hn15
        exact absurd hn15 (by omega)
      | succ n15 ih15 =>
        intro x2_15 k15 e15 hk15 hn15 hσ H locs ls hP hD hS hl
        rw [sX0_nextOfHand_L15_s] at hσ
        refine lv_iload_n hx hb dX0_nextOfHand_15 rfl (lv_at hl 2 rfl) ?_
        refine lv_aload_n hx hb dX0_nextOfHand_16 rfl (lv_at hl 0 rfl) ?_
        refine va_get (D := (dC, dI)) (ci := 0) (v := .int (S.1 0)) (C := RX0) (T := TX0) (N := 7) hx hb hts (fun _ h => List.mem_cons_of_mem _ (List.mem_append_right _ h)) hown hK hP 0 rfl rfl 1 (by decide) (hts (.fieldLink RX0 24 "SharedLine$Line" "ticks" "I") (List.mem_of_getElem? (i := 1) rfl)) (fun _ h9 => h9) rfl dX0_nextOfHand_17 ?_
        refine lv_icmp_ge (tgt := 52) hx hb dX0_nextOfHand_20 (by decide) (fun c20 => ?_) (fun c20 => ?_)
        · rw [if_pos c20] at hσ
          refine lv_bipush (v := (-9)) hx hb dX0_nextOfHand_52 (by decide) ?_
          subst hσ
          exact vq_iret hx hb hr hlocks hK hP hD hS rfl dX0_nextOfHand_54
        · rw [if_neg c20] at hσ
          refine lv_aload_n hx hb dX0_nextOfHand_23 rfl (lv_at hl 0 rfl) ?_
          refine lv_iload_n hx hb dX0_nextOfHand_24 rfl (lv_at hl 2 rfl) ?_
          refine vq_Vi (As := [.int x2_15]) (rest := []) (W2 := (wL cI h hp S)) (f := (bI (sX0_hasNote S x2_15))) hx hb hml hown hts hK hP hD hS hA hE hl.1 (cX0_hasNote_c l ev dC dI cI cZ cO h hp S x2_15) gX0_nextOfHand_X0_hasNote rfl hdX0_hasNote (Nat.le_of_ble_eq_true rfl) (Nat.le_of_ble_eq_true rfl) rfl rfl (ci := 0) (qr := 0) rfl rfl rfl [0, 1] [] [0, 1] rfl rfl (by decide) (by decide) (by decide) rfl rfl rfl (Nat.le_of_ble_eq_true rfl) dX0_nextOfHand_25 ⟨Nat.zero_le _, Nat.zero_le _⟩ (fun H locs hP hD hS => ?_)
          refine lv_if_eqB (tgt := 46) hx hb dX0_nextOfHand_28 (by decide) (fun c28 => ?_) (fun c28 => ?_)
          · rw [if_neg (Bool.eq_false_iff.mp c28)] at hσ
            refine lv_iinc (v := (x2_15 + 1)) (lv' := [(2, .int (x2_15 + 1)), (0, .ref h), (1, .int p1)]) hx hb dX0_nextOfHand_46 hl (k := 2) rfl rfl (by decide) rfl (fun ls hl => ?_)
            refine lv_goto (tgt := 15) hx hb dX0_nextOfHand_49 (by decide) ?_
            exact ih15 (x2_15 + 1) (k15 + 1) (up_s e15) (by have := up_lt e15 eT (by omega) c20; omega) (by omega) hσ _ _ _ hP hD hS (lv_sub hl [1, 2, 0] rfl)
          · rw [if_pos c28] at hσ
            refine lv_aload_n hx hb dX0_nextOfHand_31 rfl (lv_at hl 0 rfl) ?_
            refine lv_iload_n hx hb dX0_nextOfHand_32 rfl (lv_at hl 2 rfl) ?_
            refine vq_Vi (As := [.int x2_15]) (rest := []) (W2 := (wL cI h hp S)) (f := (sX0_handAt S x2_15)) hx hb hml hown hts hK hP hD hS hA hE hl.1 (cX0_handAt_c l ev dC dI cI cZ cO h hp S x2_15) gX0_nextOfHand_X0_handAt rfl hdX0_handAt (Nat.le_of_ble_eq_true rfl) (Nat.le_of_ble_eq_true rfl) rfl rfl (ci := 0) (qr := 0) rfl rfl rfl [0, 1] [] [0, 1] rfl rfl (by decide) (by decide) (by decide) rfl rfl rfl (Nat.le_of_ble_eq_true rfl) dX0_nextOfHand_33 ⟨Nat.zero_le _, Nat.zero_le _⟩ (fun H locs hP hD hS => ?_)
            refine lv_aload_n hx hb dX0_nextOfHand_36 rfl (lv_at hl 0 rfl) ?_
            refine lv_iload_n hx hb dX0_nextOfHand_37 rfl (lv_at hl 1 rfl) ?_
            refine vq_Vi (As := [.int p1]) (rest := [.int (sX0_handAt S x2_15)]) (W2 := (wL cI h hp S)) (f := (sX0_handAt S p1)) hx hb hml hown hts hK hP hD hS hA hE hl.1 (cX0_handAt_c l ev dC dI cI cZ cO h hp S p1) gX0_nextOfHand_X0_handAt rfl hdX0_handAt (Nat.le_of_ble_eq_true rfl) (Nat.le_of_ble_eq_true rfl) rfl rfl (ci := 0) (qr := 0) rfl rfl rfl [0, 1] [] [0, 1] rfl rfl (by decide) (by decide) (by decide) rfl rfl rfl (Nat.le_of_ble_eq_true rfl) dX0_nextOfHand_38 ⟨Nat.zero_le _, Nat.zero_le _⟩ (fun H locs hP hD hS => ?_)
            refine lv_icmp_ne (tgt := 46) hx hb dX0_nextOfHand_41 (by decide) (fun c41 => ?_) (fun c41 => ?_)
            · rw [if_neg c41] at hσ
              refine lv_iinc (v := (x2_15 + 1)) (lv' := [(2, .int (x2_15 + 1)), (0, .ref h), (1, .int p1)]) hx hb dX0_nextOfHand_46 hl (k := 2) rfl rfl (by decide) rfl (fun ls hl => ?_)
              refine lv_goto (tgt := 15) hx hb dX0_nextOfHand_49 (by decide) ?_
              exact ih15 (x2_15 + 1) (k15 + 1) (up_s e15) (by have := up_lt e15 eT (by omega) c20; omega) (by omega) hσ _ _ _ hP hD hS (lv_sub hl [1, 2, 0] rfl)
            · rw [if_pos c41] at hσ
              refine lv_iload_n hx hb dX0_nextOfHand_44 rfl (lv_at hl 2 rfl) ?_
              subst hσ
              exact vq_iret hx hb hr hlocks hK hP hD hS rfl dX0_nextOfHand_45
    exact key15 13 (p1 + 1) (j + 1) (up_s ej) (by omega) (by omega) hσ _ _ _ hP hD hS (lv_sub hl [1, 2, 0] rfl)
  · rw [if_neg (Bool.eq_false_iff.mp c5)] at hσ
    refine lv_bipush (v := (-9)) hx hb dX0_nextOfHand_8 (by decide) ?_
    subst hσ
    exact vq_iret hx hb hr hlocks hK hP hD hS rfl dX0_nextOfHand_10
theorem hdX0_isSoonBehind : yX0_isSoonBehind.cls = RX0 ∧ yX0_isSoonBehind.cls ≠ "java/lang/invoke/MethodHandle" ∧ yX0_isSoonBehind.cls ≠ "java/lang/invoke/VarHandle" ∧ (parseMethodDescriptor yX0_isSoonBehind.desc).map (fun d => d.parameters.length) = some 1 := by decide +kernel
set_option maxHeartbeats 4000000 in
set_option maxRecDepth 100000 in
theorem cX0_isSoonBehind_c (l : Launch) (ev : Nat → Nat) (dC : Nat → ClassId) (dI : Nat → Nat → Nat) (cI cZ cO : ClassId) (h : Nat) (hp : Nat) (S : LSt) (p1 : Int32) (hT : XOK S) : MetI l ev (dC, dI) (tyC cI cZ cO) yX0_isSoonBehind wsX0_isSoonBehind (rmF 2 43) [.ref h, .int p1] (wL cI h hp S) (bI (sX0_isSoonBehind S p1)) (wL cI h hp S) := by
  refine MetI_of (cc := cX0_isSoonBehind) (maxL := 3) (ret := (some .boolean)) (by decide) rfl (Nat.le_of_ble_eq_true rfl) ?_
  intro p e s m below meth c A ls hx hb hr hml hts hown hlocks hin hK hP hD hA hE hl
  have hown : s.vm.findClass RX0 = some m.cls := hown
  have hl : lv_has ls 3 [(0, .ref h), (1, .int p1)] := hl
  have hS : va_S A s.heap s.heap [] := va_S.rf
  obtain ⟨σ, hσ⟩ : ∃ σ, (sX0_isSoonBehind S p1) = σ := ⟨_, rfl⟩
  rw [hσ]
  rw [sX0_isSoonBehind] at hσ
  refine lv_aload_n hx hb dX0_isSoonBehind_0 rfl (lv_at hl 0 rfl) ?_
  refine lv_iload_n hx hb dX0_isSoonBehind_1 rfl (lv_at hl 1 rfl) ?_
  refine vq_Vi (As := [.int p1]) (rest := []) (W2 := (wL cI h hp S)) (f := (sX0_nextOfHand S p1)) hx hb hml hown hts hK hP hD hS hA hE hl.1 (cX0_nextOfHand_c l ev dC dI cI cZ cO h hp S p1 hT) gX0_isSoonBehind_X0_nextOfHand rfl hdX0_nextOfHand (Nat.le_of_ble_eq_true rfl) (Nat.le_of_ble_eq_true rfl) rfl rfl (ci := 0) (qr := 0) rfl rfl rfl [0, 1] [] [0, 1] rfl rfl (by decide) (by decide) (by decide) rfl rfl rfl (Nat.le_of_ble_eq_true rfl) dX0_isSoonBehind_2 ⟨Nat.zero_le _, Nat.zero_le _⟩ (fun H locs hP hD hS => ?_)
  refine lv_istore_n (lv' := [(2, .int (sX0_nextOfHand S p1)), (0, .ref h), (1, .int p1)]) hx hb dX0_isSoonBehind_5 rfl hl (by decide) rfl (fun ls hl => ?_)
  refine lv_iload_n hx hb dX0_isSoonBehind_6 rfl (lv_at hl 0 rfl) ?_
  refine lv_bipush (v := (-9)) hx hb dX0_isSoonBehind_7 (by decide) ?_
  refine lv_icmp_eq (tgt := 25) hx hb dX0_isSoonBehind_9 (by decide) (fun c9 => ?_) (fun c9 => ?_)
  · rw [if_pos c9] at hσ
    refine lv_iconst (v := 0) hx hb dX0_isSoonBehind_25 (by decide) ?_
    subst hσ
    exact vq_zret hx hb hr hlocks hK hP hD hS rfl rfl dX0_isSoonBehind_26
  · rw [if_neg c9] at hσ
    refine lv_aload_n hx hb dX0_isSoonBehind_12 rfl (lv_at hl 1 rfl) ?_
    refine lv_iload_n hx hb dX0_isSoonBehind_13 rfl (lv_at hl 2 rfl) ?_
    refine lv_iload_n hx hb dX0_isSoonBehind_14 rfl (lv_at hl 0 rfl) ?_
    refine vq_Vi (As := [.int p1, .int (sX0_nextOfHand S p1)]) (rest := []) (W2 := (wL cI h hp S)) (f := (bI (sX0_isTooSoon S p1 (sX0_nextOfHand S p1)))) hx hb hml hown hts hK hP hD hS hA hE hl.1 (cX0_isTooSoon_c l ev dC dI cI cZ cO h hp S p1 (sX0_nextOfHand S p1)) gX0_isSoonBehind_X0_isTooSoon rfl hdX0_isTooSoon (Nat.le_of_ble_eq_true rfl) (Nat.le_of_ble_eq_true rfl) rfl rfl (ci := 0) (qr := 0) rfl rfl rfl [0, 1] [] [0, 1] rfl rfl (by decide) (by decide) (by decide) rfl rfl rfl (Nat.le_of_ble_eq_true rfl) dX0_isSoonBehind_15 ⟨Nat.zero_le _, Nat.zero_le _⟩ (fun H locs hP hD hS => ?_)
    refine lv_if_eqB (tgt := 25) hx hb dX0_isSoonBehind_18 (by decide) (fun c18 => ?_) (fun c18 => ?_)
    · rw [if_neg (Bool.eq_false_iff.mp c18)] at hσ
      refine lv_iconst (v := 0) hx hb dX0_isSoonBehind_25 (by decide) ?_
      subst hσ
      exact vq_zret hx hb hr hlocks hK hP hD hS rfl rfl dX0_isSoonBehind_26
    · rw [if_pos c18] at hσ
      refine lv_iconst (v := 1) hx hb dX0_isSoonBehind_21 (by decide) ?_
      refine lv_goto (tgt := 26) hx hb dX0_isSoonBehind_22 (by decide) ?_
      subst hσ
      exact vq_zret hx hb hr hlocks hK hP hD hS rfl rfl dX0_isSoonBehind_26
theorem hdX0_isFarBehind : yX0_isFarBehind.cls = RX0 ∧ yX0_isFarBehind.cls ≠ "java/lang/invoke/MethodHandle" ∧ yX0_isFarBehind.cls ≠ "java/lang/invoke/VarHandle" ∧ (parseMethodDescriptor yX0_isFarBehind.desc).map (fun d => d.parameters.length) = some 1 := by decide +kernel
set_option maxHeartbeats 4000000 in
set_option maxRecDepth 100000 in
theorem cX0_isFarBehind_c (l : Launch) (ev : Nat → Nat) (dC : Nat → ClassId) (dI : Nat → Nat → Nat) (cI cZ cO : ClassId) (h : Nat) (hp : Nat) (S : LSt) (p1 : Int32) (hT : XOK S) : MetI l ev (dC, dI) (tyC cI cZ cO) yX0_isFarBehind wsX0_isFarBehind (rmF 2 43) [.ref h, .int p1] (wL cI h hp S) (bI (sX0_isFarBehind S p1)) (wL cI h hp S) := by
  refine MetI_of (cc := cX0_isFarBehind) (maxL := 3) (ret := (some .boolean)) (by decide) rfl (Nat.le_of_ble_eq_true rfl) ?_
  intro p e s m below meth c A ls hx hb hr hml hts hown hlocks hin hK hP hD hA hE hl
  have hown : s.vm.findClass RX0 = some m.cls := hown
  have hl : lv_has ls 3 [(0, .ref h), (1, .int p1)] := hl
  have hS : va_S A s.heap s.heap [] := va_S.rf
  obtain ⟨σ, hσ⟩ : ∃ σ, (sX0_isFarBehind S p1) = σ := ⟨_, rfl⟩
  rw [hσ]
  rw [sX0_isFarBehind] at hσ
  refine lv_aload_n hx hb dX0_isFarBehind_0 rfl (lv_at hl 0 rfl) ?_
  refine lv_iload_n hx hb dX0_isFarBehind_1 rfl (lv_at hl 1 rfl) ?_
  refine vq_Vi (As := [.int p1]) (rest := []) (W2 := (wL cI h hp S)) (f := (sX0_nextOfHand S p1)) hx hb hml hown hts hK hP hD hS hA hE hl.1 (cX0_nextOfHand_c l ev dC dI cI cZ cO h hp S p1 hT) gX0_isFarBehind_X0_nextOfHand rfl hdX0_nextOfHand (Nat.le_of_ble_eq_true rfl) (Nat.le_of_ble_eq_true rfl) rfl rfl (ci := 0) (qr := 0) rfl rfl rfl [0, 1] [] [0, 1] rfl rfl (by decide) (by decide) (by decide) rfl rfl rfl (Nat.le_of_ble_eq_true rfl) dX0_isFarBehind_2 ⟨Nat.zero_le _, Nat.zero_le _⟩ (fun H locs hP hD hS => ?_)
  refine lv_istore_n (lv' := [(2, .int (sX0_nextOfHand S p1)), (0, .ref h), (1, .int p1)]) hx hb dX0_isFarBehind_5 rfl hl (by decide) rfl (fun ls hl => ?_)
  refine lv_iload_n hx hb dX0_isFarBehind_6 rfl (lv_at hl 0 rfl) ?_
  refine lv_bipush (v := (-9)) hx hb dX0_isFarBehind_7 (by decide) ?_
  refine lv_icmp_eq (tgt := 25) hx hb dX0_isFarBehind_9 (by decide) (fun c9 => ?_) (fun c9 => ?_)
  · rw [if_pos c9] at hσ
    refine lv_iconst (v := 0) hx hb dX0_isFarBehind_25 (by decide) ?_
    subst hσ
    exact vq_zret hx hb hr hlocks hK hP hD hS rfl rfl dX0_isFarBehind_26
  · rw [if_neg c9] at hσ
    refine lv_aload_n hx hb dX0_isFarBehind_12 rfl (lv_at hl 1 rfl) ?_
    refine lv_iload_n hx hb dX0_isFarBehind_13 rfl (lv_at hl 2 rfl) ?_
    refine lv_iload_n hx hb dX0_isFarBehind_14 rfl (lv_at hl 0 rfl) ?_
    refine vq_Vi (As := [.int p1, .int (sX0_nextOfHand S p1)]) (rest := []) (W2 := (wL cI h hp S)) (f := (bI (sX0_isTooFar S p1 (sX0_nextOfHand S p1)))) hx hb hml hown hts hK hP hD hS hA hE hl.1 (cX0_isTooFar_c l ev dC dI cI cZ cO h hp S p1 (sX0_nextOfHand S p1)) gX0_isFarBehind_X0_isTooFar rfl hdX0_isTooFar (Nat.le_of_ble_eq_true rfl) (Nat.le_of_ble_eq_true rfl) rfl rfl (ci := 0) (qr := 0) rfl rfl rfl [0, 1] [] [0, 1] rfl rfl (by decide) (by decide) (by decide) rfl rfl rfl (Nat.le_of_ble_eq_true rfl) dX0_isFarBehind_15 ⟨Nat.zero_le _, Nat.zero_le _⟩ (fun H locs hP hD hS => ?_)
    refine lv_if_eqB (tgt := 25) hx hb dX0_isFarBehind_18 (by decide) (fun c18 => ?_) (fun c18 => ?_)
    · rw [if_neg (Bool.eq_false_iff.mp c18)] at hσ
      refine lv_iconst (v := 0) hx hb dX0_isFarBehind_25 (by decide) ?_
      subst hσ
      exact vq_zret hx hb hr hlocks hK hP hD hS rfl rfl dX0_isFarBehind_26
    · rw [if_pos c18] at hσ
      refine lv_iconst (v := 1) hx hb dX0_isFarBehind_21 (by decide) ?_
      refine lv_goto (tgt := 26) hx hb dX0_isFarBehind_22 (by decide) ?_
      subst hσ
      exact vq_zret hx hb hr hlocks hK hP hD hS rfl rfl dX0_isFarBehind_26
theorem hdX0_countTooSoon : yX0_countTooSoon.cls = RX0 ∧ yX0_countTooSoon.cls ≠ "java/lang/invoke/MethodHandle" ∧ yX0_countTooSoon.cls ≠ "java/lang/invoke/VarHandle" ∧ (parseMethodDescriptor yX0_countTooSoon.desc).map (fun d => d.parameters.length) = some 0 := by decide +kernel
set_option maxHeartbeats 4000000 in
set_option maxRecDepth 100000 in
theorem cX0_countTooSoon_c (l : Launch) (ev : Nat → Nat) (dC : Nat → ClassId) (dI : Nat → Nat → Nat) (cI cZ cO : ClassId) (h : Nat) (hp : Nat) (S : LSt) (hT : XOK S) : MetI l ev (dC, dI) (tyC cI cZ cO) yX0_countTooSoon wsX0_countTooSoon (rmF 3 65) [.ref h] (wL cI h hp S) (sX0_countTooSoon S) (wL cI h hp S) := by
  refine MetI_of (cc := cX0_countTooSoon) (maxL := 3) (ret := (some .int)) (by decide) rfl (Nat.le_of_ble_eq_true rfl) ?_
  intro p e s m below meth c A ls hx hb hr hml hts hown hlocks hin hK hP hD hA hE hl
  have hown : s.vm.findClass RX0 = some m.cls := hown
  have hl : lv_has ls 3 [(0, .ref h)] := hl
  have hS : va_S A s.heap s.heap [] := va_S.rf
  obtain ⟨σ, hσ⟩ : ∃ σ, (sX0_countTooSoon S) = σ := ⟨_, rfl⟩
  rw [hσ]
  rw [sX0_countTooSoon] at hσ
  obtain ⟨T, eT, hT1, hT2⟩ := id hT
  refine lv_iconst (v := 0) hx hb dX0_countTooSoon_0 (by decide) ?_
  refine lv_istore_n (lv' := [(1, .int 0), (0, .ref h)]) hx hb dX0_countTooSoon_1 rfl hl (by decide) rfl (fun ls hl => ?_)
  refine lv_iconst (v := 0) hx hb dX0_countTooSoon_2 (by decide) ?_
  refine lv_istore_n (lv' := [(2, .int 0), (1, .int 0), (0, .ref h)]) hx hb dX0_countTooSoon_3 rfl hl (by decide) rfl (fun ls hl => ?_)
  have key4 : ∀ (n4 : Nat) (x1_4 : Int32) (x2_4 : Int32)  (k4 : Nat), (x2_4 = nI k4) → (k4 ≤ 12) → (12 + 1 ≤ n4 + k4) → (sX0_countTooSoon_L4 S n4 x1_4 x2_4) = σ → ∀ (H : Heap) (locs : List Loc) (ls : Array Slot), va_P (dC, dI) vwCl (wL cI h hp S) H → va_D A (wL cI h hp S) → va_S A s.heap H locs → lv_has ls 3 [(0, .ref h), (1, .int x1_4), (2, .int x2_4)] → W p l e (headSpec wsX0_countTooSoon (rmF 3 65)).room s m ([.ref h] : List Value).toArray below meth c H locs 0 0 (MQ below (va_Qi (fun (x : Int32) (_ : Unit) => x = σ) (fun _ t => PoW (dC, dI) (tyC cI cZ cO) A (wL cI h hp S) t) A) ([.ref h] : List Value).toArray s 0 0 A) (F0 m 4 ls []) := by
    intro n4
    induction n4 with
    | zero =>
      intro x1_4 x2_4 k4 e4 hk4 hn4
      exact absurd hn4 (by omega)
    | succ n4 ih4 =>
      intro x1_4 x2_4 k4 e4 hk4 hn4 hσ H locs ls hP hD hS hl
      rw [sX0_countTooSoon_L4_s] at hσ
      refine lv_iload_n hx hb dX0_countTooSoon_4 rfl (lv_at hl 2 rfl) ?_
      refine lv_aload_n hx hb dX0_countTooSoon_5 rfl (lv_at hl 0 rfl) ?_
      refine va_get (D := (dC, dI)) (ci := 0) (v := .int (S.1 0)) (C := RX0) (T := TX0) (N := 7) hx hb hts (fun _ h => List.mem_cons_of_mem _ (List.mem_append_right _ h)) hown hK hP 0 rfl rfl 1 (by decide) (hts (.fieldLink RX0 24 "SharedLine$Line" "ticks" "I") (List.mem_of_getElem? (i := 1) rfl)) (fun _ h9 => h9) rfl dX0_countTooSoon_6 ?_
      refine lv_icmp_ge (tgt := 29) hx hb dX0_countTooSoon_9 (by decide) (fun c9 => ?_) (fun c9 => ?_)
      · rw [if_pos c9] at hσ
        refine lv_iload_n hx hb dX0_countTooSoon_29 rfl (lv_at hl 1 rfl) ?_
        subst hσ
        exact vq_iret hx hb hr hlocks hK hP hD hS rfl dX0_countTooSoon_30
      · rw [if_neg c9] at hσ
        refine lv_aload_n hx hb dX0_countTooSoon_12 rfl (lv_at hl 0 rfl) ?_
        refine lv_iload_n hx hb dX0_countTooSoon_13 rfl (lv_at hl 2 rfl) ?_
        refine vq_Vi (As := [.int x2_4]) (rest := []) (W2 := (wL cI h hp S)) (f := (bI (sX0_isSoonBehind S x2_4))) hx hb hml hown hts hK hP hD hS hA hE hl.1 (cX0_isSoonBehind_c l ev dC dI cI cZ cO h hp S x2_4 hT) gX0_countTooSoon_X0_isSoonBehind rfl hdX0_isSoonBehind (Nat.le_of_ble_eq_true rfl) (Nat.le_of_ble_eq_true rfl) rfl rfl (ci := 0) (qr := 0) rfl rfl rfl [0, 1] [] [0, 1] rfl rfl (by decide) (by decide) (by decide) rfl rfl rfl (Nat.le_of_ble_eq_true rfl) dX0_countTooSoon_14 ⟨Nat.zero_le _, Nat.zero_le _⟩ (fun H locs hP hD hS => ?_)
        refine lv_if_eqB (tgt := 23) hx hb dX0_countTooSoon_17 (by decide) (fun c17 => ?_) (fun c17 => ?_)
        · rw [if_neg (Bool.eq_false_iff.mp c17)] at hσ
          refine lv_iinc (v := (x2_4 + 1)) (lv' := [(2, .int (x2_4 + 1)), (0, .ref h), (1, .int x1_4)]) hx hb dX0_countTooSoon_23 hl (k := 2) rfl rfl (by decide) rfl (fun ls hl => ?_)
          refine lv_goto (tgt := 4) hx hb dX0_countTooSoon_26 (by decide) ?_
          exact ih4 x1_4 (x2_4 + 1) (k4 + 1) (up_s e4) (by have := up_lt e4 eT (by omega) c9; omega) (by omega) hσ _ _ _ hP hD hS (lv_sub hl [1, 2, 0] rfl)
        · rw [if_pos c17] at hσ
          refine lv_iinc (v := (x1_4 + 1)) (lv' := [(1, .int (x1_4 + 1)), (0, .ref h), (2, .int x2_4)]) hx hb dX0_countTooSoon_20 hl (k := 1) rfl rfl (by decide) rfl (fun ls hl => ?_)
          refine lv_iinc (v := (x2_4 + 1)) (lv' := [(2, .int (x2_4 + 1)), (1, .int (x1_4 + 1)), (0, .ref h)]) hx hb dX0_countTooSoon_23 hl (k := 2) rfl rfl (by decide) rfl (fun ls hl => ?_)
          refine lv_goto (tgt := 4) hx hb dX0_countTooSoon_26 (by decide) ?_
          exact ih4 (x1_4 + 1) (x2_4 + 1) (k4 + 1) (up_s e4) (by have := up_lt e4 eT (by omega) c9; omega) (by omega) hσ _ _ _ hP hD hS (lv_sub hl [2, 1, 0] rfl)
  exact key4 13 (0 : Int32) (0 : Int32) 0 nI_0.symm (Nat.zero_le _) (Nat.le_refl _) hσ _ _ _ hP hD hS (lv_sub hl [2, 1, 0] rfl)
theorem hdX0_countTooFar : yX0_countTooFar.cls = RX0 ∧ yX0_countTooFar.cls ≠ "java/lang/invoke/MethodHandle" ∧ yX0_countTooFar.cls ≠ "java/lang/invoke/VarHandle" ∧ (parseMethodDescriptor yX0_countTooFar.desc).map (fun d => d.parameters.length) = some 0 := by decide +kernel
set_option maxHeartbeats 4000000 in
set_option maxRecDepth 100000 in
theorem cX0_countTooFar_c (l : Launch) (ev : Nat → Nat) (dC : Nat → ClassId) (dI : Nat → Nat → Nat) (cI cZ cO : ClassId) (h : Nat) (hp : Nat) (S : LSt) (hT : XOK S) : MetI l ev (dC, dI) (tyC cI cZ cO) yX0_countTooFar wsX0_countTooFar (rmF 3 65) [.ref h] (wL cI h hp S) (sX0_countTooFar S) (wL cI h hp S) := by
  refine MetI_of (cc := cX0_countTooFar) (maxL := 3) (ret := (some .int)) (by decide) rfl (Nat.le_of_ble_eq_true rfl) ?_
  intro p e s m below meth c A ls hx hb hr hml hts hown hlocks hin hK hP hD hA hE hl
  have hown : s.vm.findClass RX0 = some m.cls := hown
  have hl : lv_has ls 3 [(0, .ref h)] := hl
  have hS : va_S A s.heap s.heap [] := va_S.rf
  obtain ⟨σ, hσ⟩ : ∃ σ, (sX0_countTooFar S) = σ := ⟨_, rfl⟩
  rw [hσ]
  rw [sX0_countTooFar] at hσ
  obtain ⟨T, eT, hT1, hT2⟩ := id hT
  refine lv_iconst (v := 0) hx hb dX0_countTooFar_0 (by decide) ?_
  refine lv_istore_n (lv' := [(1, .int 0), (0, .ref h)]) hx hb dX0_countTooFar_1 rfl hl (by decide) rfl (fun ls hl => ?_)
  refine lv_iconst (v := 0) hx hb dX0_countTooFar_2 (by decide) ?_
  refine lv_istore_n (lv' := [(2, .int 0), (1, .int 0), (0, .ref h)]) hx hb dX0_countTooFar_3 rfl hl (by decide) rfl (fun ls hl => ?_)
  have key4 : ∀ (n4 : Nat) (x1_4 : Int32) (x2_4 : Int32)  (k4 : Nat), (x2_4 = nI k4) → (k4 ≤ 12) → (12 + 1 ≤ n4 + k4) → (sX0_countTooFar_L4 S n4 x1_4 x2_4) = σ → ∀ (H : Heap) (locs : List Loc) (ls : Array Slot), va_P (dC, dI) vwCl (wL cI h hp S) H → va_D A (wL cI h hp S) → va_S A s.heap H locs → lv_has ls 3 [(0, .ref h), (1, .int x1_4), (2, .int x2_4)] → W p l e (headSpec wsX0_countTooFar (rmF 3 65)).room s m ([.ref h] : List Value).toArray below meth c H locs 0 0 (MQ below (va_Qi (fun (x : Int32) (_ : Unit) => x = σ) (fun _ t => PoW (dC, dI) (tyC cI cZ cO) A (wL cI h hp S) t) A) ([.ref h] : List Value).toArray s 0 0 A) (F0 m 4 ls []) := by
    intro n4
    induction n4 with
    | zero =>
      intro x1_4 x2_4 k4 e4 hk4 hn4
      exact absurd hn4 (by omega)
    | succ n4 ih4 =>
      intro x1_4 x2_4 k4 e4 hk4 hn4 hσ H locs ls hP hD hS hl
      rw [sX0_countTooFar_L4_s] at hσ
      refine lv_iload_n hx hb dX0_countTooFar_4 rfl (lv_at hl 2 rfl) ?_
      refine lv_aload_n hx hb dX0_countTooFar_5 rfl (lv_at hl 0 rfl) ?_
      refine va_get (D := (dC, dI)) (ci := 0) (v := .int (S.1 0)) (C := RX0) (T := TX0) (N := 7) hx hb hts (fun _ h => List.mem_cons_of_mem _ (List.mem_append_right _ h)) hown hK hP 0 rfl rfl 1 (by decide) (hts (.fieldLink RX0 24 "SharedLine$Line" "ticks" "I") (List.mem_of_getElem? (i := 1) rfl)) (fun _ h9 => h9) rfl dX0_countTooFar_6 ?_
      refine lv_icmp_ge (tgt := 29) hx hb dX0_countTooFar_9 (by decide) (fun c9 => ?_) (fun c9 => ?_)
      · rw [if_pos c9] at hσ
        refine lv_iload_n hx hb dX0_countTooFar_29 rfl (lv_at hl 1 rfl) ?_
        subst hσ
        exact vq_iret hx hb hr hlocks hK hP hD hS rfl dX0_countTooFar_30
      · rw [if_neg c9] at hσ
        refine lv_aload_n hx hb dX0_countTooFar_12 rfl (lv_at hl 0 rfl) ?_
        refine lv_iload_n hx hb dX0_countTooFar_13 rfl (lv_at hl 2 rfl) ?_
        refine vq_Vi (As := [.int x2_4]) (rest := []) (W2 := (wL cI h hp S)) (f := (bI (sX0_isFarBehind S x2_4))) hx hb hml hown hts hK hP hD hS hA hE hl.1 (cX0_isFarBehind_c l ev dC dI cI cZ cO h hp S x2_4 hT) gX0_countTooFar_X0_isFarBehind rfl hdX0_isFarBehind (Nat.le_of_ble_eq_true rfl) (Nat.le_of_ble_eq_true rfl) rfl rfl (ci := 0) (qr := 0) rfl rfl rfl [0, 1] [] [0, 1] rfl rfl (by decide) (by decide) (by decide) rfl rfl rfl (Nat.le_of_ble_eq_true rfl) dX0_countTooFar_14 ⟨Nat.zero_le _, Nat.zero_le _⟩ (fun H locs hP hD hS => ?_)
        refine lv_if_eqB (tgt := 23) hx hb dX0_countTooFar_17 (by decide) (fun c17 => ?_) (fun c17 => ?_)
        · rw [if_neg (Bool.eq_false_iff.mp c17)] at hσ
          refine lv_iinc (v := (x2_4 + 1)) (lv' := [(2, .int (x2_4 + 1)), (0, .ref h), (1, .int x1_4)]) hx hb dX0_countTooFar_23 hl (k := 2) rfl rfl (by decide) rfl (fun ls hl => ?_)
          refine lv_goto (tgt := 4) hx hb dX0_countTooFar_26 (by decide) ?_
          exact ih4 x1_4 (x2_4 + 1) (k4 + 1) (up_s e4) (by have := up_lt e4 eT (by omega) c9; omega) (by omega) hσ _ _ _ hP hD hS (lv_sub hl [1, 2, 0] rfl)
        · rw [if_pos c17] at hσ
          refine lv_iinc (v := (x1_4 + 1)) (lv' := [(1, .int (x1_4 + 1)), (0, .ref h), (2, .int x2_4)]) hx hb dX0_countTooFar_20 hl (k := 1) rfl rfl (by decide) rfl (fun ls hl => ?_)
          refine lv_iinc (v := (x2_4 + 1)) (lv' := [(2, .int (x2_4 + 1)), (1, .int (x1_4 + 1)), (0, .ref h)]) hx hb dX0_countTooFar_23 hl (k := 2) rfl rfl (by decide) rfl (fun ls hl => ?_)
          refine lv_goto (tgt := 4) hx hb dX0_countTooFar_26 (by decide) ?_
          exact ih4 (x1_4 + 1) (x2_4 + 1) (k4 + 1) (up_s e4) (by have := up_lt e4 eT (by omega) c9; omega) (by omega) hσ _ _ _ hP hD hS (lv_sub hl [2, 1, 0] rfl)
  exact key4 13 (0 : Int32) (0 : Int32) 0 nI_0.symm (Nat.zero_le _) (Nat.le_refl _) hσ _ _ _ hP hD hS (lv_sub hl [2, 1, 0] rfl)
theorem hdX0_isLawful : yX0_isLawful.cls = RX0 ∧ yX0_isLawful.cls ≠ "java/lang/invoke/MethodHandle" ∧ yX0_isLawful.cls ≠ "java/lang/invoke/VarHandle" ∧ (parseMethodDescriptor yX0_isLawful.desc).map (fun d => d.parameters.length) = some 1 := by decide +kernel
set_option maxHeartbeats 4000000 in
set_option maxRecDepth 100000 in
theorem cX0_isLawful_c (l : Launch) (ev : Nat → Nat) (dC : Nat → ClassId) (dI : Nat → Nat → Nat) (cI cZ cO : ClassId) (h : Nat) (hp : Nat) (S : LSt) (p1 : Int32) (hT : XOK S) : MetI l ev (dC, dI) (tyC cI cZ cO) yX0_isLawful wsX0_isLawful (rmF 3 65) [.ref h, .int p1] (wL cI h hp S) (bI (sX0_isLawful S p1)) (wL cI h hp S) := by
  refine MetI_of (cc := cX0_isLawful) (maxL := 6) (ret := (some .boolean)) (by decide) rfl (Nat.le_of_ble_eq_true rfl) ?_
  intro p e s m below meth c A ls hx hb hr hml hts hown hlocks hin hK hP hD hA hE hl
  have hown : s.vm.findClass RX0 = some m.cls := hown
  have hl : lv_has ls 6 [(0, .ref h), (1, .int p1)] := hl
  have hS : va_S A s.heap s.heap [] := va_S.rf
  obtain ⟨σ, hσ⟩ : ∃ σ, (sX0_isLawful S p1) = σ := ⟨_, rfl⟩
  rw [hσ]
  rw [sX0_isLawful] at hσ
  obtain ⟨T, eT, hT1, hT2⟩ := id hT
  refine lv_bipush (v := (-9)) hx hb dX0_isLawful_0 (by decide) ?_
  refine lv_istore_n (lv' := [(2, .int (-9)), (0, .ref h), (1, .int p1)]) hx hb dX0_isLawful_2 rfl hl (by decide) rfl (fun ls hl => ?_)
  refine lv_bipush (v := (-9)) hx hb dX0_isLawful_3 (by decide) ?_
  refine lv_istore_n (lv' := [(3, .int (-9)), (2, .int (-9)), (0, .ref h), (1, .int p1)]) hx hb dX0_isLawful_5 rfl hl (by decide) rfl (fun ls hl => ?_)
  refine lv_iconst (v := 0) hx hb dX0_isLawful_6 (by decide) ?_
  refine lv_istore (lv' := [(4, .int 0), (3, .int (-9)), (2, .int (-9)), (0, .ref h), (1, .int p1)]) hx hb dX0_isLawful_7 hl (by decide) rfl (fun ls hl => ?_)
  have key9 : ∀ (n9 : Nat) (x2_9 : Int32) (x3_9 : Int32) (x4_9 : Int32)  (k9 : Nat), (x4_9 = nI k9) → (k9 ≤ 12) → (12 + 1 ≤ n9 + k9) → (sX0_isLawful_L9 S p1 n9 x2_9 x3_9 x4_9) = σ → ∀ (H : Heap) (locs : List Loc) (ls : Array Slot), va_P (dC, dI) vwCl (wL cI h hp S) H → va_D A (wL cI h hp S) → va_S A s.heap H locs → lv_has ls 6 [(0, .ref h), (1, .int p1), (2, .int x2_9), (3, .int x3_9), (4, .int x4_9)] → W p l e (headSpec wsX0_isLawful (rmF 3 65)).room s m ([.ref h, .int p1] : List Value).toArray below meth c H locs 0 0 (MQ below (va_Qi (fun (x : Int32) (_ : Unit) => x = bI σ) (fun _ t => PoW (dC, dI) (tyC cI cZ cO) A (wL cI h hp S) t) A) ([.ref h, .int p1] : List Value).toArray s 0 0 A) (F0 m 9 ls []) := by
    intro n9
    induction n9 with
    | zero =>
      intro x2_9 x3_9 x4_9 k9 e9 hk9 hn9
      exact absurd hn9 (by omega)
    | succ n9 ih9 =>
      intro x2_9 x3_9 x4_9 k9 e9 hk9 hn9 hσ H locs ls hP hD hS hl
      rw [sX0_isLawful_L9_s] at hσ
      refine lv_iload hx hb dX0_isLawful_9 (lv_at hl 4 rfl) ?_
      refine lv_aload_n hx hb dX0_isLawful_11 rfl (lv_at hl 0 rfl) ?_
      refine va_get (D := (dC, dI)) (ci := 0) (v := .int (S.1 0)) (C := RX0) (T := TX0) (N := 7) hx hb hts (fun _ h => List.mem_cons_of_mem _ (List.mem_append_right _ h)) hown hK hP 0 rfl rfl 1 (by decide) (hts (.fieldLink RX0 24 "SharedLine$Line" "ticks" "I") (List.mem_of_getElem? (i := 1) rfl)) (fun _ h9 => h9) rfl dX0_isLawful_12 ?_
      refine lv_icmp_ge (tgt := 88) hx hb dX0_isLawful_15 (by decide) (fun c15 => ?_) (fun c15 => ?_)
      · rw [if_pos c15] at hσ
        refine lv_iconst (v := 1) hx hb dX0_isLawful_88 (by decide) ?_
        subst hσ
        exact vq_zret hx hb hr hlocks hK hP hD hS rfl rfl dX0_isLawful_89
      · rw [if_neg c15] at hσ
        refine lv_aload_n hx hb dX0_isLawful_18 rfl (lv_at hl 0 rfl) ?_
        refine lv_iload hx hb dX0_isLawful_19 (lv_at hl 4 rfl) ?_
        refine vq_Vi (As := [.int x4_9]) (rest := []) (W2 := (wL cI h hp S)) (f := (bI (sX0_hasNote S x4_9))) hx hb hml hown hts hK hP hD hS hA hE hl.1 (cX0_hasNote_c l ev dC dI cI cZ cO h hp S x4_9) gX0_isLawful_X0_hasNote rfl hdX0_hasNote (Nat.le_of_ble_eq_true rfl) (Nat.le_of_ble_eq_true rfl) rfl rfl (ci := 0) (qr := 0) rfl rfl rfl [0, 1] [] [0, 1] rfl rfl (by decide) (by decide) (by decide) rfl rfl rfl (Nat.le_of_ble_eq_true rfl) dX0_isLawful_21 ⟨Nat.zero_le _, Nat.zero_le _⟩ (fun H locs hP hD hS => ?_)
        refine lv_if_neB (tgt := 30) hx hb dX0_isLawful_24 (by decide) (fun c24 => ?_) (fun c24 => ?_)
        · rw [if_pos c24] at hσ
          refine lv_iload_n hx hb dX0_isLawful_30 rfl (lv_at hl 1 rfl) ?_
          refine lv_iload hx hb dX0_isLawful_31 (lv_at hl 4 rfl) ?_
          refine lv_ishr hx hb dX0_isLawful_33 ?_
          refine lv_iconst (v := 1) hx hb dX0_isLawful_34 (by decide) ?_
          refine lv_iand hx hb dX0_isLawful_35 ?_
          refine lv_iconst (v := 1) hx hb dX0_isLawful_36 (by decide) ?_
          refine lv_icmp_ne (tgt := 44) hx hb dX0_isLawful_37 (by decide) (fun c37 => ?_) (fun c37 => ?_)
          · rw [if_neg c37] at hσ
            refine lv_iconst (v := 0) hx hb dX0_isLawful_44 (by decide) ?_
            refine lv_istore (lv' := [(5, .int 0), (0, .ref h), (1, .int p1), (2, .int x2_9), (3, .int x3_9), (4, .int x4_9)]) hx hb dX0_isLawful_45 hl (by decide) rfl (fun ls hl => ?_)
            refine lv_aload_n hx hb dX0_isLawful_47 rfl (lv_at hl 1 rfl) ?_
            refine lv_iload hx hb dX0_isLawful_48 (lv_at hl 0 rfl) ?_
            refine lv_if_eq (tgt := 57) hx hb dX0_isLawful_50 (by decide) (fun c50 => ?_) (fun c50 => absurd c50 (by decide))
            refine lv_iload_n hx hb dX0_isLawful_57 rfl (lv_at hl 3 rfl) ?_
            refine lv_iload hx hb dX0_isLawful_58 (lv_at hl 5 rfl) ?_
            refine vq_Vi (As := [.int x2_9, .int x4_9]) (rest := []) (W2 := (wL cI h hp S)) (f := (bI (sX0_mayStrike S x2_9 x4_9))) hx hb hml hown hts hK hP hD hS hA hE hl.1 (cX0_mayStrike_c l ev dC dI cI cZ cO h hp S x2_9 x4_9) gX0_isLawful_X0_mayStrike rfl hdX0_mayStrike (Nat.le_of_ble_eq_true rfl) (Nat.le_of_ble_eq_true rfl) rfl rfl (ci := 0) (qr := 0) rfl rfl rfl [0, 1] [] [0, 1] rfl rfl (by decide) (by decide) (by decide) rfl rfl rfl (Nat.le_of_ble_eq_true rfl) dX0_isLawful_60 ⟨Nat.zero_le _, Nat.zero_le _⟩ (fun H locs hP hD hS => ?_)
            refine lv_if_neB (tgt := 68) hx hb dX0_isLawful_63 (by decide) (fun c63 => ?_) (fun c63 => ?_)
            · rw [if_pos c63] at hσ
              refine lv_iload hx hb dX0_isLawful_68 (lv_at hl 0 rfl) ?_
              refine lv_if_eq (tgt := 79) hx hb dX0_isLawful_70 (by decide) (fun c70 => ?_) (fun c70 => absurd c70 (by decide))
              refine lv_iload hx hb dX0_isLawful_79 (lv_at hl 5 rfl) ?_
              refine lv_istore_n (lv' := [(2, .int x4_9), (5, .int 0), (0, .ref h), (1, .int p1), (3, .int x3_9), (4, .int x4_9)]) hx hb dX0_isLawful_81 rfl hl (by decide) rfl (fun ls hl => ?_)
              refine lv_iinc (v := (x4_9 + 1)) (lv' := [(4, .int (x4_9 + 1)), (2, .int x4_9), (5, .int 0), (0, .ref h), (1, .int p1), (3, .int x3_9)]) hx hb dX0_isLawful_82 hl (k := 5) rfl rfl (by decide) rfl (fun ls hl => ?_)
              refine lv_goto (tgt := 9) hx hb dX0_isLawful_85 (by decide) ?_
              exact ih9 x4_9 x3_9 (x4_9 + 1) (k9 + 1) (up_s e9) (by have := up_lt e9 eT (by omega) c15; omega) (by omega) hσ _ _ _ hP hD hS (lv_sub hl [3, 4, 1, 5, 0] rfl)
            · rw [if_neg (Bool.eq_false_iff.mp c63)] at hσ
              refine lv_iconst (v := 0) hx hb dX0_isLawful_66 (by decide) ?_
              subst hσ
              exact vq_zret hx hb hr hlocks hK hP hD hS rfl rfl dX0_isLawful_67
          · rw [if_pos c37] at hσ
            refine lv_iconst (v := 1) hx hb dX0_isLawful_40 (by decide) ?_
            refine lv_goto (tgt := 45) hx hb dX0_isLawful_41 (by decide) ?_
            refine lv_istore (lv' := [(5, .int 1), (0, .ref h), (1, .int p1), (2, .int x2_9), (3, .int x3_9), (4, .int x4_9)]) hx hb dX0_isLawful_45 hl (by decide) rfl (fun ls hl => ?_)
            refine lv_aload_n hx hb dX0_isLawful_47 rfl (lv_at hl 1 rfl) ?_
            refine lv_iload hx hb dX0_isLawful_48 (lv_at hl 0 rfl) ?_
            refine lv_if_eq (tgt := 57) hx hb dX0_isLawful_50 (by decide) (fun c50 => absurd c50 (by decide)) (fun c50 => ?_)
            refine lv_iload_n hx hb dX0_isLawful_53 rfl (lv_at hl 4 rfl) ?_
            refine lv_goto (tgt := 58) hx hb dX0_isLawful_54 (by decide) ?_
            refine lv_iload hx hb dX0_isLawful_58 (lv_at hl 5 rfl) ?_
            refine vq_Vi (As := [.int x3_9, .int x4_9]) (rest := []) (W2 := (wL cI h hp S)) (f := (bI (sX0_mayStrike S x3_9 x4_9))) hx hb hml hown hts hK hP hD hS hA hE hl.1 (cX0_mayStrike_c l ev dC dI cI cZ cO h hp S x3_9 x4_9) gX0_isLawful_X0_mayStrike rfl hdX0_mayStrike (Nat.le_of_ble_eq_true rfl) (Nat.le_of_ble_eq_true rfl) rfl rfl (ci := 0) (qr := 0) rfl rfl rfl [0, 1] [] [0, 1] rfl rfl (by decide) (by decide) (by decide) rfl rfl rfl (Nat.le_of_ble_eq_true rfl) dX0_isLawful_60 ⟨Nat.zero_le _, Nat.zero_le _⟩ (fun H locs hP hD hS => ?_)
            refine lv_if_neB (tgt := 68) hx hb dX0_isLawful_63 (by decide) (fun c63 => ?_) (fun c63 => ?_)
            · rw [if_pos c63] at hσ
              refine lv_iload hx hb dX0_isLawful_68 (lv_at hl 0 rfl) ?_
              refine lv_if_eq (tgt := 79) hx hb dX0_isLawful_70 (by decide) (fun c70 => absurd c70 (by decide)) (fun c70 => ?_)
              refine lv_iload hx hb dX0_isLawful_73 (lv_at hl 5 rfl) ?_
              refine lv_istore_n (lv' := [(3, .int x4_9), (5, .int 1), (0, .ref h), (1, .int p1), (2, .int x2_9), (4, .int x4_9)]) hx hb dX0_isLawful_75 rfl hl (by decide) rfl (fun ls hl => ?_)
              refine lv_goto (tgt := 82) hx hb dX0_isLawful_76 (by decide) ?_
              refine lv_iinc (v := (x4_9 + 1)) (lv' := [(4, .int (x4_9 + 1)), (3, .int x4_9), (5, .int 1), (0, .ref h), (1, .int p1), (2, .int x2_9)]) hx hb dX0_isLawful_82 hl (k := 5) rfl rfl (by decide) rfl (fun ls hl => ?_)
              refine lv_goto (tgt := 9) hx hb dX0_isLawful_85 (by decide) ?_
              exact ih9 x2_9 x4_9 (x4_9 + 1) (k9 + 1) (up_s e9) (by have := up_lt e9 eT (by omega) c15; omega) (by omega) hσ _ _ _ hP hD hS (lv_sub hl [3, 4, 5, 1, 0] rfl)
            · rw [if_neg (Bool.eq_false_iff.mp c63)] at hσ
              refine lv_iconst (v := 0) hx hb dX0_isLawful_66 (by decide) ?_
              subst hσ
              exact vq_zret hx hb hr hlocks hK hP hD hS rfl rfl dX0_isLawful_67
        · rw [if_neg (Bool.eq_false_iff.mp c24)] at hσ
          refine lv_goto (tgt := 82) hx hb dX0_isLawful_27 (by decide) ?_
          refine lv_iinc (v := (x4_9 + 1)) (lv' := [(4, .int (x4_9 + 1)), (0, .ref h), (1, .int p1), (2, .int x2_9), (3, .int x3_9)]) hx hb dX0_isLawful_82 hl (k := 4) rfl rfl (by decide) rfl (fun ls hl => ?_)
          refine lv_goto (tgt := 9) hx hb dX0_isLawful_85 (by decide) ?_
          exact ih9 x2_9 x3_9 (x4_9 + 1) (k9 + 1) (up_s e9) (by have := up_lt e9 eT (by omega) c15; omega) (by omega) hσ _ _ _ hP hD hS (lv_sub hl [1, 2, 3, 4, 0] rfl)
  exact key9 13 ((-9) : Int32) ((-9) : Int32) (0 : Int32) 0 nI_0.symm (Nat.zero_le _) (Nat.le_refl _) hσ _ _ _ hP hD hS (lv_sub hl [3, 4, 2, 1, 0] rfl)
theorem hdX0_likeness : yX0_likeness.cls = RX0 ∧ yX0_likeness.cls ≠ "java/lang/invoke/MethodHandle" ∧ yX0_likeness.cls ≠ "java/lang/invoke/VarHandle" ∧ (parseMethodDescriptor yX0_likeness.desc).map (fun d => d.parameters.length) = some 1 := by decide +kernel
set_option maxHeartbeats 4000000 in
set_option maxRecDepth 100000 in
theorem cX0_likeness_c (l : Launch) (ev : Nat → Nat) (dC : Nat → ClassId) (dI : Nat → Nat → Nat) (cI cZ cO : ClassId) (h : Nat) (hp : Nat) (S : LSt) (p1 : Int32) : MetI l ev (dC, dI) (tyC cI cZ cO) yX0_likeness wsX0_likeness (rmF 1 20) [.ref h, .int p1] (wL cI h hp S) (sX0_likeness S p1) (wL cI h hp S) := by
  refine MetI_of (cc := cX0_likeness) (maxL := 3) (ret := (some .int)) (by decide) rfl (Nat.le_of_ble_eq_true rfl) ?_
  intro p e s m below meth c A ls hx hb hr hml hts hown hlocks hin hK hP hD hA hE hl
  have hown : s.vm.findClass RX0 = some m.cls := hown
  have hl : lv_has ls 3 [(0, .ref h), (1, .int p1)] := hl
  have hS : va_S A s.heap s.heap [] := va_S.rf
  obtain ⟨σ, hσ⟩ : ∃ σ, (sX0_likeness S p1) = σ := ⟨_, rfl⟩
  rw [hσ]
  rw [sX0_likeness] at hσ
  refine lv_aload_n hx hb dX0_likeness_0 rfl (lv_at hl 0 rfl) ?_
  refine va_get (D := (dC, dI)) (ci := 0) (v := .int (S.1 1)) (C := RX0) (T := TX0) (N := 7) hx hb hts (fun _ h => List.mem_cons_of_mem _ (List.mem_append_right _ h)) hown hK hP 0 rfl rfl 2 (by decide) (hts (.fieldLink RX0 28 "SharedLine$Line" "notes" "I") (List.mem_of_getElem? (i := 1) rfl)) (fun _ h9 => h9) rfl dX0_likeness_1 ?_
  refine lv_aload_n hx hb dX0_likeness_4 rfl (lv_at hl 0 rfl) ?_
  refine va_get (D := (dC, dI)) (ci := 0) (v := .int (S.1 1)) (C := RX0) (T := TX0) (N := 7) hx hb hts (fun _ h => List.mem_cons_of_mem _ (List.mem_append_right _ h)) hown hK hP 0 rfl rfl 2 (by decide) (hts (.fieldLink RX0 28 "SharedLine$Line" "notes" "I") (List.mem_of_getElem? (i := 1) rfl)) (fun _ h9 => h9) rfl dX0_likeness_5 ?_
  refine lv_aload_n hx hb dX0_likeness_8 rfl (lv_at hl 0 rfl) ?_
  refine va_get (D := (dC, dI)) (ci := 0) (v := .int (S.1 5)) (C := RX0) (T := TX0) (N := 7) hx hb hts (fun _ h => List.mem_cons_of_mem _ (List.mem_append_right _ h)) hown hK hP 0 rfl rfl 6 (by decide) (hts (.fieldLink RX0 43 "SharedLine$Line" "bar" "I") (List.mem_of_getElem? (i := 2) rfl)) (fun _ h9 => h9) rfl dX0_likeness_9 ?_
  refine lv_ishr hx hb dX0_likeness_12 ?_
  refine lv_iand hx hb dX0_likeness_13 ?_
  refine lv_istore_n (lv' := [(2, .int ((S.1 1) &&& ((S.1 1) >>> ((S.1 5) &&& 31)))), (0, .ref h), (1, .int p1)]) hx hb dX0_likeness_14 rfl hl (by decide) rfl (fun ls hl => ?_)
  refine lv_iload_n hx hb dX0_likeness_15 rfl (lv_at hl 0 rfl) ?_
  refine lv_iload_n hx hb dX0_likeness_16 rfl (lv_at hl 2 rfl) ?_
  refine lv_iload_n hx hb dX0_likeness_17 rfl (lv_at hl 2 rfl) ?_
  refine lv_aload_n hx hb dX0_likeness_18 rfl (lv_at hl 1 rfl) ?_
  refine va_get (D := (dC, dI)) (ci := 0) (v := .int (S.1 5)) (C := RX0) (T := TX0) (N := 7) hx hb hts (fun _ h => List.mem_cons_of_mem _ (List.mem_append_right _ h)) hown hK hP 0 rfl rfl 6 (by decide) (hts (.fieldLink RX0 43 "SharedLine$Line" "bar" "I") (List.mem_of_getElem? (i := 2) rfl)) (fun _ h9 => h9) rfl dX0_likeness_19 ?_
  refine lv_ishr hx hb dX0_likeness_22 ?_
  refine lv_ixor hx hb dX0_likeness_23 ?_
  refine lv_iconst (v := (-1)) hx hb dX0_likeness_24 (by decide) ?_
  refine lv_ixor hx hb dX0_likeness_25 ?_
  refine lv_iand hx hb dX0_likeness_26 ?_
  refine vq_Si (As := [.int (((S.1 1) &&& ((S.1 1) >>> ((S.1 5) &&& 31))) &&& ((p1 ^^^ (p1 >>> ((S.1 5) &&& 31))) ^^^ (-1)))]) (rest := []) (W2 := (wL cI h hp S)) (f := (sJ6_bitCount_0f7a4 (((S.1 1) &&& ((S.1 1) >>> ((S.1 5) &&& 31))) &&& ((p1 ^^^ (p1 >>> ((S.1 5) &&& 31))) ^^^ (-1))))) hx hb hml hown hts hK hP hD hS hA hE hl.1 (cJ6_bitCount_0f7a4_c l ev dC dI cI cZ cO (((S.1 1) &&& ((S.1 1) >>> ((S.1 5) &&& 31))) &&& ((p1 ^^^ (p1 >>> ((S.1 5) &&& 31))) ^^^ (-1)))) gX0_likeness_J6_bitCount_0f7a4 rfl hdJ6_bitCount_0f7a4 (Nat.le_of_ble_eq_true rfl) (Nat.le_of_ble_eq_true rfl) rfl rfl [] [0, 1] [0, 1] rfl rfl (by decide) (by decide) (by decide) rfl rfl rfl (Nat.le_of_ble_eq_true rfl) dX0_likeness_27 ⟨Nat.zero_le _, Nat.zero_le _⟩ (fun H locs hP hD hS => ?_)
  subst hσ
  exact vq_iret hx hb hr hlocks hK hP hD hS rfl dX0_likeness_30
theorem hdX0_tilt : yX0_tilt.cls = RX0 ∧ yX0_tilt.cls ≠ "java/lang/invoke/MethodHandle" ∧ yX0_tilt.cls ≠ "java/lang/invoke/VarHandle" ∧ (parseMethodDescriptor yX0_tilt.desc).map (fun d => d.parameters.length) = some 1 := by decide +kernel
set_option maxHeartbeats 4000000 in
set_option maxRecDepth 100000 in
theorem cX0_tilt_c (l : Launch) (ev : Nat → Nat) (dC : Nat → ClassId) (dI : Nat → Nat → Nat) (cI cZ cO : ClassId) (h : Nat) (hp : Nat) (S : LSt) (p1 : Int32) : MetI l ev (dC, dI) (tyC cI cZ cO) yX0_tilt wsX0_tilt (rmF 1 20) [.ref h, .int p1] (wL cI h hp S) (sX0_tilt S p1) (wL cI h hp S) := by
  refine MetI_of (cc := cX0_tilt) (maxL := 2) (ret := (some .int)) (by decide) rfl (Nat.le_of_ble_eq_true rfl) ?_
  intro p e s m below meth c A ls hx hb hr hml hts hown hlocks hin hK hP hD hA hE hl
  have hown : s.vm.findClass RX0 = some m.cls := hown
  have hl : lv_has ls 2 [(0, .ref h), (1, .int p1)] := hl
  have hS : va_S A s.heap s.heap [] := va_S.rf
  obtain ⟨σ, hσ⟩ : ∃ σ, (sX0_tilt S p1) = σ := ⟨_, rfl⟩
  rw [hσ]
  rw [sX0_tilt] at hσ
  refine lv_aload_n hx hb dX0_tilt_0 rfl (lv_at hl 0 rfl) ?_
  refine va_get (D := (dC, dI)) (ci := 0) (v := .int (S.1 1)) (C := RX0) (T := TX0) (N := 7) hx hb hts (fun _ h => List.mem_cons_of_mem _ (List.mem_append_right _ h)) hown hK hP 0 rfl rfl 2 (by decide) (hts (.fieldLink RX0 28 "SharedLine$Line" "notes" "I") (List.mem_of_getElem? (i := 1) rfl)) (fun _ h9 => h9) rfl dX0_tilt_1 ?_
  refine vq_Si (As := [.int (S.1 1)]) (rest := []) (W2 := (wL cI h hp S)) (f := (sJ6_bitCount_0f7a4 (S.1 1))) hx hb hml hown hts hK hP hD hS hA hE hl.1 (cJ6_bitCount_0f7a4_c l ev dC dI cI cZ cO (S.1 1)) gX0_tilt_J6_bitCount_0f7a4 rfl hdJ6_bitCount_0f7a4 (Nat.le_of_ble_eq_true rfl) (Nat.le_of_ble_eq_true rfl) rfl rfl [] [0, 1] [0, 1] rfl rfl (by decide) (by decide) (by decide) rfl rfl rfl (Nat.le_of_ble_eq_true rfl) dX0_tilt_4 ⟨Nat.zero_le _, Nat.zero_le _⟩ (fun H locs hP hD hS => ?_)
  refine lv_iconst (v := 2) hx hb dX0_tilt_7 (by decide) ?_
  refine lv_iload_n hx hb dX0_tilt_8 rfl (lv_at hl 1 rfl) ?_
  refine vq_Si (As := [.int p1]) (rest := [.int 2, .int (sJ6_bitCount_0f7a4 (S.1 1))]) (W2 := (wL cI h hp S)) (f := (sJ6_bitCount_0f7a4 p1)) hx hb hml hown hts hK hP hD hS hA hE hl.1 (cJ6_bitCount_0f7a4_c l ev dC dI cI cZ cO p1) gX0_tilt_J6_bitCount_0f7a4 rfl hdJ6_bitCount_0f7a4 (Nat.le_of_ble_eq_true rfl) (Nat.le_of_ble_eq_true rfl) rfl rfl [] [0, 1] [0, 1] rfl rfl (by decide) (by decide) (by decide) rfl rfl rfl (Nat.le_of_ble_eq_true rfl) dX0_tilt_9 ⟨Nat.zero_le _, Nat.zero_le _⟩ (fun H locs hP hD hS => ?_)
  refine lv_imul hx hb dX0_tilt_12 ?_
  refine lv_isub hx hb dX0_tilt_13 ?_
  subst hσ
  exact vq_iret hx hb hr hlocks hK hP hD hS rfl dX0_tilt_14
theorem hdX0_pitchesUsed : yX0_pitchesUsed.cls = RX0 ∧ yX0_pitchesUsed.cls ≠ "java/lang/invoke/MethodHandle" ∧ yX0_pitchesUsed.cls ≠ "java/lang/invoke/VarHandle" ∧ (parseMethodDescriptor yX0_pitchesUsed.desc).map (fun d => d.parameters.length) = some 0 := by decide +kernel
set_option maxHeartbeats 4000000 in
set_option maxRecDepth 100000 in
theorem cX0_pitchesUsed_c (l : Launch) (ev : Nat → Nat) (dC : Nat → ClassId) (dI : Nat → Nat → Nat) (cI cZ cO : ClassId) (h : Nat) (hp : Nat) (S : LSt) (hT : XOK S) : MetI l ev (dC, dI) (tyC cI cZ cO) yX0_pitchesUsed wsX0_pitchesUsed (rmF 1 21) [.ref h] (wL cI h hp S) (sX0_pitchesUsed S) (wL cI h hp S) := by
  refine MetI_of (cc := cX0_pitchesUsed) (maxL := 3) (ret := (some .int)) (by decide) rfl (Nat.le_of_ble_eq_true rfl) ?_
  intro p e s m below meth c A ls hx hb hr hml hts hown hlocks hin hK hP hD hA hE hl
  have hown : s.vm.findClass RX0 = some m.cls := hown
  have hl : lv_has ls 3 [(0, .ref h)] := hl
  have hS : va_S A s.heap s.heap [] := va_S.rf
  obtain ⟨σ, hσ⟩ : ∃ σ, (sX0_pitchesUsed S) = σ := ⟨_, rfl⟩
  rw [hσ]
  rw [sX0_pitchesUsed] at hσ
  obtain ⟨T, eT, hT1, hT2⟩ := id hT
  refine lv_iconst (v := 0) hx hb dX0_pitchesUsed_0 (by decide) ?_
  refine lv_istore_n (lv' := [(1, .int 0), (0, .ref h)]) hx hb dX0_pitchesUsed_1 rfl hl (by decide) rfl (fun ls hl => ?_)
  refine lv_iconst (v := 0) hx hb dX0_pitchesUsed_2 (by decide) ?_
  refine lv_istore_n (lv' := [(2, .int 0), (1, .int 0), (0, .ref h)]) hx hb dX0_pitchesUsed_3 rfl hl (by decide) rfl (fun ls hl => ?_)
  have key4 : ∀ (n4 : Nat) (x1_4 : Int32) (x2_4 : Int32)  (k4 : Nat), (x2_4 = nI k4) → (k4 ≤ 12) → (12 + 1 ≤ n4 + k4) → (sX0_pitchesUsed_L4 S n4 x1_4 x2_4) = σ → ∀ (H : Heap) (locs : List Loc) (ls : Array Slot), va_P (dC, dI) vwCl (wL cI h hp S) H → va_D A (wL cI h hp S) → va_S A s.heap H locs → lv_has ls 3 [(0, .ref h), (1, .int x1_4), (2, .int x2_4)] → W p l e (headSpec wsX0_pitchesUsed (rmF 1 21)).room s m ([.ref h] : List Value).toArray below meth c H locs 0 0 (MQ below (va_Qi (fun (x : Int32) (_ : Unit) => x = σ) (fun _ t => PoW (dC, dI) (tyC cI cZ cO) A (wL cI h hp S) t) A) ([.ref h] : List Value).toArray s 0 0 A) (F0 m 4 ls []) := by
    intro n4
    induction n4 with
    | zero =>
      intro x1_4 x2_4 k4 e4 hk4 hn4
      exact absurd hn4 (by omega)
    | succ n4 ih4 =>
      intro x1_4 x2_4 k4 e4 hk4 hn4 hσ H locs ls hP hD hS hl
      rw [sX0_pitchesUsed_L4_s] at hσ
      refine lv_iload_n hx hb dX0_pitchesUsed_4 rfl (lv_at hl 2 rfl) ?_
      refine lv_aload_n hx hb dX0_pitchesUsed_5 rfl (lv_at hl 0 rfl) ?_
      refine va_get (D := (dC, dI)) (ci := 0) (v := .int (S.1 0)) (C := RX0) (T := TX0) (N := 7) hx hb hts (fun _ h => List.mem_cons_of_mem _ (List.mem_append_right _ h)) hown hK hP 0 rfl rfl 1 (by decide) (hts (.fieldLink RX0 24 "SharedLine$Line" "ticks" "I") (List.mem_of_getElem? (i := 1) rfl)) (fun _ h9 => h9) rfl dX0_pitchesUsed_6 ?_
      refine lv_icmp_ge (tgt := 38) hx hb dX0_pitchesUsed_9 (by decide) (fun c9 => ?_) (fun c9 => ?_)
      · rw [if_pos c9] at hσ
        refine lv_iload_n hx hb dX0_pitchesUsed_38 rfl (lv_at hl 1 rfl) ?_
        subst hσ
        exact vq_iret hx hb hr hlocks hK hP hD hS rfl dX0_pitchesUsed_39
      · rw [if_neg c9] at hσ
        refine lv_aload_n hx hb dX0_pitchesUsed_12 rfl (lv_at hl 0 rfl) ?_
        refine lv_iload_n hx hb dX0_pitchesUsed_13 rfl (lv_at hl 2 rfl) ?_
        refine vq_Vi (As := [.int x2_4]) (rest := []) (W2 := (wL cI h hp S)) (f := (bI (sX0_hasNote S x2_4))) hx hb hml hown hts hK hP hD hS hA hE hl.1 (cX0_hasNote_c l ev dC dI cI cZ cO h hp S x2_4) gX0_pitchesUsed_X0_hasNote rfl hdX0_hasNote (Nat.le_of_ble_eq_true rfl) (Nat.le_of_ble_eq_true rfl) rfl rfl (ci := 0) (qr := 0) rfl rfl rfl [0, 1] [] [0, 1] rfl rfl (by decide) (by decide) (by decide) rfl rfl rfl (Nat.le_of_ble_eq_true rfl) dX0_pitchesUsed_14 ⟨Nat.zero_le _, Nat.zero_le _⟩ (fun H locs hP hD hS => ?_)
        refine lv_if_eqB (tgt := 32) hx hb dX0_pitchesUsed_17 (by decide) (fun c17 => ?_) (fun c17 => ?_)
        · rw [if_neg (Bool.eq_false_iff.mp c17)] at hσ
          refine lv_iinc (v := (x2_4 + 1)) (lv' := [(2, .int (x2_4 + 1)), (0, .ref h), (1, .int x1_4)]) hx hb dX0_pitchesUsed_32 hl (k := 2) rfl rfl (by decide) rfl (fun ls hl => ?_)
          refine lv_goto (tgt := 4) hx hb dX0_pitchesUsed_35 (by decide) ?_
          exact ih4 x1_4 (x2_4 + 1) (k4 + 1) (up_s e4) (by have := up_lt e4 eT (by omega) c9; omega) (by omega) hσ _ _ _ hP hD hS (lv_sub hl [1, 2, 0] rfl)
        · rw [if_pos c17] at hσ
          refine lv_iload_n hx hb dX0_pitchesUsed_20 rfl (lv_at hl 1 rfl) ?_
          refine lv_iconst (v := 1) hx hb dX0_pitchesUsed_21 (by decide) ?_
          refine lv_aload_n hx hb dX0_pitchesUsed_22 rfl (lv_at hl 0 rfl) ?_
          refine lv_iload_n hx hb dX0_pitchesUsed_23 rfl (lv_at hl 2 rfl) ?_
          refine vq_Vi (As := [.int x2_4]) (rest := [.int 1, .int x1_4]) (W2 := (wL cI h hp S)) (f := (sX0_pitchAt S x2_4)) hx hb hml hown hts hK hP hD hS hA hE hl.1 (cX0_pitchAt_c l ev dC dI cI cZ cO h hp S x2_4) gX0_pitchesUsed_X0_pitchAt rfl hdX0_pitchAt (Nat.le_of_ble_eq_true rfl) (Nat.le_of_ble_eq_true rfl) rfl rfl (ci := 0) (qr := 0) rfl rfl rfl [0, 1] [] [0, 1] rfl rfl (by decide) (by decide) (by decide) rfl rfl rfl (Nat.le_of_ble_eq_true rfl) dX0_pitchesUsed_24 ⟨Nat.zero_le _, Nat.zero_le _⟩ (fun H locs hP hD hS => ?_)
          refine lv_iconst (v := 1) hx hb dX0_pitchesUsed_27 (by decide) ?_
          refine lv_isub hx hb dX0_pitchesUsed_28 ?_
          refine lv_ishl hx hb dX0_pitchesUsed_29 ?_
          refine lv_ior hx hb dX0_pitchesUsed_30 ?_
          refine lv_istore_n (lv' := [(1, .int (x1_4 ||| ((1 : Int32) <<< (((sX0_pitchAt S x2_4) - 1) &&& 31)))), (0, .ref h), (2, .int x2_4)]) hx hb dX0_pitchesUsed_31 rfl hl (by decide) rfl (fun ls hl => ?_)
          refine lv_iinc (v := (x2_4 + 1)) (lv' := [(2, .int (x2_4 + 1)), (1, .int (x1_4 ||| ((1 : Int32) <<< (((sX0_pitchAt S x2_4) - 1) &&& 31)))), (0, .ref h)]) hx hb dX0_pitchesUsed_32 hl (k := 2) rfl rfl (by decide) rfl (fun ls hl => ?_)
          refine lv_goto (tgt := 4) hx hb dX0_pitchesUsed_35 (by decide) ?_
          exact ih4 (x1_4 ||| ((1 : Int32) <<< (((sX0_pitchAt S x2_4) - 1) &&& 31))) (x2_4 + 1) (k4 + 1) (up_s e4) (by have := up_lt e4 eT (by omega) c9; omega) (by omega) hσ _ _ _ hP hD hS (lv_sub hl [2, 1, 0] rfl)
  exact key4 13 (0 : Int32) (0 : Int32) 0 nI_0.symm (Nat.zero_le _) (Nat.le_refl _) hσ _ _ _ hP hD hS (lv_sub hl [2, 1, 0] rfl)
theorem hdX0_shareByTable : yX0_shareByTable.cls = RX0 ∧ yX0_shareByTable.cls ≠ "java/lang/invoke/MethodHandle" ∧ yX0_shareByTable.cls ≠ "java/lang/invoke/VarHandle" ∧ (parseMethodDescriptor yX0_shareByTable.desc).map (fun d => d.parameters.length) = some 1 := by decide +kernel
set_option maxHeartbeats 4000000 in
set_option maxRecDepth 100000 in
theorem cX0_shareByTable_c (l : Launch) (ev : Nat → Nat) (dC : Nat → ClassId) (dI : Nat → Nat → Nat) (cI cZ cO : ClassId) (h : Nat) (hp : Nat) (S : LSt) (p1 : Int32) (hT : XOK S) : MetI l ev (dC, dI) (tyC cI cZ cO) yX0_shareByTable wsX0_shareByTable (rmF 1 21) [.ref h, .int p1] (wL cI h hp S) (sX0_shareByTable S p1) (wL cI h hp S) := by
  refine MetI_of (cc := cX0_shareByTable) (maxL := 4) (ret := (some .int)) (by decide) rfl (Nat.le_of_ble_eq_true rfl) ?_
  intro p e s m below meth c A ls hx hb hr hml hts hown hlocks hin hK hP hD hA hE hl
  have hown : s.vm.findClass RX0 = some m.cls := hown
  have hl : lv_has ls 4 [(0, .ref h), (1, .int p1)] := hl
  have hS : va_S A s.heap s.heap [] := va_S.rf
  obtain ⟨σ, hσ⟩ : ∃ σ, (sX0_shareByTable S p1) = σ := ⟨_, rfl⟩
  rw [hσ]
  rw [sX0_shareByTable] at hσ
  obtain ⟨T, eT, hT1, hT2⟩ := id hT
  refine lv_iconst (v := 0) hx hb dX0_shareByTable_0 (by decide) ?_
  refine lv_istore_n (lv' := [(2, .int 0), (0, .ref h), (1, .int p1)]) hx hb dX0_shareByTable_1 rfl hl (by decide) rfl (fun ls hl => ?_)
  refine lv_iconst (v := 0) hx hb dX0_shareByTable_2 (by decide) ?_
  refine lv_istore_n (lv' := [(3, .int 0), (2, .int 0), (0, .ref h), (1, .int p1)]) hx hb dX0_shareByTable_3 rfl hl (by decide) rfl (fun ls hl => ?_)
  have key4 : ∀ (n4 : Nat) (x2_4 : Int32) (x3_4 : Int32)  (k4 : Nat), (x3_4 = nI k4) → (k4 ≤ 12) → (12 + 1 ≤ n4 + k4) → (sX0_shareByTable_L4 S p1 n4 x2_4 x3_4) = σ → ∀ (H : Heap) (locs : List Loc) (ls : Array Slot), va_P (dC, dI) vwCl (wL cI h hp S) H → va_D A (wL cI h hp S) → va_S A s.heap H locs → lv_has ls 4 [(0, .ref h), (1, .int p1), (2, .int x2_4), (3, .int x3_4)] → W p l e (headSpec wsX0_shareByTable (rmF 1 21)).room s m ([.ref h, .int p1] : List Value).toArray below meth c H locs 0 0 (MQ below (va_Qi (fun (x : Int32) (_ : Unit) => x = σ) (fun _ t => PoW (dC, dI) (tyC cI cZ cO) A (wL cI h hp S) t) A) ([.ref h, .int p1] : List Value).toArray s 0 0 A) (F0 m 4 ls []) := by
    intro n4
    induction n4 with
    | zero =>
      intro x2_4 x3_4 k4 e4 hk4 hn4
      exact absurd hn4 (by omega)
    | succ n4 ih4 =>
      intro x2_4 x3_4 k4 e4 hk4 hn4 hσ H locs ls hP hD hS hl
      rw [sX0_shareByTable_L4_s] at hσ
      refine lv_iload_n hx hb dX0_shareByTable_4 rfl (lv_at hl 3 rfl) ?_
      refine lv_aload_n hx hb dX0_shareByTable_5 rfl (lv_at hl 0 rfl) ?_
      refine va_get (D := (dC, dI)) (ci := 0) (v := .int (S.1 0)) (C := RX0) (T := TX0) (N := 7) hx hb hts (fun _ h => List.mem_cons_of_mem _ (List.mem_append_right _ h)) hown hK hP 0 rfl rfl 1 (by decide) (hts (.fieldLink RX0 24 "SharedLine$Line" "ticks" "I") (List.mem_of_getElem? (i := 1) rfl)) (fun _ h9 => h9) rfl dX0_shareByTable_6 ?_
      refine lv_icmp_ge (tgt := 47) hx hb dX0_shareByTable_9 (by decide) (fun c9 => ?_) (fun c9 => ?_)
      · rw [if_pos c9] at hσ
        refine lv_iload_n hx hb dX0_shareByTable_47 rfl (lv_at hl 2 rfl) ?_
        subst hσ
        exact vq_iret hx hb hr hlocks hK hP hD hS rfl dX0_shareByTable_48
      · rw [if_neg c9] at hσ
        refine lv_aload_n hx hb dX0_shareByTable_12 rfl (lv_at hl 0 rfl) ?_
        refine lv_iload_n hx hb dX0_shareByTable_13 rfl (lv_at hl 3 rfl) ?_
        refine vq_Vi (As := [.int x3_4]) (rest := []) (W2 := (wL cI h hp S)) (f := (bI (sX0_hasNote S x3_4))) hx hb hml hown hts hK hP hD hS hA hE hl.1 (cX0_hasNote_c l ev dC dI cI cZ cO h hp S x3_4) gX0_shareByTable_X0_hasNote rfl hdX0_hasNote (Nat.le_of_ble_eq_true rfl) (Nat.le_of_ble_eq_true rfl) rfl rfl (ci := 0) (qr := 0) rfl rfl rfl [0, 1] [] [0, 1] rfl rfl (by decide) (by decide) (by decide) rfl rfl rfl (Nat.le_of_ble_eq_true rfl) dX0_shareByTable_14 ⟨Nat.zero_le _, Nat.zero_le _⟩ (fun H locs hP hD hS => ?_)
        refine lv_if_eqB (tgt := 41) hx hb dX0_shareByTable_17 (by decide) (fun c17 => ?_) (fun c17 => ?_)
        · rw [if_neg (Bool.eq_false_iff.mp c17)] at hσ
          refine lv_iinc (v := (x3_4 + 1)) (lv' := [(3, .int (x3_4 + 1)), (0, .ref h), (1, .int p1), (2, .int x2_4)]) hx hb dX0_shareByTable_41 hl (k := 3) rfl rfl (by decide) rfl (fun ls hl => ?_)
          refine lv_goto (tgt := 4) hx hb dX0_shareByTable_44 (by decide) ?_
          exact ih4 x2_4 (x3_4 + 1) (k4 + 1) (up_s e4) (by have := up_lt e4 eT (by omega) c9; omega) (by omega) hσ _ _ _ hP hD hS (lv_sub hl [1, 2, 3, 0] rfl)
        · rw [if_pos c17] at hσ
          refine lv_iload_n hx hb dX0_shareByTable_20 rfl (lv_at hl 1 rfl) ?_
          refine lv_aload_n hx hb dX0_shareByTable_21 rfl (lv_at hl 0 rfl) ?_
          refine lv_iload_n hx hb dX0_shareByTable_22 rfl (lv_at hl 3 rfl) ?_
          refine vq_Vi (As := [.int x3_4]) (rest := [.int p1]) (W2 := (wL cI h hp S)) (f := (sX0_pitchAt S x3_4)) hx hb hml hown hts hK hP hD hS hA hE hl.1 (cX0_pitchAt_c l ev dC dI cI cZ cO h hp S x3_4) gX0_shareByTable_X0_pitchAt rfl hdX0_pitchAt (Nat.le_of_ble_eq_true rfl) (Nat.le_of_ble_eq_true rfl) rfl rfl (ci := 0) (qr := 0) rfl rfl rfl [0, 1] [] [0, 1] rfl rfl (by decide) (by decide) (by decide) rfl rfl rfl (Nat.le_of_ble_eq_true rfl) dX0_shareByTable_23 ⟨Nat.zero_le _, Nat.zero_le _⟩ (fun H locs hP hD hS => ?_)
          refine lv_iconst (v := 1) hx hb dX0_shareByTable_26 (by decide) ?_
          refine lv_isub hx hb dX0_shareByTable_27 ?_
          refine lv_ishr hx hb dX0_shareByTable_28 ?_
          refine lv_iconst (v := 1) hx hb dX0_shareByTable_29 (by decide) ?_
          refine lv_iand hx hb dX0_shareByTable_30 ?_
          refine lv_iconst (v := 1) hx hb dX0_shareByTable_31 (by decide) ?_
          refine lv_icmp_ne (tgt := 41) hx hb dX0_shareByTable_32 (by decide) (fun c32 => ?_) (fun c32 => ?_)
          · rw [if_neg c32] at hσ
            refine lv_iinc (v := (x3_4 + 1)) (lv' := [(3, .int (x3_4 + 1)), (0, .ref h), (1, .int p1), (2, .int x2_4)]) hx hb dX0_shareByTable_41 hl (k := 3) rfl rfl (by decide) rfl (fun ls hl => ?_)
            refine lv_goto (tgt := 4) hx hb dX0_shareByTable_44 (by decide) ?_
            exact ih4 x2_4 (x3_4 + 1) (k4 + 1) (up_s e4) (by have := up_lt e4 eT (by omega) c9; omega) (by omega) hσ _ _ _ hP hD hS (lv_sub hl [1, 2, 3, 0] rfl)
          · rw [if_pos c32] at hσ
            refine lv_iload_n hx hb dX0_shareByTable_35 rfl (lv_at hl 2 rfl) ?_
            refine lv_iconst (v := 1) hx hb dX0_shareByTable_36 (by decide) ?_
            refine lv_iload_n hx hb dX0_shareByTable_37 rfl (lv_at hl 3 rfl) ?_
            refine lv_ishl hx hb dX0_shareByTable_38 ?_
            refine lv_ior hx hb dX0_shareByTable_39 ?_
            refine lv_istore_n (lv' := [(2, .int (x2_4 ||| ((1 : Int32) <<< (x3_4 &&& 31)))), (0, .ref h), (1, .int p1), (3, .int x3_4)]) hx hb dX0_shareByTable_40 rfl hl (by decide) rfl (fun ls hl => ?_)
            refine lv_iinc (v := (x3_4 + 1)) (lv' := [(3, .int (x3_4 + 1)), (2, .int (x2_4 ||| ((1 : Int32) <<< (x3_4 &&& 31)))), (0, .ref h), (1, .int p1)]) hx hb dX0_shareByTable_41 hl (k := 3) rfl rfl (by decide) rfl (fun ls hl => ?_)
            refine lv_goto (tgt := 4) hx hb dX0_shareByTable_44 (by decide) ?_
            exact ih4 (x2_4 ||| ((1 : Int32) <<< (x3_4 &&& 31))) (x3_4 + 1) (k4 + 1) (up_s e4) (by have := up_lt e4 eT (by omega) c9; omega) (by omega) hσ _ _ _ hP hD hS (lv_sub hl [2, 3, 1, 0] rfl)
  exact key4 13 (0 : Int32) (0 : Int32) 0 nI_0.symm (Nat.zero_le _) (Nat.le_refl _) hσ _ _ _ hP hD hS (lv_sub hl [2, 3, 1, 0] rfl)
theorem hdX0_copyFrom : yX0_copyFrom.cls = RX0 ∧ yX0_copyFrom.cls ≠ "java/lang/invoke/MethodHandle" ∧ yX0_copyFrom.cls ≠ "java/lang/invoke/VarHandle" ∧ (parseMethodDescriptor yX0_copyFrom.desc).map (fun d => d.parameters.length) = some 1 := by decide +kernel
set_option maxHeartbeats 4000000 in
set_option maxRecDepth 100000 in
theorem cX0_copyFrom_c (l : Launch) (ev : Nat → Nat) (dC : Nat → ClassId) (dI : Nat → Nat → Nat) (cI cZ cO : ClassId) (h : Nat) (hp : Nat) (S : LSt) (h1 : Nat) (hp1 : Nat) (S1 : LSt) : MetV l ev (dC, dI) (tyC cI cZ cO) yX0_copyFrom wsX0_copyFrom (rmF 1 40) [.ref h, .ref h1] (wL cI h hp S ++ wL cI h1 hp1 S1) (wL cI h hp (sX0_copyFrom S S1) ++ wL cI h1 hp1 S1) := by
  refine MetV_of (cc := cX0_copyFrom) (maxL := 2) (ret := none) (by decide) rfl (Nat.le_of_ble_eq_true rfl) ?_
  intro p e s m below meth c A ls hx hb hr hml hts hown hlocks hin hK hP hD hA hE hl
  have hown : s.vm.findClass RX0 = some m.cls := hown
  have hl : lv_has ls 2 [(0, .ref h), (1, .ref h1)] := hl
  have hS : va_S A s.heap s.heap [] := va_S.rf
  obtain ⟨σ, hσ⟩ : ∃ σ, (sX0_copyFrom S S1) = σ := ⟨_, rfl⟩
  rw [hσ]
  rw [sX0_copyFrom] at hσ
  refine lv_aload_n hx hb dX0_copyFrom_0 rfl (lv_at hl 1 rfl) ?_
  refine va_get (D := (dC, dI)) (ci := 0) (v := .ref hp1) (C := RX0) (T := TX0) (N := 7) hx hb hts (fun _ h => List.mem_cons_of_mem _ (List.mem_append_right _ h)) hown hK hP 2 rfl rfl 0 (by decide) (hts (.fieldLink RX0 9 "SharedLine$Line" "pitches" "[I") (List.mem_of_getElem? (i := 1) rfl)) (fun _ h9 => h9) rfl dX0_copyFrom_1 ?_
  refine lv_iconst (v := 0) hx hb dX0_copyFrom_4 (by decide) ?_
  refine lv_aload_n hx hb dX0_copyFrom_5 rfl (lv_at hl 0 rfl) ?_
  refine va_get (D := (dC, dI)) (ci := 0) (v := .ref hp) (C := RX0) (T := TX0) (N := 7) hx hb hts (fun _ h => List.mem_cons_of_mem _ (List.mem_append_right _ h)) hown hK hP 0 rfl rfl 0 (by decide) (hts (.fieldLink RX0 9 "SharedLine$Line" "pitches" "[I") (List.mem_of_getElem? (i := 1) rfl)) (fun _ h9 => h9) rfl dX0_copyFrom_6 ?_
  refine lv_iconst (v := 0) hx hb dX0_copyFrom_9 (by decide) ?_
  refine lv_bipush (v := 12) hx hb dX0_copyFrom_10 (by decide) ?_
  refine va_copyi (ty := .int) hx hb (hml.trans hl.1.symm) hown (hts (.methodLink RX0 46 arraycopyName) (List.mem_of_getElem? (i := 2) rfl)) (hts (.native arraycopyName) (List.mem_of_getElem? (i := 3) rfl)) (hts (.static arraycopyName) (List.mem_of_getElem? (i := 4) rfl)) (hts (.initialized "java/lang/System") (List.mem_of_getElem? (i := 5) rfl)) hK hP hD hS 3 1 0 0 rfl rfl rfl rfl rfl (by decide) (by decide) (by decide) (by decide) (by decide) (fun _ _ => rfl) (Nat.le_of_ble_eq_true rfl) (Nat.le_of_ble_eq_true rfl) dX0_copyFrom_12 (fun H locs hP hD hS => ?_)
  have hP : va_P (dC, dI) vwCl (wL cI h hp (S.1, (va_cpy S1.2 S.2 0 0 12)) ++ wL cI h1 hp1 S1) H := hP
  have hD : va_D A (wL cI h hp (S.1, (va_cpy S1.2 S.2 0 0 12)) ++ wL cI h1 hp1 S1) := hD
  refine lv_aload_n hx hb dX0_copyFrom_15 rfl (lv_at hl 0 rfl) ?_
  refine lv_aload_n hx hb dX0_copyFrom_16 rfl (lv_at hl 1 rfl) ?_
  refine va_get (D := (dC, dI)) (ci := 0) (v := .int (S1.1 0)) (C := RX0) (T := TX0) (N := 7) hx hb hts (fun _ h => List.mem_cons_of_mem _ (List.mem_append_right _ h)) hown hK hP 2 rfl rfl 1 (by decide) (hts (.fieldLink RX0 24 "SharedLine$Line" "ticks" "I") (List.mem_of_getElem? (i := 6) rfl)) (fun _ h9 => h9) rfl dX0_copyFrom_17 ?_
  refine va_put (D := (dC, dI)) (ci := 0) (v := .int (S1.1 0)) (ty := .int) (C := RX0) (T := TX0) (N := 7) hx hb hts (fun _ h => List.mem_cons_of_mem _ (List.mem_append_right _ h)) tyX0 tyX0_ok nmX0 hown hK hP hD hS 0 rfl rfl 1 (by decide) (hts (.fieldLink RX0 24 "SharedLine$Line" "ticks" "I") (List.mem_of_getElem? (i := 6) rfl)) (fun _ h9 => h9) rfl (tyX0_ok 1 (by decide)) rfl rfl (Nat.le_of_ble_eq_true rfl) dX0_copyFrom_20 (fun H locs hP hD hS => ?_)
  have hP : va_P (dC, dI) vwCl (wL cI h hp ((upd S.1 0 (S1.1 0)), (va_cpy S1.2 S.2 0 0 12)) ++ wL cI h1 hp1 S1) H := hP
  have hD : va_D A (wL cI h hp ((upd S.1 0 (S1.1 0)), (va_cpy S1.2 S.2 0 0 12)) ++ wL cI h1 hp1 S1) := hD
  refine lv_aload_n hx hb dX0_copyFrom_23 rfl (lv_at hl 0 rfl) ?_
  refine lv_aload_n hx hb dX0_copyFrom_24 rfl (lv_at hl 1 rfl) ?_
  refine va_get (D := (dC, dI)) (ci := 0) (v := .int (S1.1 1)) (C := RX0) (T := TX0) (N := 7) hx hb hts (fun _ h => List.mem_cons_of_mem _ (List.mem_append_right _ h)) hown hK hP 2 rfl rfl 2 (by decide) (hts (.fieldLink RX0 28 "SharedLine$Line" "notes" "I") (List.mem_of_getElem? (i := 7) rfl)) (fun _ h9 => h9) rfl dX0_copyFrom_25 ?_
  refine va_put (D := (dC, dI)) (ci := 0) (v := .int (S1.1 1)) (ty := .int) (C := RX0) (T := TX0) (N := 7) hx hb hts (fun _ h => List.mem_cons_of_mem _ (List.mem_append_right _ h)) tyX0 tyX0_ok nmX0 hown hK hP hD hS 0 rfl rfl 2 (by decide) (hts (.fieldLink RX0 28 "SharedLine$Line" "notes" "I") (List.mem_of_getElem? (i := 7) rfl)) (fun _ h9 => h9) rfl (tyX0_ok 2 (by decide)) rfl rfl (Nat.le_of_ble_eq_true rfl) dX0_copyFrom_28 (fun H locs hP hD hS => ?_)
  have hP : va_P (dC, dI) vwCl (wL cI h hp ((upd (upd S.1 0 (S1.1 0)) 1 (S1.1 1)), (va_cpy S1.2 S.2 0 0 12)) ++ wL cI h1 hp1 S1) H := hP
  have hD : va_D A (wL cI h hp ((upd (upd S.1 0 (S1.1 0)) 1 (S1.1 1)), (va_cpy S1.2 S.2 0 0 12)) ++ wL cI h1 hp1 S1) := hD
  refine lv_aload_n hx hb dX0_copyFrom_31 rfl (lv_at hl 0 rfl) ?_
  refine lv_aload_n hx hb dX0_copyFrom_32 rfl (lv_at hl 1 rfl) ?_
  refine va_get (D := (dC, dI)) (ci := 0) (v := .int (S1.1 2)) (C := RX0) (T := TX0) (N := 7) hx hb hts (fun _ h => List.mem_cons_of_mem _ (List.mem_append_right _ h)) hown hK hP 2 rfl rfl 3 (by decide) (hts (.fieldLink RX0 31 "SharedLine$Line" "hands" "I") (List.mem_of_getElem? (i := 8) rfl)) (fun _ h9 => h9) rfl dX0_copyFrom_33 ?_
  refine va_put (D := (dC, dI)) (ci := 0) (v := .int (S1.1 2)) (ty := .int) (C := RX0) (T := TX0) (N := 7) hx hb hts (fun _ h => List.mem_cons_of_mem _ (List.mem_append_right _ h)) tyX0 tyX0_ok nmX0 hown hK hP hD hS 0 rfl rfl 3 (by decide) (hts (.fieldLink RX0 31 "SharedLine$Line" "hands" "I") (List.mem_of_getElem? (i := 8) rfl)) (fun _ h9 => h9) rfl (tyX0_ok 3 (by decide)) rfl rfl (Nat.le_of_ble_eq_true rfl) dX0_copyFrom_36 (fun H locs hP hD hS => ?_)
  have hP : va_P (dC, dI) vwCl (wL cI h hp ((upd (upd (upd S.1 0 (S1.1 0)) 1 (S1.1 1)) 2 (S1.1 2)), (va_cpy S1.2 S.2 0 0 12)) ++ wL cI h1 hp1 S1) H := hP
  have hD : va_D A (wL cI h hp ((upd (upd (upd S.1 0 (S1.1 0)) 1 (S1.1 1)) 2 (S1.1 2)), (va_cpy S1.2 S.2 0 0 12)) ++ wL cI h1 hp1 S1) := hD
  refine lv_aload_n hx hb dX0_copyFrom_39 rfl (lv_at hl 0 rfl) ?_
  refine lv_aload_n hx hb dX0_copyFrom_40 rfl (lv_at hl 1 rfl) ?_
  refine va_get (D := (dC, dI)) (ci := 0) (v := .int (S1.1 3)) (C := RX0) (T := TX0) (N := 7) hx hb hts (fun _ h => List.mem_cons_of_mem _ (List.mem_append_right _ h)) hown hK hP 2 rfl rfl 4 (by decide) (hts (.fieldLink RX0 37 "SharedLine$Line" "wait" "I") (List.mem_of_getElem? (i := 9) rfl)) (fun _ h9 => h9) rfl dX0_copyFrom_41 ?_
  refine va_put (D := (dC, dI)) (ci := 0) (v := .int (S1.1 3)) (ty := .int) (C := RX0) (T := TX0) (N := 7) hx hb hts (fun _ h => List.mem_cons_of_mem _ (List.mem_append_right _ h)) tyX0 tyX0_ok nmX0 hown hK hP hD hS 0 rfl rfl 4 (by decide) (hts (.fieldLink RX0 37 "SharedLine$Line" "wait" "I") (List.mem_of_getElem? (i := 9) rfl)) (fun _ h9 => h9) rfl (tyX0_ok 4 (by decide)) rfl rfl (Nat.le_of_ble_eq_true rfl) dX0_copyFrom_44 (fun H locs hP hD hS => ?_)
  have hP : va_P (dC, dI) vwCl (wL cI h hp ((upd (upd (upd (upd S.1 0 (S1.1 0)) 1 (S1.1 1)) 2 (S1.1 2)) 3 (S1.1 3)), (va_cpy S1.2 S.2 0 0 12)) ++ wL cI h1 hp1 S1) H := hP
  have hD : va_D A (wL cI h hp ((upd (upd (upd (upd S.1 0 (S1.1 0)) 1 (S1.1 1)) 2 (S1.1 2)) 3 (S1.1 3)), (va_cpy S1.2 S.2 0 0 12)) ++ wL cI h1 hp1 S1) := hD
  refine lv_aload_n hx hb dX0_copyFrom_47 rfl (lv_at hl 0 rfl) ?_
  refine lv_aload_n hx hb dX0_copyFrom_48 rfl (lv_at hl 1 rfl) ?_
  refine va_get (D := (dC, dI)) (ci := 0) (v := .int (S1.1 4)) (C := RX0) (T := TX0) (N := 7) hx hb hts (fun _ h => List.mem_cons_of_mem _ (List.mem_append_right _ h)) hown hK hP 2 rfl rfl 5 (by decide) (hts (.fieldLink RX0 40 "SharedLine$Line" "reach" "I") (List.mem_of_getElem? (i := 10) rfl)) (fun _ h9 => h9) rfl dX0_copyFrom_49 ?_
  refine va_put (D := (dC, dI)) (ci := 0) (v := .int (S1.1 4)) (ty := .int) (C := RX0) (T := TX0) (N := 7) hx hb hts (fun _ h => List.mem_cons_of_mem _ (List.mem_append_right _ h)) tyX0 tyX0_ok nmX0 hown hK hP hD hS 0 rfl rfl 5 (by decide) (hts (.fieldLink RX0 40 "SharedLine$Line" "reach" "I") (List.mem_of_getElem? (i := 10) rfl)) (fun _ h9 => h9) rfl (tyX0_ok 5 (by decide)) rfl rfl (Nat.le_of_ble_eq_true rfl) dX0_copyFrom_52 (fun H locs hP hD hS => ?_)
  have hP : va_P (dC, dI) vwCl (wL cI h hp ((upd (upd (upd (upd (upd S.1 0 (S1.1 0)) 1 (S1.1 1)) 2 (S1.1 2)) 3 (S1.1 3)) 4 (S1.1 4)), (va_cpy S1.2 S.2 0 0 12)) ++ wL cI h1 hp1 S1) H := hP
  have hD : va_D A (wL cI h hp ((upd (upd (upd (upd (upd S.1 0 (S1.1 0)) 1 (S1.1 1)) 2 (S1.1 2)) 3 (S1.1 3)) 4 (S1.1 4)), (va_cpy S1.2 S.2 0 0 12)) ++ wL cI h1 hp1 S1) := hD
  refine lv_aload_n hx hb dX0_copyFrom_55 rfl (lv_at hl 0 rfl) ?_
  refine lv_aload_n hx hb dX0_copyFrom_56 rfl (lv_at hl 1 rfl) ?_
  refine va_get (D := (dC, dI)) (ci := 0) (v := .int (S1.1 5)) (C := RX0) (T := TX0) (N := 7) hx hb hts (fun _ h => List.mem_cons_of_mem _ (List.mem_append_right _ h)) hown hK hP 2 rfl rfl 6 (by decide) (hts (.fieldLink RX0 43 "SharedLine$Line" "bar" "I") (List.mem_of_getElem? (i := 11) rfl)) (fun _ h9 => h9) rfl dX0_copyFrom_57 ?_
  refine va_put (D := (dC, dI)) (ci := 0) (v := .int (S1.1 5)) (ty := .int) (C := RX0) (T := TX0) (N := 7) hx hb hts (fun _ h => List.mem_cons_of_mem _ (List.mem_append_right _ h)) tyX0 tyX0_ok nmX0 hown hK hP hD hS 0 rfl rfl 6 (by decide) (hts (.fieldLink RX0 43 "SharedLine$Line" "bar" "I") (List.mem_of_getElem? (i := 11) rfl)) (fun _ h9 => h9) rfl (tyX0_ok 6 (by decide)) rfl rfl (Nat.le_of_ble_eq_true rfl) dX0_copyFrom_60 (fun H locs hP hD hS => ?_)
  have hP : va_P (dC, dI) vwCl (wL cI h hp ((upd (upd (upd (upd (upd (upd S.1 0 (S1.1 0)) 1 (S1.1 1)) 2 (S1.1 2)) 3 (S1.1 3)) 4 (S1.1 4)) 5 (S1.1 5)), (va_cpy S1.2 S.2 0 0 12)) ++ wL cI h1 hp1 S1) H := hP
  have hD : va_D A (wL cI h hp ((upd (upd (upd (upd (upd (upd S.1 0 (S1.1 0)) 1 (S1.1 1)) 2 (S1.1 2)) 3 (S1.1 3)) 4 (S1.1 4)) 5 (S1.1 5)), (va_cpy S1.2 S.2 0 0 12)) ++ wL cI h1 hp1 S1) := hD
  subst hσ
  exact vq_vret hx hb hr hlocks hK hP hD hS dX0_copyFrom_63
theorem hdX0_makeNew : yX0_makeNew.cls = RX0 ∧ yX0_makeNew.cls ≠ "java/lang/invoke/MethodHandle" ∧ yX0_makeNew.cls ≠ "java/lang/invoke/VarHandle" ∧ (parseMethodDescriptor yX0_makeNew.desc).map (fun d => d.parameters.length) = some 0 := by decide +kernel
set_option maxHeartbeats 4000000 in
set_option maxRecDepth 100000 in
theorem cX0_makeNew_c (l : Launch) (ev : Nat → Nat) (dC : Nat → ClassId) (dI : Nat → Nat → Nat) (cI cZ cO : ClassId) (h : Nat) (hp : Nat) (S : LSt) : MetV l ev (dC, dI) (tyC cI cZ cO) yX0_makeNew wsX0_makeNew (rmF 1 23) [.ref h] (wL cI h hp S) (wL cI h hp (sX0_makeNew S)) := by
  refine MetV_of (cc := cX0_makeNew) (maxL := 1) (ret := none) (by decide) rfl (Nat.le_of_ble_eq_true rfl) ?_
  intro p e s m below meth c A ls hx hb hr hml hts hown hlocks hin hK hP hD hA hE hl
  have hown : s.vm.findClass RX0 = some m.cls := hown
  have hl : lv_has ls 1 [(0, .ref h)] := hl
  have hS : va_S A s.heap s.heap [] := va_S.rf
  obtain ⟨σ, hσ⟩ : ∃ σ, (sX0_makeNew S) = σ := ⟨_, rfl⟩
  rw [hσ]
  rw [sX0_makeNew] at hσ
  refine lv_aload_n hx hb dX0_makeNew_0 rfl (lv_at hl 0 rfl) ?_
  refine va_get (D := (dC, dI)) (ci := 0) (v := .ref hp) (C := RX0) (T := TX0) (N := 7) hx hb hts (fun _ h => List.mem_cons_of_mem _ (List.mem_append_right _ h)) hown hK hP 0 rfl rfl 0 (by decide) (hts (.fieldLink RX0 9 "SharedLine$Line" "pitches" "[I") (List.mem_of_getElem? (i := 1) rfl)) (fun _ h9 => h9) rfl dX0_makeNew_1 ?_
  refine lv_iconst (v := 0) hx hb dX0_makeNew_4 (by decide) ?_
  refine vq_Sv (As := [.ref hp, .int 0]) (rest := []) (W2 := (wL cI h hp (S.1, (sJ7_fill_53178 12 S.2 (0 : Int32))))) hx hb hml hown hts hK hP hD hS hA hE hl.1 (cJ7_fill_53178_c l ev dC dI cI cZ cO hp 12 S.2 (0 : Int32) (by decide)) gX0_makeNew_J7_fill_53178 rfl hdJ7_fill_53178 (Nat.le_of_ble_eq_true rfl) (Nat.le_of_ble_eq_true rfl) rfl rfl [1] [0] [0, 1] rfl rfl (by decide) (by decide) (by decide) rfl rfl rfl (Nat.le_of_ble_eq_true rfl) dX0_makeNew_5 ⟨Nat.zero_le _, Nat.zero_le _⟩ (fun H locs hP hD hS => ?_)
  refine lv_aload_n hx hb dX0_makeNew_8 rfl (lv_at hl 0 rfl) ?_
  refine lv_iconst (v := 1) hx hb dX0_makeNew_9 (by decide) ?_
  refine va_put (D := (dC, dI)) (ci := 0) (v := .int 1) (ty := .int) (C := RX0) (T := TX0) (N := 7) hx hb hts (fun _ h => List.mem_cons_of_mem _ (List.mem_append_right _ h)) tyX0 tyX0_ok nmX0 hown hK hP hD hS 0 rfl rfl 1 (by decide) (hts (.fieldLink RX0 24 "SharedLine$Line" "ticks" "I") (List.mem_of_getElem? (i := 2) rfl)) (fun _ h9 => h9) rfl (tyX0_ok 1 (by decide)) rfl rfl (Nat.le_of_ble_eq_true rfl) dX0_makeNew_10 (fun H locs hP hD hS => ?_)
  have hP : va_P (dC, dI) vwCl (wL cI h hp ((upd S.1 0 1), (sJ7_fill_53178 12 S.2 (0 : Int32)))) H := hP
  have hD : va_D A (wL cI h hp ((upd S.1 0 1), (sJ7_fill_53178 12 S.2 (0 : Int32)))) := hD
  refine lv_aload_n hx hb dX0_makeNew_13 rfl (lv_at hl 0 rfl) ?_
  refine lv_iconst (v := 0) hx hb dX0_makeNew_14 (by decide) ?_
  refine va_put (D := (dC, dI)) (ci := 0) (v := .int 0) (ty := .int) (C := RX0) (T := TX0) (N := 7) hx hb hts (fun _ h => List.mem_cons_of_mem _ (List.mem_append_right _ h)) tyX0 tyX0_ok nmX0 hown hK hP hD hS 0 rfl rfl 2 (by decide) (hts (.fieldLink RX0 28 "SharedLine$Line" "notes" "I") (List.mem_of_getElem? (i := 3) rfl)) (fun _ h9 => h9) rfl (tyX0_ok 2 (by decide)) rfl rfl (Nat.le_of_ble_eq_true rfl) dX0_makeNew_15 (fun H locs hP hD hS => ?_)
  have hP : va_P (dC, dI) vwCl (wL cI h hp ((upd (upd S.1 0 1) 1 0), (sJ7_fill_53178 12 S.2 (0 : Int32)))) H := hP
  have hD : va_D A (wL cI h hp ((upd (upd S.1 0 1) 1 0), (sJ7_fill_53178 12 S.2 (0 : Int32)))) := hD
  refine lv_aload_n hx hb dX0_makeNew_18 rfl (lv_at hl 0 rfl) ?_
  refine lv_iconst (v := 0) hx hb dX0_makeNew_19 (by decide) ?_
  refine va_put (D := (dC, dI)) (ci := 0) (v := .int 0) (ty := .int) (C := RX0) (T := TX0) (N := 7) hx hb hts (fun _ h => List.mem_cons_of_mem _ (List.mem_append_right _ h)) tyX0 tyX0_ok nmX0 hown hK hP hD hS 0 rfl rfl 3 (by decide) (hts (.fieldLink RX0 31 "SharedLine$Line" "hands" "I") (List.mem_of_getElem? (i := 4) rfl)) (fun _ h9 => h9) rfl (tyX0_ok 3 (by decide)) rfl rfl (Nat.le_of_ble_eq_true rfl) dX0_makeNew_20 (fun H locs hP hD hS => ?_)
  have hP : va_P (dC, dI) vwCl (wL cI h hp ((upd (upd (upd S.1 0 1) 1 0) 2 0), (sJ7_fill_53178 12 S.2 (0 : Int32)))) H := hP
  have hD : va_D A (wL cI h hp ((upd (upd (upd S.1 0 1) 1 0) 2 0), (sJ7_fill_53178 12 S.2 (0 : Int32)))) := hD
  refine lv_aload_n hx hb dX0_makeNew_23 rfl (lv_at hl 0 rfl) ?_
  refine va_getsN (v := .ref (ev 2)) hx hb hE.1.2.2.2.2.1 hS hown (va_Nw.use rfl hE.2.2.1) (fun _ h9 => h9) dX0_makeNew_24 ?_
  refine lv_iconst (v := 0) hx hb dX0_makeNew_27 (by decide) ?_
  refine va_ti (v := .int 2) hx hb hE.1.2.2.2.2.2.1 hS (i := 0) (by unfold vp_in; decide) rfl dX0_makeNew_28 ?_
  refine va_put (D := (dC, dI)) (ci := 0) (v := .int 2) (ty := .int) (C := RX0) (T := TX0) (N := 7) hx hb hts (fun _ h => List.mem_cons_of_mem _ (List.mem_append_right _ h)) tyX0 tyX0_ok nmX0 hown hK hP hD hS 0 rfl rfl 4 (by decide) (hts (.fieldLink RX0 37 "SharedLine$Line" "wait" "I") (List.mem_of_getElem? (i := 5) rfl)) (fun _ h9 => h9) rfl (tyX0_ok 4 (by decide)) rfl rfl (Nat.le_of_ble_eq_true rfl) dX0_makeNew_29 (fun H locs hP hD hS => ?_)
  have hP : va_P (dC, dI) vwCl (wL cI h hp ((upd (upd (upd (upd S.1 0 1) 1 0) 2 0) 3 2), (sJ7_fill_53178 12 S.2 (0 : Int32)))) H := hP
  have hD : va_D A (wL cI h hp ((upd (upd (upd (upd S.1 0 1) 1 0) 2 0) 3 2), (sJ7_fill_53178 12 S.2 (0 : Int32)))) := hD
  refine lv_aload_n hx hb dX0_makeNew_32 rfl (lv_at hl 0 rfl) ?_
  refine va_getsN (v := .ref (ev 2)) hx hb hE.1.2.2.2.2.1 hS hown (va_Nw.use rfl hE.2.2.1) (fun _ h9 => h9) dX0_makeNew_33 ?_
  refine lv_iconst (v := 1) hx hb dX0_makeNew_36 (by decide) ?_
  refine va_ti (v := .int 2) hx hb hE.1.2.2.2.2.2.1 hS (i := 1) (by unfold vp_in; decide) rfl dX0_makeNew_37 ?_
  refine va_put (D := (dC, dI)) (ci := 0) (v := .int 2) (ty := .int) (C := RX0) (T := TX0) (N := 7) hx hb hts (fun _ h => List.mem_cons_of_mem _ (List.mem_append_right _ h)) tyX0 tyX0_ok nmX0 hown hK hP hD hS 0 rfl rfl 5 (by decide) (hts (.fieldLink RX0 40 "SharedLine$Line" "reach" "I") (List.mem_of_getElem? (i := 6) rfl)) (fun _ h9 => h9) rfl (tyX0_ok 5 (by decide)) rfl rfl (Nat.le_of_ble_eq_true rfl) dX0_makeNew_38 (fun H locs hP hD hS => ?_)
  have hP : va_P (dC, dI) vwCl (wL cI h hp ((upd (upd (upd (upd (upd S.1 0 1) 1 0) 2 0) 3 2) 4 2), (sJ7_fill_53178 12 S.2 (0 : Int32)))) H := hP
  have hD : va_D A (wL cI h hp ((upd (upd (upd (upd (upd S.1 0 1) 1 0) 2 0) 3 2) 4 2), (sJ7_fill_53178 12 S.2 (0 : Int32)))) := hD
  refine lv_aload_n hx hb dX0_makeNew_41 rfl (lv_at hl 0 rfl) ?_
  refine va_getsN (v := .ref (ev 2)) hx hb hE.1.2.2.2.2.1 hS hown (va_Nw.use rfl hE.2.2.1) (fun _ h9 => h9) dX0_makeNew_42 ?_
  refine lv_iconst (v := 2) hx hb dX0_makeNew_45 (by decide) ?_
  refine va_ti (v := .int 4) hx hb hE.1.2.2.2.2.2.1 hS (i := 2) (by unfold vp_in; decide) rfl dX0_makeNew_46 ?_
  refine va_put (D := (dC, dI)) (ci := 0) (v := .int 4) (ty := .int) (C := RX0) (T := TX0) (N := 7) hx hb hts (fun _ h => List.mem_cons_of_mem _ (List.mem_append_right _ h)) tyX0 tyX0_ok nmX0 hown hK hP hD hS 0 rfl rfl 6 (by decide) (hts (.fieldLink RX0 43 "SharedLine$Line" "bar" "I") (List.mem_of_getElem? (i := 7) rfl)) (fun _ h9 => h9) rfl (tyX0_ok 6 (by decide)) rfl rfl (Nat.le_of_ble_eq_true rfl) dX0_makeNew_47 (fun H locs hP hD hS => ?_)
  have hP : va_P (dC, dI) vwCl (wL cI h hp ((upd (upd (upd (upd (upd (upd S.1 0 1) 1 0) 2 0) 3 2) 4 2) 5 4), (sJ7_fill_53178 12 S.2 (0 : Int32)))) H := hP
  have hD : va_D A (wL cI h hp ((upd (upd (upd (upd (upd (upd S.1 0 1) 1 0) 2 0) 3 2) 4 2) 5 4), (sJ7_fill_53178 12 S.2 (0 : Int32)))) := hD
  subst hσ
  exact vq_vret hx hb hr hlocks hK hP hD hS dX0_makeNew_50
