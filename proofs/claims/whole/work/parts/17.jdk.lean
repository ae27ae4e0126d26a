/-! the JDK's String methods on the class's own words -/
section VQ3
variable {p : Program} {l : Launch} {e : Env} {R : Room} {s : State} {m : MethodId} {args : Array Value} {below : List Frame} {meth : Method} {c : Code} {H : Heap} {locs : List Loc} {cells slots : Nat}
variable {cc : ByteArray} {pc : Nat} {ls : Array Slot} {D : va_G} {tys : List (ClassId × FieldType)} {A : Nat → Prop} {w' : va_W} {f : Int32}
theorem vq_tret {v : Int32} {ty : FieldType} (hx : p.tables.exec = Jvm.exec) (hb : c.code = cc) (hr : meth.sig.returnType = some ty) (hlocks : meth.locks = false) (hK : va_K D vwCl tys s) (hP : va_P D vwCl w' H) (hD : va_D A w') (hS : va_S A s.heap H locs) (hn : narrow ty (.int v) = .int v) (hv : v = f) (hdg : decode cc pc = .ok (.ireturn, 1)) :
    W p l e R s m args below meth c H locs cells slots (MQ below (va_Qi (fun (x : Int32) (_ : Unit) => x = f) (fun _ t => PoW D tys A w' t) A) args s cells slots A) (F0 m pc ls [.int v]) :=
  W.zret (v := v) hx hb hr hn (fun t ht hW => ⟨⟨v, (), rfl, hv, by rw [ht]; exact hP, va_K.moved hW.alike hK, hD⟩, hS.F ht⟩) hS.2.2 hdg hlocks
end VQ3
theorem hdJ3_checkIndex : yJ3_checkIndex_8e157.cls ≠ "java/lang/invoke/MethodHandle" ∧ yJ3_checkIndex_8e157.cls ≠ "java/lang/invoke/VarHandle" ∧ (parseMethodDescriptor yJ3_checkIndex_8e157.desc).map (fun d => d.parameters.length) = some 3 := by decide +kernel
theorem hdJ0_checkIndex : yJ0_checkIndex_df160.cls ≠ "java/lang/invoke/MethodHandle" ∧ yJ0_checkIndex_df160.cls ≠ "java/lang/invoke/VarHandle" ∧ (parseMethodDescriptor yJ0_checkIndex_df160.desc).map (fun d => d.parameters.length) = some 2 := by decide +kernel
theorem hdJ1_charAt : yJ1_charAt_3b067.cls ≠ "java/lang/invoke/MethodHandle" ∧ yJ1_charAt_3b067.cls ≠ "java/lang/invoke/VarHandle" ∧ (parseMethodDescriptor yJ1_charAt_3b067.desc).map (fun d => d.parameters.length) = some 2 := by decide +kernel
theorem hdJ0_coder : yJ0_coder_7d493.cls = RJ0 ∧ yJ0_coder_7d493.cls ≠ "java/lang/invoke/MethodHandle" ∧ yJ0_coder_7d493.cls ≠ "java/lang/invoke/VarHandle" ∧ (parseMethodDescriptor yJ0_coder_7d493.desc).map (fun d => d.parameters.length) = some 0 := by decide +kernel
theorem hdJ0_isLatin1 : yJ0_isLatin1_aae02.cls = RJ0 ∧ yJ0_isLatin1_aae02.cls ≠ "java/lang/invoke/MethodHandle" ∧ yJ0_isLatin1_aae02.cls ≠ "java/lang/invoke/VarHandle" ∧ (parseMethodDescriptor yJ0_isLatin1_aae02.desc).map (fun d => d.parameters.length) = some 0 := by decide +kernel
theorem hdJ0_length : yJ0_length_8abf5.cls = RJ0 ∧ yJ0_length_8abf5.cls ≠ "java/lang/invoke/MethodHandle" ∧ yJ0_length_8abf5.cls ≠ "java/lang/invoke/VarHandle" ∧ (parseMethodDescriptor yJ0_length_8abf5.desc).map (fun d => d.parameters.length) = some 0 := by decide +kernel
theorem hdJ0_charAt : yJ0_charAt_5068e.cls = RJ0 ∧ yJ0_charAt_5068e.cls ≠ "java/lang/invoke/MethodHandle" ∧ yJ0_charAt_5068e.cls ≠ "java/lang/invoke/VarHandle" ∧ (parseMethodDescriptor yJ0_charAt_5068e.desc).map (fun d => d.parameters.length) = some 1 := by decide +kernel
set_option maxHeartbeats 4000000 in
set_option maxRecDepth 100000 in
theorem cJ3_checkIndex_c (l : Launch) (ev : Nat → Nat) (dC : Nat → ClassId) (dI : Nat → Nat → Nat) (cI cZ cO : ClassId) (p1 p2 : Int32) (r : Option Nat) (h1 : ¬ p1 < 0) (h2 : p1 < p2) : MetI l ev (dC, dI) (tyC cI cZ cO) yJ3_checkIndex_8e157 wsJ3_checkIndex_8e157 (rmF 0 0) [.int p1, .int p2, va_rf r] [] p1 [] := by
  cases r with
  | none =>
    refine MetI_of (cc := cJ3_checkIndex_8e157) (maxL := 3) (ret := (some .int)) (by decide) rfl (Nat.le_of_ble_eq_true rfl) ?_
    intro p e s m below meth c A ls hx hb hr hml hts hown hlocks hin hK hP hD hA hE hl
    have hl : lv_has ls 3 [(0, .int p1), (1, .int p2), (2, .null)] := hl
    have hS : va_S A s.heap s.heap [] := va_S.rf
    refine lv_iload_n hx hb dJ3_checkIndex_8e157_0 rfl (lv_at hl 0 rfl) ?_
    refine lv_if_lt (tgt := 9) hx hb dJ3_checkIndex_8e157_1 (by decide) (fun c1 => absurd c1 h1) (fun c1 => ?_)
    refine lv_iload_n hx hb dJ3_checkIndex_8e157_4 rfl (lv_at hl 0 rfl) ?_
    refine lv_iload_n hx hb dJ3_checkIndex_8e157_5 rfl (lv_at hl 1 rfl) ?_
    refine lv_icmp_lt (tgt := 16) hx hb dJ3_checkIndex_8e157_6 (by decide) (fun c2 => ?_) (fun c2 => absurd h2 c2)
    refine lv_iload_n hx hb dJ3_checkIndex_8e157_16 rfl (lv_at hl 0 rfl) ?_
    exact vq_iret hx hb hr hlocks hK hP hD hS rfl dJ3_checkIndex_8e157_17
  | some t =>
    refine MetI_of (cc := cJ3_checkIndex_8e157) (maxL := 3) (ret := (some .int)) (by decide) rfl (Nat.le_of_ble_eq_true rfl) ?_
    intro p e s m below meth c A ls hx hb hr hml hts hown hlocks hin hK hP hD hA hE hl
    have hl : lv_has ls 3 [(0, .int p1), (1, .int p2), (2, .ref t)] := hl
    have hS : va_S A s.heap s.heap [] := va_S.rf
    refine lv_iload_n hx hb dJ3_checkIndex_8e157_0 rfl (lv_at hl 0 rfl) ?_
    refine lv_if_lt (tgt := 9) hx hb dJ3_checkIndex_8e157_1 (by decide) (fun c1 => absurd c1 h1) (fun c1 => ?_)
    refine lv_iload_n hx hb dJ3_checkIndex_8e157_4 rfl (lv_at hl 0 rfl) ?_
    refine lv_iload_n hx hb dJ3_checkIndex_8e157_5 rfl (lv_at hl 1 rfl) ?_
    refine lv_icmp_lt (tgt := 16) hx hb dJ3_checkIndex_8e157_6 (by decide) (fun c2 => ?_) (fun c2 => absurd h2 c2)
    refine lv_iload_n hx hb dJ3_checkIndex_8e157_16 rfl (lv_at hl 0 rfl) ?_
    exact vq_iret hx hb hr hlocks hK hP hD hS rfl dJ3_checkIndex_8e157_17
set_option maxHeartbeats 4000000 in
set_option maxRecDepth 100000 in
theorem cJ0_checkIndex_c (l : Launch) (ev : Nat → Nat) (dC : Nat → ClassId) (dI : Nat → Nat → Nat) (cI cZ cO : ClassId) (p1 p2 : Int32) (h1 : ¬ p1 < 0) (h2 : p1 < p2) : MetV l ev (dC, dI) (tyC cI cZ cO) yJ0_checkIndex_df160 wsJ0_checkIndex_df160 (rmF 1 22) [.int p1, .int p2] [] [] := by
  refine MetV_of (cc := cJ0_checkIndex_df160) (maxL := 2) (ret := none) (by decide) rfl (Nat.le_of_ble_eq_true rfl) ?_
  intro p e s m below meth c A ls hx hb hr hml hts hown hlocks hin hK hP hD hA hE hl
  have hown : s.vm.findClass RJ0 = some m.cls := hown
  have hl : lv_has ls 2 [(0, .int p1), (1, .int p2)] := hl
  have hS : va_S A s.heap s.heap [] := va_S.rf
  refine lv_iload_n hx hb dJ0_checkIndex_df160_0 rfl (lv_at hl 0 rfl) ?_
  refine lv_iload_n hx hb dJ0_checkIndex_df160_1 rfl (lv_at hl 1 rfl) ?_
  obtain ⟨r, hz⟩ : ∃ r : Option Nat, va_Z "jdk/internal/util/Preconditions" "SIOOBE_FORMATTER" "Ljava/util/function/BiFunction;" (va_rf r) A s s.heap := by
    rcases hE.1.2.2.2.2.2.2.2.1 with hz | ⟨t, hz⟩
    · exact ⟨none, hz⟩
    · exact ⟨some t, hz⟩
  refine va_gets (v := va_rf r) hx hb hz hS hown (hts (.fieldLink RJ0 1053 "jdk/internal/util/Preconditions" "SIOOBE_FORMATTER" "Ljava/util/function/BiFunction;") (List.mem_of_getElem? (i := 1) rfl)) (fun _ h9 => h9) dJ0_checkIndex_df160_2 ?_
  refine vq_Si (As := [.int p1, .int p2, va_rf r]) (rest := []) (W2 := ([] : va_W)) (f := p1) hx hb hml hown hts hK hP hD hS hA hE hl.1 (cJ3_checkIndex_c l ev dC dI cI cZ cO p1 p2 r h1 h2) gJ0_checkIndex_df160_J3_checkIndex_8e157 rfl hdJ3_checkIndex (Nat.le_of_ble_eq_true rfl) (Nat.le_of_ble_eq_true rfl) rfl rfl [] [] [] rfl rfl (by decide) (by decide) (by decide) rfl rfl rfl (Nat.le_of_ble_eq_true rfl) dJ0_checkIndex_df160_5 ⟨Nat.zero_le _, Nat.zero_le _⟩ (fun H locs hP hD hS => ?_)
  refine lv_pop hx hb dJ0_checkIndex_df160_8 rfl ?_
  exact vq_vret hx hb hr hlocks hK hP hD hS dJ0_checkIndex_df160_9
set_option maxHeartbeats 4000000 in
set_option maxRecDepth 100000 in
/-- value[p1] & 255 of the text i -/
theorem cJ1_charAt_c (l : Launch) (ev : Nat → Nat) (dC : Nat → ClassId) (dI : Nat → Nat → Nat) (cI cZ cO : ClassId) (i : Nat) (hi : i < 5) (p1 : Int32) (h1 : ¬ p1 < 0) (h2 : p1 < nI (txLen.getD i 0)) (h3 : vp_in p1 (txLen.getD i 0)) : MetI l ev (dC, dI) (tyC cI cZ cO) yJ1_charAt_3b067 wsJ1_charAt_3b067 (rmF 2 43) [.ref (ev (20 + i)), .int p1] [] ((txByt.getD i []).getD p1.toNatClampNeg 0 &&& 255) [] := by
  refine MetI_of (cc := cJ1_charAt_3b067) (maxL := 2) (ret := (some .char)) (by decide) rfl (Nat.le_of_ble_eq_true rfl) ?_
  intro p e s m below meth c A ls hx hb hr hml hts hown hlocks hin hK hP hD hA hE hl
  have hown : s.vm.findClass RJ1 = some m.cls := hown
  have hl : lv_has ls 2 [(0, .ref (ev (20 + i))), (1, .int p1)] := hl
  have hS : va_S A s.heap s.heap [] := va_S.rf
  have hTx : va_T .byte (ev (20 + i)) (txLen.getD i 0) (fun j => .int ((txByt.getD i []).getD j 0)) A s s.heap := (hE.1.2.2.2.2.2.2.2.2.1 i hi).2.2.2
  refine lv_iload_n hx hb dJ1_charAt_3b067_0 rfl (lv_at hl 1 rfl) ?_
  refine lv_aload_n hx hb dJ1_charAt_3b067_1 rfl (lv_at hl 0 rfl) ?_
  refine va_tlen (v := nI (txLen.getD i 0)) hx hb hTx hS rfl dJ1_charAt_3b067_2 ?_
  refine vq_Sv (As := [.int p1, .int (nI (txLen.getD i 0))]) (rest := []) (W2 := ([] : va_W)) hx hb hml hown hts hK hP hD hS hA hE hl.1 (cJ0_checkIndex_c l ev dC dI cI cZ cO p1 (nI (txLen.getD i 0)) h1 h2) gJ1_charAt_3b067_J0_checkIndex_df160 rfl hdJ0_checkIndex (Nat.le_of_ble_eq_true rfl) (Nat.le_of_ble_eq_true rfl) rfl rfl [] [] [] rfl rfl (by decide) (by decide) (by decide) rfl rfl rfl (Nat.le_of_ble_eq_true rfl) dJ1_charAt_3b067_3 ⟨Nat.zero_le _, Nat.zero_le _⟩ (fun H locs hP hD hS => ?_)
  refine lv_aload_n hx hb dJ1_charAt_3b067_6 rfl (lv_at hl 0 rfl) ?_
  refine lv_iload_n hx hb dJ1_charAt_3b067_7 rfl (lv_at hl 1 rfl) ?_
  refine va_tb (v := .int ((txByt.getD i []).getD p1.toNatClampNeg 0)) hx hb hTx hS (i := p1) h3 rfl dJ1_charAt_3b067_8 ?_
  refine lv_sipush (v := 255) hx hb dJ1_charAt_3b067_9 (by decide) ?_
  refine lv_iand hx hb dJ1_charAt_3b067_12 ?_
  refine lv_i2c (v := (txByt.getD i []).getD p1.toNatClampNeg 0 &&& 255) hx hb dJ1_charAt_3b067_13 (sc_c2 _) ?_
  exact vq_tret hx hb hr hlocks hK hP hD hS (sc_nar _) rfl dJ1_charAt_3b067_14
set_option maxHeartbeats 4000000 in
set_option maxRecDepth 100000 in
theorem cJ0_coder_c (l : Launch) (ev : Nat → Nat) (dC : Nat → ClassId) (dI : Nat → Nat → Nat) (cI cZ cO : ClassId) (i : Nat) (hi : i < 5) : MetI l ev (dC, dI) (tyC cI cZ cO) yJ0_coder_7d493 wsJ0_coder_7d493 (rmF 0 0) [.ref (ev (10 + i))] [] 0 [] := by
  refine MetI_of (cc := cJ0_coder_7d493) (maxL := 1) (ret := (some .byte)) (by decide) rfl (Nat.le_of_ble_eq_true rfl) ?_
  intro p e s m below meth c A ls hx hb hr hml hts hown hlocks hin hK hP hD hA hE hl
  have hown : s.vm.findClass RJ0 = some m.cls := hown
  have hl : lv_has ls 1 [(0, .ref (ev (10 + i)))] := hl
  have hS : va_S A s.heap s.heap [] := va_S.rf
  have hO : va_OF "java/lang/String" "coder" "B" (.int 0) (ev (10 + i)) A s s.heap := (hE.1.2.2.2.2.2.2.2.2.1 i hi).2.1
  refine va_gets (v := .int 1) hx hb hE.1.2.2.2.2.2.2.1 hS hown (hts (.fieldLink RJ0 38 "java/lang/String" "COMPACT_STRINGS" "Z") (List.mem_of_getElem? (i := 1) rfl)) (fun _ h9 => h9) dJ0_coder_7d493_0 ?_
  refine lv_if_eq (tgt := 13) hx hb dJ0_coder_7d493_3 (by decide) (fun c3 => absurd c3 (by decide)) (fun c3 => ?_)
  refine lv_aload_n hx hb dJ0_coder_7d493_6 rfl (lv_at hl 0 rfl) ?_
  refine vk_getf (v := .int 0) hx hb hO hS hown (hts (.fieldLink RJ0 15 "java/lang/String" "coder" "B") (List.mem_of_getElem? (i := 2) rfl)) (fun _ h9 => h9) dJ0_coder_7d493_7 ?_
  refine lv_goto (tgt := 14) hx hb dJ0_coder_7d493_10 (by decide) ?_
  exact vq_tret hx hb hr hlocks hK hP hD hS rfl rfl dJ0_coder_7d493_14
set_option maxHeartbeats 4000000 in
set_option maxRecDepth 100000 in
theorem cJ0_isLatin1_c (l : Launch) (ev : Nat → Nat) (dC : Nat → ClassId) (dI : Nat → Nat → Nat) (cI cZ cO : ClassId) (i : Nat) (hi : i < 5) : MetI l ev (dC, dI) (tyC cI cZ cO) yJ0_isLatin1_aae02 wsJ0_isLatin1_aae02 (rmF 0 0) [.ref (ev (10 + i))] [] 1 [] := by
  refine MetI_of (cc := cJ0_isLatin1_aae02) (maxL := 1) (ret := (some .boolean)) (by decide) rfl (Nat.le_of_ble_eq_true rfl) ?_
  intro p e s m below meth c A ls hx hb hr hml hts hown hlocks hin hK hP hD hA hE hl
  have hown : s.vm.findClass RJ0 = some m.cls := hown
  have hl : lv_has ls 1 [(0, .ref (ev (10 + i)))] := hl
  have hS : va_S A s.heap s.heap [] := va_S.rf
  have hO : va_OF "java/lang/String" "coder" "B" (.int 0) (ev (10 + i)) A s s.heap := (hE.1.2.2.2.2.2.2.2.2.1 i hi).2.1
  refine va_gets (v := .int 1) hx hb hE.1.2.2.2.2.2.2.1 hS hown (hts (.fieldLink RJ0 38 "java/lang/String" "COMPACT_STRINGS" "Z") (List.mem_of_getElem? (i := 1) rfl)) (fun _ h9 => h9) dJ0_isLatin1_aae02_0 ?_
  refine lv_if_eq (tgt := 17) hx hb dJ0_isLatin1_aae02_3 (by decide) (fun c3 => absurd c3 (by decide)) (fun c3 => ?_)
  refine lv_aload_n hx hb dJ0_isLatin1_aae02_6 rfl (lv_at hl 0 rfl) ?_
  refine vk_getf (v := .int 0) hx hb hO hS hown (hts (.fieldLink RJ0 15 "java/lang/String" "coder" "B") (List.mem_of_getElem? (i := 2) rfl)) (fun _ h9 => h9) dJ0_isLatin1_aae02_7 ?_
  refine lv_if_ne (tgt := 17) hx hb dJ0_isLatin1_aae02_10 (by decide) (fun c3 => absurd rfl c3) (fun c3 => ?_)
  refine lv_iconst (v := 1) hx hb dJ0_isLatin1_aae02_13 (by decide) ?_
  refine lv_goto (tgt := 18) hx hb dJ0_isLatin1_aae02_14 (by decide) ?_
  exact vq_zret hx hb hr hlocks hK hP hD hS rfl rfl dJ0_isLatin1_aae02_18
set_option maxHeartbeats 4000000 in
set_option maxRecDepth 100000 in
theorem cJ0_length_c (l : Launch) (ev : Nat → Nat) (dC : Nat → ClassId) (dI : Nat → Nat → Nat) (cI cZ cO : ClassId) (i : Nat) (hi : i < 5) : MetI l ev (dC, dI) (tyC cI cZ cO) yJ0_length_8abf5 wsJ0_length_8abf5 (rmF 1 20) [.ref (ev (10 + i))] [] (nI (txLen.getD i 0)) [] := by
  refine MetI_of (cc := cJ0_length_8abf5) (maxL := 1) (ret := (some .int)) (by decide) rfl (Nat.le_of_ble_eq_true rfl) ?_
  intro p e s m below meth c A ls hx hb hr hml hts hown hlocks hin hK hP hD hA hE hl
  have hown : s.vm.findClass RJ0 = some m.cls := hown
  have hl : lv_has ls 1 [(0, .ref (ev (10 + i)))] := hl
  have hS : va_S A s.heap s.heap [] := va_S.rf
  have hO : va_OF "java/lang/String" "value" "[B" (.ref (ev (20 + i))) (ev (10 + i)) A s s.heap := (hE.1.2.2.2.2.2.2.2.2.1 i hi).2.2.1
  have hTx : va_T .byte (ev (20 + i)) (txLen.getD i 0) (fun j => .int ((txByt.getD i []).getD j 0)) A s s.heap := (hE.1.2.2.2.2.2.2.2.2.1 i hi).2.2.2
  refine lv_aload_n hx hb dJ0_length_8abf5_0 rfl (lv_at hl 0 rfl) ?_
  refine vk_getf (v := .ref (ev (20 + i))) hx hb hO hS hown (hts (.fieldLink RJ0 9 "java/lang/String" "value" "[B") (List.mem_of_getElem? (i := 1) rfl)) (fun _ h9 => h9) dJ0_length_8abf5_1 ?_
  refine va_tlen (v := nI (txLen.getD i 0)) hx hb hTx hS rfl dJ0_length_8abf5_4 ?_
  refine lv_aload_n hx hb dJ0_length_8abf5_5 rfl (lv_at hl 0 rfl) ?_
  refine vq_Ri (As := []) (rest := [.int (nI (txLen.getD i 0))]) (W2 := ([] : va_W)) (f := 0) hx hb hml hown hts hK hP hD hS hA hE hl.1 (cJ0_coder_c l ev dC dI cI cZ cO i hi) gJ0_length_8abf5_J0_coder_7d493 rfl hdJ0_coder (Nat.le_of_ble_eq_true rfl) (Nat.le_of_ble_eq_true rfl) rfl rfl (vk_recv (adK := fun i => ev (10 + i)) (i := i) hE.1.2.2.2.2.2.2.2.2 hi hS) [] [] [] rfl rfl (by decide) (by decide) (by decide) rfl rfl rfl (Nat.le_of_ble_eq_true rfl) dJ0_length_8abf5_6 ⟨Nat.zero_le _, Nat.zero_le _⟩ (fun H locs hP hD hS => ?_)
  refine lv_ishr hx hb dJ0_length_8abf5_9 ?_
  exact vq_iret hx hb hr hlocks hK hP hD hS (sb_shr0 _) dJ0_length_8abf5_10
set_option maxHeartbeats 4000000 in
set_option maxRecDepth 100000 in
theorem cJ0_charAt_c (l : Launch) (ev : Nat → Nat) (dC : Nat → ClassId) (dI : Nat → Nat → Nat) (cI cZ cO : ClassId) (i : Nat) (hi : i < 5) (p1 : Int32) (h1 : ¬ p1 < 0) (h2 : p1 < nI (txLen.getD i 0)) (h3 : vp_in p1 (txLen.getD i 0)) : MetI l ev (dC, dI) (tyC cI cZ cO) yJ0_charAt_5068e wsJ0_charAt_5068e (rmF 3 64) [.ref (ev (10 + i)), .int p1] [] ((txByt.getD i []).getD p1.toNatClampNeg 0 &&& 255) [] := by
  refine MetI_of (cc := cJ0_charAt_5068e) (maxL := 2) (ret := (some .char)) (by decide) rfl (Nat.le_of_ble_eq_true rfl) ?_
  intro p e s m below meth c A ls hx hb hr hml hts hown hlocks hin hK hP hD hA hE hl
  have hown : s.vm.findClass RJ0 = some m.cls := hown
  have hl : lv_has ls 2 [(0, .ref (ev (10 + i))), (1, .int p1)] := hl
  have hS : va_S A s.heap s.heap [] := va_S.rf
  have hO : va_OF "java/lang/String" "value" "[B" (.ref (ev (20 + i))) (ev (10 + i)) A s s.heap := (hE.1.2.2.2.2.2.2.2.2.1 i hi).2.2.1
  refine lv_aload_n hx hb dJ0_charAt_5068e_0 rfl (lv_at hl 0 rfl) ?_
  refine vq_Ri (As := []) (rest := []) (W2 := ([] : va_W)) (f := 1) hx hb hml hown hts hK hP hD hS hA hE hl.1 (cJ0_isLatin1_c l ev dC dI cI cZ cO i hi) gJ0_charAt_5068e_J0_isLatin1_aae02 rfl hdJ0_isLatin1 (Nat.le_of_ble_eq_true rfl) (Nat.le_of_ble_eq_true rfl) rfl rfl (vk_recv (adK := fun i => ev (10 + i)) (i := i) hE.1.2.2.2.2.2.2.2.2 hi hS) [] [] [] rfl rfl (by decide) (by decide) (by decide) rfl rfl rfl (Nat.le_of_ble_eq_true rfl) dJ0_charAt_5068e_1 ⟨Nat.zero_le _, Nat.zero_le _⟩ (fun H locs hP hD hS => ?_)
  refine lv_if_eq (tgt := 16) hx hb dJ0_charAt_5068e_4 (by decide) (fun c3 => absurd c3 (by decide)) (fun c3 => ?_)
  refine lv_aload_n hx hb dJ0_charAt_5068e_7 rfl (lv_at hl 0 rfl) ?_
  refine vk_getf (v := .ref (ev (20 + i))) hx hb hO hS hown (hts (.fieldLink RJ0 9 "java/lang/String" "value" "[B") (List.mem_of_getElem? (i := 1) rfl)) (fun _ h9 => h9) dJ0_charAt_5068e_8 ?_
  refine lv_iload_n hx hb dJ0_charAt_5068e_11 rfl (lv_at hl 1 rfl) ?_
  refine vq_Si (As := [.ref (ev (20 + i)), .int p1]) (rest := []) (W2 := ([] : va_W)) (f := (txByt.getD i []).getD p1.toNatClampNeg 0 &&& 255) hx hb hml hown hts hK hP hD hS hA hE hl.1 (cJ1_charAt_c l ev dC dI cI cZ cO i hi p1 h1 h2 h3) gJ0_charAt_5068e_J1_charAt_3b067 rfl hdJ1_charAt (Nat.le_of_ble_eq_true rfl) (Nat.le_of_ble_eq_true rfl) rfl rfl [] [] [] rfl rfl (by decide) (by decide) (by decide) rfl rfl rfl (Nat.le_of_ble_eq_true rfl) dJ0_charAt_5068e_12 ⟨Nat.zero_le _, Nat.zero_le _⟩ (fun H locs hP hD hS => ?_)
  exact vq_tret hx hb hr hlocks hK hP hD hS (sc_nar _) rfl dJ0_charAt_5068e_15
