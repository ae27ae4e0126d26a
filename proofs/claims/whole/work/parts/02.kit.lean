/-! own words for contracts: a truth value as an int, a world before and behind a method, one lemma a call -/
def bI (b : Bool) : Int32 := if b = true then 1 else 0
theorem bI_eq0 {b : Bool} : bI b = 0 ↔ b = false := by cases b <;> decide
theorem bI_ne0 {b : Bool} : ¬ bI b = 0 ↔ b = true := by cases b <;> decide
theorem bI_eq {a b : Bool} : bI a = bI b ↔ a = b := by cases a <;> cases b <;> decide
theorem nar_bI (b : Bool) : narrow .boolean (.int (bI b)) = .int (bI b) := by cases b <;> rfl
abbrev tyC (cI cZ cO : ClassId) : List (ClassId × FieldType) := [(cI, .int), (cZ, .boolean), (cO, .object "SharedLine$Line")]
abbrev rmF (f n : Nat) : Room := { frames := f, cells := 0, slots := 0, locals := n }
/-! what stands outside every method's world: SharedLine's tables of numbers, the words' texts, links within the nest -/
def nbLeast (j : Nat) : Int32 := [1, 0, 2].getD j 0
def nbMost (j : Nat) : Int32 := [5, 6, 6].getD j 0
def nbFirst (j : Nat) : Int32 := [2, 2, 4].getD j 0
def txLen : List Nat := [4, 5, 4, 5, 3]
def txByt : List (List Int32) := [[108, 105, 110, 101], [104, 97, 110, 100, 115], [119, 97, 105, 116], [114, 101, 97, 99, 104], [98, 97, 114]]
def ENz (ev : Nat → Nat) (A : Nat → Prop) (U : State) (H : Heap) : Prop :=
  va_Z "SharedLine" "NUMBER_LEAST" "[I" (.ref (ev 0)) A U H ∧ va_T .int (ev 0) 3 (fun j => .int (nbLeast j)) A U H ∧ va_Z "SharedLine" "NUMBER_MOST" "[I" (.ref (ev 1)) A U H ∧ va_T .int (ev 1) 3 (fun j => .int (nbMost j)) A U H ∧ va_Z "SharedLine" "NUMBER_AT_FIRST" "[I" (.ref (ev 2)) A U H ∧ va_T .int (ev 2) 3 (fun j => .int (nbFirst j)) A U H ∧ va_Z "java/lang/String" "COMPACT_STRINGS" "Z" (.int 1) A U H ∧ va_Zq "jdk/internal/util/Preconditions" "SIOOBE_FORMATTER" "Ljava/util/function/BiFunction;" A U H ∧ vk_S 5 txLen txByt (fun i => ev (10 + i)) (fun i => ev (20 + i)) A U H
def ENr (ev : Nat → Nat) (U : State) : Prop := vk_R "SharedLine$Text" 70 "line" (ev 10) U ∧ vk_R "SharedLine$Text" 76 "hands" (ev 11) U ∧ vk_R "SharedLine$Text" 78 "wait" (ev 12) U ∧ vk_R "SharedLine$Text" 80 "reach" (ev 13) U ∧ vk_R "SharedLine$Text" 82 "bar" (ev 14) U
def ENn (U : State) : Prop := va_Nw (.fieldLinkNest "SharedLine$Line" 34 "SharedLine" "NUMBER_AT_FIRST" "[I" "SharedLine") U ∧ va_Nw (.methodLinkNest "SharedLine" 18 yX4_init "SharedLine") U ∧ va_Nw (.methodLinkNest "SharedLine" 32 yX2_init "SharedLine") U ∧ va_Nw (.methodLinkNest "SharedLine" 39 yX3_init "SharedLine") U ∧ va_Nw (.methodLinkNest "SharedLine$Text" 111 yX5_isHand "SharedLine") U ∧ va_Nw (.methodLinkNest "SharedLine$Text" 119 yX5_isNumber "SharedLine") U
def EN (ev : Nat → Nat) (A : Nat → Prop) (U : State) (H : Heap) : Prop := ENz ev A U H ∧ ENr ev U ∧ ENn U
theorem ENz.go {ev : Nat → Nat} {A B : Nat → Prop} {u U : State} {H H1 : Heap} (hvm : u.vm.Alike U.vm) (hAB : ∀ q, B q → A q) (hq : ∀ a : Nat, a < H.size → ¬ A a → H1[a]? = H[a]?) (h : ENz ev A u H) : ENz ev B U H1 := by
  obtain ⟨h1, h2, h3, h4, h5, h6, h7, h8, h9⟩ := h
  exact ⟨((h1.kept hq).moved hvm).narrow hAB, ((h2.kept hq).moved hvm).narrow hAB, ((h3.kept hq).moved hvm).narrow hAB, ((h4.kept hq).moved hvm).narrow hAB, ((h5.kept hq).moved hvm).narrow hAB, ((h6.kept hq).moved hvm).narrow hAB, ((h7.kept hq).moved hvm).narrow hAB, ((h8.kept hq).moved hvm).narrow hAB, ((h9.kept hq).moved hvm).narrow hAB⟩
theorem EN.go {ev : Nat → Nat} {A B : Nat → Prop} {s U : State} {H H1 : Heap} (hW : s.WarmedH U.vm) (hAB : ∀ q, B q → A q) (hq : ∀ a : Nat, a < H.size → ¬ A a → H1[a]? = H[a]?) (h : EN ev A s H) : EN ev B U H1 := by
  obtain ⟨hz, ⟨r1, r2, r3, r4, r5⟩, ⟨n1, n2, n3, n4, n5, n6⟩⟩ := h
  exact ⟨hz.go hW.alike hAB hq, ⟨r1.warm hW, r2.warm hW, r3.warm hW, r4.warm hW, r5.warm hW⟩, ⟨n1.warmF hW, n2.warmM hW, n3.warmM hW, n4.warmM hW, n5.warmM hW, n6.warmM hW⟩⟩
theorem EN.same {ev : Nat → Nat} {A : Nat → Prop} {u U : State} {H : Heap} (hv : u.vm = U.vm) (h : EN ev A u H) : EN ev A U H := by
  obtain ⟨hz, ⟨r1, r2, r3, r4, r5⟩, ⟨n1, n2, n3, n4, n5, n6⟩⟩ := h
  exact ⟨hz.go (hv ▸ Vm.Alike.refl u.vm) (fun _ q => q) (fun _ _ _ => rfl), ⟨r1.same hv.symm, r2.same hv.symm, r3.same hv.symm, r4.same hv.symm, r5.same hv.symm⟩, ⟨n1.same rfl hv, n2.same rfl hv, n3.same rfl hv, n4.same rfl hv, n5.same rfl hv, n6.same rfl hv⟩⟩
theorem fit_bI (b : Bool) : fits .boolean (.int (bI b)) = true := by cases b <;> rfl
def PrW (ev : Nat → Nat) (D : va_G) (tys : List (ClassId × FieldType)) (w : va_W) (sz : Nat) (U : State) : Prop := U.heap.size = sz ∧ va_P D vwCl w U.heap ∧ va_K D vwCl tys U ∧ va_D (fun _ => True) w ∧ EN ev (va_A w sz) U U.heap
def PoW (D : va_G) (tys : List (ClassId × FieldType)) (A : Nat → Prop) (w : va_W) (t : State) : Prop := va_P D vwCl w t.heap ∧ va_K D vwCl tys t ∧ va_D A w
/-- a method that answers f and makes nothing: its world w becomes w' -/
def MetI (l : Launch) (ev : Nat → Nat) (D : va_G) (tys : List (ClassId × FieldType)) (y : MethodName) (ws : List Cond) (rm : Room) (av : List Value) (w : va_W) (f : Int32) (w' : va_W) : Prop :=
  ∀ sz : Nat, Met l y ws rm (va_Pc av (PrW ev D tys w sz)) (va_Qi (fun (x : Int32) (_ : Unit) => x = f) (fun _ t => PoW D tys (va_A w sz) w' t) (va_A w sz)) 0 0 (va_A w sz)
def MetV (l : Launch) (ev : Nat → Nat) (D : va_G) (tys : List (ClassId × FieldType)) (y : MethodName) (ws : List Cond) (rm : Room) (av : List Value) (w : va_W) (w' : va_W) : Prop :=
  ∀ sz : Nat, Met l y ws rm (va_Pc av (PrW ev D tys w sz)) (va_Qv (fun (_ : Unit) => True) (fun _ t => PoW D tys (va_A w sz) w' t) (va_A w sz)) 0 0 (va_A w sz)
theorem fm_of {α : Type} {f : Nat → Option α} {is : List Nat} {w : List α} (h : is.map f = w.map some) : is.filterMap f = w := by
  have h1 : is.filterMap f = (is.map f).filterMap id := by rw [List.filterMap_map]; rfl
  rw [h1, h, List.filterMap_map]
  simp
theorem blind_PrW {ev : Nat → Nat} {av : List Value} {D : va_G} {tys : List (ClassId × FieldType)} {w : va_W} {sz : Nat} : FrameBlind (va_Pc av (PrW ev D tys w sz)) := fun a U g mk q => by
  obtain ⟨q0, q1, qP, qK, qD, qE⟩ := q
  exact ⟨q0, q1, qP, va_K.moved (u := U) (U := U.calling g mk a) (Vm.Alike.refl U.vm) qK, qD, EN.same (u := U) (U := U.calling g mk a) rfl qE⟩
section VQ
variable {p : Program} {l : Launch} {e : Env} {R : Room} {s : State} {m : MethodId} {args : Array Value} {below : List Frame} {meth : Method} {c : Code} {H : Heap} {locs : List Loc} {cells slots : Nat} {Q : State → Prop}
variable {cc : ByteArray} {pc nL : Nat} {ls : Array Slot} {Ts : List Cond} {own : String} {D : va_G} {tys : List (ClassId × FieldType)} {A : Nat → Prop} {H0 : Heap} {W1 : va_W}
variable {ev : Nat → Nat} {y : MethodName} {ws ws' : List Cond} {rm : Room} {bytes : ByteArray} {maxL n index : Nat} {ret : Option FieldType} {C : String} {b : Nat} {As rest st0 : List Value} {w w' W2 : va_W} {f : Int32} {ci qr : Nat} {qc : vw_C} {fs : List Value}
/-- what stands behind a call: the world of the caller with the callee's part made new -/
theorem vq_back {t : State} {H1 : Heap} (isC isR isP : List Nat) (hP : va_P D vwCl W1 H) (hD : va_D A W1) (hC : isC.map (fun i => W1[i]?) = w.map some) (hRr : isR.map (fun i => W1[i]?) = (isR.filterMap (fun i => W1[i]?)).map some) (hnd : (va_nd isR && va_nd isP) = true) (hdis : ∀ i ∈ isR, i ∉ isC) (hp : isP.map (fun i => (isR.filterMap (fun i => W1[i]?) ++ w')[i]?) = W2.map some)
    (ht : t.heap = H1) (hk : ∀ q : Nat, q < H.size → ¬ va_A w H.size q → H1[q]? = H[q]?) (hF : ∀ q, va_A w H.size q → A q) (hB : PoW D tys (va_A w H.size) w' t) : va_P D vwCl W2 H1 ∧ va_D A W2 := by
  obtain ⟨hP1, hK1, hD1⟩ := hB
  rw [ht] at hP1
  obtain ⟨n1, n2⟩ := Bool.and_eq_true_iff.mp hnd
  obtain ⟨hP2, hD2⟩ := va_join (wr := isR.filterMap (fun i => W1[i]?)) (w1 := w') hP hD isC isR hC hRr n1 hdis hk hF hP1 hD1
  exact ⟨hP2.sub isP (fm_of hp), hD2.sub isP n2 hp⟩
theorem vq_Vi (hx : p.tables.exec = Jvm.exec) (hb : c.code = cc) (hml : c.maxLocals = nL) (hown : s.vm.findClass own = some m.cls) (hts : ∀ w ∈ Ts, w.before args s = true) (hK : va_K D vwCl tys s) (hP : va_P D vwCl W1 H) (hD : va_D A W1) (hS : va_S A s.heap H locs) (hA : ∀ q, s.heap.size ≤ q → A q) (hE : EN ev A s s.heap) (hl : ls.size = nL)
    (hM : MetI l ev D tys y ws rm (.ref b :: As) w f w') (hG : GoodIn Ts (wsV own index C y ws)) (hw : ws = Cond.code y bytes maxL ret :: ws') (hd : y.cls = C ∧ y.cls ≠ "java/lang/invoke/MethodHandle" ∧ y.cls ≠ "java/lang/invoke/VarHandle" ∧ (parseMethodDescriptor y.desc).map (fun d => d.parameters.length) = some n) (hR1 : rm.frames + 1 ≤ R.frames) (hR2 : 8 + (maxL + 11) + rm.locals ≤ R.locals) (hrc : rm.cells = 0) (hrs : rm.slots = 0)
    (hc : vwCl[ci]? = some qc) (hqC : qc.1 = C) (he : W1[qr]? = some (b, .inr (ci, fs)))
    (isC isR isP : List Nat) (hC : isC.map (fun i => W1[i]?) = w.map some) (hRr : isR.map (fun i => W1[i]?) = (isR.filterMap (fun i => W1[i]?)).map some) (hnC : va_nd isC = true) (hnd : (va_nd isR && va_nd isP) = true) (hdis : ∀ i ∈ isR, i ∉ isC) (hp : isP.map (fun i => (isR.filterMap (fun i => W1[i]?) ++ w')[i]?) = W2.map some)
    (hst : st0 = As.reverse ++ .ref b :: rest) (hn : As.length = n) (hrm : (rest.map fun v => v.category).sum ≤ 8) (hdg : decode cc pc = .ok (.invokevirtual index, 3)) (hcs : cells ≤ R.cells ∧ slots ≤ R.slots)
    (k : ∀ (H1 : Heap) (locs1 : List Loc), va_P D vwCl W2 H1 → va_D A W2 → va_S A s.heap H1 locs1 → W p l e R s m args below meth c H1 locs1 cells slots Q (F0 m (pc + 3) ls (.int f :: rest))) :
    W p l e R s m args below meth c H locs cells slots Q (F0 m pc ls st0) := by
  subst hst
  subst hqC
  have hPc := hP.sub isC (fm_of hC)
  have hDc := hD.sub isC hnC hC
  have hFc := va_free hD hS hA isC hC
  refine va_calli (va_runV (As := As) (rest := rest) ⟨hx, hb, hml, hown, hts⟩ (hM H.size) (cwV n hts hG hw hrc hrs hd ⟨hR1, hR2⟩) ⟨blind_PrW, va_recv hK hP hc he, fun U hU hW => ⟨rfl, by rw [hU], by rw [hU]; exact hPc, va_K.moved hW.alike hK, hDc.weaken (fun _ _ _ _ => trivial), by rw [hU]; exact EN.go hW hFc hS.2.1 hE⟩⟩ rfl hn hl rfl (lv_room hrm) hdg hcs) hS (fun q _ h => hFc q h) hFc (fun r u t H1 locs1 ht hvm hw hB hz1 hk1 hS1 => ?_)
  obtain ⟨a1, a2⟩ := vq_back isC isR isP hP hD hC hRr hnd hdis hp ht hk1 hFc hB
  subst hw
  exact k H1 locs1 a1 a2 hS1
theorem vq_Vv (hx : p.tables.exec = Jvm.exec) (hb : c.code = cc) (hml : c.maxLocals = nL) (hown : s.vm.findClass own = some m.cls) (hts : ∀ w ∈ Ts, w.before args s = true) (hK : va_K D vwCl tys s) (hP : va_P D vwCl W1 H) (hD : va_D A W1) (hS : va_S A s.heap H locs) (hA : ∀ q, s.heap.size ≤ q → A q) (hE : EN ev A s s.heap) (hl : ls.size = nL)
    (hM : MetV l ev D tys y ws rm (.ref b :: As) w w') (hG : GoodIn Ts (wsV own index C y ws)) (hw : ws = Cond.code y bytes maxL ret :: ws') (hd : y.cls = C ∧ y.cls ≠ "java/lang/invoke/MethodHandle" ∧ y.cls ≠ "java/lang/invoke/VarHandle" ∧ (parseMethodDescriptor y.desc).map (fun d => d.parameters.length) = some n) (hR1 : rm.frames + 1 ≤ R.frames) (hR2 : 8 + (maxL + 11) + rm.locals ≤ R.locals) (hrc : rm.cells = 0) (hrs : rm.slots = 0)
    (hc : vwCl[ci]? = some qc) (hqC : qc.1 = C) (he : W1[qr]? = some (b, .inr (ci, fs)))
    (isC isR isP : List Nat) (hC : isC.map (fun i => W1[i]?) = w.map some) (hRr : isR.map (fun i => W1[i]?) = (isR.filterMap (fun i => W1[i]?)).map some) (hnC : va_nd isC = true) (hnd : (va_nd isR && va_nd isP) = true) (hdis : ∀ i ∈ isR, i ∉ isC) (hp : isP.map (fun i => (isR.filterMap (fun i => W1[i]?) ++ w')[i]?) = W2.map some)
    (hst : st0 = As.reverse ++ .ref b :: rest) (hn : As.length = n) (hrm : (rest.map fun v => v.category).sum ≤ 8) (hdg : decode cc pc = .ok (.invokevirtual index, 3)) (hcs : cells ≤ R.cells ∧ slots ≤ R.slots)
    (k : ∀ (H1 : Heap) (locs1 : List Loc), va_P D vwCl W2 H1 → va_D A W2 → va_S A s.heap H1 locs1 → W p l e R s m args below meth c H1 locs1 cells slots Q (F0 m (pc + 3) ls rest)) :
    W p l e R s m args below meth c H locs cells slots Q (F0 m pc ls st0) := by
  subst hst
  subst hqC
  have hPc := hP.sub isC (fm_of hC)
  have hDc := hD.sub isC hnC hC
  have hFc := va_free hD hS hA isC hC
  refine va_callv (va_runV (As := As) (rest := rest) ⟨hx, hb, hml, hown, hts⟩ (hM H.size) (cwV n hts hG hw hrc hrs hd ⟨hR1, hR2⟩) ⟨blind_PrW, va_recv hK hP hc he, fun U hU hW => ⟨rfl, by rw [hU], by rw [hU]; exact hPc, va_K.moved hW.alike hK, hDc.weaken (fun _ _ _ _ => trivial), by rw [hU]; exact EN.go hW hFc hS.2.1 hE⟩⟩ rfl hn hl rfl (lv_room hrm) hdg hcs) hS (fun q _ h => hFc q h) hFc (fun u t H1 locs1 ht hvm hw hB hz1 hk1 hS1 => ?_)
  obtain ⟨a1, a2⟩ := vq_back isC isR isP hP hD hC hRr hnd hdis hp ht hk1 hFc hB
  exact k H1 locs1 a1 a2 hS1
theorem vq_Si (hx : p.tables.exec = Jvm.exec) (hb : c.code = cc) (hml : c.maxLocals = nL) (hown : s.vm.findClass own = some m.cls) (hts : ∀ w ∈ Ts, w.before args s = true) (hK : va_K D vwCl tys s) (hP : va_P D vwCl W1 H) (hD : va_D A W1) (hS : va_S A s.heap H locs) (hA : ∀ q, s.heap.size ≤ q → A q) (hE : EN ev A s s.heap) (hl : ls.size = nL)
    (hM : MetI l ev D tys y ws rm As w f w') (hG : GoodIn Ts (va_wsS own index y ws)) (hw : ws = Cond.code y bytes maxL ret :: ws') (hd : y.cls ≠ "java/lang/invoke/MethodHandle" ∧ y.cls ≠ "java/lang/invoke/VarHandle" ∧ (parseMethodDescriptor y.desc).map (fun d => d.parameters.length) = some n) (hR1 : rm.frames + 1 ≤ R.frames) (hR2 : 8 + (maxL + 11) + rm.locals ≤ R.locals) (hrc : rm.cells = 0) (hrs : rm.slots = 0)
    (isC isR isP : List Nat) (hC : isC.map (fun i => W1[i]?) = w.map some) (hRr : isR.map (fun i => W1[i]?) = (isR.filterMap (fun i => W1[i]?)).map some) (hnC : va_nd isC = true) (hnd : (va_nd isR && va_nd isP) = true) (hdis : ∀ i ∈ isR, i ∉ isC) (hp : isP.map (fun i => (isR.filterMap (fun i => W1[i]?) ++ w')[i]?) = W2.map some)
    (hst : st0 = As.reverse ++ rest) (hn : As.length = n) (hrm : (rest.map fun v => v.category).sum ≤ 8) (hdg : decode cc pc = .ok (.invokestatic index, 3)) (hcs : cells ≤ R.cells ∧ slots ≤ R.slots)
    (k : ∀ (H1 : Heap) (locs1 : List Loc), va_P D vwCl W2 H1 → va_D A W2 → va_S A s.heap H1 locs1 → W p l e R s m args below meth c H1 locs1 cells slots Q (F0 m (pc + 3) ls (.int f :: rest))) :
    W p l e R s m args below meth c H locs cells slots Q (F0 m pc ls st0) := by
  subst hst
  have hPc := hP.sub isC (fm_of hC)
  have hDc := hD.sub isC hnC hC
  have hFc := va_free hD hS hA isC hC
  refine va_calli (va_runS (As := As) (rest := rest) ⟨hx, hb, hml, hown, hts⟩ (hM H.size) (va_cwS n hts hG hw hrc hrs hd ⟨hR1, hR2⟩) ⟨blind_PrW, fun U hU hW => ⟨rfl, by rw [hU], by rw [hU]; exact hPc, va_K.moved hW.alike hK, hDc.weaken (fun _ _ _ _ => trivial), by rw [hU]; exact EN.go hW hFc hS.2.1 hE⟩⟩ rfl hn hl rfl (lv_room hrm) hdg hcs) hS (fun q _ h => hFc q h) hFc (fun r u t H1 locs1 ht hvm hw hB hz1 hk1 hS1 => ?_)
  obtain ⟨a1, a2⟩ := vq_back isC isR isP hP hD hC hRr hnd hdis hp ht hk1 hFc hB
  subst hw
  exact k H1 locs1 a1 a2 hS1
theorem vq_Sv (hx : p.tables.exec = Jvm.exec) (hb : c.code = cc) (hml : c.maxLocals = nL) (hown : s.vm.findClass own = some m.cls) (hts : ∀ w ∈ Ts, w.before args s = true) (hK : va_K D vwCl tys s) (hP : va_P D vwCl W1 H) (hD : va_D A W1) (hS : va_S A s.heap H locs) (hA : ∀ q, s.heap.size ≤ q → A q) (hE : EN ev A s s.heap) (hl : ls.size = nL)
    (hM : MetV l ev D tys y ws rm As w w') (hG : GoodIn Ts (va_wsS own index y ws)) (hw : ws = Cond.code y bytes maxL ret :: ws') (hd : y.cls ≠ "java/lang/invoke/MethodHandle" ∧ y.cls ≠ "java/lang/invoke/VarHandle" ∧ (parseMethodDescriptor y.desc).map (fun d => d.parameters.length) = some n) (hR1 : rm.frames + 1 ≤ R.frames) (hR2 : 8 + (maxL + 11) + rm.locals ≤ R.locals) (hrc : rm.cells = 0) (hrs : rm.slots = 0)
    (isC isR isP : List Nat) (hC : isC.map (fun i => W1[i]?) = w.map some) (hRr : isR.map (fun i => W1[i]?) = (isR.filterMap (fun i => W1[i]?)).map some) (hnC : va_nd isC = true) (hnd : (va_nd isR && va_nd isP) = true) (hdis : ∀ i ∈ isR, i ∉ isC) (hp : isP.map (fun i => (isR.filterMap (fun i => W1[i]?) ++ w')[i]?) = W2.map some)
    (hst : st0 = As.reverse ++ rest) (hn : As.length = n) (hrm : (rest.map fun v => v.category).sum ≤ 8) (hdg : decode cc pc = .ok (.invokestatic index, 3)) (hcs : cells ≤ R.cells ∧ slots ≤ R.slots)
    (k : ∀ (H1 : Heap) (locs1 : List Loc), va_P D vwCl W2 H1 → va_D A W2 → va_S A s.heap H1 locs1 → W p l e R s m args below meth c H1 locs1 cells slots Q (F0 m (pc + 3) ls rest)) :
    W p l e R s m args below meth c H locs cells slots Q (F0 m pc ls st0) := by
  subst hst
  have hPc := hP.sub isC (fm_of hC)
  have hDc := hD.sub isC hnC hC
  have hFc := va_free hD hS hA isC hC
  refine va_callv (va_runS (As := As) (rest := rest) ⟨hx, hb, hml, hown, hts⟩ (hM H.size) (va_cwS n hts hG hw hrc hrs hd ⟨hR1, hR2⟩) ⟨blind_PrW, fun U hU hW => ⟨rfl, by rw [hU], by rw [hU]; exact hPc, va_K.moved hW.alike hK, hDc.weaken (fun _ _ _ _ => trivial), by rw [hU]; exact EN.go hW hFc hS.2.1 hE⟩⟩ rfl hn hl rfl (lv_room hrm) hdg hcs) hS (fun q _ h => hFc q h) hFc (fun u t H1 locs1 ht hvm hw hB hz1 hk1 hS1 => ?_)
  obtain ⟨a1, a2⟩ := vq_back isC isR isP hP hD hC hRr hnd hdis hp ht hk1 hFc hB
  exact k H1 locs1 a1 a2 hS1
theorem vq_iret {v : Int32} (hx : p.tables.exec = Jvm.exec) (hb : c.code = cc) (hr : meth.sig.returnType = some .int) (hlocks : meth.locks = false) (hK : va_K D vwCl tys s) (hP : va_P D vwCl w' H) (hD : va_D A w') (hS : va_S A s.heap H locs) (hv : v = f) (hdg : decode cc pc = .ok (.ireturn, 1)) :
    W p l e R s m args below meth c H locs cells slots (MQ below (va_Qi (fun (x : Int32) (_ : Unit) => x = f) (fun _ t => PoW D tys A w' t) A) args s cells slots A) (F0 m pc ls [.int v]) :=
  W.iret (v := v) hx hb hr (fun t ht hW => ⟨⟨v, (), rfl, hv, by rw [ht]; exact hP, va_K.moved hW.alike hK, hD⟩, hS.F ht⟩) hS.2.2 hdg hlocks
theorem vq_zret {v : Int32} (hx : p.tables.exec = Jvm.exec) (hb : c.code = cc) (hr : meth.sig.returnType = some .boolean) (hlocks : meth.locks = false) (hK : va_K D vwCl tys s) (hP : va_P D vwCl w' H) (hD : va_D A w') (hS : va_S A s.heap H locs) (hn : narrow .boolean (.int v) = .int v) (hv : v = f) (hdg : decode cc pc = .ok (.ireturn, 1)) :
    W p l e R s m args below meth c H locs cells slots (MQ below (va_Qi (fun (x : Int32) (_ : Unit) => x = f) (fun _ t => PoW D tys A w' t) A) args s cells slots A) (F0 m pc ls [.int v]) :=
  W.zret (v := v) hx hb hr hn (fun t ht hW => ⟨⟨v, (), rfl, hv, by rw [ht]; exact hP, va_K.moved hW.alike hK, hD⟩, hS.F ht⟩) hS.2.2 hdg hlocks
theorem vq_vret (hx : p.tables.exec = Jvm.exec) (hb : c.code = cc) (hr : meth.sig.returnType = none) (hlocks : meth.locks = false) (hK : va_K D vwCl tys s) (hP : va_P D vwCl w' H) (hD : va_D A w') (hS : va_S A s.heap H locs) (hdg : decode cc pc = .ok (.return_, 1)) :
    W p l e R s m args below meth c H locs cells slots (MQ below (va_Qv (fun (_ : Unit) => True) (fun _ t => PoW D tys A w' t) A) args s cells slots A) (F0 m pc ls []) :=
  W.vret hx hb hr (fun t ht hW => ⟨⟨(), rfl, trivial, by rw [ht]; exact hP, va_K.moved hW.alike hK, hD⟩, hS.F ht⟩) hS.2.2 hdg hlocks
/-- truth values on the stack -/
theorem lv_if_eqB {t : Bool} (hx : p.tables.exec = Jvm.exec) (hb : c.code = cc) {off : Int} {tgt : Nat} (hdg : decode cc pc = .ok (.ifCond .eq off, 3)) (ht : (pc : Int) + off = (tgt : Int)) (kt : t = false → W p l e R s m args below meth c H locs cells slots Q (F0 m tgt ls rest)) (kf : t = true → W p l e R s m args below meth c H locs cells slots Q (F0 m (pc + 3) ls rest)) : W p l e R s m args below meth c H locs cells slots Q (F0 m pc ls (.int (bI t) :: rest)) :=
  lv_if_eq hx hb hdg ht (fun h => kt (bI_eq0.mp h)) (fun h => kf (bI_ne0.mp h))
theorem lv_if_neB {t : Bool} (hx : p.tables.exec = Jvm.exec) (hb : c.code = cc) {off : Int} {tgt : Nat} (hdg : decode cc pc = .ok (.ifCond .ne off, 3)) (ht : (pc : Int) + off = (tgt : Int)) (kt : t = true → W p l e R s m args below meth c H locs cells slots Q (F0 m tgt ls rest)) (kf : t = false → W p l e R s m args below meth c H locs cells slots Q (F0 m (pc + 3) ls rest)) : W p l e R s m args below meth c H locs cells slots Q (F0 m pc ls (.int (bI t) :: rest)) :=
  lv_if_ne hx hb hdg ht (fun h => kt (bI_ne0.mp h)) (fun h => kf (bI_eq0.mp h))
theorem lv_icmp_neB {t u : Bool} (hx : p.tables.exec = Jvm.exec) (hb : c.code = cc) {off : Int} {tgt : Nat} (hdg : decode cc pc = .ok (.if_icmp .ne off, 3)) (ht : (pc : Int) + off = (tgt : Int)) (kt : ¬ t = u → W p l e R s m args below meth c H locs cells slots Q (F0 m tgt ls rest)) (kf : t = u → W p l e R s m args below meth c H locs cells slots Q (F0 m (pc + 3) ls rest)) : W p l e R s m args below meth c H locs cells slots Q (F0 m pc ls (.int (bI u) :: .int (bI t) :: rest)) :=
  lv_icmp_ne hx hb hdg ht (fun h => kt (fun q => h (bI_eq.mpr q))) (fun h => kf (bI_eq.mp h))
theorem lv_icmp_eqB {t u : Bool} (hx : p.tables.exec = Jvm.exec) (hb : c.code = cc) {off : Int} {tgt : Nat} (hdg : decode cc pc = .ok (.if_icmp .eq off, 3)) (ht : (pc : Int) + off = (tgt : Int)) (kt : t = u → W p l e R s m args below meth c H locs cells slots Q (F0 m tgt ls rest)) (kf : ¬ t = u → W p l e R s m args below meth c H locs cells slots Q (F0 m (pc + 3) ls rest)) : W p l e R s m args below meth c H locs cells slots Q (F0 m pc ls (.int (bI u) :: .int (bI t) :: rest)) :=
  lv_icmp_eq hx hb hdg ht (fun h => kt (bI_eq.mp h)) (fun h => kf (fun q => h (bI_eq.mpr q)))
/-- an int read at a known place -/
theorem vq_ialdK (hx : p.tables.exec = Jvm.exec) (hb : c.code = cc) (hK : va_K D vwCl tys s) (hP : va_P D vwCl W1 H) (q0 t0 : Nat) {a : Nat} {cA : ClassId} {n : Nat} {f : Nat → Int32} (ha : W1[q0]? = some (a, .inl (cA, n, .inl f))) (ht : tys[t0]? = some (cA, .int)) {i : Int32} {k : Nat} (hi : i.toNatClampNeg = k) (h0 : ¬ i < 0) (hk : k < n) (hdg : decode cc pc = .ok (.iaload, 1))
    (kk : W p l e R s m args below meth c H locs cells slots Q (F0 m (pc + 1) ls (.int (f k) :: rest))) : W p l e R s m args below meth c H locs cells slots Q (F0 m pc ls (.int i :: .ref a :: rest)) := by
  subst hi
  exact va_iald hx hb hK hP q0 t0 ha ht (fun q => q.elim h0 (fun q => absurd hk (Nat.not_lt.mpr q))) hdg kk
theorem vq_iastK (hx : p.tables.exec = Jvm.exec) (hb : c.code = cc) (hK : va_K D vwCl tys s) (hP : va_P D vwCl W1 H) (hD : va_D A W1) (hS : va_S A H0 H locs) (q0 t0 : Nat) {a : Nat} {cA : ClassId} {n : Nat} {f : Nat → Int32} (ha : W1[q0]? = some (a, .inl (cA, n, .inl f))) (ht : tys[t0]? = some (cA, .int)) {i x : Int32} {k : Nat} (hi : i.toNatClampNeg = k) (h0 : ¬ i < 0) (hk : k < n) (hdg : decode cc pc = .ok (.iastore, 1))
    (kk : ∀ (H1 : Heap) (locs1 : List Loc), va_P D vwCl (W1.set q0 (a, .inl (cA, n, .inl (upd f k x)))) H1 → va_D A (W1.set q0 (a, .inl (cA, n, .inl (upd f k x)))) → va_S A H0 H1 locs1 → W p l e R s m args below meth c H1 locs1 cells slots Q (F0 m (pc + 1) ls rest)) : W p l e R s m args below meth c H locs cells slots Q (F0 m pc ls (.int x :: .int i :: .ref a :: rest)) := by
  subst hi
  exact va_iast hx hb hK hP hD hS q0 t0 ha ht (fun q => q.elim h0 (fun q => absurd hk (Nat.not_lt.mpr q))) hdg kk
end VQ
/-- a method's walk, from its entry -/
theorem MetI_of {l : Launch} {ev : Nat → Nat} {D : va_G} {tys : List (ClassId × FieldType)} {y : MethodName} {ws ws' : List Cond} {rm : Room} {av : List Value} {w : va_W} {f : Int32} {w' : va_W} {cc : ByteArray} {maxL : Nat} {ret : Option FieldType} (hy : plainName y.cls = true) (hw : ws = Cond.code y cc maxL ret :: ws') (hav : (lg_sl av).length ≤ maxL)
    (body : ∀ (p : Program) (e : Env) (s : State) (m : MethodId) (below : List Frame) (meth : Method) (c : Code) (A : Nat → Prop) (ls : Array Slot), p.tables.exec = Jvm.exec → c.code = cc → meth.sig.returnType = ret → c.maxLocals = maxL → (∀ w ∈ ws, w.before av.toArray s = true) → s.vm.findClass y.cls = some m.cls → meth.locks = false → meth.name = y.name → va_K D vwCl tys s → va_P D vwCl w s.heap → va_D A w → (∀ q, s.heap.size ≤ q → A q) → EN ev A s s.heap → lv_has ls maxL (lv_args 0 av) →
      W p l e (headSpec ws rm).room s m av.toArray below meth c s.heap [] 0 0 (MQ below (va_Qi (fun (x : Int32) (_ : Unit) => x = f) (fun _ t => PoW D tys A w' t) A) av.toArray s 0 0 A) (F0 m 0 ls [])) : MetI l ev D tys y ws rm av w f w' := by
  intro sz
  refine Met.ofW (cc := cc) (maxL := maxL) (ret := ret) hy hw ?_
  intro p e s m args below meth c s₁ B hml hv
  obtain ⟨rfl, hsz, hP, hK, hD0, hE⟩ := hv
  subst hsz
  rw [lg_entry_eq]
  exact body p e s m below meth c _ _ B.exec B.bytes B.returns hml (atoms_spec (ws := ws) B.pre) (findClass_of_methodNamed B.named) B.notSynchronized (name_of_methodNamed B.named B.method).1 hK hP (hD0.self (sz := s.heap.size)) (fun q h => Or.inr h) hE (lv_entry av hav)
theorem MetV_of {l : Launch} {ev : Nat → Nat} {D : va_G} {tys : List (ClassId × FieldType)} {y : MethodName} {ws ws' : List Cond} {rm : Room} {av : List Value} {w : va_W} {w' : va_W} {cc : ByteArray} {maxL : Nat} {ret : Option FieldType} (hy : plainName y.cls = true) (hw : ws = Cond.code y cc maxL ret :: ws') (hav : (lg_sl av).length ≤ maxL)
    (body : ∀ (p : Program) (e : Env) (s : State) (m : MethodId) (below : List Frame) (meth : Method) (c : Code) (A : Nat → Prop) (ls : Array Slot), p.tables.exec = Jvm.exec → c.code = cc → meth.sig.returnType = ret → c.maxLocals = maxL → (∀ w ∈ ws, w.before av.toArray s = true) → s.vm.findClass y.cls = some m.cls → meth.locks = false → meth.name = y.name → va_K D vwCl tys s → va_P D vwCl w s.heap → va_D A w → (∀ q, s.heap.size ≤ q → A q) → EN ev A s s.heap → lv_has ls maxL (lv_args 0 av) →
      W p l e (headSpec ws rm).room s m av.toArray below meth c s.heap [] 0 0 (MQ below (va_Qv (fun (_ : Unit) => True) (fun _ t => PoW D tys A w' t) A) av.toArray s 0 0 A) (F0 m 0 ls [])) : MetV l ev D tys y ws rm av w w' := by
  intro sz
  refine Met.ofW (cc := cc) (maxL := maxL) (ret := ret) hy hw ?_
  intro p e s m args below meth c s₁ B hml hv
  obtain ⟨rfl, hsz, hP, hK, hD0, hE⟩ := hv
  subst hsz
  rw [lg_entry_eq]
  exact body p e s m below meth c _ _ B.exec B.bytes B.returns hml (atoms_spec (ws := ws) B.pre) (findClass_of_methodNamed B.named) B.notSynchronized (name_of_methodNamed B.named B.method).1 hK hP (hD0.self (sz := s.heap.size)) (fun q h => Or.inr h) hE (lv_entry av hav)
/-! the worlds: a Line, the reference -/
abbrev LSt : Type := (Nat → Int32) × (Nat → Int32)
abbrev MSt : Type := (Nat → Int32) × (Nat → Nat → Int32)
abbrev wL (cI : ClassId) (h hp : Nat) (S : LSt) : va_W := [(h, .inr (0, [.ref hp, .int (S.1 0), .int (S.1 1), .int (S.1 2), .int (S.1 3), .int (S.1 4), .int (S.1 5)])), (hp, .inl (cI, 12, .inl S.2))]
abbrev wM (cI cZ : ClassId) (h : Nat) (g : Nat → Nat) (S : MSt) : va_W := [(h, .inr (6, [.ref (g 0), .ref (g 1), .ref (g 2), .int (S.1 0), .ref (g 3), .ref (g 4), .int (S.1 1), .ref (g 5), .ref (g 6), .ref (g 7), .int (S.1 2), .int (S.1 3), .int (S.1 4), .int (S.1 5), .ref (g 8)])), (g 0, .inl (cI, 17, .inl (S.2 0))), (g 1, .inl (cI, 17, .inl (S.2 1))), (g 2, .inl (cI, 102, .inl (S.2 2))), (g 3, .inl (cI, 34, .inl (S.2 3))), (g 4, .inl (cZ, 2, .inl (S.2 4))), (g 5, .inl (cI, 6, .inl (S.2 5))), (g 6, .inl (cI, 6, .inl (S.2 6))), (g 7, .inl (cI, 120, .inl (S.2 7))), (g 8, .inl (cI, 12, .inl (S.2 8)))]
/-- a row of the reference made another -/
def updR (r : Nat → Nat → Int32) (k : Nat) (f : Nat → Int32) : Nat → Nat → Int32 := fun j => if j = k then f else r j
abbrev wA (cI : ClassId) (h n : Nat) (S : Nat → Int32) : va_W := [(h, .inl (cI, n, .inl S))]
abbrev SSt : Type := Nat → Int32
abbrev wS (h hl : Nat) (S : SSt) : va_W := [(h, .inr (2, [.ref hl, .int (S 0), .int (S 1), .int (S 2)]))]
abbrev wT (cI : ClassId) (h hp : Nat) (S : LSt) : va_W := [(h, .inr (3, [.int (S.1 0), .int (S.1 1), .ref hp])), (hp, .inl (cI, 12, .inl S.2))]
abbrev wX (cI : ClassId) (h hp hl : Nat) (S : LSt) : va_W := [(h, .inr (4, [.ref hl, .int (S.1 0), .ref hp, .int (S.1 1), .int (S.1 2), .int (S.1 3), .int (S.1 4), .int (S.1 5)])), (hp, .inl (cI, 120, .inl S.2))]
