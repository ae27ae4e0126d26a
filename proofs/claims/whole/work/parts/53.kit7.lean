/-! a world with a rest that is no call's: it stays -/
theorem va_P.left {D : va_G} {cl : List vw_C} {W1 im : va_W} {H : Heap} (h : va_P D cl (W1 ++ im) H) : va_P D cl W1 H := fun k q hk => h k q (by rw [List.getElem?_append_left (List.getElem?_eq_some_iff.mp hk).1]; exact hk)
theorem va_D.left {A : Nat → Prop} {W1 im : va_W} (h : va_D A (W1 ++ im)) : va_D A W1 :=
  ⟨fun i j p q hi hj e => h.1 i j p q (by rw [List.getElem?_append_left (List.getElem?_eq_some_iff.mp hi).1]; exact hi) (by rw [List.getElem?_append_left (List.getElem?_eq_some_iff.mp hj).1]; exact hj) e, fun k q hk => h.2 k q (by rw [List.getElem?_append_left (List.getElem?_eq_some_iff.mp hk).1]; exact hk)⟩
theorem app_right {α : Type} {a b : List α} {j : Nat} {q : α} (h : b[j]? = some q) : (a ++ b)[a.length + j]? = some q := by
  rw [List.getElem?_append_right (Nat.le_add_right _ _), Nat.add_sub_cancel_left]; exact h
theorem app_left {α : Type} {a b : List α} {j : Nat} {q : α} (h : a[j]? = some q) : (a ++ b)[j]? = some q := by
  rw [List.getElem?_append_left (List.getElem?_eq_some_iff.mp h).1]; exact h
theorem vq_backt {D : va_G} {tys : List (ClassId × FieldType)} {A : Nat → Prop} {W1 im w w' W2 : va_W} {H : Heap} {t : State} {H1 : Heap} (isC isR isP : List Nat) (hP : va_P D vwCl (W1 ++ im) H) (hD : va_D A (W1 ++ im)) (hC : isC.map (fun i => W1[i]?) = w.map some) (hRr : isR.map (fun i => W1[i]?) = (isR.filterMap (fun i => W1[i]?)).map some) (hnd : (va_nd isR && va_nd isP) = true) (hdis : ∀ i ∈ isR, i ∉ isC) (hp : isP.map (fun i => (isR.filterMap (fun i => W1[i]?) ++ w')[i]?) = W2.map some)
    (ht : t.heap = H1) (hk : ∀ q : Nat, q < H.size → ¬ va_A w H.size q → H1[q]? = H[q]?) (hF : ∀ q, va_A w H.size q → A q) (hB : PoW D tys (va_A w H.size) w' t) : va_P D vwCl (W2 ++ im) H1 ∧ va_D A (W2 ++ im) := by
  obtain ⟨a1, a2⟩ := vq_back isC isR isP hP.left hD.left hC hRr hnd hdis hp ht hk hF hB
  have him : ∀ (j : Nat) (q : Nat × va_E), im[j]? = some q → ¬ va_A w H.size q.1 := by
    intro j q hj hz
    rcases hz with ⟨k, e, hk'⟩ | hz
    · have h1 : (isC.map (fun i => W1[i]?))[k]? = some (some (q.1, e)) := by rw [hC, List.getElem?_map, hk']; rfl
      rw [List.getElem?_map] at h1
      cases hi : isC[k]? with
      | none => rw [hi] at h1; cases h1
      | some i =>
        rw [hi] at h1
        have h2 : W1[i]? = some (q.1, e) := Option.some.inj h1
        have h3 := hD.1 i (W1.length + j) _ _ (app_left h2) (app_right hj) rfl
        have h4 := (List.getElem?_eq_some_iff.mp h2).1
        omega
    · exact absurd hz (Nat.not_le.mpr (hP _ _ (app_right hj)).lt)
  refine ⟨a1.app (fun k q h => (hP _ q (app_right h)).kept (hk q.1 (hP _ _ (app_right h)).lt (him k q h))), va_D.app a2 ⟨fun i j p q hi hj e => ?_, fun k q h => hD.2 _ q (app_right h)⟩ ?_⟩
  · have h3 := hD.1 (W1.length + i) (W1.length + j) p q (app_right hi) (app_right hj) e
    omega
  · intro i j p q hi hj e
    have hm : p ∈ isR.filterMap (fun i => W1[i]?) ++ w' := by
      have h1 : (isP.map (fun i => (isR.filterMap (fun i => W1[i]?) ++ w')[i]?))[i]? = some (some p) := by rw [hp, List.getElem?_map, hi]; rfl
      rw [List.getElem?_map] at h1
      cases hz : isP[i]? with
      | none => rw [hz] at h1; cases h1
      | some a => rw [hz] at h1; exact List.mem_of_getElem? (Option.some.inj h1)
    rcases List.mem_append.mp hm with h | h
    · obtain ⟨a, -, ha⟩ := List.mem_filterMap.mp h
      have h3 := hD.1 a (W1.length + j) _ _ (app_left ha) (app_right hj) e
      have h4 := (List.getElem?_eq_some_iff.mp ha).1
      omega
    · obtain ⟨a, ha⟩ := List.getElem?_of_mem h
      have := hB.2.2.2 a p ha
      rw [e] at this
      exact him j q hj this
section VQ7
variable {p : Program} {l : Launch} {e : Env} {R : Room} {s : State} {m : MethodId} {args : Array Value} {below : List Frame} {meth : Method} {c : Code} {H : Heap} {locs : List Loc} {cells slots : Nat} {Q : State → Prop}
variable {cc : ByteArray} {pc nL : Nat} {ls : Array Slot} {Ts : List Cond} {own host : String} {D : va_G} {tys : List (ClassId × FieldType)} {A : Nat → Prop} {H0 : Heap} {W1 im : va_W}
variable {ev : Nat → Nat} {y : MethodName} {ws ws' : List Cond} {rm : Room} {bytes : ByteArray} {maxL n index mc ms : Nat} {ret : Option FieldType} {C : String} {b : Nat} {As rest st0 : List Value} {w w' W2 : va_W} {wj Wj : (Nat → Nat) → va_W} {f : Int32} {ci qr : Nat} {qc : vw_C} {fs : List Value}
theorem vq_Vit (hx : p.tables.exec = Jvm.exec) (hb : c.code = cc) (hml : c.maxLocals = nL) (hown : s.vm.findClass own = some m.cls) (hts : ∀ w ∈ Ts, w.before args s = true) (hK : va_K D vwCl tys s) (hP : va_P D vwCl (W1 ++ im) H) (hD : va_D A (W1 ++ im)) (hS : va_S A s.heap H locs) (hA : ∀ q, s.heap.size ≤ q → A q) (hE : EN ev A s s.heap) (hl : ls.size = nL)
    (hM : MetI l ev D tys y ws rm (.ref b :: As) w f w') (hG : GoodIn Ts (wsV own index C y ws)) (hw : ws = Cond.code y bytes maxL ret :: ws') (hd : y.cls = C ∧ y.cls ≠ "java/lang/invoke/MethodHandle" ∧ y.cls ≠ "java/lang/invoke/VarHandle" ∧ (parseMethodDescriptor y.desc).map (fun d => d.parameters.length) = some n) (hR1 : rm.frames + 1 ≤ R.frames) (hR2 : 8 + (maxL + 11) + rm.locals ≤ R.locals) (hrc : rm.cells = 0) (hrs : rm.slots = 0)
    (hc : vwCl[ci]? = some qc) (hqC : qc.1 = C) (he : W1[qr]? = some (b, .inr (ci, fs)))
    (isC isR isP : List Nat) (hC : isC.map (fun i => W1[i]?) = w.map some) (hRr : isR.map (fun i => W1[i]?) = (isR.filterMap (fun i => W1[i]?)).map some) (hnC : va_nd isC = true) (hnd : (va_nd isR && va_nd isP) = true) (hdis : ∀ i ∈ isR, i ∉ isC) (hp : isP.map (fun i => (isR.filterMap (fun i => W1[i]?) ++ w')[i]?) = W2.map some)
    (hst : st0 = As.reverse ++ .ref b :: rest) (hn : As.length = n) (hrm : (rest.map fun v => v.category).sum ≤ 8) (hdg : decode cc pc = .ok (.invokevirtual index, 3)) (hcs : cells ≤ R.cells ∧ slots ≤ R.slots)
    (k : ∀ (H1 : Heap) (locs1 : List Loc), va_P D vwCl (W2 ++ im) H1 → va_D A (W2 ++ im) → va_S A s.heap H1 locs1 → W p l e R s m args below meth c H1 locs1 cells slots Q (F0 m (pc + 3) ls (.int f :: rest))) :
    W p l e R s m args below meth c H locs cells slots Q (F0 m pc ls st0) := by
  subst hst
  subst hqC
  have hP1 : va_P D vwCl W1 H := hP.left
  have hD1 : va_D A W1 := hD.left
  have hPc := hP1.sub isC (fm_of hC)
  have hDc := hD1.sub isC hnC hC
  have hFc := va_free hD1 hS hA isC hC
  refine va_calli (va_runV (As := As) (rest := rest) ⟨hx, hb, hml, hown, hts⟩ (hM H.size) (cwV n hts hG hw hrc hrs hd ⟨hR1, hR2⟩) ⟨blind_PrW, va_recv hK hP1 hc he, fun U hU hW => ⟨rfl, by rw [hU], by rw [hU]; exact hPc, va_K.moved hW.alike hK, hDc.weaken (fun _ _ _ _ => trivial), by rw [hU]; exact EN.go hW hFc hS.2.1 hE⟩⟩ rfl hn hl rfl (lv_room hrm) hdg hcs) hS (fun q _ h => hFc q h) hFc (fun r u t H1 locs1 ht hvm hw hB hz1 hk1 hS1 => ?_)
  obtain ⟨a1, a2⟩ := vq_backt isC isR isP hP hD hC hRr hnd hdis hp ht hk1 hFc hB
  subst hw
  exact k H1 locs1 a1 a2 hS1
theorem vq_Vjt (hx : p.tables.exec = Jvm.exec) (hb : c.code = cc) (hml : c.maxLocals = nL) (hown : s.vm.findClass own = some m.cls) (hts : ∀ w ∈ Ts, w.before args s = true) (hK : va_K D vwCl tys s) (hP : va_P D vwCl (W1 ++ im) H) (hD : va_D A (W1 ++ im)) (hS : va_S A s.heap H locs) (hA : ∀ q, s.heap.size ≤ q → A q) (hE : EN ev A s s.heap) (hl : ls.size = nL)
    (hO : va_AO RX0 s) (hM : MetJ l ev D tys y ws rm (.ref b :: As) w f wj mc ms) (hG : GoodIn Ts (wsV own index C y ws)) (hw : ws = Cond.code y bytes maxL ret :: ws') (hd : y.cls = C ∧ y.cls ≠ "java/lang/invoke/MethodHandle" ∧ y.cls ≠ "java/lang/invoke/VarHandle" ∧ (parseMethodDescriptor y.desc).map (fun d => d.parameters.length) = some n) (hR1 : rm.frames + 1 ≤ R.frames) (hR2 : 8 + (maxL + 11) + rm.locals ≤ R.locals) (hrc : rm.cells = mc) (hrs : rm.slots = ms)
    (hc : vwCl[ci]? = some qc) (hqC : qc.1 = C) (he : W1[qr]? = some (b, .inr (ci, fs)))
    (isC isR isP : List Nat) (hC : isC.map (fun i => W1[i]?) = w.map some) (hRr : isR.map (fun i => W1[i]?) = (isR.filterMap (fun i => W1[i]?)).map some) (hnC : va_nd isC = true) (hnd : (va_nd isR && va_nd isP) = true) (hdis : ∀ i ∈ isR, i ∉ isC) (hp : ∀ q, isP.map (fun i => (isR.filterMap (fun i => W1[i]?) ++ wj q)[i]?) = (Wj q).map some)
    (hst : st0 = As.reverse ++ .ref b :: rest) (hn : As.length = n) (hrm : (rest.map fun v => v.category).sum ≤ 8) (hdg : decode cc pc = .ok (.invokevirtual index, 3)) (hcs : cells + mc ≤ R.cells ∧ slots + ms ≤ R.slots)
    (k : ∀ (q : Nat → Nat) (H1 : Heap) (locs1 : List Loc), va_P D vwCl (Wj q ++ im) H1 → va_D A (Wj q ++ im) → va_S A s.heap H1 locs1 → W p l e R s m args below meth c H1 locs1 (cells + mc) (slots + ms) Q (F0 m (pc + 3) ls (.int f :: rest))) :
    W p l e R s m args below meth c H locs cells slots Q (F0 m pc ls st0) := by
  subst hst
  subst hqC
  have hP1 : va_P D vwCl W1 H := hP.left
  have hD1 : va_D A W1 := hD.left
  have hPc := hP1.sub isC (fm_of hC)
  have hDc := hD1.sub isC hnC hC
  have hFc := va_free hD1 hS hA isC hC
  refine va_calli (va_runV (As := As) (rest := rest) ⟨hx, hb, hml, hown, hts⟩ (hM H.size) (cwV n hts hG hw hrc hrs hd ⟨hR1, hR2⟩) ⟨blind_PrN, va_recv hK hP1 hc he, fun U hU hW => ⟨rfl, ⟨by rw [hU], by rw [hU]; exact hPc, va_K.moved hW.alike hK, hDc.weaken (fun _ _ _ _ => trivial), by rw [hU]; exact EN.go hW hFc hS.2.1 hE⟩, va_AO.moved hW.alike hO⟩⟩ rfl hn hl rfl (lv_room hrm) hdg hcs) hS (fun q _ h => hFc q h) hFc (fun r u t H1 locs1 ht hvm hw hB hz1 hk1 hS1 => ?_)
  obtain ⟨a1, a2⟩ := vq_backt isC isR isP hP hD hC hRr hnd hdis (hp u) ht hk1 hFc hB
  subst hw
  exact k u H1 locs1 a1 a2 hS1
end VQ7
