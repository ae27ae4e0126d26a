/-! the past: its rows, six lines by their places; known places of arrays of references -/
abbrev wQ (h r : Nat) (z : Int32) : va_W := [(h, .inr (1, [.ref r, .int z]))]
abbrev wR (cO : ClassId) (h n : Nat) (r : Nat → Option Nat) : va_W := [(h, .inl (cO, n, .inr (.inr (.inr (.inr r)))))]
abbrev w6 (cI : ClassId) (a b : Nat → Nat) (F : Nat → LSt) : va_W := wL cI (a 0) (b 0) (F 0) ++ wL cI (a 1) (b 1) (F 1) ++ wL cI (a 2) (b 2) (F 2) ++ wL cI (a 3) (b 3) (F 3) ++ wL cI (a 4) (b 4) (F 4) ++ wL cI (a 5) (b 5) (F 5)
def rot {α : Type} (f : Nat → α) : Nat → α := fun i => if i = 5 then f 0 else f (i + 1)
def rotR (r : Nat → Option Nat) (a : Nat → Nat) : Nat → Option Nat := va_up (va_up (va_up (va_up (va_up (va_up r 0 (some (a 1))) 1 (some (a 2))) 2 (some (a 3))) 3 (some (a 4))) 4 (some (a 5))) 5 (some (a 0))
section VQ4
variable {p : Program} {l : Launch} {e : Env} {R : Room} {s : State} {m : MethodId} {args : Array Value} {below : List Frame} {meth : Method} {c : Code} {H : Heap} {locs : List Loc} {cells slots : Nat} {Q : State → Prop}
variable {cc : ByteArray} {pc : Nat} {ls : Array Slot} {rest : List Value} {D : va_G} {tys : List (ClassId × FieldType)} {A : Nat → Prop} {H0 : Heap} {W1 : va_W}
theorem vq_aldK (hx : p.tables.exec = Jvm.exec) (hb : c.code = cc) (hK : va_K D vwCl tys s) (hP : va_P D vwCl W1 H) (q0 t0 : Nat) {a : Nat} {cA : ClassId} {C : String} {n : Nat} {f : Nat → Option Nat} (ha : W1[q0]? = some (a, .inl (cA, n, .inr (.inr (.inr (.inr f)))))) (ht : tys[t0]? = some (cA, .object C)) {i : Int32} {k v : Nat} (hi : i.toNatClampNeg = k) (h0 : ¬ i < 0) (hk : k < n) (hf : f k = some v) (hdg : decode cc pc = .ok (.aaload, 1))
    (kk : W p l e R s m args below meth c H locs cells slots Q (F0 m (pc + 1) ls (.ref v :: rest))) : W p l e R s m args below meth c H locs cells slots Q (F0 m pc ls (.int i :: .ref a :: rest)) := by
  subst hi
  refine va_aldq hx hb hK hP q0 t0 ha ht (fun q => q.elim h0 (fun q => absurd hk (Nat.not_lt.mpr q))) hdg ?_
  rw [hf]
  exact kk
theorem vq_aldN (hx : p.tables.exec = Jvm.exec) (hb : c.code = cc) (hK : va_K D vwCl tys s) (hP : va_P D vwCl W1 H) (q0 t0 : Nat) {a : Nat} {cA : ClassId} {C : String} {n : Nat} {f : Nat → Option Nat} (ha : W1[q0]? = some (a, .inl (cA, n, .inr (.inr (.inr (.inr f)))))) (ht : tys[t0]? = some (cA, .object C)) {i : Int32} {k : Nat} (hi : i.toNatClampNeg = k) (h0 : ¬ i < 0) (hk : k < n) (hf : f k = none) (hdg : decode cc pc = .ok (.aaload, 1))
    (kk : W p l e R s m args below meth c H locs cells slots Q (F0 m (pc + 1) ls (.null :: rest))) : W p l e R s m args below meth c H locs cells slots Q (F0 m pc ls (.int i :: .ref a :: rest)) := by
  subst hi
  refine va_aldq hx hb hK hP q0 t0 ha ht (fun q => q.elim h0 (fun q => absurd hk (Nat.not_lt.mpr q))) hdg ?_
  rw [hf]
  exact kk
theorem vq_astK (hx : p.tables.exec = Jvm.exec) (hb : c.code = cc) (hK : va_K D vwCl tys s) (hP : va_P D vwCl W1 H) (hD : va_D A W1) (hS : va_S A H0 H locs) (q0 t0 qk ci : Nat) {a : Nat} {cA : ClassId} {r : vw_C} {n v : Nat} {vs : List Value} {f : Nat → Option Nat} (ha : W1[q0]? = some (a, .inl (cA, n, .inr (.inr (.inr (.inr f)))))) (ht : tys[t0]? = some (cA, .object r.1)) (hv : W1[qk]? = some (v, .inr (ci, vs))) (hc : vwCl[ci]? = some r) {i : Int32} {k : Nat} (hi : i.toNatClampNeg = k) (h0 : ¬ i < 0) (hk : k < n) (hdg : decode cc pc = .ok (.aastore, 1))
    (kk : ∀ (H1 : Heap) (locs1 : List Loc), va_P D vwCl (W1.set q0 (a, .inl (cA, n, .inr (.inr (.inr (.inr (va_up f k (some v)))))))) H1 → va_D A (W1.set q0 (a, .inl (cA, n, .inr (.inr (.inr (.inr (va_up f k (some v)))))))) → va_S A H0 H1 locs1 → W p l e R s m args below meth c H1 locs1 cells slots Q (F0 m (pc + 1) ls rest)) : W p l e R s m args below meth c H locs cells slots Q (F0 m pc ls (.ref v :: .int i :: .ref a :: rest)) := by
  subst hi
  exact va_astq hx hb hK hP hD hS q0 t0 qk ci ha ht hv hc (fun q => q.elim h0 (fun q => absurd hk (Nat.not_lt.mpr q))) hdg kk
end VQ4
/-- behind remember and recall -/
def pz (z : Int32) : Int32 := if z = 6 then 6 else z + 1
def pa {α : Type} (z : Int32) (f : Nat → α) : Nat → α := if z = 6 then rot f else f
def pr (z : Int32) (r : Nat → Option Nat) (a : Nat → Nat) : Nat → Option Nat := if z = 6 then rotR r a else r
def pF (z : Int32) (F : Nat → LSt) (S1 : LSt) : Nat → LSt := if z = 6 then va_up (rot F) 5 (sX0_copyFrom (F 0) S1) else va_up F z.toNatClampNeg (sX0_copyFrom (F z.toNatClampNeg) S1)
def qz (z : Int32) : Int32 := if z = 0 then 0 else z - 1
def qF (z : Int32) (F : Nat → LSt) (S1 : LSt) : LSt := if z = 0 then S1 else sX0_copyFrom S1 (F (z - 1).toNatClampNeg)
theorem pr_pa {z : Int32} {r : Nat → Option Nat} {a : Nat → Nat} (h : ∀ i, i < 6 → r i = some (a i)) : ∀ i, i < 6 → pr z r a i = some (pa z a i) := by
  intro i hi
  unfold pr pa
  by_cases c : z = 6
  · rw [if_pos c, if_pos c]
    rcases (show i = 0 ∨ i = 1 ∨ i = 2 ∨ i = 3 ∨ i = 4 ∨ i = 5 by omega) with rfl | rfl | rfl | rfl | rfl | rfl <;> rfl
  · rw [if_neg c, if_neg c]; exact h i hi
