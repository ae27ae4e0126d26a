/-! what holds at the law's start: the relation, the tables of numbers, the words' texts -/
theorem ln_0 {r : Nat → Int32} : LnR LS0 (upd (sX6_bares r) 0 1) := by
  have hb := bares_at r
  generalize sX6_bares r = f at hb ⊢
  refine ⟨1, fun _ => 0, 2, 2, 4, 0, ⟨by decide, by decide, fun _ => Nat.zero_le _, fun _ _ => rfl, by decide, by decide, by decide, by decide, by decide, fun i _ q => by rw [b_0] at q; cases q⟩, ⟨rfl, rfl, rfl, rfl, fun j hj => fill_0 (fun _ => 0) 0 hj, fun i _ => b_0 i, rfl⟩, rfl, ?_, ?_, ?_, fun j hj => ?_, ?_⟩
  · show f 1 = _; rw [hb 1 (by decide)]; rfl
  · show f 2 = _; rw [hb 2 (by decide)]; rfl
  · show f 3 = _; rw [hb 3 (by decide)]; rfl
  · rw [pk_un (by omega), hb (4 + j) (by omega), pk_un (by omega), pk_un (by omega), pk_un (by omega)]; rfl
  · show f 16 = _; rw [hb 16 (by decide)]; rfl
theorem rl_0 (q : Nat → Nat) : Rl (fun _ => 0) LS0 ((fun _ => 0), fun _ => 0) (0, row6 (fun i => q (7 + i)), (fun i => q (8 + i)), (fun i => q (14 + i)), fun _ => LS0) none none MS0 := by
  refine ⟨ln_0, ⟨0, by decide, rfl, rfl, fun j hj => by omega⟩, ⟨0, by decide, rfl, rfl, fun i hi => ?_, fun i hi => by omega⟩, Or.inl ⟨rfl, rfl⟩, Or.inl ⟨rfl, rfl⟩, ⟨0, by decide, rfl, rfl, fun q hq => by omega, fun i _ => ⟨fun h => ?_, fun ⟨q, hq, _⟩ => by omega⟩, fun i _ => ⟨fun h => ?_, fun ⟨q, hq, _⟩ => by omega⟩⟩⟩
  · rcases (show i = 0 ∨ i = 1 ∨ i = 2 ∨ i = 3 ∨ i = 4 ∨ i = 5 by omega) with rfl | rfl | rfl | rfl | rfl | rfl <;> rfl
  · have h : bt 0 i = true := h
    rw [b_0] at h; cases h
  · have h : bt 0 i = true := h
    rw [b_0] at h; cases h
def evS (t0 t1 t2 : Nat) (aK aV : Nat → Nat) (i : Nat) : Nat := if i < 10 then (if i = 0 then t0 else if i = 1 then t1 else t2) else if i < 20 then aK (i - 10) else aV (i - 20)
theorem evS_K {t0 t1 t2 : Nat} {aK aV : Nat → Nat} {i : Nat} (hi : i < 5) : evS t0 t1 t2 aK aV (10 + i) = aK i := by
  unfold evS
  rw [if_neg (by omega), if_pos (by omega), show 10 + i - 10 = i by omega]
theorem evS_V {t0 t1 t2 : Nat} {aK aV : Nat → Nat} {i : Nat} (hi : i < 5) : evS t0 t1 t2 aK aV (20 + i) = aV i := by
  unfold evS
  rw [if_neg (by omega), if_neg (by omega), show 20 + i - 20 = i by omega]
def stG : List Cond := flatC (Jvm.Cond.and given_1 narrow_1)
def stT (i : Nat) : Term := .string "SharedLine$Text" ([70, 76, 78, 80, 82].getD i 0)
theorem st_m0 : ∀ j, j < 3 → Cond.eq (.elem (.static "SharedLine" "NUMBER_LEAST" "[I") (.int (Int32.ofNat j))) (.int (nbLeast j)) ∈ stG := by decide +kernel
theorem st_m1 : ∀ j, j < 3 → Cond.eq (.elem (.static "SharedLine" "NUMBER_MOST" "[I") (.int (Int32.ofNat j))) (.int (nbMost j)) ∈ stG := by decide +kernel
theorem st_m2 : ∀ j, j < 3 → Cond.eq (.elem (.static "SharedLine" "NUMBER_AT_FIRST" "[I") (.int (Int32.ofNat j))) (.int (nbFirst j)) ∈ stG := by decide +kernel
theorem st_ex : ∀ i, i < 5 → Cond.exactly (stT i) "java/lang/String" ∈ stG := by decide +kernel
theorem st_co : ∀ i, i < 5 → Cond.eq (.field (stT i) "java/lang/String" "coder" "B") (.int 0) ∈ stG := by decide +kernel
theorem st_ar : ∀ i, i < 5 → Cond.arrayOf (.field (stT i) "java/lang/String" "value" "[B") .byte ∈ stG := by decide +kernel
theorem st_le : ∀ i, i < 5 → Cond.eq (.length (.field (stT i) "java/lang/String" "value" "[B")) (.int (Int32.ofNat (txLen.getD i 0))) ∈ stG := by decide +kernel
theorem st_el : ∀ i, i < 5 → ∀ j, j < txLen.getD i 0 → Cond.eq (.elem (.field (stT i) "java/lang/String" "value" "[B") (.int (Int32.ofNat j))) (.int ((txByt.getD i []).getD j 0)) ∈ stG := by decide +kernel
theorem st_ne : ∀ i, i < 5 → ∀ j, j < 5 → i ≠ j → Cond.not (Cond.eq (stT i) (stT j)) ∈ stG ∨ Cond.not (Cond.eq (stT j) (stT i)) ∈ stG := by decide +kernel
theorem st_E {b : Nat} {s : State} (hts : ∀ w ∈ lw_tbl, w.before #[Value.ref b] s = true) (hgv : (Jvm.Cond.and given_1 narrow_1).before #[Value.ref b] s = true) : ∃ ev : Nat → Nat, EN ev (fun q : Nat => s.heap.size ≤ q) s s.heap := by
  have hs : ∀ w ∈ stG, w.before #[Value.ref b] s = true := flat_of_before _ hgv
  have hA : ∀ a : Nat, a < s.heap.size → ¬ (fun q : Nat => s.heap.size ≤ q) a := fun a h => Nat.not_le.mpr h
  obtain ⟨t0, e0, h0⟩ := va_Tof (tm := .static "SharedLine" "NUMBER_LEAST" "[I") (ty := .int) (N := 3) (f := fun j => .int (nbLeast j)) (by decide) (hs _ (by decide +kernel)) (va_eqt (hs _ (by decide +kernel))) (fun j hj => va_eqt (hs _ (st_m0 j hj))) hA
  obtain ⟨t1, e1, h1⟩ := va_Tof (tm := .static "SharedLine" "NUMBER_MOST" "[I") (ty := .int) (N := 3) (f := fun j => .int (nbMost j)) (by decide) (hs _ (by decide +kernel)) (va_eqt (hs _ (by decide +kernel))) (fun j hj => va_eqt (hs _ (st_m1 j hj))) hA
  obtain ⟨t2, e2, h2⟩ := va_Tof (tm := .static "SharedLine" "NUMBER_AT_FIRST" "[I") (ty := .int) (N := 3) (f := fun j => .int (nbFirst j)) (by decide) (hs _ (by decide +kernel)) (va_eqt (hs _ (by decide +kernel))) (fun j hj => va_eqt (hs _ (st_m2 j hj))) hA
  obtain ⟨aK, aV, hS, hK⟩ := vk_Sof (N := 5) (tm := stT) (len := txLen) (byt := txByt) (args := #[Value.ref b]) (s := s) (by decide) (fun i hi => hs _ (st_ex i hi)) (fun i hi => hs _ (st_co i hi)) (fun i hi => hs _ (st_ar i hi)) (fun i hi => hs _ (st_le i hi)) (fun i hi j hj => hs _ (st_el i hi j hj)) (fun i j hi hj hn => (st_ne i hi j hj hn).imp (fun q => hs _ q) (fun q => hs _ q)) hA
  refine ⟨evS t0 t1 t2 aK aV, ⟨va_Zof (hts _ (by decide +kernel)) (hts _ (by decide +kernel)) e0 hA, h0, va_Zof (hts _ (by decide +kernel)) (hts _ (by decide +kernel)) e1 hA, h1, va_Zof (hts _ (by decide +kernel)) (hts _ (by decide +kernel)) e2 hA, h2, va_Zof (hts _ (by decide +kernel)) (hts _ (by decide +kernel)) (va_eqt (hs _ (by decide +kernel))) hA, va_Zqof (hts _ (by decide +kernel)) (hts _ (by decide +kernel)) (hs _ (by decide +kernel)) hA, ?_⟩, ⟨vk_R.of (hts _ (by decide +kernel)) (hK 0 (by decide)), vk_R.of (hts _ (by decide +kernel)) (hK 1 (by decide)), vk_R.of (hts _ (by decide +kernel)) (hK 2 (by decide)), vk_R.of (hts _ (by decide +kernel)) (hK 3 (by decide)), vk_R.of (hts _ (by decide +kernel)) (hK 4 (by decide))⟩, ⟨va_Nw.of rfl (hts _ (by decide +kernel)), va_Nw.of rfl (hts _ (by decide +kernel)), va_Nw.of rfl (hts _ (by decide +kernel)), va_Nw.of rfl (hts _ (by decide +kernel)), va_Nw.of rfl (hts _ (by decide +kernel)), va_Nw.of rfl (hts _ (by decide +kernel))⟩⟩
  refine ⟨fun i hi => ?_, fun i j hi hj e => ?_⟩
  · dsimp only
    rw [evS_K hi, evS_V hi]; exact hS.1 i hi
  · dsimp only at e
    rw [evS_K hi, evS_K hj] at e; exact hS.2 i j hi hj e
theorem st_K {b : Nat} {s : State} (hts : ∀ w ∈ lw_tbl, w.before #[Value.ref b] s = true) : ∃ (dC : Nat → ClassId) (dI : Nat → Nat → Nat) (cI cZ cO : ClassId), va_K (dC, dI) vwCl (tyC cI cZ cO) s := by
  obtain ⟨c0, i0, k0⟩ := u_known (C := RX0) (T := TX0) (N := 7) (n := 7) hts inX0 (hts (.instantiable RX0 7) (by decide +kernel))
  obtain ⟨c1, i1, k1⟩ := u_known (C := RX1) (T := TX1) (N := 2) (n := 2) hts inX1 (hts (.instantiable RX1 2) (by decide +kernel))
  obtain ⟨c2, i2, k2⟩ := u_known (C := RX2) (T := TX2) (N := 4) (n := 4) hts inX2 (hts (.instantiable RX2 4) (by decide +kernel))
  obtain ⟨c3, i3, k3⟩ := u_known (C := RX3) (T := TX3) (N := 3) (n := 3) hts inX3 (hts (.instantiable RX3 3) (by decide +kernel))
  obtain ⟨c4, i4, k4⟩ := u_known (C := RX4) (T := TX4) (N := 8) (n := 8) hts inX4 (hts (.instantiable RX4 8) (by decide +kernel))
  obtain ⟨c5, i5, k5⟩ := u_known (C := RX5) (T := TX5) (N := 9) (n := 9) hts inX5 (hts (.instantiable RX5 9) (by decide +kernel))
  obtain ⟨c6, i6, k6⟩ := u_known (C := RX6) (T := TX6) (N := 15) (n := 15) hts inX6 (hts (.instantiable RX6 15) (by decide +kernel))
  obtain ⟨aI, kI, pI, fI, gI, hI⟩ := Cond.arrayClass_spec (hts (.arrayClass .int) (by decide +kernel))
  obtain ⟨aZ, kZ, pZ, fZ, gZ, hZ⟩ := Cond.arrayClass_spec (hts (.arrayClass .boolean) (by decide +kernel))
  obtain ⟨pO, aO, kO, eO, -, gO, hO, fO⟩ := Cond.arrayOver_spec (hts (.arrayOver (.object "SharedLine$Line")) (by decide +kernel))
  refine ⟨fun k => match k with | 0 => c0 | 1 => c1 | 2 => c2 | 3 => c3 | 4 => c4 | 5 => c5 | _ => c6, fun k => match k with | 0 => i0 | 1 => i1 | 2 => i2 | 3 => i3 | 4 => i4 | 5 => i5 | _ => i6, aI, aZ, aO, fun k q hq => ?_, fun k q hq => ?_⟩
  · match k, hq with
    | 0, hq => cases hq; exact k0
    | 1, hq => cases hq; exact k1
    | 2, hq => cases hq; exact k2
    | 3, hq => cases hq; exact k3
    | 4, hq => cases hq; exact k4
    | 5, hq => cases hq; exact k5
    | 6, hq => cases hq; exact k6
    | k + 7, hq => simp [vwCl] at hq
  · match k, hq with
    | 0, hq => cases hq; exact ⟨fun n z => ⟨fun k h => (by cases h), kI, gI, pI, hI⟩, fI⟩
    | 1, hq => cases hq; exact ⟨fun n z => ⟨fun k h => (by cases h), kZ, gZ, pZ, hZ⟩, fZ⟩
    | 2, hq => cases hq; exact ⟨fun n z => ⟨fun k h => (by cases h), kO, gO, pO, hO⟩, kO, pO, gO, hO, eO, fO⟩
    | k + 3, hq => simp [tyC] at hq
