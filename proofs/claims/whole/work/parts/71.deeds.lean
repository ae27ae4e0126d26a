/-! flips, sets, undo, keep, back -/
section
variable {T : Nat} {p : Nat → Nat} {w c b : Nat} {h : Int32} {N : LSt} {M : MSt}
theorem fl_L (B : Lb T p w c b h) (R : Lr T p w c b h (M.2 0)) {t u : Nat} (hu : u < 12) : ∀ (n k : Nat) (x3 x4 : Int32), t ≤ k → k ≤ u + 1 → u + 2 ≤ n + k → (∀ i, i < 32 → bt x3 i = (ntb p i && decide (t ≤ i ∧ i < k))) → x4 = nI (pcr (ntb p) t (k - t)) →
    ∃ m : Int32, (∀ i, i < 32 → bt m i = (ntb p i && decide (t ≤ i ∧ i < u + 1))) ∧ sX6_flips_L31 M (nI u) n x3 x4 (nI k) = if nI (pcr (ntb p) t (u + 1 - t)) = 0 then ((-2 : Int32), M) else (nI (pcr (ntb p) t (u + 1 - t)), ((sX6_keeps M).1, (updR (sX6_keeps M).2 0 (upd ((sX6_keeps M).2 0) 16 ((((sX6_keeps M).2 0) 16) ^^^ m))))) := by
  intro n
  induction n with
  | zero => intro k x3 x4 h1 h2 h3; omega
  | succ n ih =>
    intro k x3 x4 h1 h2 h3 e3 e4
    rw [sX6_flips_L31_s, isNote_nz B R]
    by_cases c1 : nI u < nI k
    · have hk : k = u + 1 := by have := (nI_ltI (by omega) (by omega)).mp c1; omega
      subst hk
      rw [if_pos c1, e4]
      exact ⟨x3, e3, rfl⟩
    · rw [if_neg c1, nz_nI (by omega), nI_1, or0, Int32.add_zero]
      have hle : k ≤ u := Nat.not_lt.mp (fun z => c1 (nI_lt z (by omega)))
      have hk1 : k + 1 - t = (k - t) + 1 := by omega
      have hk2 : t + (k - t) = k := by omega
      by_cases c2 : decide (0 < p k) = true
      · rw [if_pos c2]
        refine ih (k + 1) _ _ (by omega) (by omega) (by omega) (fun i hi => ?_) ?_
        · rw [bt_or1 x3 (by omega) hi, e3 i hi]
          by_cases z : i = k
          · rw [z, decide_eq_true rfl, Bool.or_true, decide_eq_true (show t ≤ k ∧ k < k + 1 from ⟨h1, by omega⟩), Bool.and_true]
            exact c2.symm
          · rw [decide_eq_false z, Bool.or_false]
            have : decide (t ≤ i ∧ i < k) = decide (t ≤ i ∧ i < k + 1) := decide_eq_decide.mpr (by omega)
            rw [this]
        · rw [e4, nI_1, hk1, pcr, hk2, if_pos (show ntb p k = true from c2)]
      · rw [if_neg c2]
        refine ih (k + 1) _ _ (by omega) (by omega) (by omega) (fun i hi => ?_) ?_
        · rw [e3 i hi]
          by_cases z : i = k
          · rw [z, show ntb p k = false from Bool.eq_false_iff.mpr c2, Bool.false_and, Bool.false_and]
          · have : decide (t ≤ i ∧ i < k) = decide (t ≤ i ∧ i < k + 1) := decide_eq_decide.mpr (by omega)
            rw [this]
        · rw [e4, hk1, pcr, hk2, if_neg (show ¬ ntb p k = true from c2)]; rfl
end
theorem rl_flips : Rflips Rl := by
  intro Z N X H k0 k1 M R x y
  obtain ⟨T, p, w, c, b, h, B, C, L⟩ := R.1
  have hT := B.T12
  unfold sX5_flips sX6_flips
  rw [hasTick_tz B C, hasTick_tz B C, isTick_tz B L, isTick_tz B L]
  by_cases c1 : tz T x = true
  · rw [if_pos c1, if_pos c1]
    by_cases c2 : tz T y = true
    · rw [if_pos c2, if_pos c2]
      obtain ⟨t, ht, rfl⟩ := tz_of c1
      obtain ⟨u, hu, rfl⟩ := tz_of c2
      by_cases c3 : nI t ≤ nI u
      · rw [if_pos c3, if_pos c3]
        have hle : t ≤ u := (nI_leI (by omega) (by omega)).mp c3
        obtain ⟨m, hm, e⟩ := fl_L B L (t := t) (u := u) (by omega) 14 t 0 0 (Nat.le_refl _) (by omega) (by omega) (fun i hi => by rw [b_0, decide_eq_false (show ¬ (t ≤ i ∧ i < t) from fun z => by omega), Bool.and_false]) (by rw [Nat.sub_self]; rfl)
        rw [e, rl_keeps0 R, L.2.2.2.2.2, C.2.2.2.2.2.2, nI_1, pk_sub (by omega)]
        have em : N.1 1 &&& sX5_ticksFrom (nI t) (nI (u + 1 - t)) = m := b_ext (fun i hi => by
          rw [b_and, tf_bt (by omega) (by omega) hi, C.2.2.2.2.2.1 i hi, hm i hi]
          have : decide (t ≤ i ∧ i < t + (u + 1 - t)) = decide (t ≤ i ∧ i < u + 1) := decide_eq_decide.mpr (by omega)
          rw [this]; rfl)
        have hpc : pc (bt m) 12 = pcr (ntb p) t (u + 1 - t) := by
          rw [← pcr_12 hT (fun i hi => ntb_no B hi)]
          refine pc_cong (fun i hi => ?_)
          rw [hm i (by omega)]
          have : decide (t ≤ i ∧ i < t + (u + 1 - t)) = decide (t ≤ i ∧ i < u + 1) := decide_eq_decide.mpr (by omega)
          rw [this]
        have hhi : ∀ i, 12 ≤ i → i < 32 → bt m i = false := fun i h1 h2 => by rw [hm i h2, ntb_no B (by omega), Bool.false_and]
        have hle2 := pcr_le (ntb p) t (u + 1 - t)
        have h0 : m = 0 ↔ pcr (ntb p) t (u + 1 - t) = 0 := by
          rw [← hpc]
          refine ⟨fun z => ?_, fun z => zero_iff.mpr (fun i hi => ?_)⟩
          · rw [z]
            exact pc_ext (T := 0) (Nat.zero_le _) (fun i _ _ => b_0 i)
          · rcases Nat.lt_or_ge i 12 with y | y
            · exact pc_none z i y
            · exact hhi i y hi
        have hs : Sh p (h ^^^ m) := fun i hi q => by
          rw [b_xor, hm i hi] at q
          by_cases z : 0 < p i
          · exact z
          · rw [show ntb p i = false from decide_eq_false z, Bool.false_and, Bool.xor_false] at q
            exact B.hN hi q
        rw [em]
        by_cases c4 : m = 0
        · rw [if_pos c4, h0.mp c4, if_pos (show nI 0 = 0 from rfl)]; exact ⟨rfl, R⟩
        · have hp0 : 0 < pcr (ntb p) t (u + 1 - t) := Nat.pos_of_ne_zero (fun z => c4 (h0.mpr z))
          rw [if_neg c4, if_neg (nI_ne0 hp0 (by omega)), bc_eq hhi, hpc]
          exact ⟨rfl, rl_do R (LnR_h B C L hs)⟩
      · rw [if_neg c3, if_neg c3]; exact ⟨rfl, R⟩
    · rw [if_neg c2, if_neg c2]; exact ⟨rfl, R⟩
  · rw [if_neg c1, if_neg c1]; exact ⟨rfl, R⟩
theorem num_bd {y lo hi : Int32} {a d : Nat} (e1 : lo = nI a) (e2 : hi = nI d) (ha : a < 2 ^ 31) (hd : d < 2 ^ 31) (q : sX6_within y lo hi = true) : ∃ v : Nat, a ≤ v ∧ v ≤ d ∧ y = nI v := by
  obtain ⟨c1, c2⟩ := within_iff.mp q
  have c0 : ¬ y < 0 := fun z => c1 (by rw [e1]; exact Int32.lt_of_lt_of_le z (nI_pos' ha))
  obtain ⟨v, hv, rfl⟩ := nI_of c0
  rw [e1] at c1
  rw [e2] at c2
  exact ⟨v, Nat.not_lt.mp (fun z => c1 (nI_lt z ha)), Nat.not_lt.mp (fun z => c2 (nI_lt z hv)), rfl⟩
theorem isNum_eq (x y : Int32) : sX5_isNumber x y = (sX6_within x 0 2 && sX6_within y (sX6_least (x + 1)) (sX6_greatest (x + 1))) := by
  by_cases c1 : x < 0
  · unfold sX5_isNumber sX6_within
    rw [if_pos c1, if_pos c1]; rfl
  · by_cases c2 : 2 < x
    · unfold sX5_isNumber sX6_within
      rw [if_neg c1, if_neg c1, if_pos c2, if_pos c2]; rfl
    · obtain ⟨j, hj, rfl⟩ := nI_of c1
      have hj2 : j ≤ 2 := Nat.not_lt.mp (fun z => c2 (nI_lt (a := 2) z hj))
      rcases (show j = 0 ∨ j = 1 ∨ j = 2 by omega) with rfl | rfl | rfl <;> rfl
theorem rl_sets : Rsets Rl := by
  intro Z N X H k0 k1 M R x y
  obtain ⟨T, p, w, c, b, h, B, C, L⟩ := R.1
  unfold sX5_sets sX6_sets
  rw [isNum_eq]
  by_cases c1 : sX6_within x 0 2 = true
  · by_cases c2 : sX6_within y (sX6_least (x + 1)) (sX6_greatest (x + 1)) = true
    · rw [c1, c2, if_pos (show (true && true) = true from rfl), if_pos rfl, if_pos rfl, rl_keeps0 R]
      obtain ⟨j, hj, rfl⟩ := within_n (M := 2) (by decide) c1
      rcases (show j = 0 ∨ j = 1 ∨ j = 2 by omega) with rfl | rfl | rfl
      · obtain ⟨v, h1, h2, rfl⟩ := num_bd (a := 1) (d := 5) rfl rfl (by decide) (by decide) c2
        show (if N.1 3 = nI v then _ else _ : Int32 × LSt × HSt).1 = (if M.2 0 1 = nI v then _ else _ : Int32 × MSt).1 ∧ Rl Z (if N.1 3 = nI v then _ else _ : Int32 × LSt × HSt).2.1 X (if N.1 3 = nI v then _ else _ : Int32 × LSt × HSt).2.2 k0 k1 (if M.2 0 1 = nI v then _ else _ : Int32 × MSt).2
        rw [C.2.1, L.2.1]
        by_cases c3 : nI w = nI v
        · rw [if_pos c3, if_pos c3]; exact ⟨rfl, R⟩
        · rw [if_neg c3, if_neg c3]
          refine ⟨by show N.1 3 = M.2 0 1; rw [C.2.1, L.2.1], rl_do R ⟨T, p, v, c, b, h, ⟨B.1, B.2.1, B.2.2.1, B.2.2.2.1, h1, h2, B.2.2.2.2.2.2⟩, ⟨C.1, rfl, C.2.2⟩, ⟨L.1, rfl, L.2.2.1, L.2.2.2.1, fun t ht => ?_, L.2.2.2.2.2⟩⟩⟩
          show upd (M.2 0) 1 (nI v) (4 + t) = _
          rw [pk_un (by omega)]; exact L.2.2.2.2.1 t ht
      · obtain ⟨v, h1, h2, rfl⟩ := num_bd (a := 0) (d := 6) rfl rfl (by decide) (by decide) c2
        show (if N.1 4 = nI v then _ else _ : Int32 × LSt × HSt).1 = (if M.2 0 2 = nI v then _ else _ : Int32 × MSt).1 ∧ Rl Z (if N.1 4 = nI v then _ else _ : Int32 × LSt × HSt).2.1 X (if N.1 4 = nI v then _ else _ : Int32 × LSt × HSt).2.2 k0 k1 (if M.2 0 2 = nI v then _ else _ : Int32 × MSt).2
        rw [C.2.2.1, L.2.2.1]
        by_cases c3 : nI c = nI v
        · rw [if_pos c3, if_pos c3]; exact ⟨rfl, R⟩
        · rw [if_neg c3, if_neg c3]
          refine ⟨by show N.1 4 = M.2 0 2; rw [C.2.2.1, L.2.2.1], rl_do R ⟨T, p, w, v, b, h, ⟨B.1, B.2.1, B.2.2.1, B.2.2.2.1, B.2.2.2.2.1, B.2.2.2.2.2.1, h2, B.2.2.2.2.2.2.2⟩, ⟨C.1, C.2.1, rfl, C.2.2.2⟩, ⟨L.1, L.2.1, rfl, L.2.2.2.1, fun t ht => ?_, L.2.2.2.2.2⟩⟩⟩
          show upd (M.2 0) 2 (nI v) (4 + t) = _
          rw [pk_un (by omega)]; exact L.2.2.2.2.1 t ht
      · obtain ⟨v, h1, h2, rfl⟩ := num_bd (a := 2) (d := 6) rfl rfl (by decide) (by decide) c2
        show (if N.1 5 = nI v then _ else _ : Int32 × LSt × HSt).1 = (if M.2 0 3 = nI v then _ else _ : Int32 × MSt).1 ∧ Rl Z (if N.1 5 = nI v then _ else _ : Int32 × LSt × HSt).2.1 X (if N.1 5 = nI v then _ else _ : Int32 × LSt × HSt).2.2 k0 k1 (if M.2 0 3 = nI v then _ else _ : Int32 × MSt).2
        rw [C.2.2.2.1, L.2.2.2.1]
        by_cases c3 : nI b = nI v
        · rw [if_pos c3, if_pos c3]; exact ⟨rfl, R⟩
        · rw [if_neg c3, if_neg c3]
          refine ⟨by show N.1 5 = M.2 0 3; rw [C.2.2.2.1, L.2.2.2.1], rl_do R ⟨T, p, w, c, v, h, ⟨B.1, B.2.1, B.2.2.1, B.2.2.2.1, B.2.2.2.2.1, B.2.2.2.2.2.1, B.2.2.2.2.2.2.1, h1, h2, B.2.2.2.2.2.2.2.2.2⟩, ⟨C.1, C.2.1, C.2.2.1, rfl, C.2.2.2.2⟩, ⟨L.1, L.2.1, L.2.2.1, rfl, fun t ht => ?_, L.2.2.2.2.2⟩⟩⟩
          show upd (M.2 0) 3 (nI v) (4 + t) = _
          rw [pk_un (by omega)]; exact L.2.2.2.2.1 t ht
    · rw [Bool.eq_false_iff.mpr c2, Bool.and_false, if_neg (by decide), if_pos c1, if_neg (by decide)]; exact ⟨rfl, R⟩
  · rw [Bool.eq_false_iff.mpr c1, Bool.false_and, if_neg (by decide), if_neg (by decide)]; exact ⟨rfl, R⟩
/-! rows copied -/
theorem un_L (v : Nat) (hv : v ≤ 5) : ∀ (f k : Nat) (x : Int32) (Y : MSt), x = nI k → Y.1 0 = nI v → k ≤ 17 → 18 ≤ f + k → (sX6_undo_L22 f x Y).1 = nI v ∧ (sX6_undo_L22 f x Y).2.1 = Y.1 ∧ (∀ j, j ≠ 0 → (sX6_undo_L22 f x Y).2.2 j = Y.2 j) ∧ (∀ i, i < 17 → (sX6_undo_L22 f x Y).2.2 0 i = if k ≤ i then Y.2 2 (17 * v + i) else Y.2 0 i) := by
  intro f
  induction f with
  | zero => intro k x Y _ _ h1 h2; omega
  | succ f ih =>
    intro k x Y ex e h1 h2
    subst ex
    rw [sX6_undo_L22_s]
    by_cases c1 : 17 ≤ nI k
    · rw [if_pos c1]
      have : ¬ k < 17 := fun q => nI_ge (b := 17) q (by decide) c1
      exact ⟨e, rfl, fun _ _ => rfl, fun i hi => by rw [if_neg (by omega)]⟩
    · have hlt : k < 17 := up_lt (x := nI k) (b := 17) rfl rfl (by omega) c1
      rw [if_neg c1, pu_cl e rfl, nI_clamp (by omega), nI_clamp (by omega), nI_1]
      obtain ⟨i1, i2, i3, i4⟩ := ih (k + 1) _ (Y.1, (updR Y.2 0 (upd (Y.2 0) k ((Y.2 2) (17 * v + k))))) rfl e (by omega) (by omega)
      refine ⟨i1, i2, fun j hj => (i3 j hj).trans (if_neg hj), fun i hi => (i4 i hi).trans ?_⟩
      show (if k + 1 ≤ i then Y.2 2 (17 * v + i) else upd (Y.2 0) k _ i) = _
      by_cases z : i = k
      · rw [z, if_neg (by omega), if_pos (Nat.le_refl _), pk_us]
      · rw [pk_un z]
        by_cases z2 : k ≤ i
        · rw [if_pos (by omega), if_pos z2]
        · rw [if_neg (by omega), if_neg z2]
theorem rl_undo : Rundo Rl := by
  intro Z N X H k0 k1 M R
  obtain ⟨hL, hx, ⟨u, hu, h1, h2, h3, h4⟩, i0, i1, hz⟩ := id R
  unfold sX5_undo sX6_undo sX1_recall
  rw [h1, h2]
  rcases Nat.eq_zero_or_pos u with q | q
  · subst q
    rw [if_pos (show nI 0 = 0 from rfl), if_neg (show ¬ decide (¬ nI 0 = 0) = true by decide)]
    refine ⟨rfl, hL, hx, ⟨0, by omega, rfl, h2, h3, fun i hi => by omega⟩, i0, i1, hz⟩
  · obtain ⟨v, rfl⟩ : ∃ v, u = v + 1 := ⟨u - 1, by omega⟩
    have hne : ¬ nI (v + 1) = 0 := nI_ne0 (by omega) (by omega)
    rw [if_neg hne, if_pos (decide_eq_true hne), nI_pred]
    obtain ⟨j1, j2, j3, j4⟩ := un_L v (by omega) 18 0 0 ((upd M.1 0 (nI v)), M.2) rfl rfl (by omega) (by omega)
    generalize sX6_undo_L22 18 0 ((upd M.1 0 (nI v)), M.2) = Y at j1 j2 j3 j4 ⊢
    have j2 : Y.2.1 = upd M.1 0 (nI v) := j2
    have j3 : ∀ j, j ≠ 0 → Y.2.2 j = M.2 j := j3
    have j4 : ∀ i, i < 17 → Y.2.2 0 i = M.2 2 (17 * v + i) := fun i hi => by
      have := j4 i hi
      rw [if_pos (Nat.zero_le _)] at this
      exact this
    have eq : qz (nI (v + 1)) = nI v := by unfold qz; rw [if_neg hne, nI_pred]
    refine ⟨by rw [j1]; exact eq, ?_, ?_, ?_, ?_, ?_, ?_⟩
    · show LnR (qF (nI (v + 1)) H.2.2.2.2 N) _
      unfold qF
      rw [if_neg hne, nI_pred, nI_clamp (by omega)]
      exact LnR_cong j4 (LnR_copy N (h4 v (by omega)))
    · unfold TxR; rw [j2, j3 7 (by decide)]; exact hx
    · refine ⟨v, by omega, eq, by rw [j2]; rfl, h3, fun i hi => ?_⟩
      rw [j3 2 (by decide)]; exact h4 i (by omega)
    · unfold IR; rw [j3 4 (by decide), j3 3 (by decide)]; exact i0
    · unfold IR; rw [j3 4 (by decide), j3 3 (by decide)]; exact i1
    · unfold Sn; rw [j2, j3 5 (by decide), j3 6 (by decide)]; exact hz
theorem ke_L (q : Nat) (hq : q ≤ 1) : ∀ (f k : Nat) (x : Int32) (Y : MSt), x = nI k → k ≤ 17 → 18 ≤ f + k → (sX6_keep_L13 (nI q) f x Y).1 = Y.2 0 0 ∧ (sX6_keep_L13 (nI q) f x Y).2.1 = Y.1 ∧ (∀ j, j ≠ 3 → j ≠ 4 → (sX6_keep_L13 (nI q) f x Y).2.2 j = Y.2 j) ∧ (∀ i, (sX6_keep_L13 (nI q) f x Y).2.2 3 i = if 17 * q + k ≤ i ∧ i < 17 * q + 17 then Y.2 0 (i - 17 * q) else Y.2 3 i) ∧ (sX6_keep_L13 (nI q) f x Y).2.2 4 = upd (Y.2 4) q (vp_nar .boolean 1) := by
  intro f
  induction f with
  | zero => intro k x Y _ h1 h2; omega
  | succ f ih =>
    intro k x Y ex h1 h2
    subst ex
    rw [sX6_keep_L13_s]
    by_cases c1 : 17 ≤ nI k
    · rw [if_pos c1]
      have : ¬ k < 17 := fun z => nI_ge (b := 17) z (by decide) c1
      refine ⟨rfl, rfl, fun j _ hj => if_neg hj, fun i => ?_, ?_⟩
      · rw [if_neg (show ¬ (17 * q + k ≤ i ∧ i < 17 * q + 17) from fun z => by omega)]; rfl
      · show updR Y.2 4 _ 4 = _
        rw [nI_clamp (by omega)]; rfl
    · have hlt : k < 17 := up_lt (x := nI k) (b := 17) rfl rfl (by omega) c1
      rw [if_neg c1, show (17 : Int32) * nI q = nI (17 * q) from pk_mul 17 q, nI_add, nI_clamp (by omega), nI_clamp (by omega), nI_1]
      obtain ⟨i1, i2, i3, i4, i5⟩ := ih (k + 1) _ (Y.1, (updR Y.2 3 (upd (Y.2 3) (17 * q + k) ((Y.2 0) k)))) rfl (by omega) (by omega)
      refine ⟨i1, i2, fun j h3 h4 => (i3 j h3 h4).trans (if_neg h3), fun i => (i4 i).trans ?_, i5⟩
      show (if 17 * q + (k + 1) ≤ i ∧ i < 17 * q + 17 then Y.2 0 (i - 17 * q) else upd (Y.2 3) (17 * q + k) ((Y.2 0) k) i) = _
      by_cases z : i = 17 * q + k
      · subst z
        rw [if_neg (by omega), if_pos (by omega), pk_us, show 17 * q + k - 17 * q = k by omega]
      · rw [pk_un z]
        by_cases z2 : 17 * q + (k + 1) ≤ i ∧ i < 17 * q + 17
        · rw [if_pos z2, if_pos (by omega)]
        · rw [if_neg z2, if_neg (by omega)]
theorem ba_L (q : Nat) (hq : q ≤ 1) : ∀ (f k : Nat) (x : Int32) (Y : MSt), x = nI k → k ≤ 17 → 18 ≤ f + k → (sX6_back_L25 (nI q) f x Y).1 = (sX6_back_L25 (nI q) f x Y).2.2 0 0 ∧ (sX6_back_L25 (nI q) f x Y).2.1 = upd Y.1 0 0 ∧ (∀ j, j ≠ 0 → (sX6_back_L25 (nI q) f x Y).2.2 j = Y.2 j) ∧ (∀ i, i < 17 → (sX6_back_L25 (nI q) f x Y).2.2 0 i = if k ≤ i then Y.2 3 (17 * q + i) else Y.2 0 i) := by
  intro f
  induction f with
  | zero => intro k x Y _ h1 h2; omega
  | succ f ih =>
    intro k x Y ex h1 h2
    subst ex
    rw [sX6_back_L25_s]
    by_cases c1 : 17 ≤ nI k
    · rw [if_pos c1]
      have : ¬ k < 17 := fun q => nI_ge (b := 17) q (by decide) c1
      exact ⟨rfl, rfl, fun _ _ => rfl, fun i hi => by rw [if_neg (by omega)]⟩
    · have hlt : k < 17 := up_lt (x := nI k) (b := 17) rfl rfl (by omega) c1
      rw [if_neg c1, show (17 : Int32) * nI q = nI (17 * q) from pk_mul 17 q, nI_add, nI_clamp (by omega), nI_clamp (by omega), nI_1]
      obtain ⟨i1, i2, i3, i4⟩ := ih (k + 1) _ (Y.1, (updR Y.2 0 (upd (Y.2 0) k ((Y.2 3) (17 * q + k))))) rfl (by omega) (by omega)
      refine ⟨i1, i2, fun j hj => (i3 j hj).trans (if_neg hj), fun i hi => (i4 i hi).trans ?_⟩
      show (if k + 1 ≤ i then Y.2 3 (17 * q + i) else upd (Y.2 0) k _ i) = _
      by_cases z : i = k
      · rw [z, if_neg (by omega), if_pos (Nat.le_refl _), pk_us]
      · rw [pk_un z]
        by_cases z2 : k ≤ i
        · rw [if_pos (by omega), if_pos z2]
        · rw [if_neg (by omega), if_neg z2]
theorem win01 {x : Int32} (q : x < 0 ∨ ¬ x < 2) : sX6_within x 0 1 = false := by
  unfold sX6_within
  rcases q with q | q
  · rw [if_pos q]
  · by_cases c : x < 0
    · rw [if_pos c]
    · rw [if_neg c]
      obtain ⟨j, hj, rfl⟩ := nI_of c
      have : ¬ j < 2 := fun z => q (nI_lt (b := 2) z (by decide))
      rw [if_pos (show (1 : Int32) < nI j from nI_lt (a := 1) (by omega) hj)]
theorem nar1 : vp_nar .boolean 1 = 1 := rfl
theorem keep_1 {Z : SSt} {N X : LSt} {H : HSt} {k0 k1 : Option LSt} {M : MSt} (R : Rl Z N X H k0 k1 M) (q : Nat) (hq : q ≤ 1) (K : LSt) (ek : Option LSt × Option LSt) (e : (q = 0 ∧ ek = (some (sX0_copyFrom K N), k1)) ∨ (q = 1 ∧ ek = (k0, some (sX0_copyFrom K N)))) : (sX6_keep M (nI q)).1 = N.1 0 ∧ Rl Z N X H ek.1 ek.2 (sX6_keep M (nI q)).2 := by
  obtain ⟨hL, hx, hp, i0, i1, hz⟩ := id R
  obtain ⟨T, p, w, c, b, h, B, C, L⟩ := id hL
  have hw : sX6_within (nI q) 0 1 = true := by
    rcases (show q = 0 ∨ q = 1 by omega) with rfl | rfl <;> rfl
  unfold sX6_keep
  rw [if_pos hw]
  obtain ⟨j1, j2, j3, j4, j5⟩ := ke_L q hq 18 0 0 M rfl (by omega) (by omega)
  generalize sX6_keep_L13 (nI q) 18 0 M = Y at j1 j2 j3 j4 j5 ⊢
  have new : IR (some (sX0_copyFrom K N)) Y.2 q := by
    refine Or.inr ⟨_, rfl, ?_, LnR_cong (fun k hk => ?_) (LnR_copy K hL)⟩
    · rw [j5, pk_us, nar1]; decide
    · rw [j4, if_pos (show 17 * q + 0 ≤ 17 * q + k ∧ 17 * q + k < 17 * q + 17 from ⟨by omega, by omega⟩), show 17 * q + k - 17 * q = k by omega]
  have old : ∀ (k : Option LSt) (j : Nat), j ≤ 1 → j ≠ q → IR k M j → IR k Y.2 j := by
    intro k j hj hne r
    rcases r with ⟨r1, r2⟩ | ⟨K', r1, r2, r3⟩
    · exact Or.inl ⟨r1, by rw [j5, pk_un hne]; exact r2⟩
    · refine Or.inr ⟨K', r1, by rw [j5, pk_un hne]; exact r2, LnR_cong (fun k hk => ?_) r3⟩
      rw [j4, if_neg (show ¬ (17 * q + 0 ≤ 17 * j + k ∧ 17 * j + k < 17 * q + 17) from fun z => by omega)]
  refine ⟨by rw [j1, C.1, L.1], ?_, ?_, ?_, ?_, ?_, ?_⟩
  · rw [j3 0 (by decide) (by decide)]; exact hL
  · unfold TxR; rw [j2, j3 7 (by decide) (by decide)]; exact hx
  · unfold PaR; rw [j2, j3 2 (by decide) (by decide)]; exact hp
  · rcases e with ⟨e1, e2⟩ | ⟨e1, e2⟩
    · rw [e2]; subst e1; exact new
    · rw [e2]; exact old k0 0 (by omega) (by omega) i0
  · rcases e with ⟨e1, e2⟩ | ⟨e1, e2⟩
    · rw [e2]; exact old k1 1 (by omega) (by omega) i1
    · rw [e2]; subst e1; exact new
  · unfold Sn; rw [j2, j3 5 (by decide) (by decide), j3 6 (by decide) (by decide)]; exact hz
theorem rl_keep : Rkeep Rl := by
  intro Z N X H k0 k1 M R
  refine ⟨fun x q => ?_, fun K => keep_1 R 0 (by decide) K (some (sX0_copyFrom K N), k1) (Or.inl ⟨rfl, rfl⟩), fun K => keep_1 R 1 (by decide) K (k0, some (sX0_copyFrom K N)) (Or.inr ⟨rfl, rfl⟩)⟩
  unfold sX6_keep
  rw [win01 q, if_neg (by decide)]
  exact ⟨rfl, R⟩
theorem back_0 {Z : SSt} {N X : LSt} {H : HSt} {k0 k1 k : Option LSt} {M : MSt} (R : Rl Z N X H k0 k1 M) (q : Nat) (hq : q ≤ 1) (r : IR k M q) (e : k = none) : (sX6_back M (nI q)).1 = -2 ∧ Rl Z N X H k0 k1 (sX6_back M (nI q)).2 := by
  have hw : sX6_within (nI q) 0 1 = true := by
    rcases (show q = 0 ∨ q = 1 by omega) with rfl | rfl <;> rfl
  have h0 : M.2 4 q = 0 := by
    rcases r with ⟨-, r⟩ | ⟨K, r, -⟩
    · exact r
    · rw [e] at r; cases r
  unfold sX6_back
  rw [if_pos hw, nI_clamp (by omega), if_pos h0]
  exact ⟨rfl, R⟩
theorem back_1 {Z : SSt} {N X : LSt} {H : HSt} {k0 k1 k : Option LSt} {M : MSt} (R : Rl Z N X H k0 k1 M) (q : Nat) (hq : q ≤ 1) (r : IR k M q) (K : LSt) (e : k = some K) : (sX6_back M (nI q)).1 = (sX0_copyFrom N K).1 0 ∧ Rl Z (sX0_copyFrom N K) X (0, H.2) k0 k1 (sX6_back M (nI q)).2 := by
  obtain ⟨hL, hx, ⟨u, hu, h1, h2, h3, h4⟩, i0, i1, hz⟩ := id R
  have hw : sX6_within (nI q) 0 1 = true := by
    rcases (show q = 0 ∨ q = 1 by omega) with rfl | rfl <;> rfl
  obtain ⟨h0, hK⟩ : ¬ M.2 4 q = 0 ∧ LnR K (fun i => M.2 3 (17 * q + i)) := by
    rcases r with ⟨r, -⟩ | ⟨K', r, r2, r3⟩
    · rw [e] at r; cases r
    · rw [e] at r; cases r; exact ⟨r2, r3⟩
  unfold sX6_back
  rw [if_pos hw, nI_clamp (by omega), if_neg h0]
  obtain ⟨j1, j2, j3, j4⟩ := ba_L q hq 18 0 0 M rfl (by omega) (by omega)
  generalize sX6_back_L25 (nI q) 18 0 M = Y at j1 j2 j3 j4 ⊢
  have j4 : ∀ i, i < 17 → Y.2.2 0 i = M.2 3 (17 * q + i) := fun i hi => by
    have := j4 i hi
    rw [if_pos (Nat.zero_le _)] at this
    exact this
  have hN : LnR (sX0_copyFrom N K) (Y.2.2 0) := LnR_cong j4 (LnR_copy N hK)
  obtain ⟨T, p, w, c, b, h, B, C, L⟩ := id hN
  refine ⟨by rw [j1, C.1, L.1], hN, ?_, ?_, ?_, ?_, ?_⟩
  · unfold TxR; rw [j2, j3 7 (by decide)]; exact hx
  · exact ⟨0, by omega, rfl, by rw [j2]; rfl, h3, fun i hi => by omega⟩
  · unfold IR; rw [j3 4 (by decide), j3 3 (by decide)]; exact i0
  · unfold IR; rw [j3 4 (by decide), j3 3 (by decide)]; exact i1
  · unfold Sn; rw [j2, j3 5 (by decide), j3 6 (by decide)]; exact hz
theorem rl_back : Rback Rl := by
  intro Z N X H k0 k1 M R
  refine ⟨fun x q => ?_, fun e => back_0 R 0 (by decide) R.2.2.2.1 e, fun K e => back_1 R 0 (by decide) R.2.2.2.1 K e, fun e => back_0 R 1 (by decide) R.2.2.2.2.1 e, fun K e => back_1 R 1 (by decide) R.2.2.2.2.1 K e⟩
  unfold sX6_back
  rw [win01 q, if_neg (by decide)]
  exact ⟨rfl, R⟩
