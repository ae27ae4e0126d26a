/-! bits -/
theorem bt1 : ∀ i, i < 32 → bt 1 i = decide (i = 0) := by decide +kernel
theorem bI_1 {b : Bool} : bI b = 1 ↔ b = true := by cases b <;> decide
theorem bt_bI (b : Bool) {i : Nat} (hi : i < 32) : bt (bI b) i = (b && decide (i = 0)) := by
  cases b
  · exact b_0 i
  · exact bt1 i hi
theorem bit1 (s : Int32) {t : Nat} (ht : t < 32) : (s >>> (nI t &&& 31)) &&& 1 = bI (bt s t) := by
  refine b_ext (fun i hi => ?_)
  rw [b_and, b_sshr t ht s hi, bt1 i hi, bt_bI _ hi]
  rcases Nat.eq_zero_or_pos i with q | q
  · subst q; rw [if_pos (by omega), Nat.add_zero]
  · rw [decide_eq_false (by omega), Bool.and_false, Bool.and_false]
theorem bt_one {t : Nat} (ht : t < 32) {i : Nat} (hi : i < 32) : bt ((1 : Int32) <<< (nI t &&& 31)) i = decide (i = t) := by
  rw [b_shl t ht 1 hi]
  by_cases q : t ≤ i
  · rw [decide_eq_true q, Bool.true_and, bt1 _ (by omega)]
    by_cases q2 : i = t
    · rw [decide_eq_true q2, decide_eq_true (by omega)]
    · rw [decide_eq_false q2, decide_eq_false (by omega)]
  · rw [decide_eq_false q, decide_eq_false (by omega), Bool.false_and]
theorem has_bt (s : Int32) {t : Nat} (ht : t < 32) : sX6_has s (nI t) = bt s t := by
  unfold sX6_has
  rw [bit1 s ht]
  cases bt s t <;> rfl
/-! one line, in the class's words and in the reference's -/
def Lb (T : Nat) (p : Nat → Nat) (w c b : Nat) (h : Int32) : Prop :=
  1 ≤ T ∧ T ≤ 12 ∧ (∀ t, p t ≤ 7) ∧ (∀ t, T ≤ t → p t = 0) ∧ 1 ≤ w ∧ w ≤ 5 ∧ c ≤ 6 ∧ 2 ≤ b ∧ b ≤ 6 ∧ (∀ i, i < 32 → bt h i = true → 0 < p i)
def Lc (T : Nat) (p : Nat → Nat) (w c b : Nat) (h : Int32) (N : LSt) : Prop :=
  N.1 0 = nI T ∧ N.1 3 = nI w ∧ N.1 4 = nI c ∧ N.1 5 = nI b ∧ (∀ t, t < 12 → N.2 t = nI (p t)) ∧ (∀ i, i < 32 → bt (N.1 1) i = decide (0 < p i)) ∧ N.1 2 = h
def Lr (T : Nat) (p : Nat → Nat) (w c b : Nat) (h : Int32) (r : Nat → Int32) : Prop :=
  r 0 = nI T ∧ r 1 = nI w ∧ r 2 = nI c ∧ r 3 = nI b ∧ (∀ t, t < 12 → r (4 + t) = nI (p t)) ∧ r 16 = h
section
variable {T : Nat} {p : Nat → Nat} {w c b : Nat} {h : Int32} {N : LSt} {M : MSt}
theorem Lb.T12 (B : Lb T p w c b h) : T ≤ 12 := B.2.1
theorem Lb.p7 (B : Lb T p w c b h) (t : Nat) : p t ≤ 7 := B.2.2.1 t
theorem Lb.p0 (B : Lb T p w c b h) {t : Nat} (ht : T ≤ t) : p t = 0 := B.2.2.2.1 t ht
theorem Lb.hN (B : Lb T p w c b h) {i : Nat} (hi : i < 32) (q : bt h i = true) : 0 < p i := B.2.2.2.2.2.2.2.2.2 i hi q
theorem Lb.lt (B : Lb T p w c b h) {t : Nat} (ht : 0 < p t) : t < T := by
  rcases Nat.lt_or_ge t T with q | q
  · exact q
  · have := B.p0 q; omega
def nz (p : Nat → Nat) (x : Int32) : Bool := if x < 0 then false else decide (0 < p x.toNatClampNeg)
def tz (T : Nat) (x : Int32) : Bool := if x < 0 then false else decide (x.toNatClampNeg < T)
theorem nz_nI {t : Nat} (ht : t < 2 ^ 31) : nz p (nI t) = decide (0 < p t) := by
  unfold nz; rw [if_neg (nI_pos ht), nI_clamp ht]
theorem tz_of {x : Int32} (q : tz T x = true) : ∃ j : Nat, j < T ∧ x = nI j := by
  unfold tz at q
  by_cases c1 : x < 0
  · rw [if_pos c1] at q; cases q
  · rw [if_neg c1] at q
    obtain ⟨j, hj, rfl⟩ := nI_of c1
    rw [nI_clamp hj] at q
    exact ⟨j, of_decide_eq_true q, rfl⟩
theorem tz_nI {t : Nat} (ht : t < 2 ^ 31) : tz T (nI t) = decide (t < T) := by
  unfold tz; rw [if_neg (nI_pos ht), nI_clamp ht]
theorem hasTick_tz (B : Lb T p w c b h) (C : Lc T p w c b h N) (x : Int32) : sX0_hasTick N x = tz T x := by
  unfold sX0_hasTick tz
  by_cases c1 : x < 0
  · rw [if_pos c1, if_pos c1]
  · rw [if_neg c1, if_neg c1, C.1]
    obtain ⟨j, hj, rfl⟩ := nI_of c1
    have hT := B.T12
    rw [nI_clamp hj]
    by_cases c2 : nI T ≤ nI j
    · rw [if_pos c2]
      have := (nI_leI (by omega) hj).mp c2
      rw [decide_eq_false (by omega)]
    · rw [if_neg c2]
      have : ¬ T ≤ j := fun q => c2 (nI_le q hj)
      rw [decide_eq_true (by omega)]
theorem hasNote_nz (B : Lb T p w c b h) (C : Lc T p w c b h N) (x : Int32) : sX0_hasNote N x = nz p x := by
  unfold sX0_hasNote nz
  by_cases c1 : x < 0
  · rw [if_pos c1, if_pos c1]
  · rw [if_neg c1, if_neg c1, C.1]
    obtain ⟨j, hj, rfl⟩ := nI_of c1
    have hT := B.T12
    rw [nI_clamp hj]
    by_cases c2 : nI T ≤ nI j
    · rw [if_pos c2]
      have h2 := (nI_leI (by omega) hj).mp c2
      rw [B.p0 h2]; rfl
    · rw [if_neg c2]
      have : ¬ T ≤ j := fun q => c2 (nI_le q hj)
      rw [bit1 _ (by omega), C.2.2.2.2.2.1 j (by omega)]
      cases decide (0 < p j) <;> rfl
theorem isTick_tz (B : Lb T p w c b h) (R : Lr T p w c b h (M.2 0)) (x : Int32) : sX6_isTick M x = tz T x := by
  unfold sX6_isTick sX6_within tz
  have hT := B.T12
  have hT1 := B.1
  have e3 : nI T - 1 = nI (T - 1) := by
    obtain ⟨T', rfl⟩ : ∃ T', T = T' + 1 := ⟨T - 1, by omega⟩
    exact nI_pred T'
  by_cases c1 : x < 0
  · rw [if_pos c1, if_pos c1]
  · rw [if_neg c1, if_neg c1, R.1, e3]
    obtain ⟨j, hj, rfl⟩ := nI_of c1
    rw [nI_clamp hj]
    by_cases c2 : nI (T - 1) < nI j
    · rw [if_pos c2]
      have := (nI_ltI (by omega) hj).mp c2
      rw [decide_eq_false (by omega)]
    · rw [if_neg c2]
      have : ¬ T - 1 < j := fun q => c2 (nI_lt q hj)
      rw [decide_eq_true (by omega)]
theorem rp_eq (R : Lr T p w c b h (M.2 0)) {t : Nat} (ht : t < 12) : (M.2 0) (((4 : Int32) + nI t)).toNatClampNeg = nI (p t) := by
  rw [show (4 : Int32) + nI t = nI (4 + t) from nI_add 4 t, nI_clamp (by omega)]
  exact R.2.2.2.2.1 t ht
theorem isNote_nz (B : Lb T p w c b h) (R : Lr T p w c b h (M.2 0)) (x : Int32) : sX6_isNote M x = nz p x := by
  unfold sX6_isNote
  rw [isTick_tz B R]
  have hT := B.T12
  by_cases c1 : tz T x = true
  · rw [if_pos c1]
    obtain ⟨j, hj, rfl⟩ := tz_of c1
    rw [rp_eq R (by omega), nz_nI (by omega)]
    have := B.p7 j
    rcases Nat.eq_zero_or_pos (p j) with q | q
    · rw [q]; rfl
    · rw [if_neg (nI_nle q (by omega)), decide_eq_true q]
  · rw [if_neg c1]
    unfold nz
    by_cases c2 : x < 0
    · rw [if_pos c2]
    · rw [if_neg c2]
      unfold tz at c1
      rw [if_neg c2] at c1
      have : ¬ x.toNatClampNeg < T := fun q => c1 (decide_eq_true q)
      rw [B.p0 (by omega)]; rfl
theorem note_tz (B : Lb T p w c b h) {x : Int32} (q : nz p x = true) : ∃ j : Nat, j < T ∧ 0 < p j ∧ x = nI j := by
  unfold nz at q
  by_cases c2 : x < 0
  · rw [if_pos c2] at q; cases q
  · rw [if_neg c2] at q
    obtain ⟨j, hj, rfl⟩ := nI_of c2
    rw [nI_clamp hj] at q
    have q := of_decide_eq_true q
    exact ⟨j, B.lt q, q, rfl⟩
theorem pitchAt_eq (C : Lc T p w c b h N) {t : Nat} (ht : t < 12) : sX0_pitchAt N (nI t) = nI (p t) := by
  unfold sX0_pitchAt
  rw [if_neg (nI_pos (by omega)), if_neg (show ¬ (12 : Int32) ≤ nI t from nI_ge (b := 12) ht (by decide)), nI_clamp (by omega)]
  exact C.2.2.2.2.1 t ht
theorem handAt_eq (C : Lc T p w c b h N) {t : Nat} (ht : t < 32) : sX0_handAt N (nI t) = bI (bt h t) := by
  unfold sX0_handAt
  rw [C.2.2.2.2.2.2, bit1 h ht]
theorem next_eq (B : Lb T p w c b h) (C : Lc T p w c b h N) (R : Lr T p w c b h (M.2 0)) {t : Nat} (ht : t < 12) : ∀ (n k : Nat), k ≤ 12 → sX0_nextOfHand_L15 N (nI t) n (nI k) = sX6_nextOf_L4 M h (nI t) n (nI k) := by
  have hT := B.T12
  intro n
  induction n with
  | zero => intro k _; rfl
  | succ n ih =>
    intro k hk
    rw [sX0_nextOfHand_L15_s, sX6_nextOf_L4_s, C.1, R.1, hasNote_nz B C, isNote_nz B R]
    by_cases c1 : nI T ≤ nI k
    · rw [if_pos c1, if_pos c1]
    · rw [if_neg c1, if_neg c1]
      have hlt : k < T := up_lt (x := nI k) rfl rfl (by omega) c1
      rw [handAt_eq C (by omega), handAt_eq C (by omega), has_bt h (by omega), has_bt h (by omega), nI_1, ih (k + 1) (by omega)]
      by_cases c2 : nz p (nI k) = true
      · rw [if_pos c2, if_pos c2]
        by_cases c3 : bt h k = bt h t
        · rw [if_pos (bI_eq.mpr c3), if_pos c3]
        · rw [if_neg (fun q => c3 (bI_eq.mp q)), if_neg c3]
      · rw [if_neg c2, if_neg c2]
theorem nextOf_eq (B : Lb T p w c b h) (C : Lc T p w c b h N) (R : Lr T p w c b h (M.2 0)) {t : Nat} (ht : t < 12) : sX0_nextOfHand N (nI t) = if nz p (nI t) = true then sX6_nextOf M h (nI t) else -9 := by
  unfold sX0_nextOfHand sX6_nextOf
  rw [hasNote_nz B C, nI_1, next_eq B C R ht 13 (t + 1) (by omega)]
theorem Lr.LOK (B : Lb T p w c b h) (R : Lr T p w c b h (M.2 0)) : LOK M := ⟨T, R.1, B.1, B.2.1⟩
theorem soon_eq (B : Lb T p w c b h) (C : Lc T p w c b h N) (R : Lr T p w c b h (M.2 0)) {t : Nat} (ht : t < 12) : sX0_isSoonBehind N (nI t) = sX6_isSoon M h (nI t) (nI w) := by
  unfold sX0_isSoonBehind sX6_isSoon sX0_isTooSoon
  rw [nextOf_eq B C R ht, isNote_nz B R, C.2.1]
  by_cases c2 : nz p (nI t) = true
  · rw [if_pos c2, if_pos c2]
    by_cases c3 : sX6_nextOf M h (nI t) = -9
    · rw [if_pos c3, if_pos c3]
    · rw [if_neg c3, if_neg c3]
      by_cases c4 : nI w ≤ sX6_nextOf M h (nI t) - nI t
      · rw [if_pos c4]; rfl
      · rw [if_neg c4]; rfl
  · rw [if_neg c2, if_neg c2]; rfl
theorem ab_c : ∀ a, a < 8 → ∀ d, d < 8 → (if (0 : Int32) ≤ nI a - nI d then nI a - nI d else 0 - (nI a - nI d)) = nI (a - d + (d - a)) := by decide +kernel
theorem ab_r1 : ∀ a, a < 8 → ∀ d, d < 8 → (0 : Int32) ≤ nI d - nI a → nI d - nI a = nI (a - d + (d - a)) := by decide +kernel
theorem ab_r2 : ∀ a, a < 8 → ∀ d, d < 8 → ¬ (0 : Int32) ≤ nI d - nI a → -(nI d - nI a) = nI (a - d + (d - a)) := by decide +kernel
theorem far_eq (B : Lb T p w c b h) (C : Lc T p w c b h N) (R : Lr T p w c b h (M.2 0)) {t : Nat} (ht : t < 12) : sX0_isFarBehind N (nI t) = sX6_isFar M h (nI t) := by
  unfold sX0_isFarBehind sX6_isFar sX0_isTooFar
  rw [nextOf_eq B C R ht, isNote_nz B R, C.2.2.1, R.2.2.1]
  by_cases c2 : nz p (nI t) = true
  · rw [if_pos c2, if_pos c2]
    rcases next_res (sh := h) (t := nI t) (Lr.LOK B R) 13 (nI t + 1) (t + 1) (nI_1 t) (by omega) with q | ⟨j, q, hj⟩
    · have q : sX6_nextOf M h (nI t) = -9 := q
      rw [if_pos q, if_pos q]
    · have q : sX6_nextOf M h (nI t) = nI j := q
      rw [q]
      have hne : ¬ nI j = -9 := (by decide +kernel : ∀ j, j < 12 → ¬ nI j = -9) j hj
      have h1 := B.p7 t
      have h2 := B.p7 j
      rw [if_neg hne, if_neg hne, rp_eq R hj, rp_eq R ht, pitchAt_eq C ht, pitchAt_eq C hj, ab_c _ (by omega) _ (by omega)]
      by_cases c4 : (0 : Int32) ≤ nI (p j) - nI (p t)
      · rw [if_pos c4, ab_r1 _ (by omega) _ (by omega) c4]
        by_cases c5 : nI (p t - p j + (p j - p t)) ≤ nI c + nI j - nI t
        · rw [if_pos c5]; rfl
        · rw [if_neg c5]; rfl
      · rw [if_neg c4, ab_r2 _ (by omega) _ (by omega) c4]
        by_cases c5 : nI (p t - p j + (p j - p t)) ≤ nI c + nI j - nI t
        · rw [if_pos c5]; rfl
        · rw [if_neg c5]; rfl
  · rw [if_neg c2, if_neg c2]; rfl
theorem cs_eq (B : Lb T p w c b h) (C : Lc T p w c b h N) (R : Lr T p w c b h (M.2 0)) : ∀ (n k : Nat) (x : Int32), k ≤ 12 → sX0_countTooSoon_L4 N n x (nI k) = sX6_pairs_L4 M true n x (nI k) := by
  have hT := B.T12
  intro n
  induction n with
  | zero => intro k x _; rfl
  | succ n ih =>
    intro k x hk
    rw [sX0_countTooSoon_L4_s, sX6_pairs_L4_s, C.1, R.1]
    by_cases c1 : nI T ≤ nI k
    · rw [if_pos c1, if_pos c1]
    · rw [if_neg c1, if_neg c1, if_pos rfl]
      have hlt : k < T := up_lt (x := nI k) rfl rfl (by omega) c1
      rw [R.2.2.2.2.2, R.2.1, soon_eq B C R (by omega), nI_1, Int32.add_zero, ih (k + 1) (x + 1) (by omega), ih (k + 1) x (by omega)]
theorem cf_eq (B : Lb T p w c b h) (C : Lc T p w c b h N) (R : Lr T p w c b h (M.2 0)) : ∀ (n k : Nat) (x : Int32), k ≤ 12 → sX0_countTooFar_L4 N n x (nI k) = sX6_pairs_L4 M false n x (nI k) := by
  have hT := B.T12
  intro n
  induction n with
  | zero => intro k x _; rfl
  | succ n ih =>
    intro k x hk
    rw [sX0_countTooFar_L4_s, sX6_pairs_L4_s, C.1, R.1]
    by_cases c1 : nI T ≤ nI k
    · rw [if_pos c1, if_pos c1]
    · rw [if_neg c1, if_neg c1, if_neg (by decide : ¬ false = true)]
      have hlt : k < T := up_lt (x := nI k) rfl rfl (by omega) c1
      rw [R.2.2.2.2.2, far_eq B C R (by omega), nI_1, Int32.add_zero, ih (k + 1) (x + 1) (by omega), ih (k + 1) x (by omega)]
theorem tick_eq (Z : SSt) (B : Lb T p w c b h) (C : Lc T p w c b h N) (R : Lr T p w c b h (M.2 0)) (x y : Int32) : sX5_tick Z N x y = sX6_tick M x y := by
  have hT := B.T12
  unfold sX5_tick sX6_tick
  rw [hasTick_tz B C, isTick_tz B R]
  by_cases c1 : tz T x = true
  · rw [if_pos c1, if_pos c1]
    obtain ⟨t, ht, rfl⟩ := tz_of c1
    have ht12 : t < 12 := by omega
    by_cases c2 : sX6_within y 0 3 = true
    · rw [if_pos c2]
      obtain ⟨j, hj, rfl⟩ := within_n (M := 3) (by decide) c2
      rw [pitchAt_eq C ht12, rp_eq R ht12, hasNote_nz B C, isNote_nz B R, handAt_eq C (by omega), R.2.2.2.2.2, bit1 h (by omega), R.2.1, soon_eq B C R ht12, far_eq B C R ht12]
      by_cases d0 : nI j = 0
      · rw [if_pos d0, if_pos d0]
      · rw [if_neg d0, if_neg d0]
        by_cases d1 : nI j = 1
        · rw [if_pos d1, if_pos d1]
        · rw [if_neg d1, if_neg d1]
          by_cases d2 : nI j = 2
          · rw [if_pos d2, if_pos d2]
          · rw [if_neg d2, if_neg d2]
            have : nI j = 3 := by
              have e3 : j ≠ 0 := fun q => d0 (by rw [q]; rfl)
              have e4 : j ≠ 1 := fun q => d1 (by rw [q]; rfl)
              have e5 : j ≠ 2 := fun q => d2 (by rw [q]; rfl)
              rw [show j = 3 by omega]; rfl
            rw [if_pos this]
    · rw [if_neg c2]
      have hw : ∀ z : Int32, sX6_within z 0 3 = true → y ≠ z := fun z q e => c2 (by rw [e]; exact q)
      rw [if_neg (hw 0 (by decide)), if_neg (hw 1 (by decide)), if_neg (hw 2 (by decide)), if_neg (hw 3 (by decide))]
  · rw [if_neg c1, if_neg c1]
end
