/-! counts over a stretch of ticks -/
def pcr (f : Nat → Bool) (t : Nat) : Nat → Nat
  | 0 => 0
  | m + 1 => pcr f t m + (if f (t + m) = true then 1 else 0)
theorem pcr_le (f : Nat → Bool) (t m : Nat) : pcr f t m ≤ m := by
  induction m with
  | zero => exact Nat.le_refl _
  | succ m ih => rw [pcr]; split <;> omega
theorem pcr_pc (f : Nat → Bool) (t m : Nat) : ∀ n, n ≤ m → pc (fun i => f i && decide (t ≤ i ∧ i < t + m)) (t + n) = pcr f t n := by
  intro n
  induction n with
  | zero =>
    intro _
    exact pc_ext (T := 0) (Nat.zero_le _) (fun i _ hi => by rw [decide_eq_false (show ¬ (t ≤ i ∧ i < t + m) from fun z => by omega), Bool.and_false])
  | succ n ih =>
    intro hn
    rw [← Nat.add_assoc, pc, pcr, ih (by omega), decide_eq_true (show t ≤ t + n ∧ t + n < t + m from ⟨by omega, by omega⟩), Bool.and_true]
theorem pcr_12 {f : Nat → Bool} {T : Nat} (hT : T ≤ 12) (hf : ∀ i, T ≤ i → f i = false) {t m : Nat} : pc (fun i => f i && decide (t ≤ i ∧ i < t + m)) 12 = pcr f t m := by
  have h0 : ∀ i, T ≤ i → (f i && decide (t ≤ i ∧ i < t + m)) = false := fun i hi => by rw [hf i hi, Bool.false_and]
  have h1 := pcr_pc f t m m (Nat.le_refl _)
  have h2 := pc_ext (f := fun i => f i && decide (t ≤ i ∧ i < t + m)) (T := T) (n := 12) hT (fun i hi _ => h0 i hi)
  have h3 := pc_ext (f := fun i => f i && decide (t ≤ i ∧ i < t + m)) (T := T) (n := T + (t + m)) (by omega) (fun i hi _ => h0 i hi)
  have h4 := pc_ext (f := fun i => f i && decide (t ≤ i ∧ i < t + m)) (T := t + m) (n := T + (t + m)) (by omega) (fun i hi _ => by rw [decide_eq_false (show ¬ (t ≤ i ∧ i < t + m) from fun z => by omega), Bool.and_false])
  omega
theorem or0 (x : Int32) : x ||| 0 = x := b_ext (fun i _ => by rw [b_or, b_0, Bool.or_false])
theorem hand_bI {x : Int32} (q : sX5_isHand x = true) : ∃ g : Bool, x = bI g := by
  unfold sX5_isHand at q
  by_cases c1 : x = 0
  · exact ⟨false, c1⟩
  · rw [if_neg c1] at q
    by_cases c2 : x = 1
    · exact ⟨true, c2⟩
    · rw [if_neg c2] at q; cases q
theorem hand_eq (x : Int32) : sX6_isHand x = sX5_isHand x := rfl
section
variable {T : Nat} {p : Nat → Nat} {w c b : Nat} {h : Int32} {N : LSt} {M : MSt}
theorem busy_L (B : Lb T p w c b h) (R : Lr T p w c b h (M.2 0)) (g : Bool) {t : Nat} (ht : t ≤ 12) : ∀ (n j : Nat) (x : Int32), j ≤ b → b + 1 ≤ n + j → x = nI (pcr (hdb p h g) t j) → sX6_busyAt_L5 M (bI g) (nI t) n x (nI (t + j)) = nI (pcr (hdb p h g) t b) := by
  have hT := B.T12
  have hb : b ≤ 6 := B.2.2.2.2.2.2.2.2.1
  intro n
  induction n with
  | zero => intro j x h1 h2; omega
  | succ n ih =>
    intro j x h1 h2 e
    rw [sX6_busyAt_L5_s, R.2.2.2.1, R.2.2.2.2.2, isNote_nz B R, nI_add t b]
    by_cases c1 : nI (t + b) ≤ nI (t + j)
    · rw [if_pos c1, e]
      have : ¬ t + j < t + b := fun q => nI_ge q (by omega) c1
      rw [show j = b by omega]
    · rw [if_neg c1, nz_nI (by omega), nI_1, Int32.add_zero, bit1 h (by omega)]
      have hlt : t + j < t + b := Nat.not_le.mp (fun q => c1 (nI_le q (by omega)))
      rw [Nat.add_assoc t j 1]
      by_cases c2 : decide (0 < p (t + j)) = true
      · rw [if_pos c2]
        by_cases c3 : bt h (t + j) = g
        · rw [if_pos (bI_eq.mpr c3)]
          refine ih (j + 1) _ (by omega) (by omega) ?_
          rw [e, nI_1, pcr, if_pos (by unfold hdb; rw [c2, c3]; cases g <;> rfl)]
        · rw [if_neg (fun z => c3 (bI_eq.mp z))]
          refine ih (j + 1) _ (by omega) (by omega) ?_
          rw [e, pcr, if_neg (by unfold hdb; rw [c2]; intro z; exact c3 (eq_of_beq (by simpa using z)))]; rfl
      · rw [if_neg c2]
        refine ih (j + 1) _ (by omega) (by omega) ?_
        rw [e, pcr, if_neg (by unfold hdb; rw [Bool.eq_false_iff.mpr c2]; simp)]; rfl
theorem busy_eq (B : Lb T p w c b h) (R : Lr T p w c b h (M.2 0)) (g : Bool) {t : Nat} (ht : t ≤ 12) : sX6_busyAt M (bI g) (nI t) = nI (pcr (hdb p h g) t b) := busy_L B R g ht 19 0 0 (Nat.zero_le _) (by have := B.2.2.2.2.2.2.2.2.1; omega) rfl
theorem busyC_eq (B : Lb T p w c b h) (C : Lc T p w c b h N) (g : Bool) {t : Nat} (ht : t ≤ 12) : sJ6_bitCount_0f7a4 (sX0_notesOf N (bI g) &&& sX5_ticksFrom (nI t) (N.1 5)) = nI (pcr (hdb p h g) t b) := by
  have hT := B.T12
  have hb : b ≤ 6 := B.2.2.2.2.2.2.2.2.1
  have hbit : ∀ i, i < 32 → bt (sX0_notesOf N (bI g) &&& sX5_ticksFrom (nI t) (N.1 5)) i = (hdb p h g i && decide (t ≤ i ∧ i < t + b)) := fun i hi => by
    rw [b_and, notesOf_bt B C g hi, C.2.2.2.1, tf_bt (by omega) (by omega) hi]
  rw [bc_eq (fun i h1 h2 => by rw [hbit i h2, hdb_no B g (by omega), Bool.false_and]), pc_cong (fun i hi => hbit i (by omega)), pcr_12 hT (fun i hi => hdb_no B g hi)]
theorem busiest_L (B : Lb T p w c b h) (C : Lc T p w c b h N) (R : Lr T p w c b h (M.2 0)) (g : Bool) (y : Int32) : ∀ (n n' k j : Nat), k ≤ T → T + 1 ≤ n + k → T + 1 ≤ n' + k → j ≤ 12 →
    sX5_busiest_L36 N y n (sX0_notesOf N (bI g)) (nI j) (nI (pcr (hdb p h g) j b)) (nI k) = sX6_busiest_L23 M (bI g) y n' (nI j) (nI k) := by
  have hT := B.T12
  intro n
  induction n with
  | zero => intro n' k j h1 h2; omega
  | succ n ih =>
    intro n' k j h1 h2 h3 hj
    obtain ⟨n', rfl⟩ : ∃ m, n' = m + 1 := ⟨n' - 1, by omega⟩
    rw [sX5_busiest_L36_s, sX6_busiest_L23_s, C.1, R.1, busyC_eq B C g (by omega), busy_eq B R g hj, busy_eq B R g (by omega)]
    by_cases c1 : nI T ≤ nI k
    · rw [if_pos c1, if_pos c1]
    · rw [if_neg c1, if_neg c1, nI_1]
      have hlt : k < T := up_lt (x := nI k) rfl rfl (by omega) c1
      by_cases c2 : nI (pcr (hdb p h g) k b) ≤ nI (pcr (hdb p h g) j b)
      · rw [if_pos c2, if_pos c2]; exact ih n' (k + 1) j (by omega) (by omega) (by omega) hj
      · rw [if_neg c2, if_neg c2]; exact ih n' (k + 1) k (by omega) (by omega) (by omega) (by omega)
theorem busiest_eq (Z : SSt) (B : Lb T p w c b h) (C : Lc T p w c b h N) (R : Lr T p w c b h (M.2 0)) (x y : Int32) : sX5_busiest Z N x y = sX6_busiest M x y := by
  have hT := B.T12
  have hT1 := B.1
  have hb : b ≤ 6 := B.2.2.2.2.2.2.2.2.1
  unfold sX5_busiest sX6_busiest
  rw [hand_eq]
  by_cases c1 : sX5_isHand x = true
  · rw [if_pos c1, if_pos c1]
    obtain ⟨g, rfl⟩ := hand_bI c1
    have key : sX5_busiest_L36 N y 13 (sX0_notesOf N (bI g)) 0 0 0 = sX6_busiest_L23 M (bI g) y 13 0 1 := by
      rw [sX5_busiest_L36_s, C.1]
      have n1 : ¬ nI T ≤ 0 := nI_nle (by omega) (by omega)
      rw [if_neg n1]
      have e0 : sJ6_bitCount_0f7a4 (sX0_notesOf N (bI g) &&& sX5_ticksFrom 0 (N.1 5)) = nI (pcr (hdb p h g) 0 b) := busyC_eq B C g (t := 0) (by omega)
      rw [e0]
      have h5 := busiest_L B C R g y 12 13 1 0 (by omega) (by omega) (by omega) (by omega)
      have hle := pcr_le (hdb p h g) 0 b
      by_cases c2 : nI (pcr (hdb p h g) 0 b) ≤ 0
      · rw [if_pos c2]
        have : pcr (hdb p h g) 0 b = 0 := by
          rcases Nat.eq_zero_or_pos (pcr (hdb p h g) 0 b) with q | q
          · exact q
          · exact absurd c2 (nI_nle q (by omega))
        rw [this] at h5
        exact h5
      · rw [if_neg c2]; exact h5
    rw [key]
    unfold sX6_within
    by_cases c2 : y < 0
    · rw [if_pos c2, if_pos c2]; rfl
    · rw [if_neg c2, if_neg c2]
      by_cases c3 : 1 < y
      · rw [if_pos c3, if_neg (Int32.not_le.mpr c3)]; rfl
      · rw [if_neg c3, if_pos (Int32.not_lt.mp c3)]; rfl
  · rw [if_neg c1, if_neg c1]
/-! tables -/
theorem pit_eq (B : Lb T p w c b h) (C : Lc T p w c b h N) (R : Lr T p w c b h (M.2 0)) : ∀ (n k : Nat) (x : Int32), k ≤ 12 → sX0_pitchesUsed_L4 N n x (nI k) = sX6_pitches_L4 M n x (nI k) := by
  have hT := B.T12
  intro n
  induction n with
  | zero => intro k x _; rfl
  | succ n ih =>
    intro k x hk
    rw [sX0_pitchesUsed_L4_s, sX6_pitches_L4_s, C.1, R.1, hasNote_nz B C, isNote_nz B R]
    by_cases c1 : nI T ≤ nI k
    · rw [if_pos c1, if_pos c1]
    · rw [if_neg c1, if_neg c1]
      have hlt : k < T := up_lt (x := nI k) rfl rfl (by omega) c1
      rw [pitchAt_eq C (by omega), rp_eq R (by omega), nI_1, or0, ih (k + 1) _ (by omega), ih (k + 1) _ (by omega)]
theorem sbt_eq (B : Lb T p w c b h) (C : Lc T p w c b h N) (R : Lr T p w c b h (M.2 0)) (y : Int32) : ∀ (n k : Nat) (x : Int32), k ≤ 12 → sX0_shareByTable_L4 N y n x (nI k) = sX6_shareBy_L4 M y n x (nI k) := by
  have hT := B.T12
  intro n
  induction n with
  | zero => intro k x _; rfl
  | succ n ih =>
    intro k x hk
    rw [sX0_shareByTable_L4_s, sX6_shareBy_L4_s, C.1, R.1, hasNote_nz B C, isNote_nz B R]
    by_cases c1 : nI T ≤ nI k
    · rw [if_pos c1, if_pos c1]
    · rw [if_neg c1, if_neg c1]
      have hlt : k < T := up_lt (x := nI k) rfl rfl (by omega) c1
      rw [pitchAt_eq C (by omega), rp_eq R (by omega), nI_1, or0, ih (k + 1) _ (by omega), ih (k + 1) _ (by omega)]
      unfold sX6_has
      by_cases c2 : nz p (nI k) = true
      · rw [if_pos c2, if_pos c2]
        by_cases c3 : ((y >>> ((nI (p k) - 1) &&& 31)) &&& 1) = 1
        · rw [if_pos c3, if_pos c3, if_pos rfl]
        · rw [if_neg c3, if_neg c3, if_neg (by decide)]
      · rw [if_neg c2, if_neg c2]
theorem shareBy_eq (B : Lb T p w c b h) (C : Lc T p w c b h N) (R : Lr T p w c b h (M.2 0)) (y : Int32) : sX0_shareByTable N y = sX6_shareBy M y := sbt_eq B C R y 13 0 0 (by omega)
theorem used_eq (B : Lb T p w c b h) (C : Lc T p w c b h N) (R : Lr T p w c b h (M.2 0)) : sX0_pitchesUsed N = sX6_pitches M := pit_eq B C R 13 0 0 (by omega)
theorem sby_sh (B : Lb T p w c b h) (R : Lr T p w c b h (M.2 0)) (y : Int32) : ∀ (n k : Nat) (x : Int32), k ≤ 12 → Sh p x → Sh p (sX6_shareBy_L4 M y n x (nI k)) := by
  have hT := B.T12
  intro n
  induction n with
  | zero => intro k x _ _; exact Sh_z p
  | succ n ih =>
    intro k x hk hx
    rw [sX6_shareBy_L4_s, R.1, isNote_nz B R]
    by_cases c1 : nI T ≤ nI k
    · rw [if_pos c1]; exact hx
    · rw [if_neg c1]
      have hlt : k < T := up_lt (x := nI k) rfl rfl (by omega) c1
      rw [nI_1, or0, nz_nI (by omega)]
      by_cases c2 : decide (0 < p k) = true
      · rw [if_pos c2]
        have h1 : Sh p (x ||| ((1 : Int32) <<< (nI k &&& 31))) := fun i hi q => by
          rw [bt_or1 x (by omega) hi] at q
          rcases Bool.or_eq_true_iff.mp q with q | q
          · exact hx i hi q
          · rw [of_decide_eq_true q]; exact of_decide_eq_true c2
        split
        · exact ih (k + 1) _ (by omega) h1
        · exact ih (k + 1) _ (by omega) hx
      · rw [if_neg c2]; exact ih (k + 1) _ (by omega) hx
theorem shareBy_sh (B : Lb T p w c b h) (R : Lr T p w c b h (M.2 0)) (y : Int32) : Sh p (sX6_shareBy M y) := sby_sh B R y 13 0 0 (by omega) (Sh_z p)
/-- what was seen, in the class's bits and in the reference's rows -/
def Sn (Z : SSt) (M : MSt) : Prop := ∃ Q : Nat, Q ≤ 6 ∧ Z 0 = nI Q ∧ M.1 1 = nI Q ∧ (∀ q, q < Q → ∃ t : Nat, ∃ g : Bool, t < 12 ∧ M.2 5 q = nI t ∧ M.2 6 q = bI g) ∧
  (∀ i, i < 32 → (bt (Z 1) i = true ↔ ∃ q, q < Q ∧ M.2 5 q = nI i ∧ M.2 6 q = bI false)) ∧ (∀ i, i < 32 → (bt (Z 2) i = true ↔ ∃ q, q < Q ∧ M.2 5 q = nI i ∧ M.2 6 q = bI true))
theorem zero_iff {x : Int32} : x = 0 ↔ ∀ i, i < 32 → bt x i = false := ⟨fun e i _ => by rw [e]; exact b_0 i, fun q => b_ext (fun i hi => by rw [q i hi, b_0])⟩
theorem hrd_f (M : MSt) (s : Int32) : ∀ (n : Nat) (k : Int32), sX6_isHeard_L15 M n s false k = false := by
  intro n
  induction n with
  | zero => intro k; rfl
  | succ n ih =>
    intro k
    rw [sX6_isHeard_L15_s]
    split
    · rfl
    · rw [if_neg (by decide)]; exact ih _
theorem hrd_L (B : Lb T p w c b h) (R : Lr T p w c b h (M.2 0)) {Q : Nat} (hQ : Q ≤ 6) (eQ : M.1 1 = nI Q) (hr : ∀ q, q < Q → ∃ t : Nat, ∃ g : Bool, t < 12 ∧ M.2 5 q = nI t ∧ M.2 6 q = bI g) (s : Int32) : ∀ (n k : Nat), k ≤ Q → Q + 1 ≤ n + k → (sX6_isHeard_L15 M n s true (nI k) = true ↔ ∀ q, k ≤ q → q < Q → ∀ t, t < 12 → ∀ g, M.2 5 q = nI t → M.2 6 q = bI g → 0 < p t ∧ bt s t = g) := by
  intro n
  induction n with
  | zero => intro k h1 h2; omega
  | succ n ih =>
    intro k h1 h2
    rw [sX6_isHeard_L15_s, eQ]
    by_cases c1 : nI Q ≤ nI k
    · rw [if_pos c1]
      have : ¬ k < Q := fun q => nI_ge q (by omega) c1
      exact ⟨fun _ q z1 z2 => by omega, fun _ => rfl⟩
    · rw [if_neg c1, if_pos rfl, nI_clamp (by omega), isNote_nz B R, nI_1]
      have hlt : k < Q := up_lt (x := nI k) rfl rfl (by omega) c1
      obtain ⟨t, g, ht, e5, e6⟩ := hr k hlt
      have uniq : ∀ t', t' < 12 → ∀ g', M.2 5 k = nI t' → M.2 6 k = bI g' → t' = t ∧ g' = g := fun t' ht' g' y1 y2 => by
        rw [e5] at y1
        rw [e6] at y2
        exact ⟨((nI_eq (by omega) (by omega)).mp y1).symm, (bI_eq.mp y2).symm⟩
      rw [e5, e6, nz_nI (by omega), bit1 s (by omega)]
      by_cases c2 : decide (0 < p t) = true
      · rw [if_pos c2]
        by_cases c3 : bt s t = g
        · rw [if_pos (bI_eq.mpr c3), ih (k + 1) (by omega) (by omega)]
          refine ⟨fun y q z1 z2 t' ht' g' y1 y2 => ?_, fun y q z1 z2 => y q (by omega) z2⟩
          rcases Nat.eq_or_lt_of_le z1 with z | z
          · rw [← z] at y1 y2
            obtain ⟨u1, u2⟩ := uniq t' ht' g' y1 y2
            rw [u1, u2]; exact ⟨of_decide_eq_true c2, c3⟩
          · exact y q z z2 t' ht' g' y1 y2
        · rw [if_neg (fun z => c3 (bI_eq.mp z)), hrd_f]
          exact ⟨(fun y => by cases y), fun y => absurd (y k (Nat.le_refl _) hlt t ht g e5 e6).2 c3⟩
      · rw [if_neg c2, hrd_f]
        exact ⟨(fun y => by cases y), fun y => absurd (decide_eq_true (y k (Nat.le_refl _) hlt t ht g e5 e6).1) c2⟩
theorem heard_iff (Z : SSt) (B : Lb T p w c b h) (C : Lc T p w c b h N) (R : Lr T p w c b h (M.2 0)) (hz : Sn Z M) (x : Int32) : sX6_isHeard M x = true ↔ (sX6_isTable M x = true ∧ (Z 1 &&& ((N.1 1 &&& (sX6_shareBy M x ^^^ (-1))) ^^^ (-1))) = 0 ∧ (Z 2 &&& (sX6_shareBy M x ^^^ (-1))) = 0) := by
  have hT := B.T12
  obtain ⟨Q, hQ, -, eQ, hr, h1, h2⟩ := hz
  have hs := shareBy_sh B R x
  unfold sX6_isHeard
  generalize sX6_shareBy M x = s at hs ⊢
  cases ht : sX6_isTable M x
  · rw [hrd_f]; exact ⟨(fun y => by cases y), fun y => by cases y.1⟩
  · have := hrd_L B R hQ eQ hr s 7 0 (Nat.zero_le _) (by omega)
    refine this.trans ⟨fun y => ⟨rfl, zero_iff.mpr (fun i hi => ?_), zero_iff.mpr (fun i hi => ?_)⟩, fun y q _ hq t ht2 g e5 e6 => ?_⟩
    · rw [b_and, bt_not _ hi, b_and, bt_not _ hi, C.2.2.2.2.2.1 i hi]
      cases e : bt (Z 1) i
      · rfl
      · obtain ⟨q, z1, z2, z3⟩ := (h1 i hi).mp e
        obtain ⟨t, g, ht3, y1, y2⟩ := hr q z1
        have : i = t := by rw [y1] at z2; exact ((nI_eq (by omega) (by omega)).mp z2).symm
        obtain ⟨k1, k2⟩ := y q (Nat.zero_le _) z1 i (by omega) false z2 z3
        rw [decide_eq_true k1, k2]; rfl
    · rw [b_and, bt_not _ hi]
      cases e : bt (Z 2) i
      · rfl
      · obtain ⟨q, z1, z2, z3⟩ := (h2 i hi).mp e
        obtain ⟨t, g, ht3, y1, y2⟩ := hr q z1
        have : i = t := by rw [y1] at z2; exact ((nI_eq (by omega) (by omega)).mp z2).symm
        obtain ⟨k1, k2⟩ := y q (Nat.zero_le _) z1 i (by omega) true z2 z3
        rw [k2]; rfl
    · obtain ⟨-, y1, y2⟩ := y
      cases g
      · have e := (h1 t (by omega)).mpr ⟨q, hq, e5, e6⟩
        have := zero_iff.mp y1 t (by omega)
        rw [b_and, bt_not _ (by omega), b_and, bt_not _ (by omega), C.2.2.2.2.2.1 t (by omega), e] at this
        by_cases z : 0 < p t
        · rw [decide_eq_true z] at this
          refine ⟨z, ?_⟩
          cases e2 : bt s t
          · rfl
          · rw [e2] at this; cases this
        · rw [decide_eq_false z] at this
          cases e2 : bt s t <;> (rw [e2] at this; cases this)
      · have e := (h2 t (by omega)).mpr ⟨q, hq, e5, e6⟩
        have := zero_iff.mp y2 t (by omega)
        rw [b_and, bt_not _ (by omega), e] at this
        cases e2 : bt s t
        · rw [e2] at this; cases this
        · exact ⟨hs t (by omega) e2, rfl⟩
end
