/-! what is lawful: a scan from the first tick on, and pairs of notes that follow each other -/
def okP (p : Nat → Nat) (w c i j : Nat) : Bool := decide (w ≤ j - i) && decide (p i - p j + (p j - p i) ≤ c + j - i)
def Nx (p : Nat → Nat) (s : Int32) (t j : Nat) : Prop := 0 < p t ∧ t < j ∧ 0 < p j ∧ bt s j = bt s t ∧ ∀ i, t < i → i < j → 0 < p i → bt s i ≠ bt s t
def Law (p : Nat → Nat) (w c : Nat) (s : Int32) : Prop := ∀ t j, Nx p s t j → okP p w c t j = true
def lastI : Option Nat → Int32
  | none => -9
  | some j => nI j
def mayN (p : Nat → Nat) (w c : Nat) : Option Nat → Nat → Bool
  | none, _ => true
  | some i, k => okP p w c i k
def scn (p : Nat → Nat) (w c : Nat) (s : Int32) (k : Nat) (q : Option Nat × Option Nat) : Option (Option Nat × Option Nat) :=
  if 0 < p k then (if bt s k = true then (if mayN p w c q.2 k = true then some (q.1, some k) else none) else (if mayN p w c q.1 k = true then some (some k, q.2) else none)) else some q
def scan (p : Nat → Nat) (w c : Nat) (s : Int32) : Nat → Option (Option Nat × Option Nat)
  | 0 => some (none, none)
  | k + 1 => (scan p w c s k).bind (scn p w c s k)
theorem scan_s {p : Nat → Nat} {w c : Nat} {s : Int32} {k : Nat} {q : Option Nat × Option Nat} (e : scan p w c s k = some q) : scan p w c s (k + 1) = scn p w c s k q := by
  rw [scan, e]; rfl
theorem scan_n {p : Nat → Nat} {w c : Nat} {s : Int32} {k : Nat} (e : scan p w c s k = none) : ∀ d, scan p w c s (k + d) = none := by
  intro d
  induction d with
  | zero => exact e
  | succ d ih => rw [← Nat.add_assoc, scan, ih]; rfl
theorem scan_cong {p : Nat → Nat} {w c : Nat} {s s' : Int32} : ∀ {k : Nat}, (∀ i, i < k → bt s i = bt s' i) → scan p w c s k = scan p w c s' k := by
  intro k
  induction k with
  | zero => intro _; rfl
  | succ k ih =>
    intro q
    rw [scan, scan, ih (fun i hi => q i (by omega))]
    have : scn p w c s k = scn p w c s' k := by
      funext z
      unfold scn
      rw [q k (by omega)]
    rw [this]
def LaO (p : Nat → Nat) (s : Int32) (g : Bool) (k : Nat) : Option Nat → Prop
  | none => ∀ i, i < k → 0 < p i → bt s i ≠ g
  | some j => j < k ∧ 0 < p j ∧ bt s j = g ∧ ∀ i, j < i → i < k → 0 < p i → bt s i ≠ g
theorem LaO_no {p : Nat → Nat} {s : Int32} {g : Bool} {k : Nat} {l : Option Nat} (H : LaO p s g k l) (z : 0 < p k → bt s k ≠ g) : LaO p s g (k + 1) l := by
  cases l with
  | none =>
    intro i hi hp
    rcases Nat.lt_or_ge i k with q | q
    · exact H i q hp
    · rw [show i = k by omega] at hp ⊢; exact z hp
  | some j =>
    obtain ⟨h1, h2, h3, h4⟩ := H
    refine ⟨by omega, h2, h3, fun i hi hk hp => ?_⟩
    rcases Nat.lt_or_ge i k with q | q
    · exact h4 i hi q hp
    · rw [show i = k by omega] at hp ⊢; exact z hp
theorem LaO_yes {p : Nat → Nat} {s : Int32} {g : Bool} {k : Nat} (hp : 0 < p k) (hg : bt s k = g) : LaO p s g (k + 1) (some k) :=
  ⟨by omega, hp, hg, fun i h1 h2 _ => by omega⟩
theorem may_no {p : Nat → Nat} {w c : Nat} {s : Int32} {g : Bool} {k : Nat} {l : Option Nat} (H : LaO p s g k l) (hp : 0 < p k) (hg : bt s k = g) (q : ¬ mayN p w c l k = true) : ∃ i, Nx p s i k ∧ okP p w c i k = false := by
  cases l with
  | none => exact absurd rfl q
  | some i =>
    obtain ⟨h1, h2, h3, h4⟩ := H
    exact ⟨i, ⟨h2, h1, hp, by rw [hg, h3], fun j a1 a2 a3 => by rw [h3]; exact h4 j a1 a2 a3⟩, Bool.eq_false_iff.mpr q⟩
theorem may_yes {p : Nat → Nat} {w c : Nat} {s : Int32} {g : Bool} {k : Nat} {l : Option Nat} (H : LaO p s g k l) (hg : bt s k = g) (q : mayN p w c l k = true) : ∀ t, Nx p s t k → okP p w c t k = true := by
  intro t n
  obtain ⟨n1, n2, n3, n4, n5⟩ := n
  cases l with
  | none => exact absurd (n4.symm.trans hg) (H t n2 n1)
  | some i =>
    obtain ⟨h1, h2, h3, h4⟩ := H
    have e : t = i := by
      rcases Nat.lt_trichotomy t i with z | z | z
      · exact absurd (h3.trans (hg.symm.trans n4)) (n5 i z h1 h2)
      · exact z
      · exact absurd (n4.symm.trans hg) (h4 t z n2 n1)
    rw [e]; exact q
theorem scan_spec (p : Nat → Nat) (w c : Nat) (s : Int32) : ∀ k, (scan p w c s k = none ∧ ∃ t j, j < k ∧ Nx p s t j ∧ okP p w c t j = false) ∨ (∃ q, scan p w c s k = some q ∧ (∀ t j, j < k → Nx p s t j → okP p w c t j = true) ∧ LaO p s false k q.1 ∧ LaO p s true k q.2) := by
  intro k
  induction k with
  | zero => exact Or.inr ⟨(none, none), rfl, fun t j h1 => by omega, fun i hi => by omega, fun i hi => by omega⟩
  | succ k ih =>
    rcases ih with ⟨h1, t, j, h2, h3⟩ | ⟨q, h1, h2, h3, h4⟩
    · exact Or.inl ⟨scan_n h1 1, t, j, by omega, h3⟩
    · rw [scan_s h1]
      unfold scn
      by_cases c1 : 0 < p k
      · rw [if_pos c1]
        by_cases c2 : bt s k = true
        · rw [if_pos c2]
          by_cases c3 : mayN p w c q.2 k = true
          · rw [if_pos c3]
            refine Or.inr ⟨_, rfl, fun t j hj n => ?_, LaO_no h3 (fun _ => by rw [c2]; decide), LaO_yes c1 c2⟩
            rcases Nat.lt_or_ge j k with z | z
            · exact h2 t j z n
            · rw [show j = k by omega] at n ⊢; exact may_yes h4 c2 c3 t n
          · rw [if_neg c3]
            obtain ⟨i, z1, z2⟩ := may_no h4 c1 c2 c3
            exact Or.inl ⟨rfl, i, k, by omega, z1, z2⟩
        · rw [if_neg c2]
          have c2' : bt s k = false := Bool.eq_false_iff.mpr c2
          by_cases c3 : mayN p w c q.1 k = true
          · rw [if_pos c3]
            refine Or.inr ⟨_, rfl, fun t j hj n => ?_, LaO_yes c1 c2', LaO_no h4 (fun _ => c2)⟩
            rcases Nat.lt_or_ge j k with z | z
            · exact h2 t j z n
            · rw [show j = k by omega] at n ⊢; exact may_yes h3 c2' c3 t n
          · rw [if_neg c3]
            obtain ⟨i, z1, z2⟩ := may_no h3 c1 c2' c3
            exact Or.inl ⟨rfl, i, k, by omega, z1, z2⟩
      · rw [if_neg c1]
        refine Or.inr ⟨q, rfl, fun t j hj n => ?_, LaO_no h3 (fun z => absurd z c1), LaO_no h4 (fun z => absurd z c1)⟩
        rcases Nat.lt_or_ge j k with z | z
        · exact h2 t j z n
        · rw [show j = k by omega] at n; exact absurd n.2.2.1 c1
theorem scan_lt {p : Nat → Nat} {w c : Nat} {s : Int32} {k : Nat} {q : Option Nat × Option Nat} (e : scan p w c s k = some q) : (∀ i, q.1 = some i → i < k) ∧ (∀ i, q.2 = some i → i < k) := by
  rcases scan_spec p w c s k with ⟨h1, -⟩ | ⟨q', h1, -, h3, h4⟩
  · rw [h1] at e; cases e
  · rw [h1] at e
    have e := Option.some.inj e
    subst e
    refine ⟨fun i z => ?_, fun i z => ?_⟩
    · rw [z] at h3; exact h3.1
    · rw [z] at h4; exact h4.1
section
variable {T : Nat} {p : Nat → Nat} {w c b : Nat} {h : Int32} {N : LSt} {M : MSt}
theorem law_scan (B : Lb T p w c b h) (w' : Nat) (s : Int32) : Law p w' c s ↔ (scan p w' c s T).isSome = true := by
  rcases scan_spec p w' c s T with ⟨h1, t, j, h2, h3, h4⟩ | ⟨q, h1, h2, -, -⟩
  · rw [h1]
    refine ⟨fun z => ?_, fun z => by cases z⟩
    have := z t j h3
    rw [h4] at this; cases this
  · rw [h1]
    exact ⟨fun _ => rfl, fun _ t j n => h2 t j (B.lt n.2.2.1) n⟩
/-! the reference -/
theorem nextL (B : Lb T p w c b h) (R : Lr T p w c b h (M.2 0)) (s : Int32) {t : Nat} (ht : t < 12) : ∀ (n k : Nat), k ≤ T → t < k → T + 1 ≤ n + k → (∀ i, t < i → i < k → 0 < p i → bt s i ≠ bt s t) →
    (sX6_nextOf_L4 M s (nI t) n (nI k) = -9 ∧ ∀ j, t < j → 0 < p j → bt s j ≠ bt s t) ∨ ∃ j, t < j ∧ 0 < p j ∧ bt s j = bt s t ∧ (∀ i, t < i → i < j → 0 < p i → bt s i ≠ bt s t) ∧ sX6_nextOf_L4 M s (nI t) n (nI k) = nI j := by
  have hT := B.T12
  intro n
  induction n with
  | zero => intro k h1 h2 h3; omega
  | succ n ih =>
    intro k h1 h2 h3 h4
    rw [sX6_nextOf_L4_s, R.1, isNote_nz B R]
    by_cases c1 : nI T ≤ nI k
    · rw [if_pos c1]
      have : ¬ k < T := fun q => nI_ge q (by omega) c1
      refine Or.inl ⟨rfl, fun j z1 z2 => h4 j z1 ?_ z2⟩
      have := B.lt z2
      omega
    · rw [if_neg c1, nz_nI (by omega)]
      have hlt : k < T := up_lt (x := nI k) rfl rfl (by omega) c1
      rw [nI_1, has_bt s (by omega), has_bt s (by omega)]
      by_cases c2 : decide (0 < p k) = true
      · rw [if_pos c2]
        by_cases c3 : bt s k = bt s t
        · rw [if_pos c3]
          exact Or.inr ⟨k, h2, of_decide_eq_true c2, c3, h4, rfl⟩
        · rw [if_neg c3]
          refine ih (k + 1) (by omega) (by omega) (by omega) (fun i a1 a2 a3 => ?_)
          rcases Nat.lt_or_ge i k with z | z
          · exact h4 i a1 z a3
          · rw [show i = k by omega]; exact c3
      · rw [if_neg c2]
        refine ih (k + 1) (by omega) (by omega) (by omega) (fun i a1 a2 a3 => ?_)
        rcases Nat.lt_or_ge i k with z | z
        · exact h4 i a1 z a3
        · rw [show i = k by omega] at a3; exact absurd (decide_eq_true a3) c2
theorem nI_n9 {j : Nat} (hj : j < 2 ^ 31) : ¬ nI j = -9 := fun q => nI_pos hj (by rw [q]; decide)
theorem good_iff (B : Lb T p w c b h) (R : Lr T p w c b h (M.2 0)) (s : Int32) {w' : Nat} (hw : w' ≤ 5) {t : Nat} (ht : t < T) : (sX6_isSoon M s (nI t) (nI w') = false ∧ sX6_isFar M s (nI t) = false) ↔ ∀ j, Nx p s t j → okP p w' c t j = true := by
  have hT := B.T12
  have hc : c ≤ 6 := B.2.2.2.2.2.2.1
  unfold sX6_isSoon sX6_isFar
  rw [isNote_nz B R, nz_nI (by omega), R.2.2.1]
  by_cases c1 : decide (0 < p t) = true
  · rw [if_pos c1, if_pos c1]
    have hx : (sX6_nextOf M s (nI t) = -9 ∧ ∀ j, t < j → 0 < p j → bt s j ≠ bt s t) ∨ ∃ j, t < j ∧ 0 < p j ∧ bt s j = bt s t ∧ (∀ i, t < i → i < j → 0 < p i → bt s i ≠ bt s t) ∧ sX6_nextOf M s (nI t) = nI j := by
      unfold sX6_nextOf
      rw [nI_1]
      exact nextL B R s (by omega) 13 (t + 1) (by omega) (by omega) (by omega) (fun i z1 z2 => by omega)
    rcases hx with ⟨e, z⟩ | ⟨j, z1, z2, z3, z4, e⟩
    · rw [if_pos e, if_pos e]
      exact ⟨fun _ j n => absurd n.2.2.2.1 (z j n.2.1 n.2.2.1), fun _ => ⟨rfl, rfl⟩⟩
    · have hj := B.lt z2
      have hne : ¬ nI j = -9 := nI_n9 (by omega)
      have g1 := B.p7 t
      have g2 := B.p7 j
      have uq : ∀ j', Nx p s t j' → j' = j := by
        intro j' n
        rcases Nat.lt_trichotomy j' j with y | y | y
        · exact absurd n.2.2.2.1 (z4 j' n.2.1 y n.2.2.1)
        · exact y
        · exact absurd z3 (n.2.2.2.2 j z1 y z2)
      have hN : Nx p s t j := ⟨of_decide_eq_true c1, z1, z2, z3, z4⟩
      have hall : (∀ j', Nx p s t j' → okP p w' c t j' = true) ↔ okP p w' c t j = true := ⟨fun q => q j hN, fun q j' n => by rw [uq j' n]; exact q⟩
      rw [hall, e, if_neg hne, if_neg hne, rp_eq R (by omega), rp_eq R (by omega), pk_sub (a := j) (b := t) (by omega), nI_add c j, pk_sub (a := c + j) (b := t) (by omega)]
      unfold okP
      have hs : (if nI w' ≤ nI (j - t) then false else true) = false ↔ w' ≤ j - t := by
        by_cases y : w' ≤ j - t
        · rw [if_pos (nI_le y (by omega))]; exact ⟨fun _ => y, fun _ => rfl⟩
        · rw [if_neg (nI_ge (by omega) (by omega))]; exact ⟨(fun q => by cases q), fun q => absurd q y⟩
      have hf : ∀ x : Int32, x = nI (p t - p j + (p j - p t)) → ((if x ≤ nI (c + j - t) then false else true) = false ↔ p t - p j + (p j - p t) ≤ c + j - t) := by
        intro x ex
        rw [ex]
        by_cases y : p t - p j + (p j - p t) ≤ c + j - t
        · rw [if_pos (nI_le y (by omega))]; exact ⟨fun _ => y, fun _ => rfl⟩
        · rw [if_neg (nI_ge (by omega) (by omega))]; exact ⟨(fun q => by cases q), fun q => absurd q y⟩
      rw [Bool.and_eq_true_iff, decide_eq_true_iff, decide_eq_true_iff, hs]
      by_cases c4 : (0 : Int32) ≤ nI (p j) - nI (p t)
      · rw [if_pos c4, hf _ (ab_r1 _ (by omega) _ (by omega) c4)]
      · rw [if_neg c4, hf _ (ab_r2 _ (by omega) _ (by omega) c4)]
  · rw [if_neg c1, if_neg c1]
    exact ⟨fun _ j n => absurd (decide_eq_true n.1) c1, fun _ => ⟨rfl, rfl⟩⟩
theorem lawR_0 (M : MSt) (s x : Int32) : ∀ (n : Nat) (y : Int32), sX6_isLawful_L5 M s x n false y = false := by
  intro n
  cases n with
  | zero => intro y; rfl
  | succ n =>
    intro y
    rw [sX6_isLawful_L5_s]
    split
    · rfl
    · rfl
theorem lawR_L (B : Lb T p w c b h) (R : Lr T p w c b h (M.2 0)) (s : Int32) {w' : Nat} (hw : w' ≤ 5) : ∀ (n k : Nat), k ≤ T → T + 1 ≤ n + k → (sX6_isLawful_L5 M s (nI w') n true (nI k) = true ↔ ∀ t, k ≤ t → t < T → ∀ j, Nx p s t j → okP p w' c t j = true) := by
  have hT := B.T12
  intro n
  induction n with
  | zero => intro k h1 h2; omega
  | succ n ih =>
    intro k h1 h2
    rw [sX6_isLawful_L5_s, R.1]
    by_cases c1 : nI T ≤ nI k
    · rw [if_pos c1]
      have : ¬ k < T := fun q => nI_ge q (by omega) c1
      exact ⟨fun _ t z1 z2 => by omega, fun _ => rfl⟩
    · rw [if_neg c1, if_pos rfl, nI_1]
      have hlt : k < T := up_lt (x := nI k) rfl rfl (by omega) c1
      have g := good_iff B R s hw hlt
      by_cases c2 : sX6_isSoon M s (nI k) (nI w') = true
      · rw [if_pos c2, lawR_0]
        refine ⟨(fun q => by cases q), fun q => ?_⟩
        have := (g.mpr (q k (Nat.le_refl _) hlt)).1
        rw [c2] at this; cases this
      · rw [if_neg c2]
        by_cases c3 : sX6_isFar M s (nI k) = true
        · rw [if_pos c3, lawR_0]
          refine ⟨(fun q => by cases q), fun q => ?_⟩
          have := (g.mpr (q k (Nat.le_refl _) hlt)).2
          rw [c3] at this; cases this
        · rw [if_neg c3, ih (k + 1) (by omega) (by omega)]
          refine ⟨fun q t z1 z2 => ?_, fun q t z1 z2 => q t (by omega) z2⟩
          rcases Nat.eq_or_lt_of_le z1 with y | y
          · rw [← y]; exact g.mp ⟨Bool.eq_false_iff.mpr c2, Bool.eq_false_iff.mpr c3⟩
          · exact q t y z2
theorem lawR_iff (B : Lb T p w c b h) (R : Lr T p w c b h (M.2 0)) (s : Int32) {w' : Nat} (hw : w' ≤ 5) : sX6_isLawful M s (nI w') = true ↔ Law p w' c s := by
  have hT := B.T12
  have := lawR_L B R s hw 13 0 (by omega) (by omega)
  exact this.trans ⟨fun q t j n => q t (Nat.zero_le _) (B.lt n.1) j n, fun q t _ _ j n => q t j n⟩
theorem lawR_eq (B : Lb T p w c b h) (R : Lr T p w c b h (M.2 0)) (s : Int32) {w' : Nat} (hw : w' ≤ 5) : sX6_isLawful M s (nI w') = (scan p w' c s T).isSome := by
  rw [Bool.eq_iff_iff, lawR_iff B R s hw]
  exact law_scan B w' s
theorem lawN_eq (B : Lb T p w c b h) (R : Lr T p w c b h (M.2 0)) (s : Int32) : sX6_isLawfulNow M s = (scan p w c s T).isSome := by
  unfold sX6_isLawfulNow
  rw [R.2.1]
  exact lawR_eq B R s B.2.2.2.2.2.1
/-! the class -/
theorem may_eq (B : Lb T p w c b h) (C : Lc T p w c b h N) {l : Option Nat} {k : Nat} (hk : k < 12) (hl : ∀ i, l = some i → i < k) : sX0_mayStrike N (lastI l) (nI k) = mayN p w c l k := by
  have hc : c ≤ 6 := B.2.2.2.2.2.2.1
  have hw : w ≤ 5 := B.2.2.2.2.2.1
  unfold sX0_mayStrike
  cases l with
  | none => rfl
  | some i =>
    have hi := hl i rfl
    show (if nI i = -9 then true else if sX0_isTooSoon N (nI i) (nI k) = true then false else if sX0_isTooFar N (nI i) (nI k) = true then false else true) = okP p w c i k
    rw [if_neg (nI_n9 (by omega))]
    unfold sX0_isTooSoon sX0_isTooFar okP
    have g1 := B.p7 i
    have g2 := B.p7 k
    rw [C.2.1, C.2.2.1, pitchAt_eq C (by omega), pitchAt_eq C hk, ab_c _ (by omega) _ (by omega), pk_sub (by omega), nI_add, pk_sub (by omega)]
    by_cases y : w ≤ k - i
    · rw [if_pos (nI_le y (by omega)), if_neg (by decide), decide_eq_true y, Bool.true_and]
      by_cases y2 : p i - p k + (p k - p i) ≤ c + k - i
      · rw [if_pos (nI_le y2 (by omega)), decide_eq_true y2]; rfl
      · rw [if_neg (nI_ge (by omega) (by omega)), decide_eq_false y2]; rfl
    · rw [if_neg (nI_ge (by omega) (by omega)), if_pos rfl, decide_eq_false y]; rfl
theorem lawC_L (B : Lb T p w c b h) (C : Lc T p w c b h N) (s : Int32) : ∀ (n k : Nat) (q : Option Nat × Option Nat), scan p w c s k = some q → k ≤ T → T + 1 ≤ n + k → sX0_isLawful_L9 N s n (lastI q.1) (lastI q.2) (nI k) = (scan p w c s T).isSome := by
  have hT := B.T12
  intro n
  induction n with
  | zero => intro k q _ h1 h2; omega
  | succ n ih =>
    intro k q e h1 h2
    obtain ⟨l1, l2⟩ := scan_lt e
    rw [sX0_isLawful_L9_s, C.1, hasNote_nz B C]
    by_cases c1 : nI T ≤ nI k
    · rw [if_pos c1]
      have : ¬ k < T := fun z => nI_ge z (by omega) c1
      rw [show T = k by omega, e]; rfl
    · rw [if_neg c1, nz_nI (by omega), nI_1]
      have hlt : k < T := up_lt (x := nI k) rfl rfl (by omega) c1
      rw [may_eq B C (by omega) l1, may_eq B C (by omega) l2, bit1 s (by omega)]
      have hs := scan_s e
      unfold scn at hs
      have bad : scan p w c s (k + 1) = none → false = (scan p w c s T).isSome := fun z => by
        have := scan_n z (T - (k + 1))
        rw [show k + 1 + (T - (k + 1)) = T by omega] at this
        rw [this]; rfl
      by_cases c2 : 0 < p k
      · rw [if_pos (decide_eq_true c2)]
        rw [if_pos c2] at hs
        by_cases c3 : bt s k = true
        · rw [if_pos (bI_1.mpr c3)]
          rw [if_pos c3] at hs
          by_cases c4 : mayN p w c q.2 k = true
          · rw [if_pos c4]
            rw [if_pos c4] at hs
            exact ih (k + 1) _ hs (by omega) (by omega)
          · rw [if_neg c4]
            rw [if_neg c4] at hs
            exact bad hs
        · rw [if_neg (fun z => c3 (bI_1.mp z))]
          rw [if_neg c3] at hs
          by_cases c4 : mayN p w c q.1 k = true
          · rw [if_pos c4]
            rw [if_pos c4] at hs
            exact ih (k + 1) _ hs (by omega) (by omega)
          · rw [if_neg c4]
            rw [if_neg c4] at hs
            exact bad hs
      · rw [if_neg (fun z => c2 (of_decide_eq_true z))]
        rw [if_neg c2] at hs
        exact ih (k + 1) q hs (by omega) (by omega)
theorem lawC_eq (B : Lb T p w c b h) (C : Lc T p w c b h N) (s : Int32) : sX0_isLawful N s = (scan p w c s T).isSome := lawC_L B C s 13 0 (none, none) rfl (by omega) (by have := B.T12; omega)
theorem share_eq (Z : SSt) (B : Lb T p w c b h) (C : Lc T p w c b h N) (R : Lr T p w c b h (M.2 0)) (x : Int32) : sX5_share Z N x = sX6_share M x := by
  unfold sX5_share sX6_share
  rw [show sX0_countTooSoon N = sX6_pairs M true from cs_eq B C R 13 0 0 (by omega), show sX0_countTooFar N = sX6_pairs M false from cf_eq B C R 13 0 0 (by omega), C.2.2.2.2.2.2, R.2.2.2.2.2, lkc_eq B C B.sh, lkr_eq B R, tlc_eq B C B.sh, tlr_eq B R, lawC_eq B C, lawN_eq B R]
end
