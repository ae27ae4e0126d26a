/-! how many bits -/
def pc (f : Nat → Bool) : Nat → Nat
  | 0 => 0
  | n + 1 => pc f n + (if f n = true then 1 else 0)
theorem pc_le (f : Nat → Bool) (n : Nat) : pc f n ≤ n := by
  induction n with
  | zero => exact Nat.le_refl _
  | succ n ih => rw [pc]; split <;> omega
theorem pc_cong {f g : Nat → Bool} {n : Nat} (q : ∀ i, i < n → f i = g i) : pc f n = pc g n := by
  induction n with
  | zero => rfl
  | succ n ih => rw [pc, pc, ih (fun i hi => q i (by omega)), q n (by omega)]
theorem pc_ext {f : Nat → Bool} {T : Nat} : ∀ {n : Nat}, T ≤ n → (∀ i, T ≤ i → i < n → f i = false) → pc f n = pc f T := by
  intro n
  induction n with
  | zero => intro hT _; rw [show T = 0 by omega]
  | succ n ih =>
    intro hT q
    rcases Nat.eq_or_lt_of_le hT with e | e
    · rw [e]
    · rw [pc, q n (by omega) (by omega), if_neg (by decide), Nat.add_zero]
      exact ih (by omega) (fun i h1 h2 => q i h1 (by omega))
theorem nI_bI (a : Nat) (d : Bool) : nI a + bI d = nI (a + (if d = true then 1 else 0)) := by
  cases d
  · show nI a + 0 = nI (a + 0)
    rw [Int32.add_zero]; rfl
  · exact nI_add a 1
theorem ones_L (s : Int32) : ∀ (n k : Nat) (x : Int32), k ≤ 12 → 12 + 1 ≤ n + k → x = nI (pc (bt s) k) → sX6_ones_L4 s n x (nI k) = nI (pc (bt s) 12) := by
  intro n
  induction n with
  | zero => intro k x h1 h2; omega
  | succ n ih =>
    intro k x h1 h2 e
    rw [sX6_ones_L4_s]
    by_cases c1 : 12 ≤ nI k
    · rw [if_pos c1, e]
      have : ¬ k < 12 := fun q => nI_ge (b := 12) q (by decide) c1
      rw [show k = 12 by omega]
    · rw [if_neg c1]
      have hlt : k < 12 := up_lt (x := nI k) (b := 12) rfl rfl (by omega) c1
      rw [bit1 s (by omega), nI_1]
      refine ih (k + 1) _ (by omega) (by omega) ?_
      rw [e, nI_bI]; rfl
theorem ones_eq (s : Int32) : sX6_ones s = nI (pc (bt s) 12) := ones_L s 13 0 0 (by omega) (by omega) rfl
theorem bc_all : ∀ a, a < 64 → ∀ d, d < 64 → sJ6_bitCount_0f7a4 (nI (64 * a + d)) = nI (pc (fun i => (64 * a + d).testBit i) 12) := by decide +kernel
theorem bt_nI (k : Nat) {i : Nat} (hi : i < 32) : bt (nI k) i = k.testBit i := by
  show (BitVec.ofNat 32 k).getLsbD i = _
  rw [BitVec.getLsbD_ofNat, decide_eq_true hi, Bool.true_and]
theorem nI_toNat (x : Int32) : x = nI x.toBitVec.toNat := by
  apply Int32.toBitVec_inj.1
  show x.toBitVec = BitVec.ofNat 32 x.toBitVec.toNat
  simp
theorem small_nI {x : Int32} {n : Nat} (q : ∀ i, n ≤ i → i < 32 → bt x i = false) : ∃ k, k < 2 ^ n ∧ x = nI k := by
  refine ⟨x.toBitVec.toNat, Nat.lt_pow_two_of_testBit _ (fun i hi => ?_), nI_toNat x⟩
  rcases Nat.lt_or_ge i 32 with z | z
  · exact q i hi z
  · exact BitVec.getLsbD_of_ge _ _ z
theorem bc_eq {x : Int32} (q : ∀ i, 12 ≤ i → i < 32 → bt x i = false) : sJ6_bitCount_0f7a4 x = nI (pc (bt x) 12) := by
  obtain ⟨k, hk, rfl⟩ := small_nI (n := 12) q
  have e : k = 64 * (k / 64) + k % 64 := by omega
  have h1 := bc_all (k / 64) (by omega) (k % 64) (by omega)
  rw [← e] at h1
  rw [h1]
  exact congrArg nI (pc_cong (fun i hi => (bt_nI k (by omega)).symm))
/-! sums of two counts -/
theorem tl_1 : ∀ a, a < 13 → ∀ d, d < 13 → nI (a + d) - 2 * nI d = nI a - nI d := by decide +kernel
theorem tl_p : ∀ a, a < 13 → ∀ d, d < 13 → (nI a - nI d) + 1 = nI (a + 1) - nI d := by decide +kernel
theorem tl_m : ∀ a, a < 13 → ∀ d, d < 13 → (nI a - nI d) + (-1) = nI a - nI (d + 1) := by decide +kernel
theorem tl_c : ∀ a, a < 13 → ∀ d, d < 13 → (if (0 : Int32) ≤ nI a - nI d then nI a - nI d else 0 - (nI a - nI d)) = nI (a - d + (d - a)) := by decide +kernel
theorem tl_r : ∀ a, a < 13 → ∀ d, d < 13 → sX6_off (nI a - nI d) = nI (a - d + (d - a)) := by decide +kernel
theorem tf_b : ∀ m, m < 13 → ∀ i, i < 32 → bt (((1 : Int32) <<< (nI m &&& 31)) - 1) i = decide (i < m) := by decide +kernel
theorem tf_bt {t m : Nat} (ht : t < 32) (hm : m < 13) {i : Nat} (hi : i < 32) : bt (sX5_ticksFrom (nI t) (nI m)) i = decide (t ≤ i ∧ i < t + m) := by
  unfold sX5_ticksFrom
  rw [b_shl t ht _ hi]
  by_cases q : t ≤ i
  · rw [decide_eq_true q, Bool.true_and, tf_b m hm _ (by omega)]
    exact decide_eq_decide.mpr (by omega)
  · rw [decide_eq_false q, decide_eq_false (fun z => q z.1), Bool.false_and]
theorem bt_not (x : Int32) {i : Nat} (hi : i < 32) : bt (x ^^^ (-1)) i = !bt x i := by
  rw [b_xor, b_m1 i hi]; cases bt x i <;> rfl
section
variable {T : Nat} {p : Nat → Nat} {w c b : Nat} {h : Int32} {N : LSt} {M : MSt}
/-- a share: bits at notes alone -/
def Sh (p : Nat → Nat) (s : Int32) : Prop := ∀ i, i < 32 → bt s i = true → 0 < p i
theorem Sh.no {s : Int32} (q : Sh p s) {i : Nat} (hi : i < 32) (z : p i = 0) : bt s i = false := by
  cases e : bt s i
  · rfl
  · have := q i hi e; omega
theorem Sh.hi {s : Int32} (B : Lb T p w c b h) (q : Sh p s) : ∀ i, 12 ≤ i → i < 32 → bt s i = false := fun i h1 h2 => q.no h2 (B.p0 (by have := B.T12; omega))
theorem Lb.sh (B : Lb T p w c b h) : Sh p h := fun i hi q => B.hN hi q
def ntb (p : Nat → Nat) : Nat → Bool := fun i => decide (0 < p i)
theorem ntb_no (B : Lb T p w c b h) {i : Nat} (hi : T ≤ i) : ntb p i = false := by
  unfold ntb; rw [B.p0 hi]; rfl
theorem notes_hi (B : Lb T p w c b h) (C : Lc T p w c b h N) : ∀ i, 12 ≤ i → i < 32 → bt (N.1 1) i = false := fun i h1 h2 => by
  rw [C.2.2.2.2.2.1 i h2]
  exact ntb_no B (by have := B.T12; omega)
theorem bcN_eq (B : Lb T p w c b h) (C : Lc T p w c b h N) : sJ6_bitCount_0f7a4 (N.1 1) = nI (pc (ntb p) T) := by
  have hT := B.T12
  rw [bc_eq (notes_hi B C), pc_cong (g := ntb p) (fun i hi => C.2.2.2.2.2.1 i (by omega)), pc_ext hT (fun i h1 _ => ntb_no B h1)]
theorem notes_eqL (B : Lb T p w c b h) (R : Lr T p w c b h (M.2 0)) : ∀ (n k : Nat) (x : Int32), k ≤ T → T + 1 ≤ n + k → x = nI (pc (ntb p) k) → sX6_notes_L4 M n x (nI k) = nI (pc (ntb p) T) := by
  have hT := B.T12
  intro n
  induction n with
  | zero => intro k x h1 h2; omega
  | succ n ih =>
    intro k x h1 h2 e
    rw [sX6_notes_L4_s, R.1, isNote_nz B R]
    by_cases c1 : nI T ≤ nI k
    · rw [if_pos c1, e]
      have : ¬ k < T := fun q => nI_ge q (by omega) c1
      rw [show k = T by omega]
    · rw [if_neg c1, nz_nI (by omega)]
      have hlt : k < T := up_lt (x := nI k) rfl rfl (by omega) c1
      rw [nI_1, Int32.add_zero]
      by_cases c2 : decide (0 < p k) = true
      · rw [if_pos c2]
        refine ih (k + 1) _ (by omega) (by omega) ?_
        rw [e, nI_1, pc, if_pos (show ntb p k = true from c2)]
      · rw [if_neg c2]
        refine ih (k + 1) _ (by omega) (by omega) ?_
        rw [e, pc, if_neg (show ¬ ntb p k = true from c2)]; rfl
theorem notes_eq (B : Lb T p w c b h) (R : Lr T p w c b h (M.2 0)) : sX6_notes M = nI (pc (ntb p) T) := notes_eqL B R 13 0 0 (by omega) (by have := B.T12; omega) rfl
/-! likeness -/
def lkb (p : Nat → Nat) (b : Nat) (s : Int32) : Nat → Bool := fun i => decide (0 < p i) && (decide (0 < p (i + b)) && (bt s i == bt s (i + b)))
theorem lkc_eq (B : Lb T p w c b h) (C : Lc T p w c b h N) {s : Int32} (hs : Sh p s) : sX0_likeness N s = nI (pc (lkb p b s) T) := by
  have hT := B.T12
  have hb : b ≤ 6 := B.2.2.2.2.2.2.2.2.1
  unfold sX0_likeness
  have hbit : ∀ i, i < 32 → bt ((N.1 1 &&& N.1 1 >>> (N.1 5 &&& 31)) &&& ((s ^^^ s >>> (N.1 5 &&& 31)) ^^^ (-1))) i = lkb p b s i := by
    intro i hi
    rw [C.2.2.2.1, b_and, b_and, bt_not _ hi, b_xor, b_sshr b (by omega) _ hi, b_sshr b (by omega) _ hi, C.2.2.2.2.2.1 i hi]
    unfold lkb
    rcases Nat.lt_or_ge i 12 with q | q
    · rw [if_pos (by omega), if_pos (by omega), C.2.2.2.2.2.1 (b + i) (by omega), Nat.add_comm b i]
      cases decide (0 < p i) <;> cases decide (0 < p (i + b)) <;> cases bt s i <;> cases bt s (i + b) <;> rfl
    · rw [B.p0 (t := i) (by omega)]; rfl
  rw [bc_eq (fun i h1 h2 => by rw [hbit i h2]; unfold lkb; rw [B.p0 (t := i) (by omega)]; rfl), pc_cong (fun i hi => hbit i (by omega)), pc_ext hT (fun i h1 _ => by unfold lkb; rw [B.p0 h1]; rfl)]
theorem lkr_L (B : Lb T p w c b h) (R : Lr T p w c b h (M.2 0)) (s : Int32) : ∀ (n k : Nat) (x : Int32), k ≤ T → T + 1 ≤ n + k → x = nI (pc (lkb p b s) k) → sX6_likeness_L4 M s n x (nI k) = nI (pc (lkb p b s) T) := by
  have hT := B.T12
  have hb : b ≤ 6 := B.2.2.2.2.2.2.2.2.1
  intro n
  induction n with
  | zero => intro k x h1 h2; omega
  | succ n ih =>
    intro k x h1 h2 e
    rw [sX6_likeness_L4_s, R.1, R.2.2.2.1, isNote_nz B R, isNote_nz B R]
    by_cases c1 : nI T ≤ nI k
    · rw [if_pos c1, e]
      have : ¬ k < T := fun q => nI_ge q (by omega) c1
      rw [show k = T by omega]
    · rw [if_neg c1, nI_add k b, nz_nI (by omega), nz_nI (by omega)]
      have hlt : k < T := up_lt (x := nI k) rfl rfl (by omega) c1
      rw [nI_1, Int32.add_zero, has_bt s (by omega), has_bt s (by omega)]
      have yes : lkb p b s k = true → sX6_likeness_L4 M s n (x + 1) (nI (k + 1)) = nI (pc (lkb p b s) T) := fun z => by
        refine ih (k + 1) _ (by omega) (by omega) ?_
        rw [e, nI_1, pc, if_pos z]
      have no : lkb p b s k = false → sX6_likeness_L4 M s n x (nI (k + 1)) = nI (pc (lkb p b s) T) := fun z => by
        refine ih (k + 1) _ (by omega) (by omega) ?_
        rw [e, pc, if_neg (by rw [z]; decide)]; rfl
      by_cases c2 : decide (0 < p k) = true
      · rw [if_pos c2]
        by_cases c3 : decide (0 < p (k + b)) = true
        · rw [if_pos c3]
          by_cases c4 : bt s k = bt s (k + b)
          · rw [if_pos c4]; exact yes (by unfold lkb; rw [c2, c3, c4]; cases bt s (k + b) <;> rfl)
          · rw [if_neg c4]; exact no (by unfold lkb; rw [c2, c3]; cases h5 : bt s k <;> cases h6 : bt s (k + b) <;> first | rfl | (rw [h5, h6] at c4; exact absurd rfl c4))
        · rw [if_neg c3]; exact no (by unfold lkb; rw [c2, Bool.eq_false_iff.mpr c3]; rfl)
      · rw [if_neg c2]; exact no (by unfold lkb; rw [Bool.eq_false_iff.mpr c2]; rfl)
theorem lkr_eq (B : Lb T p w c b h) (R : Lr T p w c b h (M.2 0)) (s : Int32) : sX6_likeness M s = nI (pc (lkb p b s) T) := lkr_L B R s 13 0 0 (by omega) (by have := B.T12; omega) rfl
/-! tilt -/
def h0b (p : Nat → Nat) (s : Int32) : Nat → Bool := fun i => decide (0 < p i) && !bt s i
def h1b (p : Nat → Nat) (s : Int32) : Nat → Bool := fun i => decide (0 < p i) && bt s i
theorem pc_01 (p : Nat → Nat) (s : Int32) (n : Nat) : pc (ntb p) n = pc (h0b p s) n + pc (h1b p s) n := by
  induction n with
  | zero => rfl
  | succ n ih =>
    rw [pc, pc, pc, ih]
    unfold ntb h0b h1b
    cases decide (0 < p n) <;> cases bt s n <;> simp <;> omega
theorem pc_sh (B : Lb T p w c b h) {s : Int32} (hs : Sh p s) : pc (bt s) 12 = pc (h1b p s) T := by
  have hT := B.T12
  rw [pc_cong (g := h1b p s) (fun i hi => ?_), pc_ext hT (fun i h1 _ => by unfold h1b; rw [B.p0 h1]; rfl)]
  unfold h1b
  cases e : bt s i
  · rw [Bool.and_false]
  · rw [decide_eq_true (hs i (by omega) e)]; rfl
theorem tlc_eq (B : Lb T p w c b h) (C : Lc T p w c b h N) {s : Int32} (hs : Sh p s) : sX0_tilt N s = nI (pc (h0b p s) T) - nI (pc (h1b p s) T) := by
  have hT := B.T12
  unfold sX0_tilt
  have h0 := pc_le (h0b p s) T
  have h1 := pc_le (h1b p s) T
  rw [bcN_eq B C, bc_eq (hs.hi B), pc_sh B hs, pc_01 p s T, tl_1 _ (by omega) _ (by omega)]
theorem tlr_L (B : Lb T p w c b h) (R : Lr T p w c b h (M.2 0)) (s : Int32) : ∀ (n k : Nat) (x : Int32), k ≤ T → T + 1 ≤ n + k → x = nI (pc (h0b p s) k) - nI (pc (h1b p s) k) → sX6_tilt_L4 M s n x (nI k) = nI (pc (h0b p s) T) - nI (pc (h1b p s) T) := by
  have hT := B.T12
  intro n
  induction n with
  | zero => intro k x h1 h2; omega
  | succ n ih =>
    intro k x h1 h2 e
    rw [sX6_tilt_L4_s, R.1, isNote_nz B R]
    have g0 := pc_le (h0b p s) k
    have g1 := pc_le (h1b p s) k
    by_cases c1 : nI T ≤ nI k
    · rw [if_pos c1, e]
      have : ¬ k < T := fun q => nI_ge q (by omega) c1
      rw [show k = T by omega]
    · rw [if_neg c1, nz_nI (by omega)]
      have hlt : k < T := up_lt (x := nI k) rfl rfl (by omega) c1
      rw [nI_1, Int32.add_zero, has_bt s (by omega)]
      by_cases c2 : decide (0 < p k) = true
      · rw [if_pos c2]
        by_cases c3 : bt s k = true
        · rw [if_pos c3]
          refine ih (k + 1) _ (by omega) (by omega) ?_
          rw [e, tl_m _ (by omega) _ (by omega), pc, pc, if_neg (by unfold h0b; rw [c2, c3]; decide), if_pos (by unfold h1b; rw [c2, c3]; rfl)]; rfl
        · rw [if_neg c3]
          refine ih (k + 1) _ (by omega) (by omega) ?_
          rw [e, tl_p _ (by omega) _ (by omega), pc, pc, if_pos (by unfold h0b; rw [c2, Bool.eq_false_iff.mpr c3]; rfl), if_neg (by unfold h1b; rw [c2, Bool.eq_false_iff.mpr c3]; decide)]; rfl
      · rw [if_neg c2]
        refine ih (k + 1) _ (by omega) (by omega) ?_
        rw [e, pc, pc, if_neg (by unfold h0b; rw [Bool.eq_false_iff.mpr c2]; simp), if_neg (by unfold h1b; rw [Bool.eq_false_iff.mpr c2]; simp)]; rfl
theorem tlr_eq (B : Lb T p w c b h) (R : Lr T p w c b h (M.2 0)) (s : Int32) : sX6_tilt M s = nI (pc (h0b p s) T) - nI (pc (h1b p s) T) := tlr_L B R s 13 0 0 (by omega) (by have := B.T12; omega) (by show (0 : Int32) = nI 0 - nI 0; decide)
/-! notes of a hand, from a tick on -/
def hdb (p : Nat → Nat) (s : Int32) (g : Bool) : Nat → Bool := fun i => decide (0 < p i) && (bt s i == g)
theorem ofHand_L (B : Lb T p w c b h) (R : Lr T p w c b h (M.2 0)) (g : Bool) : ∀ (n k : Nat) (x : Int32), k ≤ T → T + 1 ≤ n + k → x = nI (pc (hdb p h g) k) → sX6_ofHand_L4 M (bI g) n x (nI k) = nI (pc (hdb p h g) T) := by
  have hT := B.T12
  intro n
  induction n with
  | zero => intro k x h1 h2; omega
  | succ n ih =>
    intro k x h1 h2 e
    rw [sX6_ofHand_L4_s, R.1, R.2.2.2.2.2, isNote_nz B R]
    by_cases c1 : nI T ≤ nI k
    · rw [if_pos c1, e]
      have : ¬ k < T := fun q => nI_ge q (by omega) c1
      rw [show k = T by omega]
    · rw [if_neg c1, nz_nI (by omega)]
      have hlt : k < T := up_lt (x := nI k) rfl rfl (by omega) c1
      rw [nI_1, Int32.add_zero, bit1 h (by omega)]
      by_cases c2 : decide (0 < p k) = true
      · rw [if_pos c2]
        by_cases c3 : bt h k = g
        · rw [if_pos (bI_eq.mpr c3)]
          refine ih (k + 1) _ (by omega) (by omega) ?_
          rw [e, nI_1, pc, if_pos (by unfold hdb; rw [c2, c3]; cases g <;> rfl)]
        · rw [if_neg (fun z => c3 (bI_eq.mp z))]
          refine ih (k + 1) _ (by omega) (by omega) ?_
          rw [e, pc, if_neg (by unfold hdb; rw [c2]; intro z; exact c3 (eq_of_beq (by simpa using z)))]; rfl
      · rw [if_neg c2]
        refine ih (k + 1) _ (by omega) (by omega) ?_
        rw [e, pc, if_neg (by unfold hdb; rw [Bool.eq_false_iff.mpr c2]; simp)]; rfl
theorem ofHand_eq (B : Lb T p w c b h) (R : Lr T p w c b h (M.2 0)) (g : Bool) : sX6_ofHand M (bI g) = nI (pc (hdb p h g) T) := ofHand_L B R g 13 0 0 (by omega) (by have := B.T12; omega) rfl
theorem notesOf_bt (B : Lb T p w c b h) (C : Lc T p w c b h N) (g : Bool) {i : Nat} (hi : i < 32) : bt (sX0_notesOf N (bI g)) i = hdb p h g i := by
  unfold sX0_notesOf hdb
  cases g
  · rw [if_pos (show bI false = 0 from rfl), b_and, bt_not _ hi, C.2.2.2.2.2.1 i hi, C.2.2.2.2.2.2]
    cases bt h i <;> rfl
  · rw [if_neg (show ¬ bI true = 0 by decide), C.2.2.2.2.2.2]
    cases e : bt h i
    · rw [Bool.and_comm]; rfl
    · rw [decide_eq_true (B.hN hi e)]; rfl
theorem hdb_no (B : Lb T p w c b h) {i : Nat} (g : Bool) (hi : T ≤ i) : hdb p h g i = false := by
  unfold hdb; rw [B.p0 hi]; rfl
theorem bcH_eq (B : Lb T p w c b h) (C : Lc T p w c b h N) (g : Bool) : sJ6_bitCount_0f7a4 (sX0_notesOf N (bI g)) = nI (pc (hdb p h g) T) := by
  have hT := B.T12
  rw [bc_eq (fun i h1 h2 => by rw [notesOf_bt B C g h2]; exact hdb_no B g (by omega)), pc_cong (fun i hi => notesOf_bt B C g (by omega)), pc_ext hT (fun i h1 _ => hdb_no B g h1)]
end
