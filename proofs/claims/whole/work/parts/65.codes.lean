/-! the reference: shares by their codes -/
def cn (p : Nat → Nat) : Nat → Nat → Nat
  | 0, _ => 0
  | d + 1, k => cn p d (k + 1) + (if 0 < p k then 1 else 0)
theorem cn_pc (p : Nat → Nat) : ∀ d k, pc (ntb p) k + cn p d k = pc (ntb p) (k + d) := by
  intro d
  induction d with
  | zero => intro k; rfl
  | succ d ih =>
    intro k
    have h1 := ih (k + 1)
    rw [pc] at h1
    rw [cn, show k + (d + 1) = k + 1 + d by omega, ← h1]
    have : (if ntb p k = true then 1 else 0) = (if 0 < p k then 1 else 0) := by
      unfold ntb
      by_cases q : 0 < p k
      · rw [if_pos q, if_pos (decide_eq_true q)]
      · rw [if_neg q, if_neg (fun z => q (of_decide_eq_true z))]
    omega
theorem cn_ge (p : Nat → Nat) : ∀ j d i, cn p d (i + j) ≤ cn p (j + d) i := by
  intro j
  induction j with
  | zero => intro d i; rw [Nat.zero_add, Nat.add_zero]; exact Nat.le_refl _
  | succ j ih =>
    intro d i
    have h1 := ih d (i + 1)
    rw [show j + 1 + d = (j + d) + 1 by omega, cn, show i + (j + 1) = i + 1 + j by omega]
    omega
def shb (p : Nat → Nat) (T c i : Nat) : Bool := decide (0 < p i) && decide ((c / 2 ^ (cn p (T - (i + 1)) (i + 1))) % 2 = 1)
theorem lowbit (x : Nat) : nI x &&& 1 = bI (decide (x % 2 = 1)) := by
  show nI x &&& nI 1 = _
  rw [nx_and, Nat.and_one_is_mod]
  rcases Nat.mod_two_eq_zero_or_one x with q | q
  · rw [q]; rfl
  · rw [q]; rfl
theorem bt_bIsh (d : Bool) {t : Nat} (ht : t < 32) {i : Nat} (hi : i < 32) : bt (bI d <<< (nI t &&& 31)) i = (d && decide (i = t)) := by
  cases d
  · rw [b_shl t ht _ hi]
    show (decide (t ≤ i) && bt 0 (i - t)) = _
    rw [b_0, Bool.and_false]; rfl
  · exact bt_one ht hi
section
variable {T : Nat} {p : Nat → Nat} {w c b : Nat} {h : Int32} {N : LSt} {M : MSt}
theorem sh_L (B : Lb T p w c b h) (R : Lr T p w c b h (M.2 0)) (d : Nat) (hd : d < 2 ^ 31) : ∀ (n k : Nat) (x2 x3 x4 : Int32), k ≤ T → k + 1 ≤ n → x4 = nI k - 1 → x2 = nI (d / 2 ^ cn p (T - k) k) → (∀ i, i < 32 → bt x3 i = (decide (k ≤ i) && shb p T d i)) → ∀ i, i < 32 → bt (sX6_shareOf_L14 M n x2 x3 x4) i = shb p T d i := by
  have hT := B.T12
  intro n
  induction n with
  | zero => intro k x2 x3 x4 _ h2; omega
  | succ n ih =>
    intro k x2 x3 x4 h1 h2 e4 e2 e3 i hi
    rw [sX6_shareOf_L14_s, isNote_nz B R]
    by_cases c1 : x4 < 0
    · rw [if_pos c1, e3 i hi]
      have : k = 0 := by
        rcases Nat.eq_zero_or_pos k with q | q
        · exact q
        · obtain ⟨j, rfl⟩ : ∃ j, k = j + 1 := ⟨k - 1, by omega⟩
          rw [e4, nI_pred] at c1
          exact absurd c1 (nI_pos (by omega))
      rw [this]; rfl
    · rw [if_neg c1]
      obtain ⟨g1, g2, g3⟩ := dn_b e4 h1 (by omega) c1
      obtain ⟨j, rfl⟩ : ∃ j, k = j + 1 := ⟨k - 1, by omega⟩
      have g2 : x4 = nI j := g2
      have hcn : cn p (T - j) j = cn p (T - (j + 1)) (j + 1) + (if 0 < p j then 1 else 0) := by
        rw [show T - j = (T - (j + 1)) + 1 by omega, cn]
      rw [g2, nz_nI (by omega)]
      rw [g2] at g3
      by_cases c2 : 0 < p j
      · rw [if_pos (decide_eq_true c2)]
        rw [if_pos c2] at hcn
        refine ih j _ _ _ (by omega) (by omega) g3 ?_ (fun i hi => ?_) i hi
        · rw [e2, pk_shrN (Nat.lt_of_le_of_lt (Nat.div_le_self _ _) hd) _ 1 (by decide), Nat.div_div_eq_div_mul, ← Nat.pow_add, hcn]
        · rw [b_or, e2, lowbit, bt_bIsh _ (by omega) hi, e3 i hi]
          by_cases c3 : i = j
          · rw [c3, decide_eq_true rfl, decide_eq_true (Nat.le_refl j), decide_eq_false (by omega)]
            unfold shb
            rw [decide_eq_true c2, Bool.and_true]; rfl
          · rw [decide_eq_false c3, Bool.and_false, Bool.or_false]
            have : decide (j + 1 ≤ i) = decide (j ≤ i) := decide_eq_decide.mpr (by omega)
            rw [this]
      · rw [if_neg (fun z => c2 (of_decide_eq_true z))]
        rw [if_neg c2] at hcn
        refine ih j _ _ _ (by omega) (by omega) g3 ?_ (fun i hi => ?_) i hi
        · rw [e2, hcn]; rfl
        · rw [e3 i hi]
          by_cases c3 : i = j
          · rw [c3]
            unfold shb
            rw [decide_eq_false c2, Bool.false_and, Bool.and_false, Bool.and_false]
          · have : decide (j + 1 ≤ i) = decide (j ≤ i) := decide_eq_decide.mpr (by omega)
            rw [this]
theorem shb_no (B : Lb T p w c b h) (d : Nat) {i : Nat} (hi : T ≤ i) : shb p T d i = false := by
  unfold shb; rw [B.p0 hi]; rfl
theorem sh_bt (B : Lb T p w c b h) (R : Lr T p w c b h (M.2 0)) (d : Nat) (hd : d < 2 ^ 31) : ∀ i, i < 32 → bt (sX6_shareOf M (nI d)) i = shb p T d i := by
  unfold sX6_shareOf
  rw [R.1]
  refine sh_L B R d hd 13 T _ _ _ (Nat.le_refl _) (by have := B.T12; omega) rfl ?_ (fun i hi => ?_)
  · rw [Nat.sub_self, cn, Nat.pow_zero, Nat.div_one]
  · rw [b_0]
    by_cases q : T ≤ i
    · rw [shb_no B d q, Bool.and_false]
    · rw [decide_eq_false q, Bool.false_and]
def itC {σ : Type} (f : σ → Int32 → σ) (M : MSt) : Nat → Nat → σ → σ
  | 0, _, st => st
  | m + 1, d, st => itC f M m (d + 1) (f st (sX6_shareOf M (nI d)))
theorem itC_add {σ : Type} (f : σ → Int32 → σ) (M : MSt) : ∀ (m n d : Nat) (st : σ), itC f M (m + n) d st = itC f M n (d + m) (itC f M m d st) := by
  intro m
  induction m with
  | zero => intro n d st; rw [Nat.zero_add]; rfl
  | succ m ih =>
    intro n d st
    rw [show m + 1 + n = (m + n) + 1 by omega, itC, itC, ih, show d + 1 + m = d + (m + 1) by omega]
theorem div_up {e x m : Nat} (h : e < x) : (2 ^ (e + 1) * m + 2 ^ e) / 2 ^ x = (2 ^ (e + 1) * m) / 2 ^ x := by
  obtain ⟨y, rfl⟩ : ∃ y, x = (e + 1) + y := ⟨x - (e + 1), by omega⟩
  have hp : 0 < 2 ^ (e + 1) := Nat.two_pow_pos _
  have hlt : 2 ^ e < 2 ^ (e + 1) := Nat.pow_lt_pow_right (by decide) (by omega)
  rw [Nat.pow_add 2 (e + 1) y, ← Nat.div_div_eq_div_mul, ← Nat.div_div_eq_div_mul, Nat.mul_add_div hp, Nat.div_eq_of_lt hlt, Nat.mul_div_cancel_left _ hp, Nat.add_zero]
theorem fS_it (B : Lb T p w c b h) (R : Lr T p w c b h (M.2 0)) {σ : Type} (f : σ → Int32 → σ) : ∀ (d k : Nat) (s : Int32) (m : Nat) (st : σ), k + d = T → 2 ^ cn p d k * m + 2 ^ cn p d k ≤ 2 ^ 20 → Pz k s → (∀ i, i < k → bt s i = shb p T (2 ^ cn p d k * m) i) → fS p f d k s st = itC f M (2 ^ cn p d k) (2 ^ cn p d k * m) st := by
  have hT := B.T12
  intro d
  induction d with
  | zero =>
    intro k s m st hk hm z hb
    rw [fS]
    show f st s = itC f M 1 (1 * m) st
    rw [itC, itC]
    have hm : m < 2 ^ 31 := by
      have : 2 ^ cn p 0 k * m + 2 ^ cn p 0 k = 1 * m + 1 := rfl
      omega
    congr 1
    refine b_ext (fun i hi => ?_)
    rw [Nat.one_mul, sh_bt B R m hm i hi]
    rcases Nat.lt_or_ge i k with q | q
    · have := hb i q
      rw [show 2 ^ cn p 0 k * m = m by show 1 * m = m; omega] at this
      exact this
    · rw [z i q hi, shb_no B m (by omega)]
  | succ d ih =>
    intro k s m st hk hm z hb
    rw [fS, cn]
    rw [cn] at hm hb
    by_cases c1 : 0 < p k
    · rw [if_pos c1, if_pos c1]
      rw [if_pos c1] at hm hb
      generalize he : cn p d (k + 1) = e at *
      have e2 : 2 ^ (e + 1) = 2 ^ e + 2 ^ e := by rw [Nat.pow_succ]; omega
      have e3 : 2 ^ (e + 1) * m = 2 ^ e * (2 * m) := by rw [Nat.pow_succ, Nat.mul_assoc]
      have e4 : 2 ^ e * (2 * m + 1) = 2 ^ (e + 1) * m + 2 ^ e := by rw [Nat.mul_add, e3, Nat.mul_one]
      have hTd : T - (k + 1) = d := by omega
      have pos : 0 < 2 ^ e := Nat.two_pow_pos _
      have b0 : shb p T (2 ^ (e + 1) * m) k = false := by
        unfold shb
        rw [hTd, he, e3, Nat.mul_div_cancel_left _ pos, decide_eq_false (show ¬ (2 * m) % 2 = 1 by omega), Bool.and_false]
      have b1 : shb p T (2 ^ e * (2 * m + 1)) k = true := by
        unfold shb
        rw [hTd, he, Nat.mul_div_cancel_left _ pos, decide_eq_true (show (2 * m + 1) % 2 = 1 by omega), decide_eq_true c1]; rfl
      have b2 : ∀ i, i < k → shb p T (2 ^ e * (2 * m + 1)) i = shb p T (2 ^ (e + 1) * m) i := by
        intro i hi
        unfold shb
        have hge : e + 1 ≤ cn p (T - (i + 1)) (i + 1) := by
          have h5 := cn_ge p (k - (i + 1)) (d + 1) (i + 1)
          rw [show i + 1 + (k - (i + 1)) = k by omega, show k - (i + 1) + (d + 1) = T - (i + 1) by omega, cn, if_pos c1, he] at h5
          exact h5
        rw [e4, div_up (by omega)]
      have i0 := ih (k + 1) s (2 * m) st (by omega) (by rw [he, ← e3]; omega) (Pz_s0 z) (fun i hi => by
        rw [he, ← e3]
        rcases Nat.eq_or_lt_of_le (Nat.le_of_lt_succ hi) with q | q
        · rw [q, b0]; exact z k (Nat.le_refl _) (by omega)
        · exact hb i q)
      rw [i0, he, ← e3, e2, itC_add]
      have i1 := ih (k + 1) (s ||| ((1 : Int32) <<< (nI k &&& 31))) (2 * m + 1) (itC f M (2 ^ e) (2 ^ (e + 1) * m) st) (by omega) (by rw [he, e4]; omega) (Pz_s1 (by omega) z) (fun i hi => by
        rw [he, bt_or1 s (by omega) (by omega)]
        rcases Nat.eq_or_lt_of_le (Nat.le_of_lt_succ hi) with q | q
        · rw [q, b1, decide_eq_true rfl, Bool.or_true]
        · rw [decide_eq_false (by omega), Bool.or_false, b2 i q]; exact hb i q)
      rw [he] at i1
      rw [← e2, i1, e4]
    · rw [if_neg c1, if_neg c1]
      rw [if_neg c1] at hm hb
      exact ih (k + 1) s m st (by omega) hm (Pz_s0 z) (fun i hi => by
        rcases Nat.eq_or_lt_of_le (Nat.le_of_lt_succ hi) with q | q
        · rw [q, z k (Nat.le_refl _) (by omega)]
          unfold shb
          rw [decide_eq_false c1]; rfl
        · exact hb i q)
/-- all shares, one by one: the search's order is that of the codes -/
theorem fS_all (B : Lb T p w c b h) (R : Lr T p w c b h (M.2 0)) {σ : Type} (f : σ → Int32 → σ) (st : σ) : fS p f T 0 0 st = itC f M (2 ^ pc (ntb p) T) 0 st := by
  have hT := B.T12
  have h1 := cn_pc p T 0
  have h2 := pc_le (ntb p) T
  have e : cn p T 0 = pc (ntb p) T := by
    have : pc (ntb p) 0 = 0 := rfl
    rw [Nat.zero_add] at h1
    omega
  have hp : 2 ^ pc (ntb p) T ≤ 2 ^ 12 := Nat.pow_le_pow_right (by decide) (by omega)
  have := fS_it B R f T 0 0 0 st (by omega) (by rw [e, Nat.mul_zero]; omega) Pz_z (fun i hi => by omega)
  rw [this, e, Nat.mul_zero]
theorem pow_eq (B : Lb T p w c b h) (R : Lr T p w c b h (M.2 0)) : (1 : Int32) <<< (sX6_notes M &&& 31) = nI (2 ^ pc (ntb p) T) ∧ 2 ^ pc (ntb p) T ≤ 4096 := by
  have hT := B.T12
  have h2 := pc_le (ntb p) T
  rw [notes_eq B R]
  exact pow_c _ (by omega)
/-! the reference's loops over all codes -/
def stB (M : MSt) : Int32 → Int32 → Int32 := fun x s => if sX6_isLawfulNow M s = true then (if x = (-9) then s else if sX6_isBetter M s x = true then s else x) else x
def fiB (M : MSt) (y x : Int32) : Int32 := if x = (-9) then ((-2000000) : Int32) else if y = 0 then sX6_likeness M x else if y = 1 then sX6_tilt M x else x
theorem best_L (B : Lb T p w c b h) (R : Lr T p w c b h (M.2 0)) (y : Int32) : ∀ (n k : Nat) (x : Int32), k ≤ 2 ^ pc (ntb p) T → 2 ^ pc (ntb p) T + 1 ≤ n + k → sX6_best_L17 M y n x (nI k) = fiB M y (itC (stB M) M (2 ^ pc (ntb p) T - k) k x) := by
  obtain ⟨e, hC⟩ := pow_eq B R
  intro n
  induction n with
  | zero => intro k x h1 h2; omega
  | succ n ih =>
    intro k x h1 h2
    rw [sX6_best_L17_s, e]
    by_cases c1 : nI (2 ^ pc (ntb p) T) ≤ nI k
    · rw [if_pos c1]
      have : ¬ k < 2 ^ pc (ntb p) T := fun q => nI_ge q (by omega) c1
      rw [show 2 ^ pc (ntb p) T - k = 0 by omega]; rfl
    · rw [if_neg c1, nI_1]
      have hlt : k < 2 ^ pc (ntb p) T := Nat.not_le.mp (fun q => c1 (nI_le q (by omega)))
      rw [show 2 ^ pc (ntb p) T - k = (2 ^ pc (ntb p) T - (k + 1)) + 1 by omega, itC]
      rw [ih (k + 1) (sX6_shareOf M (nI k)) (by omega) (by omega), ih (k + 1) x (by omega) (by omega)]
      unfold stB
      by_cases c2 : sX6_isLawfulNow M (sX6_shareOf M (nI k)) = true
      · rw [if_pos c2, if_pos c2]
        by_cases c3 : x = -9
        · rw [if_pos c3, if_pos c3]
        · rw [if_neg c3, if_neg c3]
          by_cases c4 : sX6_isBetter M (sX6_shareOf M (nI k)) x = true
          · rw [if_pos c4, if_pos c4]
          · rw [if_neg c4, if_neg c4]
      · rw [if_neg c2, if_neg c2]
def stN (M : MSt) (h : Int32) : Int32 → Int32 → Int32 := fun x s => if x = (-9) then (if sX6_isLawfulNow M s = true then s else x) else if sX6_ones (x ^^^ h) ≤ sX6_ones (s ^^^ h) then x else if sX6_isLawfulNow M s = true then s else x
theorem near_L (B : Lb T p w c b h) (R : Lr T p w c b h (M.2 0)) : ∀ (n k : Nat) (x : Int32), k ≤ 2 ^ pc (ntb p) T → 2 ^ pc (ntb p) T + 1 ≤ n + k → sX6_nearest_L5 M n x (nI k) = itC (stN M h) M (2 ^ pc (ntb p) T - k) k x := by
  obtain ⟨e, hC⟩ := pow_eq B R
  intro n
  induction n with
  | zero => intro k x h1 h2; omega
  | succ n ih =>
    intro k x h1 h2
    rw [sX6_nearest_L5_s, e, R.2.2.2.2.2]
    by_cases c1 : nI (2 ^ pc (ntb p) T) ≤ nI k
    · rw [if_pos c1]
      have : ¬ k < 2 ^ pc (ntb p) T := fun q => nI_ge q (by omega) c1
      rw [show 2 ^ pc (ntb p) T - k = 0 by omega]; rfl
    · rw [if_neg c1, nI_1]
      have hlt : k < 2 ^ pc (ntb p) T := Nat.not_le.mp (fun q => c1 (nI_le q (by omega)))
      rw [show 2 ^ pc (ntb p) T - k = (2 ^ pc (ntb p) T - (k + 1)) + 1 by omega, itC]
      rw [ih (k + 1) (sX6_shareOf M (nI k)) (by omega) (by omega), ih (k + 1) x (by omega) (by omega)]
      unfold stN
      by_cases c3 : x = -9
      · rw [if_pos c3, if_pos c3]
        by_cases c2 : sX6_isLawfulNow M (sX6_shareOf M (nI k)) = true
        · rw [if_pos c2, if_pos c2]
        · rw [if_neg c2, if_neg c2]
      · rw [if_neg c3, if_neg c3]
        by_cases c4 : sX6_ones (x ^^^ h) ≤ sX6_ones (sX6_shareOf M (nI k) ^^^ h)
        · rw [if_pos c4, if_pos c4]
        · rw [if_neg c4, if_neg c4]
          by_cases c2 : sX6_isLawfulNow M (sX6_shareOf M (nI k)) = true
          · rw [if_pos c2, if_pos c2]
          · rw [if_neg c2, if_neg c2]
def stO (M : MSt) (v : Int32) : Bool → Int32 → Bool := fun x s => x || sX6_isLawful M s v
theorem itO_t (M : MSt) (v : Int32) : ∀ (m d : Nat), itC (stO M v) M m d true = true := by
  intro m
  induction m with
  | zero => intro d; rfl
  | succ m ih => intro d; rw [itC]; exact ih (d + 1)
theorem slow_L (B : Lb T p w c b h) (R : Lr T p w c b h (M.2 0)) (v : Int32) (κ : Int32 → Int32) : ∀ (n k : Nat), k ≤ 2 ^ pc (ntb p) T → 2 ^ pc (ntb p) T + 1 ≤ n + k → sX6_slowest_L8 M v κ n (nI k) = if itC (stO M v) M (2 ^ pc (ntb p) T - k) k false = true then v else κ (v + (-1)) := by
  obtain ⟨e, hC⟩ := pow_eq B R
  intro n
  induction n with
  | zero => intro k h1 h2; omega
  | succ n ih =>
    intro k h1 h2
    rw [sX6_slowest_L8_s, e]
    by_cases c1 : nI (2 ^ pc (ntb p) T) ≤ nI k
    · rw [if_pos c1]
      have : ¬ k < 2 ^ pc (ntb p) T := fun q => nI_ge q (by omega) c1
      rw [show 2 ^ pc (ntb p) T - k = 0 by omega]; rfl
    · rw [if_neg c1, nI_1]
      have hlt : k < 2 ^ pc (ntb p) T := Nat.not_le.mp (fun q => c1 (nI_le q (by omega)))
      rw [show 2 ^ pc (ntb p) T - k = (2 ^ pc (ntb p) T - (k + 1)) + 1 by omega, itC]
      by_cases c2 : sX6_isLawful M (sX6_shareOf M (nI k)) v = true
      · rw [if_pos c2, show stO M v false (sX6_shareOf M (nI k)) = true from c2, itO_t, if_pos rfl]
      · rw [if_neg c2, show stO M v false (sX6_shareOf M (nI k)) = false from Bool.eq_false_iff.mpr c2]
        exact ih (k + 1) (by omega) (by omega)
end
