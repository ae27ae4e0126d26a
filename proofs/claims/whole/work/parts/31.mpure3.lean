/-! the reference's text: blanks, rows of figures, words -/
theorem at_ix {S : MSt} (h : ∃ n a : Nat, S.1 2 = nI n ∧ n ≤ 120 ∧ S.1 3 = nI a ∧ a ≤ n) (c : ¬ S.1 2 ≤ S.1 3) : vp_in (S.1 3) 120 := by
  obtain ⟨n, a, h1, h2, h3, h4⟩ := h
  have := up_lt h3 h1 (by omega) c
  exact up_in h3 (by omega) (by decide)
theorem at_ix2 {S : MSt} {lo hi : Int32} (h : ∃ n a : Nat, S.1 2 = nI n ∧ n ≤ 120 ∧ S.1 3 = nI a ∧ a ≤ n) (c : sX6_isAt S lo hi = true) : vp_in (S.1 3) 120 := by
  refine at_ix h (fun q => ?_)
  unfold sX6_isAt at c
  rw [if_pos q] at c
  cases c
theorem isAt_eq {S : MSt} {n a : Nat} (l : S.1 2 = nI n) (hn : n ≤ 120) (e : S.1 3 = nI a) (ha : a ≤ n) (lo hi : Int32) : sX6_isAt S lo hi = (decide (a < n) && sX6_within (S.2 7 a) lo hi) := by
  unfold sX6_isAt
  by_cases q : S.1 2 ≤ S.1 3
  · rw [if_pos q]
    have : ¬ a < n := fun z => by rw [l, e] at q; exact nI_ge z (by omega) q
    rw [decide_eq_false this]; rfl
  · rw [if_neg q]
    have hlt := up_lt e l (by omega) q
    rw [decide_eq_true hlt, e, nI_clamp (by omega)]
    cases sX6_within (S.2 7 a) lo hi <;> rfl
/-- all but at and mark is as it was -/
def mAg (S R : MSt) : Prop := R.2 = S.2 ∧ R.1 0 = S.1 0 ∧ R.1 1 = S.1 1 ∧ R.1 2 = S.1 2 ∧ R.1 5 = S.1 5
theorem mAg.rf (S : MSt) : mAg S S := ⟨rfl, rfl, rfl, rfl, rfl⟩
theorem mAg.tr {S R Q : MSt} (h : mAg S R) (k : mAg R Q) : mAg S Q := ⟨k.1.trans h.1, k.2.1.trans h.2.1, k.2.2.1.trans h.2.2.1, k.2.2.2.1.trans h.2.2.2.1, k.2.2.2.2.trans h.2.2.2.2⟩
def bl (t : Nat → Int32) : Nat → Bool := fun j => decide (t j = 32)
theorem sk_L (n : Nat) (hn : n ≤ 120) : ∀ (f : Nat) (Y : MSt) (k : Nat), Y.1 2 = nI n → Y.1 3 = nI k → k ≤ n → 120 + 1 ≤ f + k → (sX6_skips_L0 f Y).1 3 = nI (rn (bl (Y.2 7)) n k) ∧ (sX6_skips_L0 f Y).1 4 = nI (rn (bl (Y.2 7)) n k) ∧ mAg Y (sX6_skips_L0 f Y) := by
  intro f
  induction f with
  | zero => intro Y k _ _ h1 h2; omega
  | succ f ih =>
    intro Y k l e hk hf
    rw [sX6_skips_L0_s]
    by_cases q : Y.1 2 ≤ Y.1 3
    · rw [if_pos q]
      have hge : ¬ k < n := fun z => by rw [l, e] at q; exact nI_ge z (by omega) q
      rw [rn_st (fun z => hge z.1)]
      exact ⟨e, e, rfl, rfl, rfl, rfl, rfl⟩
    · rw [if_neg q]
      have hlt := up_lt e l (by omega) q
      by_cases q2 : (Y.2 7) ((Y.1 3)).toNatClampNeg = 32
      · rw [if_pos q2]
        rw [e, nI_clamp (by omega)] at q2
        rw [rn_go hlt (show bl (Y.2 7) k = true from decide_eq_true q2)]
        exact ih ((upd Y.1 3 ((Y.1 3) + 1)), Y.2) (k + 1) l (up_s e) (by omega) (by omega)
      · rw [if_neg q2]
        rw [e, nI_clamp (by omega)] at q2
        rw [rn_st (fun z => q2 (of_decide_eq_true z.2))]
        exact ⟨e, e, rfl, rfl, rfl, rfl, rfl⟩
theorem sk_ok {S : MSt} {n a : Nat} (l : S.1 2 = nI n) (hn : n ≤ 120) (e : S.1 3 = nI a) (ha : a ≤ n) : (sX6_skips S).1 3 = nI (rn (bl (S.2 7)) n a) ∧ (sX6_skips S).1 4 = nI (rn (bl (S.2 7)) n a) ∧ mAg S (sX6_skips S) := sk_L n hn 121 S a l e ha (by omega)
theorem sk_X {S : MSt} (h : ∃ n a : Nat, S.1 2 = nI n ∧ n ≤ 120 ∧ S.1 3 = nI a ∧ a ≤ n) : ∃ n a : Nat, (sX6_skips S).1 2 = nI n ∧ n ≤ 120 ∧ (sX6_skips S).1 3 = nI a ∧ a ≤ n := by
  obtain ⟨n, a, h1, h2, h3, h4⟩ := h
  obtain ⟨k1, -, k3⟩ := sk_ok h1 h2 h3 h4
  exact ⟨n, _, k3.2.2.2.1.trans h1, h2, k1, rn_le h4⟩
theorem t_0 {S : MSt} (h : ∃ n a : Nat, S.1 2 = nI n ∧ n ≤ 120 ∧ S.1 3 = nI a ∧ a ≤ n) : ∃ n k : Nat, S.1 2 = nI n ∧ n ≤ 120 ∧ S.1 3 = nI k ∧ k ≤ n ∧ 120 + 1 ≤ 121 + k := by
  obtain ⟨n, a, h1, h2, h3, h4⟩ := h
  exact ⟨n, a, h1, h2, h3, h4, by omega⟩
theorem t_X {S : MSt} {f : Nat} (h : ∃ n k : Nat, S.1 2 = nI n ∧ n ≤ 120 ∧ S.1 3 = nI k ∧ k ≤ n ∧ 120 + 1 ≤ f + k) : ∃ n a : Nat, S.1 2 = nI n ∧ n ≤ 120 ∧ S.1 3 = nI a ∧ a ≤ n := by
  obtain ⟨n, a, h1, h2, h3, h4, -⟩ := h
  exact ⟨n, a, h1, h2, h3, h4⟩
theorem isAt_lt {S : MSt} {n a : Nat} (l : S.1 2 = nI n) (hn : n ≤ 120) (e : S.1 3 = nI a) (ha : a ≤ n) {lo hi : Int32} (c : sX6_isAt S lo hi = true) : a < n ∧ sX6_within (S.2 7 a) lo hi = true := by
  rw [isAt_eq l hn e ha] at c
  obtain ⟨h1, h2⟩ := Bool.and_eq_true_iff.mp c
  exact ⟨of_decide_eq_true h1, h2⟩
theorem t_s {Y : MSt} {f : Nat} {lo hi : Int32} (h : ∃ n k : Nat, Y.1 2 = nI n ∧ n ≤ 120 ∧ Y.1 3 = nI k ∧ k ≤ n ∧ 120 + 1 ≤ f + 1 + k) (c : sX6_isAt Y lo hi = true) : ∃ n k : Nat, ((upd Y.1 3 ((Y.1 3) + 1)), Y.2).1 2 = nI n ∧ n ≤ 120 ∧ ((upd Y.1 3 ((Y.1 3) + 1)), Y.2).1 3 = nI k ∧ k ≤ n ∧ 120 + 1 ≤ f + k := by
  obtain ⟨n, a, h1, h2, h3, h4, h5⟩ := h
  have := (isAt_lt h1 h2 h3 h4 c).1
  exact ⟨n, a + 1, h1, h2, up_s h3, by omega, by omega⟩
def dgt (t : Nat → Int32) : Nat → Bool := fun j => sX6_within (t j) 48 57
def low (t : Nat → Int32) : Nat → Bool := fun j => sX6_within (t j) 97 122
theorem isAt_no {S : MSt} {n a : Nat} (l : S.1 2 = nI n) (hn : n ≤ 120) (e : S.1 3 = nI a) (ha : a ≤ n) {lo hi : Int32} (c : ¬ sX6_isAt S lo hi = true) : ¬ (a < n ∧ sX6_within (S.2 7 a) lo hi = true) := by
  intro z
  apply c
  rw [isAt_eq l hn e ha, decide_eq_true z.1, z.2]; rfl
theorem fg_L (p : Int32) (n : Nat) (hn : n ≤ 120) : ∀ (f : Nat) (b : Bool) (Y : MSt) (k mk : Nat), Y.1 2 = nI n → Y.1 3 = nI k → k ≤ n → Y.1 4 = nI mk → mk ≤ k → 120 + 1 ≤ f + k →
    (sX6_figures_L6 p f b Y).2.1 3 = nI (rn (dgt (Y.2 7)) n k) ∧ (sX6_figures_L6 p f b Y).2.1 4 = nI mk ∧ mAg Y (sX6_figures_L6 p f b Y).2 ∧
    (b = true → (∀ j, k ≤ j → j < rn (dgt (Y.2 7)) n k → ¬ p < (Y.2 7) j - 48) → mk < rn (dgt (Y.2 7)) n k → (sX6_figures_L6 p f b Y).1 = nI (rn (dgt (Y.2 7)) n k - mk)) ∧
    ((b = false ∨ (∃ j, k ≤ j ∧ j < rn (dgt (Y.2 7)) n k ∧ p < (Y.2 7) j - 48) ∨ rn (dgt (Y.2 7)) n k ≤ mk) → (sX6_figures_L6 p f b Y).1 = -1) := by
  intro f
  induction f with
  | zero => intro b Y k mk _ _ h1 _ _ h2; omega
  | succ f ih =>
    intro b Y k mk l e hk em hm hf
    rw [sX6_figures_L6_s]
    by_cases q : sX6_isAt Y 48 57 = true
    · rw [if_pos q]
      obtain ⟨hlt, hd⟩ := isAt_lt l hn e hk q
      have hrn : rn (dgt (Y.2 7)) n k = rn (dgt (Y.2 7)) n (k + 1) := rn_go hlt hd
      have hge : k + 1 ≤ rn (dgt (Y.2 7)) n (k + 1) := rn_ge hlt
      have hcl : ((Y.2 7) ((Y.1 3)).toNatClampNeg) = (Y.2 7) k := by rw [e, nI_clamp (by omega)]
      rw [hcl, hrn]
      cases b with
      | false =>
        rw [if_neg (by decide)]
        obtain ⟨i1, i2, i3, i4, i5⟩ := ih false ((upd Y.1 3 ((Y.1 3) + 1)), Y.2) (k + 1) mk l (up_s e) hlt em (by omega) (by omega)
        exact ⟨i1, i2, i3, (fun z => by cases z), fun _ => i5 (Or.inl rfl)⟩
      | true =>
        rw [if_pos rfl]
        by_cases q2 : p < (Y.2 7) k - 48
        · rw [if_pos q2]
          obtain ⟨i1, i2, i3, i4, i5⟩ := ih false ((upd Y.1 3 ((Y.1 3) + 1)), Y.2) (k + 1) mk l (up_s e) hlt em (by omega) (by omega)
          exact ⟨i1, i2, i3, fun _ z => absurd q2 (z k (Nat.le_refl _) (by omega)), fun _ => i5 (Or.inl rfl)⟩
        · rw [if_neg q2]
          obtain ⟨i1, i2, i3, i4, i5⟩ := ih true ((upd Y.1 3 ((Y.1 3) + 1)), Y.2) (k + 1) mk l (up_s e) hlt em (by omega) (by omega)
          refine ⟨i1, i2, i3, fun _ z w => i4 rfl (fun j h1 h2 => z j (by omega) h2) w, fun z => i5 ?_⟩
          rcases z with z | ⟨j, h1, h2, h3⟩ | z
          · cases z
          · rcases Nat.eq_or_lt_of_le h1 with w | w
            · rw [← w] at h3; exact absurd h3 q2
            · exact Or.inr (Or.inl ⟨j, w, h2, h3⟩)
          · exact Or.inr (Or.inr z)
    · rw [if_neg q]
      have hrn : rn (dgt (Y.2 7)) n k = k := rn_st (isAt_no l hn e hk q)
      rw [hrn]
      cases b with
      | false => rw [if_neg (by decide)]; exact ⟨e, em, mAg.rf Y, (fun z => by cases z), fun _ => rfl⟩
      | true =>
        rw [if_pos rfl]
        by_cases q2 : Y.1 3 ≤ Y.1 4
        · rw [if_pos q2]
          refine ⟨e, em, mAg.rf Y, fun _ _ z => ?_, fun _ => rfl⟩
          rw [e, em] at q2
          exact absurd q2 (nI_ge z (by omega))
        · rw [if_neg q2]
          refine ⟨e, em, mAg.rf Y, fun _ _ z => ?_, fun z => ?_⟩
          · show Y.1 3 - Y.1 4 = _
            rw [e, em, pk_sub hm]
          · rcases z with z | ⟨j, h1, h2, h3⟩ | z
            · cases z
            · omega
            · refine absurd ?_ q2
              rw [e, em]; exact nI_le z (by omega)
/-- a row of figures: where it begins, where it ends, how many there are -/
theorem fg_ok {S : MSt} {n a : Nat} (p : Int32) (l : S.1 2 = nI n) (hn : n ≤ 120) (e : S.1 3 = nI a) (ha : a ≤ n) :
    (sX6_figures S p).2.1 3 = nI (rn (dgt (S.2 7)) n (rn (bl (S.2 7)) n a)) ∧ (sX6_figures S p).2.1 4 = nI (rn (bl (S.2 7)) n a) ∧ mAg S (sX6_figures S p).2 ∧
    ((∀ j, rn (bl (S.2 7)) n a ≤ j → j < rn (dgt (S.2 7)) n (rn (bl (S.2 7)) n a) → ¬ p < (S.2 7) j - 48) → rn (bl (S.2 7)) n a < rn (dgt (S.2 7)) n (rn (bl (S.2 7)) n a) → (sX6_figures S p).1 = nI (rn (dgt (S.2 7)) n (rn (bl (S.2 7)) n a) - rn (bl (S.2 7)) n a)) ∧
    (((∃ j, rn (bl (S.2 7)) n a ≤ j ∧ j < rn (dgt (S.2 7)) n (rn (bl (S.2 7)) n a) ∧ p < (S.2 7) j - 48) ∨ rn (dgt (S.2 7)) n (rn (bl (S.2 7)) n a) ≤ rn (bl (S.2 7)) n a) → (sX6_figures S p).1 = -1) := by
  obtain ⟨k1, k2, k3⟩ := sk_ok l hn e ha
  have h := fg_L p n hn 121 true (sX6_skips S) (rn (bl (S.2 7)) n a) (rn (bl (S.2 7)) n a) (k3.2.2.2.1.trans l) k1 (rn_le ha) k2 (Nat.le_refl _) (by omega)
  rw [k3.1] at h
  exact ⟨h.1, h.2.1, k3.tr h.2.2.1, h.2.2.2.1 rfl, fun z => h.2.2.2.2 (Or.inr z)⟩
/-- the number of a word's first m letters -/
def wc (t : Nat → Int32) (mk : Nat) : Nat → Int32
  | 0 => 0
  | m + 1 => if m ≤ 4 then ((((27 : Int32) * wc t mk m) + t (mk + m)) - 97) + 1 else 0
def wres (m : Nat) (c : Int32) : Int32 :=
  if m ≤ 5 then (if c = 1503 then 4 else if c = 243140 then 0 else if c = 453701 then 2 else if c = 4281544 then 1 else if c = 9665171 then 3 else -9) else -9
theorem wp_L (n : Nat) (hn : n ≤ 120) (mk : Nat) : ∀ (f : Nat) (x : Int32) (Y : MSt) (k : Nat), Y.1 2 = nI n → Y.1 3 = nI k → k ≤ n → Y.1 4 = nI mk → mk ≤ k → x = wc (Y.2 7) mk (k - mk) → 120 + 1 ≤ f + k →
    (sX6_wordPassed_L6 f x Y).2.1 3 = nI (rn (low (Y.2 7)) n k) ∧ (sX6_wordPassed_L6 f x Y).2.1 4 = nI mk ∧ mAg Y (sX6_wordPassed_L6 f x Y).2 ∧ (sX6_wordPassed_L6 f x Y).1 = wres (rn (low (Y.2 7)) n k - mk) (wc (Y.2 7) mk (rn (low (Y.2 7)) n k - mk)) := by
  intro f
  induction f with
  | zero => intro x Y k _ _ h1 _ _ _ h2; omega
  | succ f ih =>
    intro x Y k l e hk em hm hx hf
    rw [sX6_wordPassed_L6_s]
    have hd : (Y.1 3) - (Y.1 4) = nI (k - mk) := by rw [e, em, pk_sub hm]
    by_cases q : sX6_isAt Y 97 122 = true
    · rw [if_pos q]
      obtain ⟨hlt, hw⟩ := isAt_lt l hn e hk q
      have hrn : rn (low (Y.2 7)) n k = rn (low (Y.2 7)) n (k + 1) := rn_go hlt hw
      have hcl : ((Y.2 7) ((Y.1 3)).toNatClampNeg) = (Y.2 7) k := by rw [e, nI_clamp (by omega)]
      rw [hcl, hrn, hd]
      have hs : k + 1 - mk = (k - mk) + 1 := by omega
      have hk2 : mk + (k - mk) = k := by omega
      by_cases q2 : nI (k - mk) ≤ 4
      · rw [if_pos q2]
        have q3 : k - mk ≤ 4 := (nI_leI (b := 4) (by omega) (by decide)).mp q2
        exact ih _ ((upd Y.1 3 ((Y.1 3) + 1)), Y.2) (k + 1) l (up_s e) hlt em (by omega) (by rw [hs, wc, if_pos q3, hk2, hx]) (by omega)
      · rw [if_neg q2]
        have q3 : ¬ k - mk ≤ 4 := fun z => q2 ((nI_leI (b := 4) (by omega) (by decide)).mpr z)
        exact ih _ ((upd Y.1 3 ((Y.1 3) + 1)), Y.2) (k + 1) l (up_s e) hlt em (by omega) (by rw [hs, wc, if_neg q3]) (by omega)
    · rw [if_neg q]
      have hrn : rn (low (Y.2 7)) n k = k := rn_st (isAt_no l hn e hk q)
      rw [hrn, hd, ← hx]
      unfold wres
      by_cases q2 : nI (k - mk) ≤ 5
      · have q3 : k - mk ≤ 5 := (nI_leI (b := 5) (by omega) (by decide)).mp q2
        rw [if_pos q2, if_pos q3]
        by_cases z1 : x = 1503
        · rw [if_pos z1, if_pos z1]; exact ⟨e, em, mAg.rf Y, rfl⟩
        · rw [if_neg z1, if_neg z1]
          by_cases z2 : x = 243140
          · rw [if_pos z2, if_pos z2]; exact ⟨e, em, mAg.rf Y, rfl⟩
          · rw [if_neg z2, if_neg z2]
            by_cases z3 : x = 453701
            · rw [if_pos z3, if_pos z3]; exact ⟨e, em, mAg.rf Y, rfl⟩
            · rw [if_neg z3, if_neg z3]
              by_cases z4 : x = 4281544
              · rw [if_pos z4, if_pos z4]; exact ⟨e, em, mAg.rf Y, rfl⟩
              · rw [if_neg z4, if_neg z4]
                by_cases z5 : x = 9665171
                · rw [if_pos z5, if_pos z5]; exact ⟨e, em, mAg.rf Y, rfl⟩
                · rw [if_neg z5, if_neg z5]; exact ⟨e, em, mAg.rf Y, rfl⟩
      · have q3 : ¬ k - mk ≤ 5 := fun z => q2 ((nI_leI (b := 5) (by omega) (by decide)).mpr z)
        rw [if_neg q2, if_neg q3]; exact ⟨e, em, mAg.rf Y, rfl⟩
theorem wp_ok {S : MSt} {n a : Nat} (l : S.1 2 = nI n) (hn : n ≤ 120) (e : S.1 3 = nI a) (ha : a ≤ n) :
    (sX6_wordPassed S).2.1 3 = nI (rn (low (S.2 7)) n (rn (bl (S.2 7)) n a)) ∧ (sX6_wordPassed S).2.1 4 = nI (rn (bl (S.2 7)) n a) ∧ mAg S (sX6_wordPassed S).2 ∧ (sX6_wordPassed S).1 = wres (rn (low (S.2 7)) n (rn (bl (S.2 7)) n a) - rn (bl (S.2 7)) n a) (wc (S.2 7) (rn (bl (S.2 7)) n a) (rn (low (S.2 7)) n (rn (bl (S.2 7)) n a) - rn (bl (S.2 7)) n a)) := by
  obtain ⟨k1, k2, k3⟩ := sk_ok l hn e ha
  have h := wp_L n hn (rn (bl (S.2 7)) n a) 121 0 (sX6_skips S) (rn (bl (S.2 7)) n a) (k3.2.2.2.1.trans l) k1 (rn_le ha) k2 (Nat.le_refl _) (by rw [Nat.sub_self]; rfl) (by omega)
  rw [k3.1] at h
  exact ⟨h.1, h.2.1, k3.tr h.2.2.1, h.2.2.2⟩
