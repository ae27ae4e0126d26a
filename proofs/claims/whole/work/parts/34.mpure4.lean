/-! the reference's items: what they do to the state -/
def TXK (S : MSt) (n a : Nat) : Prop := S.1 2 = nI n ∧ n ≤ 120 ∧ S.1 3 = nI a ∧ a ≤ n
def mAg2 (S R : MSt) : Prop := (∀ j, j ≠ 1 → R.2 j = S.2 j) ∧ R.1 0 = S.1 0 ∧ R.1 1 = S.1 1 ∧ R.1 2 = S.1 2
theorem mAg2.rf (S : MSt) : mAg2 S S := ⟨fun _ _ => rfl, rfl, rfl, rfl⟩
theorem mAg2.tr {S R Q : MSt} (h : mAg2 S R) (k : mAg2 R Q) : mAg2 S Q := ⟨fun j hj => (k.1 j hj).trans (h.1 j hj), k.2.1.trans h.2.1, k.2.2.1.trans h.2.2.1, k.2.2.2.trans h.2.2.2⟩
theorem mAg.two {S R : MSt} (h : mAg S R) : mAg2 S R := ⟨fun _ _ => by rw [h.1], h.2.1, h.2.2.1, h.2.2.2.1⟩
theorem within_iff {x lo hi : Int32} : sX6_within x lo hi = true ↔ ¬ x < lo ∧ ¬ hi < x := by
  unfold sX6_within
  by_cases c1 : x < lo
  · rw [if_pos c1]; exact ⟨(fun h => by cases h), fun h => absurd c1 h.1⟩
  · rw [if_neg c1]
    by_cases c2 : hi < x
    · rw [if_pos c2]; exact ⟨(fun h => by cases h), fun h => absurd c2 h.2⟩
    · rw [if_neg c2]; exact ⟨fun _ => ⟨c1, c2⟩, fun _ => rfl⟩
/-- a row of figures is one, or there is none such -/
theorem fg_or {S : MSt} {n a : Nat} (p : Int32) (h : TXK S n a) : (sX6_figures S p).1 = -1 ∨ (rn (bl (S.2 7)) n a < rn (dgt (S.2 7)) n (rn (bl (S.2 7)) n a) ∧ (sX6_figures S p).1 = nI (rn (dgt (S.2 7)) n (rn (bl (S.2 7)) n a) - rn (bl (S.2 7)) n a)) := by
  obtain ⟨l, hn, e, ha⟩ := h
  obtain ⟨-, -, -, h4, h5⟩ := fg_ok p l hn e ha
  by_cases q : (∃ j, rn (bl (S.2 7)) n a ≤ j ∧ j < rn (dgt (S.2 7)) n (rn (bl (S.2 7)) n a) ∧ p < (S.2 7) j - 48) ∨ rn (dgt (S.2 7)) n (rn (bl (S.2 7)) n a) ≤ rn (bl (S.2 7)) n a
  · exact Or.inl (h5 q)
  · have q1 : ∀ j, rn (bl (S.2 7)) n a ≤ j → j < rn (dgt (S.2 7)) n (rn (bl (S.2 7)) n a) → ¬ p < (S.2 7) j - 48 := fun j z1 z2 z3 => q (Or.inl ⟨j, z1, z2, z3⟩)
    have q2 : rn (bl (S.2 7)) n a < rn (dgt (S.2 7)) n (rn (bl (S.2 7)) n a) := Nat.not_le.mp (fun z => q (Or.inr z))
    exact Or.inr ⟨q2, h4 q1 q2⟩
theorem fg_X {S : MSt} {n a : Nat} (p : Int32) (h : TXK S n a) : TXK (sX6_figures S p).2 n (rn (dgt (S.2 7)) n (rn (bl (S.2 7)) n a)) ∧ (sX6_figures S p).2.1 4 = nI (rn (bl (S.2 7)) n a) ∧ mAg S (sX6_figures S p).2 ∧ a ≤ rn (bl (S.2 7)) n a ∧ rn (bl (S.2 7)) n a ≤ rn (dgt (S.2 7)) n (rn (bl (S.2 7)) n a) ∧ rn (dgt (S.2 7)) n (rn (bl (S.2 7)) n a) ≤ n := by
  obtain ⟨l, hn, e, ha⟩ := h
  obtain ⟨h1, h2, h3, -⟩ := fg_ok p l hn e ha
  have b1 : rn (bl (S.2 7)) n a ≤ n := rn_le ha
  have b2 : rn (dgt (S.2 7)) n (rn (bl (S.2 7)) n a) ≤ n := rn_le b1
  exact ⟨⟨h3.2.2.2.1.trans l, hn, h1, b2⟩, h2, h3, rn_ge ha, rn_ge b1, b2⟩
theorem fg_w {S : MSt} (p : Int32) (h : ∃ n a : Nat, S.1 2 = nI n ∧ n ≤ 120 ∧ S.1 3 = nI a ∧ a ≤ n) (c : sX6_within (sX6_figures S p).1 1 12 = true) : ∃ w mk : Nat, (sX6_figures S p).1 = nI w ∧ w ≤ 12 ∧ (sX6_figures S p).2.1 4 = nI mk ∧ mk + w ≤ 120 := by
  obtain ⟨n, a, hx⟩ := h
  have hx : TXK S n a := hx
  obtain ⟨c1, c2⟩ := within_iff.mp c
  obtain ⟨-, f2, -, -, f5, f6⟩ := fg_X p hx
  have hn := hx.2.1
  rcases fg_or p hx with q | ⟨q1, q2⟩
  · rw [q] at c1; exact absurd (by decide) c1
  · refine ⟨_, _, q2, ?_, f2, by omega⟩
    rw [q2] at c2
    rcases Nat.lt_or_ge 12 (rn (dgt (S.2 7)) n (rn (bl (S.2 7)) n a) - rn (bl (S.2 7)) n a) with z | z
    · exact absurd (nI_lt (a := 12) z (by omega)) c2
    · exact z
theorem rh_w {S : MSt} (h : ∃ n a : Nat, S.1 2 = nI n ∧ n ≤ 120 ∧ S.1 3 = nI a ∧ a ≤ n) (hF : ∃ T : Nat, S.2 1 0 = nI T ∧ T ≤ 12) (c : (sX6_figures S 1).1 = ((sX6_figures S 1).2.2 1) 0) : ∃ T mk : Nat, ((sX6_figures S 1).2.2 1) 0 = nI T ∧ T ≤ 12 ∧ (sX6_figures S 1).2.1 4 = nI mk ∧ mk + T ≤ 120 := by
  obtain ⟨n, a, hx⟩ := h
  have hx : TXK S n a := hx
  obtain ⟨T, eT, hT⟩ := hF
  obtain ⟨-, f2, f3, -, f5, f6⟩ := fg_X 1 hx
  have hn := hx.2.1
  rw [f3.1] at c ⊢
  rcases fg_or 1 hx with q | ⟨q1, q2⟩
  · rw [q, eT] at c
    exact absurd c (by intro z; have := nI_pos' (n := T) (by omega); rw [← z] at this; exact absurd this (by decide))
  · rw [q2, eT] at c
    have := (nI_eq (by omega) (by omega)).mp c
    exact ⟨T, _, eT, hT, f2, by omega⟩
theorem rn_ix {S : MSt} {p : Int32} (h : ∃ n a : Nat, S.1 2 = nI n ∧ n ≤ 120 ∧ S.1 3 = nI a ∧ a ≤ n) (c : (sX6_figures S p).1 = 1) : vp_in ((sX6_figures S p).2.1 4) 120 := by
  obtain ⟨n, a, hx⟩ := h
  have hx : TXK S n a := hx
  obtain ⟨-, f2, -, -, f5, f6⟩ := fg_X p hx
  have hn := hx.2.1
  rcases fg_or p hx with q | ⟨q1, q2⟩
  · rw [q] at c; exact absurd c (by decide)
  · rw [f2]; exact vp_in_nI (by omega) (by decide)
theorem mk_ix {Y : MSt} {x : Int32} {mk k : Nat} (m : Y.1 4 = nI mk) (e : x = nI k) (h : mk + k < 120) : vp_in (Y.1 4 + x) 120 := by
  rw [m, e, nI_add]; exact vp_in_nI h (by decide)
theorem p4_ix {x : Int32} {k : Nat} (e : x = nI k) (h : k < 13) : vp_in (4 + x) 17 := by
  rw [e, show (4 : Int32) + nI k = nI (4 + k) from nI_add 4 k]; exact vp_in_nI (by omega) (by decide)
theorem wh_ix {p : Int32} (h : ∃ w : Nat, p = nI w ∧ w ≤ 3) : vp_in p 17 := by
  obtain ⟨w, e, hw⟩ := h
  exact up_in e (by omega) (by decide)
theorem wp_K {S : MSt} {n a : Nat} (h : TXK S n a) : TXK (sX6_wordPassed S).2 n (rn (low (S.2 7)) n (rn (bl (S.2 7)) n a)) ∧ (sX6_wordPassed S).2.1 4 = nI (rn (bl (S.2 7)) n a) ∧ mAg S (sX6_wordPassed S).2 ∧ a ≤ rn (bl (S.2 7)) n a ∧ rn (bl (S.2 7)) n a ≤ rn (low (S.2 7)) n (rn (bl (S.2 7)) n a) ∧ rn (low (S.2 7)) n (rn (bl (S.2 7)) n a) ≤ n := by
  obtain ⟨l, hn, e, ha⟩ := h
  obtain ⟨h1, h2, h3, -⟩ := wp_ok l hn e ha
  have b1 : rn (bl (S.2 7)) n a ≤ n := rn_le ha
  have b2 : rn (low (S.2 7)) n (rn (bl (S.2 7)) n a) ≤ n := rn_le b1
  exact ⟨⟨h3.2.2.2.1.trans l, hn, h1, b2⟩, h2, h3, rn_ge ha, rn_ge b1, b2⟩
theorem wp_X {S : MSt} (h : ∃ n a : Nat, S.1 2 = nI n ∧ n ≤ 120 ∧ S.1 3 = nI a ∧ a ≤ n) : ∃ n a : Nat, (sX6_wordPassed S).2.1 2 = nI n ∧ n ≤ 120 ∧ (sX6_wordPassed S).2.1 3 = nI a ∧ a ≤ n := by
  obtain ⟨n, a, hx⟩ := h
  exact ⟨n, _, (wp_K (show TXK S n a from hx)).1⟩
theorem wp_F {S : MSt} (h : ∃ n a : Nat, S.1 2 = nI n ∧ n ≤ 120 ∧ S.1 3 = nI a ∧ a ≤ n) (hF : ∃ T : Nat, S.2 1 0 = nI T ∧ T ≤ 12) : ∃ T : Nat, (sX6_wordPassed S).2.2 1 0 = nI T ∧ T ≤ 12 := by
  obtain ⟨n, a, hx⟩ := h
  rw [(wp_K (show TXK S n a from hx)).2.2.1.1]; exact hF
theorem wres_in (m : Nat) (c : Int32) : wres m c = -9 ∨ ∃ w : Nat, wres m c = nI w ∧ w ≤ 4 := by
  unfold wres
  repeat' split
  · exact Or.inr ⟨4, rfl, by decide⟩
  · exact Or.inr ⟨0, rfl, by decide⟩
  · exact Or.inr ⟨2, rfl, by decide⟩
  · exact Or.inr ⟨1, rfl, by decide⟩
  · exact Or.inr ⟨3, rfl, by decide⟩
  · exact Or.inl rfl
  · exact Or.inl rfl
theorem wp_w {S : MSt} (h : ∃ n a : Nat, S.1 2 = nI n ∧ n ≤ 120 ∧ S.1 3 = nI a ∧ a ≤ n) (c1 : ¬ (sX6_wordPassed S).1 = -9) (c2 : ¬ (sX6_wordPassed S).1 = 0) (c3 : ¬ (sX6_wordPassed S).1 = 1) : ∃ w : Nat, (sX6_wordPassed S).1 - 1 = nI w ∧ w ≤ 3 := by
  obtain ⟨n, a, l, hn, e, ha⟩ := h
  have hr := (wp_ok l hn e ha).2.2.2
  rcases wres_in (rn (low (S.2 7)) n (rn (bl (S.2 7)) n a) - rn (bl (S.2 7)) n a) (wc (S.2 7) (rn (bl (S.2 7)) n a) (rn (low (S.2 7)) n (rn (bl (S.2 7)) n a) - rn (bl (S.2 7)) n a)) with q | ⟨w, q, hw⟩
  · exact absurd (hr.trans q) c1
  · rw [hr, q]
    rcases Nat.eq_zero_or_pos w with z | z
    · subst z; exact absurd (hr.trans q) c2
    · obtain ⟨v, rfl⟩ : ∃ v, w = v + 1 := ⟨w - 1, by omega⟩
      exact ⟨v, nI_pred v, by omega⟩
theorem bares_L : ∀ (f : Nat) (x : Int32) (Y : Nat → Int32) (k : Nat), x = nI k → k ≤ 17 → 17 + 1 ≤ f + k → (∀ j, j < k → Y j = 0) → ∀ j, j < 17 → sX6_bares_L2 f x Y j = upd (upd (upd (fun _ => 0) 1 2) 2 2) 3 4 j := by
  intro f
  induction f with
  | zero => intro x Y k _ h1 h2; omega
  | succ f ih =>
    intro x Y k e hk hf hY j hj
    rw [sX6_bares_L2_s]
    by_cases q : 17 ≤ x
    · rw [if_pos q]
      have hk17 : k = 17 := by
        rcases Nat.lt_or_ge k 17 with z | z
        · rw [e] at q; exact absurd q (nI_ge (b := 17) z (by decide))
        · omega
      show upd (upd (upd Y 1 2) 2 2) 3 4 j = _
      unfold upd
      rw [hY j (by omega)]
    · rw [if_neg q]
      have hlt := up_lt (b := 17) (M := 17) e rfl (by omega) q
      refine ih (x + 1) _ (k + 1) (up_s e) (by omega) (by omega) (fun i hi => ?_) j hj
      rw [e, nI_clamp (by omega)]
      by_cases z : i = k
      · rw [z]; exact pk_us
      · rw [pk_un z]; exact hY i (by omega)
theorem bares_at (r : Nat → Int32) (j : Nat) (hj : j < 17) : sX6_bares r j = upd (upd (upd (fun _ => 0) 1 2) 2 2) 3 4 j := bares_L 18 0 r 0 rfl (by decide) (by decide) (fun j h => by omega) j hj
theorem rs_X {S : MSt} (h : ∃ n : Nat, S.1 2 = nI n ∧ n ≤ 120) : ∃ n a : Nat, ((upd (upd S.1 5 0) 3 0), (updR S.2 1 (sX6_bares (S.2 1)))).1 2 = nI n ∧ n ≤ 120 ∧ ((upd (upd S.1 5 0) 3 0), (updR S.2 1 (sX6_bares (S.2 1)))).1 3 = nI a ∧ a ≤ n := by
  obtain ⟨n, h1, h2⟩ := h
  exact ⟨n, 0, h1, h2, rfl, Nat.zero_le _⟩
theorem rs_F {S : MSt} (h : ∃ n : Nat, S.1 2 = nI n ∧ n ≤ 120) : ∃ T : Nat, (sX6_skips ((upd (upd S.1 5 0) 3 0), (updR S.2 1 (sX6_bares (S.2 1))))).2 1 0 = nI T ∧ T ≤ 12 := by
  obtain ⟨n, a, l, hn, e, ha⟩ := rs_X h
  rw [(sk_ok l hn e ha).2.2.1]
  exact ⟨0, bares_at (S.2 1) 0 (by decide), by decide⟩
/-- the line's figures are laid into the fresh row -/
theorem rl_L (w mk : Nat) (hw : w ≤ 12) : ∀ (f : Nat) (x1 x2 : Int32) (Y : MSt) (k : Nat), x1 = nI w → x2 = nI k → k ≤ 12 → 12 + 1 ≤ f + k → Y.1 4 = nI mk → mk ≤ 120 →
    (sX6_readsLine_L41 f x1 x2 Y).1 = true ∧ (sX6_readsLine_L41 f x1 x2 Y).2.1 = Y.1 ∧ (∀ j, j ≠ 1 → (sX6_readsLine_L41 f x1 x2 Y).2.2 j = Y.2 j) ∧ (∀ i, (sX6_readsLine_L41 f x1 x2 Y).2.2 1 i = if 4 + k ≤ i ∧ i < 4 + w then (Y.2 7) (mk + (i - 4)) - 48 else Y.2 1 i) := by
  intro f
  induction f with
  | zero => intro x1 x2 Y k _ _ h1 h2; omega
  | succ f ih =>
    intro x1 x2 Y k e1 e2 hk hf em hm
    rw [sX6_readsLine_L41_s]
    by_cases q : x1 ≤ x2
    · rw [if_pos q]
      have hge : w ≤ k := by rw [e1, e2] at q; exact (nI_leI (by omega) (by omega)).mp q
      exact ⟨rfl, rfl, fun _ _ => rfl, fun i => by rw [if_neg (by omega)]⟩
    · rw [if_neg q]
      have hlt : k < w := up_lt e2 e1 (by omega) q
      have c1 : ((4 : Int32) + x2).toNatClampNeg = 4 + k := by rw [e2, show (4 : Int32) + nI k = nI (4 + k) from nI_add 4 k, nI_clamp (by omega)]
      have c2 : (Y.1 4 + x2).toNatClampNeg = mk + k := by rw [em, e2, nI_add, nI_clamp (by omega)]
      rw [c1, c2]
      obtain ⟨i1, i2, i3, i4⟩ := ih x1 (x2 + 1) (Y.1, (updR Y.2 1 (upd (Y.2 1) (4 + k) ((Y.2 7) (mk + k) - 48)))) (k + 1) e1 (up_s e2) (by omega) (by omega) em hm
      refine ⟨i1, i2, fun j hj => (i3 j hj).trans (if_neg hj), fun i => (i4 i).trans ?_⟩
      show (if 4 + (k + 1) ≤ i ∧ i < 4 + w then (Y.2 7) (mk + (i - 4)) - 48 else upd (Y.2 1) (4 + k) ((Y.2 7) (mk + k) - 48) i) = _
      by_cases z : i = 4 + k
      · subst z
        rw [if_neg (by omega), if_pos (by omega), pk_us, show mk + (4 + k - 4) = mk + k by omega]
      · rw [pk_un z]
        by_cases z2 : 4 + (k + 1) ≤ i ∧ i < 4 + w
        · rw [if_pos z2, if_pos (by omega)]
        · rw [if_neg z2, if_neg (by omega)]
theorem rh_L (T mk : Nat) (hT : T ≤ 12) : ∀ (f : Nat) (x : Int32) (Y : MSt) (k : Nat), x = nI k → k ≤ 12 → 12 + 1 ≤ f + k → (Y.2 1) 0 = nI T → Y.1 4 = nI mk → mk ≤ 120 →
    (sX6_readsHands_L39 f x Y).1 = true ∧ (sX6_readsHands_L39 f x Y).2.1 = Y.1 ∧ (∀ j, j ≠ 1 → (sX6_readsHands_L39 f x Y).2.2 j = Y.2 j) ∧ (∀ i, i ≠ 16 → (sX6_readsHands_L39 f x Y).2.2 1 i = Y.2 1 i) := by
  intro f
  induction f with
  | zero => intro x Y k _ h1 h2; omega
  | succ f ih =>
    intro x Y k e hk hf eT em hm
    rw [sX6_readsHands_L39_s]
    by_cases q : (Y.2 1) 0 ≤ x
    · rw [if_pos q]; exact ⟨rfl, rfl, fun _ _ => rfl, fun _ _ => rfl⟩
    · rw [if_neg q]
      have hlt : k < T := up_lt e eT (by omega) q
      have step : ∀ v : Int32, (sX6_readsHands_L39 f (x + 1) (Y.1, (updR Y.2 1 (upd (Y.2 1) 16 v)))).1 = true ∧ (sX6_readsHands_L39 f (x + 1) (Y.1, (updR Y.2 1 (upd (Y.2 1) 16 v)))).2.1 = Y.1 ∧ (∀ j, j ≠ 1 → (sX6_readsHands_L39 f (x + 1) (Y.1, (updR Y.2 1 (upd (Y.2 1) 16 v)))).2.2 j = Y.2 j) ∧ (∀ i, i ≠ 16 → (sX6_readsHands_L39 f (x + 1) (Y.1, (updR Y.2 1 (upd (Y.2 1) 16 v)))).2.2 1 i = Y.2 1 i) := by
        intro v
        obtain ⟨i1, i2, i3, i4⟩ := ih (x + 1) (Y.1, (updR Y.2 1 (upd (Y.2 1) 16 v))) (k + 1) (up_s e) (by omega) (by omega) eT em hm
        exact ⟨i1, i2, fun j hj => (i3 j hj).trans (if_neg hj), fun i hi => (i4 i hi).trans (pk_un hi)⟩
      split
      · exact step _
      · split
        · exact step _
        · exact step _
/-- an item: the place goes on, all but the fresh row is as it was -/
theorem it_K {S : MSt} {n a : Nat} (h : TXK S n a) (hF : ∃ T : Nat, S.2 1 0 = nI T ∧ T ≤ 12) : ∃ b : Nat, a ≤ b ∧ TXK (sX6_readsItem S).2 n b ∧ mAg2 S (sX6_readsItem S).2 ∧ ∃ T : Nat, (sX6_readsItem S).2.2 1 0 = nI T ∧ T ≤ 12 := by
  obtain ⟨w1, w2, w3, w4, w5, w6⟩ := wp_K h
  have hn := h.2.1
  have hF1 : ∃ T : Nat, (sX6_wordPassed S).2.2 1 0 = nI T ∧ T ≤ 12 := by rw [w3.1]; exact hF
  unfold sX6_readsItem
  by_cases c1 : (sX6_wordPassed S).1 = -9
  · rw [if_pos c1]; exact ⟨_, by omega, w1, w3.two, hF1⟩
  · rw [if_neg c1]
    by_cases c2 : (sX6_wordPassed S).1 = 0
    · rw [if_pos c2]
      generalize hW : (sX6_wordPassed S).2 = W at w1 w2 w3 hF1 ⊢
      unfold sX6_readsLine
      by_cases d1 : (W.2 1) 0 ≤ 0
      · rw [if_pos d1]
        obtain ⟨f1, f2, f3, f4, f5, f6⟩ := fg_X 7 w1
        by_cases d2 : sX6_within (sX6_figures W 7).1 1 12 = true
        · rw [if_pos d2]
          obtain ⟨w, mk, ew, hw, emk, hmk⟩ := fg_w 7 ⟨n, _, w1⟩ d2
          obtain ⟨r1, r2, r3, r4⟩ := rl_L w mk hw 13 (sX6_figures W 7).1 0 ((sX6_figures W 7).2.1, (updR (sX6_figures W 7).2.2 1 (upd ((sX6_figures W 7).2.2 1) 0 (sX6_figures W 7).1))) 0 ew rfl (by decide) (by decide) emk (by omega)
          refine ⟨_, ?_, ⟨by rw [r2]; exact f1.1, hn, by rw [r2]; exact f1.2.2.1, f6⟩, ⟨fun j hj => ?_, by rw [r2]; exact f3.2.1.trans w3.2.1, by rw [r2]; exact f3.2.2.1.trans w3.2.2.1, by rw [r2]; exact f3.2.2.2.1.trans w3.2.2.2.1⟩, w, ?_, hw⟩
          · omega
          · rw [r3 j hj]
            show updR (sX6_figures W 7).2.2 1 _ j = _
            unfold updR; rw [if_neg hj, f3.1, w3.1]
          · rw [r4 0, if_neg (by omega)]; exact ew
        · rw [if_neg d2]; exact ⟨_, by omega, f1, w3.two.tr f3.two, by rw [f3.1]; exact hF1⟩
      · rw [if_neg d1]; exact ⟨_, by omega, w1, w3.two, hF1⟩
    · rw [if_neg c2]
      by_cases c3 : (sX6_wordPassed S).1 = 1
      · rw [if_pos c3]
        generalize hW : (sX6_wordPassed S).2 = W at w1 w2 w3 hF1 ⊢
        unfold sX6_readsHands
        by_cases d1 : W.1 5 = 0
        · rw [if_pos d1]
          by_cases d2 : (W.2 1) 0 = 0
          · rw [if_pos d2]; exact ⟨_, by omega, w1, w3.two, hF1⟩
          · rw [if_neg d2]
            obtain ⟨f1, f2, f3, f4, f5, f6⟩ := fg_X 1 w1
            by_cases d3 : (sX6_figures W 1).1 = ((sX6_figures W 1).2.2 1) 0
            · rw [if_pos d3]
              obtain ⟨T, mk, eT, hT, emk, hmk⟩ := rh_w ⟨n, _, w1⟩ hF1 d3
              obtain ⟨r1, r2, r3, r4⟩ := rh_L T mk hT 13 0 ((upd (sX6_figures W 1).2.1 5 1), (sX6_figures W 1).2.2) 0 rfl (by decide) (by decide) eT emk (by omega)
              refine ⟨_, ?_, ⟨by rw [r2]; exact f1.1, hn, by rw [r2]; exact f1.2.2.1, f6⟩, ⟨fun j hj => ?_, by rw [r2]; exact f3.2.1.trans w3.2.1, by rw [r2]; exact f3.2.2.1.trans w3.2.2.1, by rw [r2]; exact f3.2.2.2.1.trans w3.2.2.2.1⟩, T, ?_, hT⟩
              · omega
              · rw [r3 j hj]; show (sX6_figures W 1).2.2 j = _; rw [f3.1, w3.1]
              · rw [r4 0 (by decide)]; exact eT
            · rw [if_neg d3]; exact ⟨_, by omega, f1, w3.two.tr f3.two, by rw [f3.1]; exact hF1⟩
        · rw [if_neg d1]; exact ⟨_, by omega, w1, w3.two, hF1⟩
      · rw [if_neg c3]
        obtain ⟨v, ev, hv⟩ := wp_w ⟨n, a, h⟩ c1 c2 c3
        have hv1 : 1 ≤ v := by
          rcases Nat.eq_zero_or_pos v with z | z
          · subst z
            refine absurd ?_ c3
            have : (sX6_wordPassed S).1 - 1 + 1 = nI 0 + 1 := by rw [ev]
            rw [Int32.sub_add_cancel] at this
            exact this
          · exact z
        rw [ev]
        generalize hW : (sX6_wordPassed S).2 = W at w1 w2 w3 hF1 ⊢
        unfold sX6_readsNumber
        obtain ⟨f1, f2, f3, f4, f5, f6⟩ := fg_X 9 w1
        by_cases d1 : (sX6_figures W 9).1 = 1
        · rw [if_pos d1]
          refine ⟨_, ?_, f1, ⟨fun j hj => ?_, f3.2.1.trans w3.2.1, f3.2.2.1.trans w3.2.2.1, f3.2.2.2.1.trans w3.2.2.2.1⟩, ?_⟩
          · omega
          · show updR (sX6_figures W 9).2.2 1 _ j = _
            unfold updR; rw [if_neg hj, f3.1, w3.1]
          · obtain ⟨T, eT, hT⟩ := hF1
            refine ⟨T, ?_, hT⟩
            show upd ((sX6_figures W 9).2.2 1) (nI v).toNatClampNeg _ 0 = nI T
            rw [nI_clamp (by omega), pk_un (by omega), f3.1]; exact eT
        · rw [if_neg d1]; exact ⟨_, by omega, f1, w3.two.tr f3.two, by rw [f3.1]; exact hF1⟩
theorem it_X {S : MSt} (h : ∃ n a : Nat, S.1 2 = nI n ∧ n ≤ 120 ∧ S.1 3 = nI a ∧ a ≤ n) (hF : ∃ T : Nat, S.2 1 0 = nI T ∧ T ≤ 12) : ∃ n a : Nat, (sX6_readsItem S).2.1 2 = nI n ∧ n ≤ 120 ∧ (sX6_readsItem S).2.1 3 = nI a ∧ a ≤ n := by
  obtain ⟨n, a, hx⟩ := h
  obtain ⟨b, -, k, -⟩ := it_K (show TXK S n a from hx) hF
  exact ⟨n, b, k⟩
theorem pe_K {S : MSt} {n a : Nat} (h : TXK S n a) : ∃ b : Nat, a ≤ b ∧ TXK (sX6_passesEnd S).2 n b ∧ mAg S (sX6_passesEnd S).2 ∧ ((sX6_passesEnd S).1 = true → a < b) := by
  obtain ⟨l, hn, e, ha⟩ := h
  obtain ⟨k1, k2, k3⟩ := sk_ok l hn e ha
  have g1 : a ≤ rn (bl (S.2 7)) n a := rn_ge ha
  have g2 : rn (bl (S.2 7)) n a ≤ n := rn_le ha
  unfold sX6_passesEnd
  by_cases c : sX6_isAt (sX6_skips S) 59 59 = true
  · rw [if_pos c]
    have hlt := (isAt_lt (k3.2.2.2.1.trans l) hn k1 g2 c).1
    exact ⟨rn (bl (S.2 7)) n a + 1, by omega, ⟨k3.2.2.2.1.trans l, hn, up_s k1, by omega⟩, ⟨k3.1, k3.2.1, k3.2.2.1, k3.2.2.2.1, k3.2.2.2.2⟩, fun _ => by omega⟩
  · rw [if_neg c]
    refine ⟨rn (bl (S.2 7)) n a, g1, ⟨k3.2.2.2.1.trans l, hn, ?_, g2⟩, ⟨k3.1, k3.2.1, k3.2.2.1, k3.2.2.2.1, k3.2.2.2.2⟩, fun z => absurd z c⟩
    show (sX6_skips S).1 3 + 0 = _
    rw [Int32.add_zero]; exact k1
theorem pe_X {S : MSt} (h : ∃ n a : Nat, S.1 2 = nI n ∧ n ≤ 120 ∧ S.1 3 = nI a ∧ a ≤ n) : ∃ n a : Nat, (sX6_passesEnd S).2.1 2 = nI n ∧ n ≤ 120 ∧ (sX6_passesEnd S).2.1 3 = nI a ∧ a ≤ n := by
  obtain ⟨n, a, hx⟩ := h
  obtain ⟨b, -, k, -⟩ := pe_K (show TXK S n a from hx)
  exact ⟨n, b, k⟩
theorem lp_t {Y : MSt} {f : Nat} (t : ∃ n k : Nat, Y.1 2 = nI n ∧ n ≤ 120 ∧ Y.1 3 = nI k ∧ k ≤ n ∧ 120 + 1 ≤ f + 1 + k) (hF : ∃ T : Nat, Y.2 1 0 = nI T ∧ T ≤ 12) (c : (sX6_passesEnd (sX6_readsItem Y).2).1 = true) : ∃ n k : Nat, (sX6_skips (sX6_passesEnd (sX6_readsItem Y).2).2).1 2 = nI n ∧ n ≤ 120 ∧ (sX6_skips (sX6_passesEnd (sX6_readsItem Y).2).2).1 3 = nI k ∧ k ≤ n ∧ 120 + 1 ≤ f + k := by
  obtain ⟨n, k, h1, h2, h3, h4, h5⟩ := t
  obtain ⟨b, hb, kb, -, -⟩ := it_K (show TXK Y n k from ⟨h1, h2, h3, h4⟩) hF
  obtain ⟨d, hd, kd, -, hlt⟩ := pe_K kb
  obtain ⟨s1, -, s3⟩ := sk_ok kd.1 h2 kd.2.2.1 kd.2.2.2
  have hge := rn_ge (P := bl ((sX6_passesEnd (sX6_readsItem Y).2).2.2 7)) kd.2.2.2
  have := hlt c
  exact ⟨n, _, s3.2.2.2.1.trans kd.1, h2, s1, rn_le kd.2.2.2, by omega⟩
theorem lp_F {Y : MSt} {f : Nat} (t : ∃ n k : Nat, Y.1 2 = nI n ∧ n ≤ 120 ∧ Y.1 3 = nI k ∧ k ≤ n ∧ 120 + 1 ≤ f + 1 + k) (hF : ∃ T : Nat, Y.2 1 0 = nI T ∧ T ≤ 12) : ∃ T : Nat, (sX6_skips (sX6_passesEnd (sX6_readsItem Y).2).2).2 1 0 = nI T ∧ T ≤ 12 := by
  obtain ⟨n, k, h1, h2, h3, h4, h5⟩ := t
  obtain ⟨b, hb, kb, -, hF2⟩ := it_K (show TXK Y n k from ⟨h1, h2, h3, h4⟩) hF
  obtain ⟨d, hd, kd, k3, -⟩ := pe_K kb
  obtain ⟨-, -, s3⟩ := sk_ok kd.1 h2 kd.2.2.1 kd.2.2.2
  rw [s3.1, k3.1]; exact hF2
