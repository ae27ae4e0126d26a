/-! the class's Text: what its items do to the places -/
theorem sp_ticks (S : LSt) (a b : Int32) : (sX0_setPitch S a b).1 0 = S.1 0 := by
  unfold sX0_setPitch
  repeat' split
  all_goals rfl
theorem sn_ticks (S : LSt) (a b : Int32) : (sX0_setNumber S a b).1 0 = S.1 0 := by
  unfold sX0_setNumber
  repeat' split
  all_goals rfl
theorem le_120 {x : Int32} {k : Nat} (e : x = nI k) (hk : k < 2 ^ 31) (c : ¬ 120 < x) : k ≤ 120 := by
  rcases Nat.lt_or_ge 120 k with q | q
  · exact absurd (by rw [e]; exact nI_lt (a := 120) q hk) c
  · exact q
theorem tk_N {S : LSt} (h : ∃ n s e : Nat, S.1 0 = nI n ∧ n ≤ 120 ∧ S.1 4 = nI s ∧ S.1 5 = nI e ∧ s ≤ e ∧ e ≤ n) : ∃ n : Nat, S.1 0 = nI n ∧ n ≤ 120 := by
  obtain ⟨n, s, e, h1, h2, -⟩ := h
  exact ⟨n, h1, h2⟩
theorem aa_N {S : LSt} (h : ∃ n a : Nat, S.1 0 = nI n ∧ n ≤ 120 ∧ S.1 5 = nI a ∧ a ≤ n) : ∃ n : Nat, S.1 0 = nI n ∧ n ≤ 120 := by
  obtain ⟨n, a, h1, h2, -⟩ := h
  exact ⟨n, h1, h2⟩
theorem line_w {S : LSt} (h : ∃ n s e : Nat, S.1 0 = nI n ∧ n ≤ 120 ∧ S.1 4 = nI s ∧ S.1 5 = nI e ∧ s ≤ e ∧ e ≤ n) (c : S.1 5 - S.1 4 ≤ 12) : ∃ w : Nat, S.1 5 - S.1 4 = nI w ∧ w ≤ 12 := by
  obtain ⟨n, s, e, h1, h2, h3, h4, h5, h6⟩ := h
  rw [h3, h4, pk_sub h5] at c ⊢
  refine ⟨e - s, rfl, ?_⟩
  rcases Nat.lt_or_ge 12 (e - s) with q | q
  · exact absurd c (nI_ge (a := 12) q (by omega))
  · exact q
theorem nt_K {S : LSt} (h : ∃ n a : Nat, S.1 0 = nI n ∧ n ≤ 120 ∧ S.1 5 = nI a ∧ a ≤ n) : ∃ n s e : Nat, (sX4_nextToken S).1 0 = nI n ∧ n ≤ 120 ∧ (sX4_nextToken S).1 4 = nI s ∧ (sX4_nextToken S).1 5 = nI e ∧ s ≤ e ∧ e ≤ n := by
  obtain ⟨n, a, h1, h2, h3, h4⟩ := h
  obtain ⟨k1, k2, k3, k4, -⟩ := nt_ok h1 h2 h3 h4
  have hs := tkS_in (t := S.2) h4
  have he := tkE_in (t := S.2) hs.2
  exact ⟨n, _, _, k4.trans h1, h2, k1, k3, he.1, he.2⟩
theorem nt_A {S : LSt} (h : ∃ n a : Nat, S.1 0 = nI n ∧ n ≤ 120 ∧ S.1 5 = nI a ∧ a ≤ n) : ∃ n a : Nat, (sX4_nextToken S).1 0 = nI n ∧ n ≤ 120 ∧ (sX4_nextToken S).1 5 = nI a ∧ a ≤ n := by
  obtain ⟨n, s, e, h1, h2, h3, h4, h5, h6⟩ := nt_K h
  exact ⟨n, e, h1, h2, h4, h6⟩
def xAg (S R : LSt) : Prop := R.1 0 = S.1 0 ∧ R.1 4 = S.1 4 ∧ R.1 5 = S.1 5 ∧ R.2 = S.2
theorem xAg.rf (S : LSt) : xAg S S := ⟨rfl, rfl, rfl, rfl⟩
theorem tl_X (S : LSt) (w : Nat) (hw : w ≤ 12) : ∀ (f : Nat) (x : Int32) (Y : LSt) (k : Nat), x = nI k → k ≤ 12 → 12 + 1 ≤ f + k → Y.1 0 = nI w → xAg S (sX4_takeLine_L34 S f x Y).2.1 ∧ (sX4_takeLine_L34 S f x Y).2.2.1 0 = nI w := by
  intro f
  induction f with
  | zero => intro x Y k _ h1 h2; omega
  | succ f ih =>
    intro x Y k e hk hf eY
    rw [sX4_takeLine_L34_s]
    by_cases q : Y.1 0 ≤ x
    · rw [if_pos q]; exact ⟨⟨rfl, rfl, rfl, rfl⟩, eY⟩
    · rw [if_neg q]
      have hlt := up_lt e eY (by omega) q
      by_cases q2 : sX4_figureAt S (S.1 4 + x) ≤ 7
      · rw [if_pos q2]; exact ih _ _ (k + 1) (up_s e) (by omega) (by omega) ((sp_ticks _ _ _).trans eY)
      · rw [if_neg q2]; exact ⟨xAg.rf S, eY⟩
theorem th_X (S : LSt) (w : Nat) (hw : w ≤ 12) : ∀ (f : Nat) (x : Int32) (Y : LSt) (k : Nat), x = nI k → k ≤ 12 → 12 + 1 ≤ f + k → Y.1 0 = nI w → xAg S (sX4_takeHands_L23 S f x Y).2.1 ∧ (sX4_takeHands_L23 S f x Y).2.2.1 0 = nI w := by
  intro f
  induction f with
  | zero => intro x Y k _ h1 h2; omega
  | succ f ih =>
    intro x Y k e hk hf eY
    rw [sX4_takeHands_L23_s]
    by_cases q : Y.1 0 ≤ x
    · rw [if_pos q]; exact ⟨⟨rfl, rfl, rfl, rfl⟩, eY⟩
    · rw [if_neg q]
      have hlt := up_lt e eY (by omega) q
      by_cases q2 : sX5_isHand (sX4_figureAt S (S.1 4 + x)) = true
      · rw [if_pos q2]; exact ih _ _ (k + 1) (up_s e) (by omega) (by omega) eY
      · rw [if_neg q2]; exact ⟨xAg.rf S, eY⟩
theorem tf_X {S S1 : LSt} (p : Int32) (hK : ∃ n s e : Nat, S.1 0 = nI n ∧ n ≤ 120 ∧ S.1 4 = nI s ∧ S.1 5 = nI e ∧ s ≤ e ∧ e ≤ n) (hT : XOK S1) : xAg S (sX4_takeFigures S S1 p).2.1 ∧ (S.1 5 ≠ S.1 4 → XOK (sX4_takeFigures S S1 p).2.2) := by
  unfold sX4_takeFigures
  by_cases q : p = 3
  · rw [if_pos q]
    show xAg S (sX4_takeLine S S1).2.1 ∧ (S.1 5 ≠ S.1 4 → XOK (sX4_takeLine S S1).2.2)
    unfold sX4_takeLine
    by_cases c : S.1 5 - S.1 4 ≤ 12
    · rw [if_pos c]
      obtain ⟨w, ew, hw⟩ := line_w hK c
      have h := tl_X S w hw 13 0 ((upd S1.1 0 ((S.1 5) - (S.1 4))), S1.2) 0 rfl (by decide) (by decide) ew
      refine ⟨h.1, fun hne => ⟨w, h.2, ?_, hw⟩⟩
      obtain ⟨n, s, e, h1, h2, h3, h4, h5, h6⟩ := hK
      rcases Nat.eq_zero_or_pos w with z | z
      · subst z
        refine absurd ?_ hne
        rw [h3, h4, pk_sub h5] at ew
        have := (nI_eq (by omega) (by omega)).mp ew
        rw [h3, h4, show e = s by omega]
      · exact z
    · rw [if_neg c]; exact ⟨xAg.rf S, fun _ => hT⟩
  · rw [if_neg q]
    by_cases q2 : p = 4
    · rw [if_pos q2]
      show xAg S (sX4_takeHands S S1).2.1 ∧ (S.1 5 ≠ S.1 4 → XOK (sX4_takeHands S S1).2.2)
      unfold sX4_takeHands
      by_cases c : S.1 5 - S.1 4 = S1.1 0
      · rw [if_pos c]
        obtain ⟨T, eT, hT1, hT2⟩ := hT
        have h := th_X S T hT2 13 0 S1 0 rfl (by decide) (by decide) eT
        exact ⟨h.1, fun _ => ⟨T, h.2, hT1, hT2⟩⟩
      · rw [if_neg c]; exact ⟨xAg.rf S, fun _ => hT⟩
    · rw [if_neg q2]
      refine ⟨xAg.rf S, fun _ => ?_⟩
      obtain ⟨T, eT, hT1, hT2⟩ := hT
      refine ⟨T, ?_, hT1, hT2⟩
      show (sX4_takeNumber S S1 p).2.1 0 = nI T
      unfold sX4_takeNumber
      repeat' split
      · exact (sn_ticks _ _ _).trans eT
      · exact eT
      · exact eT
theorem tf_A {S S1 : LSt} {p : Int32} (hK : ∃ n s e : Nat, S.1 0 = nI n ∧ n ≤ 120 ∧ S.1 4 = nI s ∧ S.1 5 = nI e ∧ s ≤ e ∧ e ≤ n) (hT : XOK S1) : ∃ n a : Nat, (sX4_takeFigures S S1 p).2.1.1 0 = nI n ∧ n ≤ 120 ∧ (sX4_takeFigures S S1 p).2.1.1 5 = nI a ∧ a ≤ n := by
  obtain ⟨k1, k2, k3, k4⟩ := (tf_X p hK hT).1
  obtain ⟨n, s, e, h1, h2, h3, h4, h5, h6⟩ := hK
  exact ⟨n, e, k1.trans h1, h2, k3.trans h4, h6⟩
theorem nt_ne {S : LSt} (h : ∃ n a : Nat, S.1 0 = nI n ∧ n ≤ 120 ∧ S.1 5 = nI a ∧ a ≤ n) (c : (sX4_nextToken S).1 3 = 2) : (sX4_nextToken S).1 5 ≠ (sX4_nextToken S).1 4 := by
  obtain ⟨n, a, h1, h2, h3, h4⟩ := h
  obtain ⟨k1, k2, k3, k4⟩ := nt_ok h1 h2 h3 h4
  have hs := tkS_in (t := S.2) h4
  have he := tkE_in (t := S.2) hs.2
  rw [k2] at c
  rw [k1, k3]
  intro z
  have z := (nI_eq (by omega) (by omega)).mp z
  have hlt : tkS S.2 n a < n := by
    rcases Nat.lt_or_ge (tkS S.2 n a) n with q | q
    · exact q
    · unfold tkK at c; rw [if_neg (by omega)] at c; exact absurd c (by decide)
  have h5 : tkE S.2 n (tkS S.2 n a) = rn (fun j => decide (kd (S.2 j) = tkK S.2 n (tkS S.2 n a))) n (tkS S.2 n a + 1) := by
    show (if tkK S.2 n (tkS S.2 n a) = 0 then _ else if _ then _ else _) = _
    rw [if_neg (by rw [c]; decide), if_pos (Or.inr c)]
  have h6 := rn_ge (P := fun j => decide (kd (S.2 j) = tkK S.2 n (tkS S.2 n a))) (n := n) (a := tkS S.2 n a + 1) (by omega)
  omega
theorem ri_AT {S S1 : LSt} (hA : ∃ n a : Nat, S.1 0 = nI n ∧ n ≤ 120 ∧ S.1 5 = nI a ∧ a ≤ n) (hT : XOK S1) : (∃ n a : Nat, (sX4_readItem S S1).2.1.1 0 = nI n ∧ n ≤ 120 ∧ (sX4_readItem S S1).2.1.1 5 = nI a ∧ a ≤ n) ∧ XOK (sX4_readItem S S1).2.2 := by
  unfold sX4_readItem
  by_cases c1 : sX4_mayBegin S (sX4_itemOfWord S) = true
  · rw [if_pos c1]
    by_cases c2 : (sX4_nextToken S).1 3 = 2
    · rw [if_pos c2]
      have hT2 := (tf_X (sX4_itemOfWord S) (nt_K hA) hT).2 (nt_ne hA c2)
      have hA2 := tf_A (p := sX4_itemOfWord S) (nt_K hA) hT
      by_cases c3 : (sX4_takeFigures (sX4_nextToken S) S1 (sX4_itemOfWord S)).1 = true
      · rw [if_pos c3]
        split
        · exact ⟨nt_A hA2, hT2⟩
        · exact ⟨nt_A hA2, hT2⟩
      · rw [if_neg c3]; exact ⟨hA2, hT2⟩
    · rw [if_neg c2]; exact ⟨nt_A hA, hT⟩
  · rw [if_neg c1]; exact ⟨hA, hT⟩
theorem ri_A {S S1 : LSt} (hA : ∃ n a : Nat, S.1 0 = nI n ∧ n ≤ 120 ∧ S.1 5 = nI a ∧ a ≤ n) (hT : XOK S1) : ∃ n a : Nat, (sX4_readItem S S1).2.1.1 0 = nI n ∧ n ≤ 120 ∧ (sX4_readItem S S1).2.1.1 5 = nI a ∧ a ≤ n := (ri_AT hA hT).1
theorem ri_T {S S1 : LSt} (hA : ∃ n a : Nat, S.1 0 = nI n ∧ n ≤ 120 ∧ S.1 5 = nI a ∧ a ≤ n) (hT : XOK S1) : XOK (sX4_readItem S S1).2.2 := (ri_AT hA hT).2
theorem rd_A {S : LSt} (h : ∃ n : Nat, S.1 0 = nI n ∧ n ≤ 120) : ∃ n a : Nat, ((upd (upd (upd S.1 1 0) 2 0) 5 0), S.2).1 0 = nI n ∧ n ≤ 120 ∧ ((upd (upd (upd S.1 1 0) 2 0) 5 0), S.2).1 5 = nI a ∧ a ≤ n := by
  obtain ⟨n, h1, h2⟩ := h
  exact ⟨n, 0, h1, h2, rfl, Nat.zero_le _⟩
theorem mk_T (S : LSt) : XOK (sX0_makeNew S) := ⟨1, rfl, by decide, by decide⟩
