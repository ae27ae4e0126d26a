/-! the class's Text: places -/
theorem let_ix {S : LSt} {p1 : Int32} (hN : ∃ n : Nat, S.1 0 = nI n ∧ n ≤ 120) (c1 : ¬ p1 < 0) (c9 : ¬ S.1 0 ≤ p1) : vp_in p1 120 := by
  obtain ⟨n, e, hn⟩ := hN
  obtain ⟨j, hj, rfl⟩ := nI_of c1
  have := up_lt (x := nI j) rfl e hj c9
  exact vp_in_nI (by omega) (by decide)
theorem add_ix {S : LSt} (hN : ∃ n : Nat, S.1 0 = nI n ∧ n ≤ 120) (c : S.1 0 < 120) : vp_in (S.1 0) 120 := by
  obtain ⟨n, e, hn⟩ := hN
  have := up_lt2 (b := 120) (M := 120) e rfl (by decide) (by omega) c
  rw [e]
  exact vp_in_nI this (by decide)
theorem tx_le : ∀ i : Nat, i < 5 → txLen.getD i 0 ≤ 5 := by decide
theorem ch_ok {x : Int32} {k L : Nat} (e : x = nI k) (h : k < txLen.getD L 0) : ¬ x < 0 ∧ x < nI (txLen.getD L 0) ∧ vp_in x (txLen.getD L 0) := by
  have hL : txLen.getD L 0 ≤ 5 := by
    rcases Nat.lt_or_ge L 5 with q | q
    · exact tx_le L q
    · have : txLen.getD L 0 = 0 := by
        rw [List.getD_eq_getElem?_getD, List.getElem?_eq_none (by show 5 ≤ L; exact q)]; rfl
      omega
  rw [e]
  exact ⟨nI_pos (by omega), nI_lt h (by omega), vp_in_nI h (by omega)⟩
theorem kind_lt {S : LSt} {p : Int32} {n k : Nat} (l : S.1 0 = nI n) (hn : n ≤ 120) (e : p = nI k) (hk : k ≤ n) (c : ¬ sX4_kindAt S p = 0) : k + 1 ≤ n := by
  rcases Nat.lt_or_ge k n with q | q
  · exact q
  · refine absurd ?_ c
    have h1 : sX4_letterAt S p = -9 := by
      unfold sX4_letterAt
      have h2 : S.1 0 ≤ p := by rw [l, e]; exact nI_le q (by omega)
      by_cases q2 : p < 0
      · rw [if_pos q2]
      · rw [if_neg q2, if_pos h2]
    unfold sX4_kindAt
    rw [if_pos h1]
