/-! the class's Line: places -/
def XOK (S : LSt) : Prop := ∃ T : Nat, S.1 0 = nI T ∧ 1 ≤ T ∧ T ≤ 12
theorem rng_in {x : Int32} {n : Nat} (hn : n < 2 ^ 31) (c1 : ¬ x < 0) (c2 : ¬ nI n ≤ x) : vp_in x n := by
  obtain ⟨j, hj, rfl⟩ := nI_of c1
  exact vp_in_nI (Nat.not_le.mp (fun q => c2 (nI_le q hj))) hn
theorem rng_in2 {x : Int32} {n : Nat} (hn : n < 2 ^ 31) (c1 : ¬ x < 0) (c2 : x < nI n) : vp_in x n := by
  obtain ⟨j, hj, rfl⟩ := nI_of c1
  exact vp_in_nI (Nat.not_le.mp (fun q => nI_nlt q hj c2)) hn
theorem has_j {S : LSt} {t : Int32} (hT : XOK S) (h : sX0_hasNote S t = true) : ∃ j : Nat, t = nI j ∧ j < 12 := by
  obtain ⟨T, eT, h1, h2⟩ := hT
  unfold sX0_hasNote at h
  by_cases c1 : t < 0
  · rw [if_pos c1] at h; cases h
  · rw [if_neg c1] at h
    by_cases c2 : S.1 0 ≤ t
    · rw [if_pos c2] at h; cases h
    · obtain ⟨j, hj, rfl⟩ := nI_of c1
      have := up_lt (x := nI j) rfl eT hj c2
      exact ⟨j, rfl, by omega⟩
