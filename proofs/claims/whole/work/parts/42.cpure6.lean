theorem cp_T {S2 : SSt} {S3 S1 : LSt} (hT : XOK S1) : XOK (sX2_lookAt S2 S3 S1) := by
  obtain ⟨T, e, h⟩ := hT
  exact ⟨T, e, h⟩
theorem sl_k {x : Int32} {k : Nat} (e : x = nI k) (hk : k < 2 ^ 31) (c : ¬ x < 1) : 1 ≤ k ∧ x + (-1) = nI (k - 1) := by
  rcases Nat.eq_zero_or_pos k with q | q
  · subst q; exact absurd (by rw [e]; decide) c
  · obtain ⟨j, rfl⟩ : ∃ j, k = j + 1 := ⟨k - 1, by omega⟩
    exact ⟨q, by rw [e]; exact pk_m1 j⟩
