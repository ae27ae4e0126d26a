theorem rng3 {x : Int32} (c1 : ¬ x < 0) (c2 : ¬ 2 < x) : vp_in x 3 := by
  obtain ⟨j, hj, rfl⟩ := nI_of c1
  refine vp_in_nI ?_ (by decide)
  rcases Nat.lt_or_ge j 3 with q | q
  · exact q
  · exact absurd (nI_lt (a := 2) q hj) c2
theorem go_k {S1 : LSt} {p1 : Int32} {d : Nat} (hk : ∃ k T : Nat, p1 = nI k ∧ S1.1 0 = nI T ∧ T ≤ 12 ∧ k ≤ T ∧ T < k + (d + 1)) (c : p1 < S1.1 0) : ∃ k T : Nat, p1 + 1 = nI k ∧ S1.1 0 = nI T ∧ T ≤ 12 ∧ k ≤ T ∧ T < k + d := by
  obtain ⟨k, T, e, eT, h1, h2, h3⟩ := hk
  have := up_lt2 e eT (by omega) (by omega) c
  exact ⟨k + 1, T, up_s e, eT, h1, by omega, by omega⟩
theorem go_0 {S1 : LSt} (hT : XOK S1) : ∃ k T : Nat, (0 : Int32) = nI k ∧ S1.1 0 = nI T ∧ T ≤ 12 ∧ k ≤ T ∧ T < k + 14 := by
  obtain ⟨T, eT, h1, h2⟩ := hT
  exact ⟨0, T, rfl, eT, h2, by omega, by omega⟩
