/-! the reference: how many notes, how many shares -/
theorem dn1 {x : Int32} {k : Nat} (e : x = nI k) (c : ¬ x ≤ 0) : 1 ≤ k ∧ x + (-1) = nI (k - 1) := by
  rcases Nat.eq_zero_or_pos k with q | q
  · subst q
    exact absurd (by rw [e]; decide) c
  · obtain ⟨j, rfl⟩ : ∃ j, k = j + 1 := ⟨k - 1, by omega⟩
    exact ⟨q, by rw [e]; exact pk_m1 j⟩
theorem notes_L {S : MSt} (hT : LOK S) : ∀ (n c k : Nat) (x1 x2 : Int32), x1 = nI c → x2 = nI k → c ≤ k → k ≤ 12 → ∃ c' : Nat, c' ≤ 12 ∧ sX6_notes_L4 S n x1 x2 = nI c' := by
  obtain ⟨T, eT, h1, h2⟩ := hT
  intro n
  induction n with
  | zero => intro c k x1 x2 _ _ _ _; exact ⟨0, by decide, rfl⟩
  | succ n ih =>
    intro c k x1 x2 e1 e2 hc hk
    rw [sX6_notes_L4_s]
    by_cases q : (S.2 0) 0 ≤ x2
    · rw [if_pos q]; exact ⟨c, by omega, e1⟩
    · rw [if_neg q]
      have hlt := up_lt e2 eT (by omega) q
      by_cases q2 : sX6_isNote S x2 = true
      · rw [if_pos q2]; exact ih (c + 1) (k + 1) _ _ (up_s e1) (up_s e2) (by omega) (by omega)
      · rw [if_neg q2]; exact ih c (k + 1) _ _ (by rw [Int32.add_zero]; exact e1) (up_s e2) (by omega) (by omega)
theorem notes_res {S : MSt} (hT : LOK S) : ∃ c : Nat, c ≤ 12 ∧ sX6_notes S = nI c := notes_L hT 13 0 0 0 0 rfl rfl (Nat.le_refl _) (by decide)
theorem pow_c : ∀ c : Nat, c < 13 → (1 : Int32) <<< (nI c &&& 31) = nI (2 ^ c) ∧ 2 ^ c ≤ 4096 := by decide +kernel
theorem pow_notes {S : MSt} (hT : LOK S) : ∃ C : Nat, (1 : Int32) <<< (sX6_notes S &&& 31) = nI C ∧ C ≤ 4096 := by
  obtain ⟨c, hc, e⟩ := notes_res hT
  rw [e]
  exact ⟨2 ^ c, (pow_c c (by omega)).1, (pow_c c (by omega)).2⟩
