/-! counters -/
theorem up_lt {x b : Int32} {k M : Nat} (e : x = nI k) (eb : b = nI M) (hk : k < 2 ^ 31) (h : ¬ b ≤ x) : k < M := by
  subst e; subst eb
  exact Nat.not_le.mp (fun q => h (nI_le q hk))
theorem up_lt2 {x b : Int32} {k M : Nat} (e : x = nI k) (eb : b = nI M) (hM : M < 2 ^ 31) (hk : k < 2 ^ 31) (h : x < b) : k < M := by
  subst e; subst eb
  exact Nat.not_le.mp (fun q => nI_nlt q hk h)
theorem up_in {x : Int32} {k N : Nat} (e : x = nI k) (h : k < N) (hN : N < 2 ^ 31) : vp_in x N := by rw [e]; exact vp_in_nI h hN
theorem up_s {x : Int32} {k : Nat} (e : x = nI k) : x + 1 = nI (k + 1) := by rw [e]; exact nI_1 k
theorem dn_b {x : Int32} {k M : Nat} (e : x = nI k - 1) (hk : k ≤ M) (hM : M < 2 ^ 30) (h : ¬ x < 0) : 1 ≤ k ∧ x = nI (k - 1) ∧ x + (-1) = nI (k - 1) - 1 := by
  have h1 : 1 ≤ k := by
    rcases Nat.eq_zero_or_pos k with q | q
    · subst q
      exact absurd (by rw [e]; decide) h
    · exact q
  obtain ⟨j, rfl⟩ : ∃ j, k = j + 1 := ⟨k - 1, by omega⟩
  have h2 : x = nI j := by rw [e]; exact nI_pred j
  refine ⟨h1, h2, ?_⟩
  rw [h2]
  show nI j + (-1) = nI j - 1
  rw [Int32.sub_eq_add_neg]
def LOK (S : MSt) : Prop := ∃ T : Nat, S.2 0 0 = nI T ∧ 1 ≤ T ∧ T ≤ 12
theorem LOK.to {S S' : MSt} (h : LOK S) (e : S'.2 0 0 = S.2 0 0) : LOK S' := by
  obtain ⟨T, h1, h2⟩ := h
  exact ⟨T, e.trans h1, h2⟩
/-! the reference: what its questions about ticks say of places -/
theorem tick_in {S : MSt} {t : Int32} (hT : LOK S) (h : sX6_isTick S t = true) : ∃ j T : Nat, t = nI j ∧ j < T ∧ T ≤ 12 ∧ S.2 0 0 = nI T := by
  obtain ⟨T, e, h1, h2⟩ := hT
  unfold sX6_isTick sX6_within at h
  by_cases c1 : t < 0
  · rw [if_pos c1] at h; cases h
  · rw [if_neg c1] at h
    by_cases c2 : (S.2 0 0 - 1) < t
    · rw [if_pos c2] at h; cases h
    · obtain ⟨j, hj, rfl⟩ := nI_of c1
      refine ⟨j, T, rfl, ?_, h2, e⟩
      have e3 : nI T - 1 = nI (T - 1) := by
        obtain ⟨T', rfl⟩ : ∃ T', T = T' + 1 := ⟨T - 1, by omega⟩
        exact nI_pred T'
      rw [e, e3] at c2
      have : ¬ (T - 1 < j) := fun q => c2 (nI_lt q hj)
      omega
theorem tick_ix {S : MSt} {t : Int32} (hT : LOK S) (h : sX6_isTick S t = true) : vp_in (4 + t) 17 := by
  obtain ⟨j, T, rfl, h1, h2, -⟩ := tick_in hT h
  rw [show (4 : Int32) + nI j = nI (4 + j) from nI_add 4 j]
  exact vp_in_nI (by omega) (by decide)
theorem note_tick {S : MSt} {t : Int32} (h : sX6_isNote S t = true) : sX6_isTick S t = true := by
  unfold sX6_isNote at h
  by_cases c : sX6_isTick S t = true
  · exact c
  · rw [if_neg c] at h; cases h
theorem note_j {S : MSt} {t : Int32} (hT : LOK S) (h : sX6_isNote S t = true) : ∃ j : Nat, t = nI j ∧ j < 12 := by
  obtain ⟨j, T, e, h1, h2, -⟩ := tick_in hT (note_tick h)
  exact ⟨j, e, by omega⟩
theorem next_res {S : MSt} {sh t : Int32} (hT : LOK S) : ∀ (n : Nat) (x : Int32) (k : Nat), x = nI k → k ≤ 12 → sX6_nextOf_L4 S sh t n x = -9 ∨ ∃ j : Nat, sX6_nextOf_L4 S sh t n x = nI j ∧ j < 12 := by
  obtain ⟨T, eT, h1, h2⟩ := hT
  intro n
  induction n with
  | zero => intro x k _ _; exact Or.inr ⟨0, rfl, by decide⟩
  | succ n ih =>
    intro x k e hk
    rw [sX6_nextOf_L4_s]
    by_cases c : (S.2 0) 0 ≤ x
    · rw [if_pos c]; exact Or.inl rfl
    · rw [if_neg c]
      have hlt := up_lt e eT (by omega) c
      by_cases c2 : sX6_isNote S x = true
      · rw [if_pos c2]
        by_cases c3 : sX6_has sh x = sX6_has sh t
        · rw [if_pos c3]; exact Or.inr ⟨k, e, by omega⟩
        · rw [if_neg c3]; exact ih _ (k + 1) (up_s e) (by omega)
      · rw [if_neg c2]; exact ih _ (k + 1) (up_s e) (by omega)
theorem next_ix {S : MSt} {sh t : Int32} (hT : LOK S) (hj : ∃ j : Nat, t = nI j ∧ j < 12) (c : ¬ sX6_nextOf S sh t = -9) : vp_in (4 + sX6_nextOf S sh t) 17 := by
  obtain ⟨j, e, hj⟩ := hj
  rcases next_res (sh := sh) (t := t) hT 13 (t + 1) (j + 1) (up_s e) (by omega) with q | ⟨i, q, hi⟩
  · exact absurd q c
  · have q : sX6_nextOf S sh t = nI i := q
    rw [q, show (4 : Int32) + nI i = nI (4 + i) from nI_add 4 i]
    exact vp_in_nI (by omega) (by decide)
