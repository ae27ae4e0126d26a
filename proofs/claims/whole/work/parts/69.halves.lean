/-! the tick that halves best -/
def grN (S m : Nat) : Nat := if m < S - m then S - m else m
theorem gr_c {S m : Nat} (hm : m ≤ S) (hS : S < 2 ^ 31) : (if nI m < nI S - nI m then nI S - nI m else nI m) = nI (grN S m) := by
  unfold grN
  rw [pk_sub hm]
  by_cases q : m < S - m
  · rw [if_pos (nI_lt q (by omega)), if_pos q]
  · rw [if_neg (nI_nlt (by omega) (by omega)), if_neg q]
theorem pc_and_le (f g : Nat → Bool) (n : Nat) : pc (fun j => f j && g j) n ≤ pc f n := by
  induction n with
  | zero => exact Nat.le_refl _
  | succ n ih =>
    rw [pc, pc]
    cases f n <;> cases g n <;> simp <;> omega
section
variable {T : Nat} {p : Nat → Nat} {w c b : Nat} {h : Int32} {N : LSt} {M : MSt}
/-- the first of the ticks in a stretch whose greater part is least -/
def Pk (p : Nat → Nat) (gr : Nat → Nat) (lo hi : Nat) (s0 : Nat) (x2 x3 : Int32) : Prop :=
  (x2 = -9 ∧ x3 = nI s0 ∧ ∀ i, lo ≤ i → i < hi → ¬ 0 < p i) ∨ (∃ j, lo ≤ j ∧ j < hi ∧ 0 < p j ∧ x2 = nI j ∧ x3 = nI (gr j) ∧ (∀ i, lo ≤ i → i < hi → 0 < p i → gr j ≤ gr i) ∧ (∀ i, lo ≤ i → i < j → 0 < p i → gr j < gr i))
theorem hv_L (B : Lb T p w c b h) (C : Lc T p w c b h N) {S : LSt} {s : Nat} (hs : s ≤ 128) (e0 : S.1 0 = nI s) {m : Nat → Nat} (em : ∀ t, t < 12 → S.2 t = nI (m t)) (hm : ∀ t, m t ≤ s) : ∀ (n k : Nat) (x2 x3 : Int32), k ≤ 12 → 13 ≤ n + k → Pk p (fun t => grN s (m t)) 0 k (s + 1) x2 x3 → ∃ x3', Pk p (fun t => grN s (m t)) 0 12 (s + 1) (sX3_tickThatHalvesBest_L13 S N n x2 x3 (nI k)) x3' := by
  intro n
  induction n with
  | zero => intro k x2 x3 h1 h2; omega
  | succ n ih =>
    intro k x2 x3 h1 h2 q
    rw [sX3_tickThatHalvesBest_L13_s, hasNote_nz B C]
    by_cases c1 : 12 ≤ nI k
    · rw [if_pos c1]
      have : ¬ k < 12 := fun q => nI_ge (b := 12) q (by decide) c1
      have hk : k = 12 := by omega
      subst hk
      exact ⟨x3, q⟩
    · rw [if_neg c1, nz_nI (by omega), nI_1, nI_clamp (by omega)]
      have hlt : k < 12 := up_lt (x := nI k) (b := 12) rfl rfl (by omega) c1
      rw [e0, em k hlt, gr_c (hm k) (by omega)]
      have hg : grN s (m k) ≤ s := by have := hm k; unfold grN; split <;> omega
      by_cases c2 : decide (0 < p k) = true
      · rw [if_pos c2]
        have hp := of_decide_eq_true c2
        rcases q with ⟨q1, q2, q3⟩ | ⟨j, q0, q1, q2, q3, q4, q5, q6⟩
        · rw [q2, if_neg (nI_ge (by omega) (by omega))]
          refine ih (k + 1) _ _ (by omega) (by omega) (Or.inr ⟨k, Nat.zero_le _, by omega, hp, rfl, rfl, fun i z1 z2 z3 => ?_, fun i z1 z2 z3 => absurd z3 (q3 i z1 z2)⟩)
          rcases Nat.eq_or_lt_of_le (Nat.le_of_lt_succ z2) with y | y
          · rw [y]; exact Nat.le_refl _
          · exact absurd z3 (q3 i z1 y)
        · have hgj : grN s (m j) ≤ s := by have := hm j; unfold grN; split <;> omega
          have q4 : x3 = nI (grN s (m j)) := q4
          rw [q4]
          by_cases c3 : nI (grN s (m j)) ≤ nI (grN s (m k))
          · rw [if_pos c3]
            have c3 := (nI_leI (by omega) (by omega)).mp c3
            refine ih (k + 1) _ _ (by omega) (by omega) (Or.inr ⟨j, q0, by omega, q2, q3, rfl, fun i z1 z2 z3 => ?_, q6⟩)
            rcases Nat.eq_or_lt_of_le (Nat.le_of_lt_succ z2) with y | y
            · rw [y]; exact c3
            · exact q5 i z1 y z3
          · rw [if_neg c3]
            have c3 : ¬ grN s (m j) ≤ grN s (m k) := fun z => c3 (nI_le z (by omega))
            refine ih (k + 1) _ _ (by omega) (by omega) (Or.inr ⟨k, Nat.zero_le _, by omega, hp, rfl, rfl, fun i z1 z2 z3 => ?_, fun i z1 z2 z3 => ?_⟩)
            · rcases Nat.eq_or_lt_of_le (Nat.le_of_lt_succ z2) with y | y
              · rw [y]; exact Nat.le_refl _
              · have := q5 i z1 y z3
                show grN s (m k) ≤ grN s (m i)
                have : grN s (m j) ≤ grN s (m i) := this
                omega
            · have : grN s (m j) ≤ grN s (m i) := q5 i z1 z2 z3
              show grN s (m k) < grN s (m i)
              omega
      · rw [if_neg c2]
        have hp : ¬ 0 < p k := fun z => c2 (decide_eq_true z)
        refine ih (k + 1) _ _ (by omega) (by omega) ?_
        rcases q with ⟨q1, q2, q3⟩ | ⟨j, q0, q1, q2, q3, q4, q5, q6⟩
        · refine Or.inl ⟨q1, q2, fun i z1 z2 => ?_⟩
          rcases Nat.eq_or_lt_of_le (Nat.le_of_lt_succ z2) with y | y
          · rw [y]; exact hp
          · exact q3 i z1 y
        · refine Or.inr ⟨j, q0, by omega, q2, q3, q4, fun i z1 z2 z3 => ?_, q6⟩
          rcases Nat.eq_or_lt_of_le (Nat.le_of_lt_succ z2) with y | y
          · rw [y] at z3; exact absurd z3 hp
          · exact q5 i z1 y z3
theorem l102_L (B : Lb T p w c b h) {Y : MSt} (R : Lr T p w c b h (Y.2 0)) {s : Nat} (hs : s ≤ 128) {m : Nat → Nat} (em : ∀ t, t < 12 → Y.2 8 t = nI (m t)) (hm : ∀ t, m t ≤ s) : ∀ (n k : Nat) (x2 x3 x4 : Int32), k ≤ T → k + 1 ≤ n → x4 = nI k - 1 → Pk p (fun t => grN s (m t)) k T s x2 x3 → ∃ x2' x3', Pk p (fun t => grN s (m t)) 0 T s x2' x3' ∧ sX6_listen_L102 (nI s) Y n x2 x3 x4 = (if nI s ≤ 1 then -9 else x2', Y) := by
  have hT := B.T12
  intro n
  induction n with
  | zero => intro k x2 x3 x4 _ h2; omega
  | succ n ih =>
    intro k x2 x3 x4 h1 h2 e4 q
    rw [sX6_listen_L102_s]
    by_cases c1 : x4 < 0
    · rw [if_pos c1]
      have hk : k = 0 := by
        rcases Nat.eq_zero_or_pos k with q | q
        · exact q
        · obtain ⟨j, rfl⟩ : ∃ j, k = j + 1 := ⟨k - 1, by omega⟩
          rw [e4, nI_pred] at c1
          exact absurd c1 (nI_pos (by omega))
      subst hk
      refine ⟨x2, x3, q, ?_⟩
      by_cases c2 : nI s ≤ 1
      · rw [if_pos c2, if_pos c2]
      · rw [if_neg c2, if_neg c2]
    · rw [if_neg c1]
      obtain ⟨g1, g2, g3⟩ := dn_b e4 h1 (by omega) c1
      obtain ⟨k, rfl⟩ : ∃ j, k = j + 1 := ⟨k - 1, by omega⟩
      have g2 : x4 = nI k := g2
      rw [g2] at g3 ⊢
      rw [nI_clamp (by omega), em k (by omega), isNote_nz B R, nz_nI (by omega)]
      have hmk := hm k
      have hg : grN s (m k) ≤ s := by unfold grN; split <;> omega
      -- both ways of the greater part are one
      have two : ∀ (A : Int32 → Int32 × MSt) (D : Int32 × MSt), (if nI (m k) ≤ nI s - nI (m k) then (if decide (0 < p k) = true then (if x3 < nI s - nI (m k) then D else A (nI s - nI (m k))) else D) else if decide (0 < p k) = true then (if x3 < nI (m k) then D else A (nI (m k))) else D) = if decide (0 < p k) = true then (if x3 < nI (grN s (m k)) then D else A (nI (grN s (m k)))) else D := by
        intro A D
        rw [pk_sub hmk]
        unfold grN
        by_cases y : m k ≤ s - m k
        · rw [if_pos (nI_le y (by omega))]
          by_cases y2 : m k < s - m k
          · rw [if_pos y2]
          · rw [if_neg y2, show s - m k = m k by omega]
        · rw [if_neg (nI_ge (by omega) (by omega)), if_neg (show ¬ m k < s - m k by omega)]
      rw [two (fun z => sX6_listen_L102 (nI s) Y n (nI k) z (nI k + (-1))) (sX6_listen_L102 (nI s) Y n x2 x3 (nI k + (-1)))]
      by_cases c2 : decide (0 < p k) = true
      · rw [if_pos c2]
        have hp := of_decide_eq_true c2
        have take : ((∀ i, k + 1 ≤ i → i < T → 0 < p i → grN s (m k) ≤ grN s (m i))) → ∃ x2' x3', Pk p (fun t => grN s (m t)) 0 T s x2' x3' ∧ sX6_listen_L102 (nI s) Y n (nI k) (nI (grN s (m k))) (nI k + (-1)) = (if nI s ≤ 1 then -9 else x2', Y) := fun z => by
          refine ih k _ _ _ (by omega) (by omega) g3 (Or.inr ⟨k, Nat.le_refl _, by omega, hp, rfl, rfl, fun i z1 z2 z3 => ?_, fun i z1 z2 => by omega⟩)
          rcases Nat.eq_or_lt_of_le z1 with y | y
          · rw [← y]; exact Nat.le_refl _
          · exact z i y z2 z3
        rcases q with ⟨q1, q2, q3⟩ | ⟨j, q0, q1, q2, q3, q4, q5, q6⟩
        · rw [q2, if_neg (nI_nlt hg (by omega))]
          exact take (fun i z1 z2 z3 => absurd z3 (q3 i z1 z2))
        · have hmj := hm j
          have hgj : grN s (m j) ≤ s := by unfold grN; split <;> omega
          have q4 : x3 = nI (grN s (m j)) := q4
          rw [q4]
          by_cases c3 : nI (grN s (m j)) < nI (grN s (m k))
          · rw [if_pos c3]
            have c3 := (nI_ltI (by omega) (by omega)).mp c3
            refine ih k _ _ _ (by omega) (by omega) g3 (Or.inr ⟨j, by omega, q1, q2, q3, rfl, fun i z1 z2 z3 => ?_, fun i z1 z2 z3 => ?_⟩)
            · rcases Nat.eq_or_lt_of_le z1 with y | y
              · rw [← y]; exact Nat.le_of_lt c3
              · exact q5 i y z2 z3
            · rcases Nat.eq_or_lt_of_le z1 with y | y
              · rw [← y]; exact c3
              · exact q6 i y z2 z3
          · rw [if_neg c3]
            have c3 : ¬ grN s (m j) < grN s (m k) := fun z => c3 (nI_lt z (by omega))
            refine take (fun i z1 z2 z3 => ?_)
            have : grN s (m j) ≤ grN s (m i) := q5 i z1 z2 z3
            omega
      · rw [if_neg c2]
        have hp : ¬ 0 < p k := fun z => c2 (decide_eq_true z)
        refine ih k _ _ _ (by omega) (by omega) g3 ?_
        rcases q with ⟨q1, q2, q3⟩ | ⟨j, q0, q1, q2, q3, q4, q5, q6⟩
        · refine Or.inl ⟨q1, q2, fun i z1 z2 => ?_⟩
          rcases Nat.eq_or_lt_of_le z1 with y | y
          · rw [← y]; exact hp
          · exact q3 i y z2
        · refine Or.inr ⟨j, by omega, q1, q2, q3, q4, fun i z1 z2 z3 => ?_, fun i z1 z2 z3 => ?_⟩
          · rcases Nat.eq_or_lt_of_le z1 with y | y
            · rw [← y] at z3; exact absurd z3 hp
            · exact q5 i y z2 z3
          · rcases Nat.eq_or_lt_of_le z1 with y | y
            · rw [← y] at z3; exact absurd z3 hp
            · exact q6 i y z2 z3
theorem Pk_one (B : Lb T p w c b h) {gr : Nat → Nat} {s0 s1 : Nat} {x2 x3 y2 y3 : Int32} (q : Pk p gr 0 12 s0 x2 x3) (r : Pk p gr 0 T s1 y2 y3) : x2 = y2 := by
  have hT := B.T12
  rcases q with ⟨q1, q2, q3⟩ | ⟨j, q0, q1, q2, q3, q4, q5, q6⟩
  · rcases r with ⟨r1, r2, r3⟩ | ⟨i, r0, r1, r2, r3, r4, r5, r6⟩
    · rw [q1, r1]
    · exact absurd r2 (q3 i r0 (by omega))
  · rcases r with ⟨r1, r2, r3⟩ | ⟨i, r0, r1, r2, r3, r4, r5, r6⟩
    · exact absurd q2 (r3 j q0 (B.lt q2))
    · rw [q3, r3]
      rcases Nat.lt_trichotomy i j with y | y | y
      · have h1 := q6 i r0 y r2
        have h2 := r5 j q0 (B.lt q2) q2
        omega
      · rw [y]
      · have h1 := r6 j q0 y q2
        have h2 := q5 i r0 (by omega) r2
        omega
theorem listen_eq (Z : SSt) (Q : LSt) (B : Lb T p w c b h) (C : Lc T p w c b h N) (R : Lr T p w c b h (M.2 0)) (hz : Sn Z M) : (sX5_listen Z N Q).1 = (sX6_listen M).1 ∧ Ag8 M (sX6_listen M).2 := by
  have hT := B.T12
  obtain ⟨Y1, a1, a2, a3⟩ := l4_L 13 0 M (by omega) (by omega)
  obtain ⟨Y, b1, b2, b3⟩ := l25_L Z B C R hz 129 0 Y1 (by omega) (by omega) a2 (fun t ht => by rw [a3 t ht, if_pos (Nat.zero_le _)]; rfl)
  have RY := ag_Lr b1 R
  obtain ⟨g1, -, g3⟩ := gather_h Z B C R hz Q
  have hS := pc_le (fun j => sX6_isHeard M (nI j)) 128
  have hm : ∀ t, pc (fun j => sX6_isHeard M (nI j) && bt (sX0_shareByTable N (nI j)) t) 128 ≤ pc (fun j => sX6_isHeard M (nI j)) 128 := fun t => pc_and_le _ _ 128
  obtain ⟨x2, x3, c1, c2⟩ := l102_L B RY hS (m := fun t => pc (fun j => sX6_isHeard M (nI j) && bt (sX0_shareByTable N (nI j)) t) 128) b2 hm 13 T (-9) (nI (pc (fun j => sX6_isHeard M (nI j)) 128)) (nI T - 1) (Nat.le_refl _) (by omega) rfl (Or.inl ⟨rfl, rfl, fun i z1 z2 => by omega⟩)
  have e : sX6_listen M = (if nI (pc (fun j => sX6_isHeard M (nI j)) 128) ≤ 1 then -9 else x2, Y) := by
    rw [← c2, ← RY.1, ← b3]; exact a1
  rw [e]
  refine ⟨?_, b1⟩
  unfold sX5_listen
  rw [g1]
  by_cases d : nI (pc (fun j => sX6_isHeard M (nI j)) 128) ≤ 1
  · rw [if_pos d, if_pos d]
  · rw [if_neg d, if_neg d]
    obtain ⟨y3, d2⟩ := hv_L B C hS g1 (m := fun t => pc (fun j => sX6_isHeard M (nI j) && bt (sX0_shareByTable N (nI j)) t) 128) g3 hm 13 0 (-9) (nI (pc (fun j => sX6_isHeard M (nI j)) 128 + 1)) (by omega) (by omega) (Or.inl ⟨rfl, rfl, fun i z1 z2 => by omega⟩)
    have d3 := Pk_one B d2 c1
    rw [← d3]
    show sX3_tickThatHalvesBest (sX3_gather Q N (Z 1) (Z 2)) N = _
    unfold sX3_tickThatHalvesBest
    rw [g1, nI_1]; rfl
end
