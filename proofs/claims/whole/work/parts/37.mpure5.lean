/-! the reference: what is kept, places -/
theorem within_n {x : Int32} {M : Nat} (hM : M < 2 ^ 31) (c : sX6_within x 0 (nI M) = true) : ∃ j : Nat, j ≤ M ∧ x = nI j := by
  obtain ⟨c1, c2⟩ := within_iff.mp c
  obtain ⟨j, hj, rfl⟩ := nI_of c1
  exact ⟨j, Nat.not_lt.mp (fun q => c2 (nI_lt q hj)), rfl⟩
theorem ty_ix {S : MSt} (h : ∃ n : Nat, S.1 2 = nI n ∧ n ≤ 120) (c : ¬ S.1 2 = 120) : vp_in (S.1 2) 120 := by
  obtain ⟨n, e, hn⟩ := h
  refine up_in e ?_ (by decide)
  rcases Nat.lt_or_ge n 120 with q | q
  · exact q
  · exact absurd (by rw [e, show n = 120 by omega]; rfl) c
theorem kp_u {S : MSt} (h : ∃ u : Nat, S.1 0 = nI u ∧ u ≤ 6) (c : ¬ S.1 0 = 6) : ∃ u : Nat, S.1 0 = nI u ∧ u ≤ 5 := by
  obtain ⟨u, e, hu⟩ := h
  refine ⟨u, e, ?_⟩
  rcases Nat.lt_or_ge u 6 with q | q
  · omega
  · exact absurd (by rw [e, show u = 6 by omega]; rfl) c
theorem a17_ix {x : Int32} {k : Nat} (e : x = nI k) (h : k < 85) : vp_in (x + 17) 102 := by
  rw [e, show nI k + 17 = nI (k + 17) from nI_add k 17]; exact vp_in_nI (by omega) (by decide)
theorem pu_cl {Y : MSt} {x : Int32} {k u : Nat} (eu : Y.1 0 = nI u) (e : x = nI k) : (17 : Int32) * Y.1 0 + x = nI (17 * u + k) := by
  rw [eu, e, show (17 : Int32) * nI u = nI (17 * u) from pk_mul 17 u, nI_add]
theorem pu_ix {Y : MSt} {x : Int32} {k : Nat} (h : ∃ u : Nat, Y.1 0 = nI u ∧ u ≤ 5) (e : x = nI k) (hk : k < 17) : vp_in (17 * Y.1 0 + x) 102 := by
  obtain ⟨u, eu, hu⟩ := h
  rw [pu_cl eu e]; exact vp_in_nI (by omega) (by decide)
theorem ud_u {S : MSt} (h : ∃ u : Nat, S.1 0 = nI u ∧ u ≤ 6) (c : ¬ S.1 0 = 0) : ∃ u : Nat, S.1 0 - 1 = nI u ∧ u ≤ 5 := by
  obtain ⟨u, e, hu⟩ := h
  rcases Nat.eq_zero_or_pos u with q | q
  · subst q; exact absurd e c
  · obtain ⟨v, rfl⟩ : ∃ v, u = v + 1 := ⟨u - 1, by omega⟩
    exact ⟨v, by rw [e]; exact nI_pred v, by omega⟩
theorem fl_le {x p2 : Int32} {k b : Nat} (e : x = nI k) (eb : p2 = nI b) (hk : k < 2 ^ 31) (hb : b < 2 ^ 31) (c : ¬ p2 < x) : k ≤ b := by
  rw [e, eb] at c
  exact Nat.not_lt.mp (fun q => c (nI_lt q hk))
theorem st_ix {p : Int32} (c : sX6_within p 0 2 = true) : vp_in (p + 1) 17 := by
  obtain ⟨j, hj, rfl⟩ := within_n (M := 2) (by decide) c
  rw [nI_1]; exact vp_in_nI (by omega) (by decide)
theorem se_ix {S : MSt} (h : ∃ q : Nat, S.1 1 = nI q ∧ q ≤ 6) (c : ¬ S.1 1 = 6) : vp_in (S.1 1) 6 := by
  obtain ⟨u, e, hu⟩ := h
  refine up_in e ?_ (by decide)
  rcases Nat.lt_or_ge u 6 with q | q
  · exact q
  · exact absurd (by rw [e, show u = 6 by omega]; rfl) c
theorem im2_ix {p : Int32} (c : sX6_within p 0 1 = true) : vp_in p 2 := by
  obtain ⟨j, hj, rfl⟩ := within_n (M := 1) (by decide) c
  exact vp_in_nI (by omega) (by decide)
theorem im_ix {p x : Int32} {k : Nat} (c : sX6_within p 0 1 = true) (e : x = nI k) (hk : k < 17) : vp_in (17 * p + x) 34 := by
  obtain ⟨j, hj, rfl⟩ := within_n (M := 1) (by decide) c
  rw [e, show (17 : Int32) * nI j = nI (17 * j) from pk_mul 17 j, nI_add]; exact vp_in_nI (by omega) (by decide)
/-- a row is laid behind those that are known -/
theorem kp_L50 (u : Nat) (hu : u ≤ 5) : ∀ (f : Nat) (x : Int32) (Y : MSt) (k : Nat), x = nI k → k ≤ 17 → 17 + 1 ≤ f + k → Y.1 0 = nI u →
    (sX6_keeps_L50 f x Y).1 = upd Y.1 0 (nI (u + 1)) ∧ (∀ j, j ≠ 2 → (sX6_keeps_L50 f x Y).2 j = Y.2 j) ∧ (∀ i, (sX6_keeps_L50 f x Y).2 2 i = if 17 * u + k ≤ i ∧ i < 17 * u + 17 then Y.2 0 (i - 17 * u) else Y.2 2 i) := by
  intro f
  induction f with
  | zero => intro x Y k _ h1 h2; omega
  | succ f ih =>
    intro x Y k e hk hf eu
    rw [sX6_keeps_L50_s]
    by_cases q : 17 ≤ x
    · rw [if_pos q]
      have hge : k = 17 := by
        rcases Nat.lt_or_ge k 17 with z | z
        · rw [e] at q; exact absurd q (nI_ge (b := 17) z (by decide))
        · omega
      exact ⟨by rw [eu, nI_1], fun _ _ => rfl, fun i => by rw [if_neg (by omega)]⟩
    · rw [if_neg q]
      have hlt : k < 17 := up_lt (b := 17) e rfl (by omega) q
      rw [pu_cl eu e, nI_clamp (by omega), e, nI_clamp (by omega)]
      obtain ⟨i1, i2, i3⟩ := ih (nI k + 1) (Y.1, (updR Y.2 2 (upd (Y.2 2) (17 * u + k) ((Y.2 0) k)))) (k + 1) (nI_1 k) (by omega) (by omega) eu
      refine ⟨i1, fun j hj => (i2 j hj).trans (if_neg hj), fun i => (i3 i).trans ?_⟩
      show (if 17 * u + (k + 1) ≤ i ∧ i < 17 * u + 17 then Y.2 0 (i - 17 * u) else upd (Y.2 2) (17 * u + k) ((Y.2 0) k) i) = _
      by_cases z : i = 17 * u + k
      · subst z
        rw [if_neg (by omega), if_pos (by omega), pk_us, show 17 * u + k - 17 * u = k by omega]
      · rw [pk_un z]
        by_cases z2 : 17 * u + (k + 1) ≤ i ∧ i < 17 * u + 17
        · rw [if_pos z2, if_pos (by omega)]
        · rw [if_neg z2, if_neg (by omega)]
theorem kp_L11 : ∀ (f : Nat) (x : Int32) (Y : MSt) (k : Nat), x = nI k → k ≤ 85 → 85 + 1 ≤ f + k → ∃ R : Nat → Nat → Int32, sX6_keeps_L11 f x Y = sX6_keeps_L50 18 0 ((upd Y.1 0 ((Y.1 0) - 1)), R) ∧ (∀ j, j ≠ 2 → R j = Y.2 j) ∧ (∀ i, R 2 i = if k ≤ i ∧ i < 85 then Y.2 2 (i + 17) else Y.2 2 i) := by
  intro f
  induction f with
  | zero => intro x Y k _ h1 h2; omega
  | succ f ih =>
    intro x Y k e hk hf
    rw [sX6_keeps_L11_s]
    by_cases q : 85 ≤ x
    · rw [if_pos q]
      have hge : k = 85 := by
        rcases Nat.lt_or_ge k 85 with z | z
        · rw [e] at q; exact absurd q (nI_ge (b := 85) z (by decide))
        · omega
      exact ⟨Y.2, rfl, fun _ _ => rfl, fun i => by rw [if_neg (by omega)]⟩
    · rw [if_neg q]
      have hlt : k < 85 := up_lt (b := 85) e rfl (by omega) q
      rw [e, show nI k + 17 = nI (k + 17) from nI_add k 17, nI_clamp (by omega), nI_clamp (by omega)]
      obtain ⟨R, i1, i2, i3⟩ := ih (nI k + 1) (Y.1, (updR Y.2 2 (upd (Y.2 2) k ((Y.2 2) (k + 17))))) (k + 1) (nI_1 k) (by omega) (by omega)
      refine ⟨R, i1, fun j hj => (i2 j hj).trans (if_neg hj), fun i => (i3 i).trans ?_⟩
      show (if k + 1 ≤ i ∧ i < 85 then upd (Y.2 2) k ((Y.2 2) (k + 17)) (i + 17) else upd (Y.2 2) k ((Y.2 2) (k + 17)) i) = _
      by_cases z : i = k
      · subst z
        rw [if_neg (by omega), if_pos (by omega), pk_us]
      · rw [pk_un z]
        by_cases z2 : k + 1 ≤ i ∧ i < 85
        · rw [if_pos z2, if_pos (by omega), pk_un (by omega)]
        · rw [if_neg z2, if_neg (by omega)]
/-- keeps: how many are known, all else but the past is as it was, the past's rows -/
theorem keeps_ok {S : MSt} {u : Nat} (eu : S.1 0 = nI u) (hu : u ≤ 6) : (sX6_keeps S).1 0 = nI ((if u = 6 then 5 else u) + 1) ∧ (∀ j, j ≠ 0 → (sX6_keeps S).1 j = S.1 j) ∧ (∀ j, j ≠ 2 → (sX6_keeps S).2 j = S.2 j) ∧
    (∀ i, (sX6_keeps S).2 2 i = if 17 * (if u = 6 then 5 else u) ≤ i ∧ i < 17 * (if u = 6 then 5 else u) + 17 then S.2 0 (i - 17 * (if u = 6 then 5 else u)) else if u = 6 ∧ i < 85 then S.2 2 (i + 17) else S.2 2 i) := by
  unfold sX6_keeps
  by_cases c : S.1 0 = 6
  · rw [if_pos c]
    have hu6 : u = 6 := by rw [eu] at c; exact (nI_eq (b := 6) (by omega) (by decide)).mp c
    subst hu6
    obtain ⟨R, r1, r2, r3⟩ := kp_L11 86 0 S 0 rfl (by decide) (by decide)
    have e5 : ((upd S.1 0 ((S.1 0) - 1)), R).1 0 = nI 5 := by show S.1 0 - 1 = nI 5; rw [eu]; rfl
    obtain ⟨i1, i2, i3⟩ := kp_L50 5 (by decide) 18 0 ((upd S.1 0 ((S.1 0) - 1)), R) 0 rfl (by decide) (by decide) e5
    rw [r1, i1]
    refine ⟨rfl, fun j hj => ?_, fun j hj => (i2 j hj).trans (r2 j hj), fun i => (i3 i).trans ?_⟩
    · show upd (upd S.1 0 _) 0 _ j = _
      rw [pk_un hj, pk_un hj]
    · show (if 17 * 5 + 0 ≤ i ∧ i < 17 * 5 + 17 then R 0 (i - 17 * 5) else R 2 i) = _
      rw [if_pos rfl]
      by_cases z : 17 * 5 ≤ i ∧ i < 17 * 5 + 17
      · rw [if_pos (by omega), if_pos z, r2 0 (by decide)]
      · rw [if_neg (by omega), if_neg z, r3 i]
        by_cases z2 : i < 85
        · rw [if_pos ⟨by omega, z2⟩, if_pos ⟨rfl, z2⟩]
        · rw [if_neg (by omega), if_neg (fun w => z2 w.2)]
  · rw [if_neg c]
    have hu6 : ¬ u = 6 := fun z => c (by rw [eu, z]; rfl)
    obtain ⟨i1, i2, i3⟩ := kp_L50 u (by omega) 18 0 S 0 rfl (by decide) (by decide) eu
    rw [i1, if_neg hu6]
    refine ⟨rfl, fun j hj => pk_un hj, i2, fun i => (i3 i).trans ?_⟩
    by_cases z : 17 * u ≤ i ∧ i < 17 * u + 17
    · rw [if_pos (by omega), if_pos z]
    · rw [if_neg (by omega), if_neg z, if_neg (fun w => hu6 w.1)]
theorem kp_now {S : MSt} (h : ∃ u : Nat, S.1 0 = nI u ∧ u ≤ 6) : (sX6_keeps S).2 0 = S.2 0 := by
  obtain ⟨u, eu, hu⟩ := h
  exact (keeps_ok eu hu).2.2.1 0 (by decide)
theorem rs_L : ∀ (f : Nat) (x : Int32) (Y : MSt), (∃ n k : Nat, Y.1 2 = nI n ∧ n ≤ 120 ∧ Y.1 3 = nI k ∧ k ≤ n ∧ 120 + 1 ≤ f + k) → (∃ T : Nat, Y.2 1 0 = nI T ∧ T ≤ 12) → mAg2 Y (sX6_reads_L23 f x Y).2 := by
  intro f
  induction f with
  | zero => intro x Y t; obtain ⟨n, k, -, h0, -, h1, h2⟩ := t; omega
  | succ f ih =>
    intro x Y t hF
    rw [sX6_reads_L23_s]
    by_cases c1 : Y.1 2 ≤ Y.1 3
    · rw [if_pos c1]
      by_cases c2 : (Y.2 1) 0 ≤ 0
      · rw [if_pos c2]; exact mAg2.rf Y
      · rw [if_neg c2]; exact mAg2.rf Y
    · rw [if_neg c1]
      obtain ⟨n, k, h1, h2, h3, h4, h5⟩ := id t
      obtain ⟨b, hb, kb, ab, -⟩ := it_K (show TXK Y n k from ⟨h1, h2, h3, h4⟩) hF
      by_cases c3 : (sX6_readsItem Y).1 = true
      · rw [if_pos c3]
        obtain ⟨d, hd, kd, ad, -⟩ := pe_K kb
        by_cases c4 : (sX6_passesEnd (sX6_readsItem Y).2).1 = true
        · rw [if_pos c4]
          obtain ⟨-, -, s3⟩ := sk_ok kd.1 h2 kd.2.2.1 kd.2.2.2
          exact ((ab.tr ad.two).tr s3.two).tr (ih _ _ (lp_t t hF c4) (lp_F t hF))
        · rw [if_neg c4]; exact ab.tr ad.two
      · rw [if_neg c3]; exact ab
theorem rs_ag {S : MSt} (h : ∃ n : Nat, S.1 2 = nI n ∧ n ≤ 120) : mAg2 S (sX6_reads S).2 := by
  have hX := rs_X h
  obtain ⟨n, a, l, hn, e, ha⟩ := id hX
  obtain ⟨-, -, s3⟩ := sk_ok l hn e ha
  have h2 := rs_L 121 0 (sX6_skips ((upd (upd S.1 5 0) 3 0), (updR S.2 1 (sX6_bares (S.2 1))))) (t_0 (sk_X hX)) (rs_F h)
  have h0 : mAg2 S ((upd (upd S.1 5 0) 3 0), (updR S.2 1 (sX6_bares (S.2 1)))) := ⟨fun j hj => if_neg hj, rfl, rfl, rfl⟩
  exact (h0.tr s3.two).tr h2
theorem rs_U {S : MSt} (h : ∃ n : Nat, S.1 2 = nI n ∧ n ≤ 120) (hU : ∃ u : Nat, S.1 0 = nI u ∧ u ≤ 6) : ∃ u : Nat, (sX6_reads S).2.1 0 = nI u ∧ u ≤ 6 := by
  rw [(rs_ag h).2.1]; exact hU
