/-! items: hands, numbers, the stop -/
section
variable {n : Nat} {u : Nat → Nat} {t m : Nat → Int32} {R D : LSt} {W : MSt} {a s2 e2 : Nat} {tl hd : Bool}
theorem fs_hands (hn : n ≤ 120) (ht : Lt n u t) (hm : Lt n u m) (hR : TC n t R true false) (es : R.1 4 = nI s2) (hW : TXK W n a) (eW : W.2 7 = m) (e5 : W.1 5 = bI false) (h2 : s2 = rn (uB u) n a) (h3 : e2 = rn (uF u) n s2) (hc : (R.1 3 = 2 ∧ R.1 5 = nI e2 ∧ s2 < e2) ∨ (¬ R.1 3 = 2 ∧ e2 ≤ s2)) (hD : Dq true false D (W.2 1)) : Fs n t m R D 4 (sX6_readsHands W) s2 e2 := by
  obtain ⟨T, p, w, c, b, h, B, C, r0, r1, r2, r3, r4, r5, hp, hh⟩ := hD
  have hh0 : h = 0 := hh rfl
  have hT := B.T12
  have hT1 := B.1
  have r0 : W.2 1 0 = nI T := r0
  obtain ⟨g1, g2, g3, g4, g5⟩ := fgR (x := 1) (q := 1) hW (by rw [eW]; exact hm) rfl (by decide)
  rw [← h2, ← h3] at g1 g4 g5
  rw [← h2] at g2
  have hs2n : s2 ≤ n := by rw [h2]; exact rn_le hW.2.2.2
  have he2n : e2 ≤ n := by rw [h3]; exact rn_le hs2n
  have hall := rn_all (P := uF u) (n := n) _ s2 rfl hs2n
  rw [← h3] at hall
  obtain ⟨c1, c2, c3, c4⟩ := hR
  unfold sX6_readsHands
  have hf0 : ((sX6_figures W 1).2.2 1) 0 = nI T := by rw [g3.1]; exact r0
  rw [e5, if_pos (show bI false = 0 from rfl), r0, if_neg (nI_ne0 hT1 (by omega)), hf0]
  have bad : ¬ (sX6_figures W 1).1 = nI T → ((if (sX6_figures W 1).1 = nI T then sX6_readsHands_L39 13 0 ((upd (sX6_figures W 1).2.1 5 1), (sX6_figures W 1).2.2) else (false, (sX6_figures W 1).2)) : Bool × MSt).1 = false ∧ ((if (sX6_figures W 1).1 = nI T then sX6_readsHands_L39 13 0 ((upd (sX6_figures W 1).2.1 5 1), (sX6_figures W 1).2.2) else (false, (sX6_figures W 1).2)) : Bool × MSt).2.1 4 = nI s2 := fun z => by
    rw [if_neg z]; exact ⟨rfl, g2⟩
  have m1 : ¬ (-1 : Int32) = nI T := fun z => nI_pos (n := T) (by omega) (by rw [← z]; decide)
  rcases hc with ⟨q1, q2, q3⟩ | ⟨q1, q2⟩
  · have hdig : ∀ j, j < e2 - s2 → 48 ≤ u (s2 + j) ∧ u (s2 + j) ≤ 57 := fun j hj => of_decide_eq_true (hall (s2 + j) (by omega) (by omega))
    have etk : sX4_takeFigures R D 4 = if nI (e2 - s2) = nI T then sX4_takeHands_L23 R 13 0 D else (false, R, D) := by
      show sX4_takeHands R D = _
      unfold sX4_takeHands
      rw [es, q2, pk_sub (by omega), C.1]
    by_cases hw : e2 - s2 = T
    · rw [if_pos (by rw [hw])] at etk
      have hL := th_L c1 hn es (by rw [c2]; exact ht) T hT (by omega) (fun j hj => hdig j (by omega)) D 13 0 0 D rfl (Nat.zero_le _) (by omega) C.1 rfl (fun _ _ => rfl) (fun i hi => by
        rw [C.2.2.2.2.2.2, hh0, b_0, decide_eq_false (show ¬ (i < 0 ∧ u (s2 + i) = 49) from fun z => by omega)])
      rcases hL with ⟨l1, D', l2, l3, l4, l5⟩ | ⟨⟨j, l1, l2⟩, l3, l4⟩
      · have hfig : (sX6_figures W 1).1 = nI T := by
          rw [← hw]
          exact g4 q3 (fun j z1 z2 => by have := l1 (j - s2) (by omega) (by omega); rw [show s2 + (j - s2) = j by omega] at this; omega)
        rw [if_pos hfig]
        obtain ⟨k1, k2, k3, k4⟩ := rh_L T s2 hT 13 0 ((upd (sX6_figures W 1).2.1 5 1), (sX6_figures W 1).2.2) 0 rfl (by omega) (by omega) hf0 g2 (by omega)
        have k5 := rhb_L (p := p) T s2 hT (by omega) hn hm 13 0 0 ((upd (sX6_figures W 1).2.1 5 1), (sX6_figures W 1).2.2) rfl (Nat.zero_le _) (by omega) hf0 g2 (by show (sX6_figures W 1).2.2 7 = m; rw [g3.1, eW]) (fun i hi => by show (sX6_figures W 1).2.2 1 (4 + i) = _; rw [g3.1]; exact r4 i hi) B.p7 (fun i hi => by
          show bt ((sX6_figures W 1).2.2 1 16) i = _
          rw [g3.1, r5, hh0, b_0, decide_eq_false (show ¬ (i < 0 ∧ u (s2 + i) = 49) from fun z => by omega), Bool.false_and])
        have he : (sX6_readsHands_L39 13 0 ((upd (sX6_figures W 1).2.1 5 1), (sX6_figures W 1).2.2)).2.2 1 16 = D'.1 2 := b_ext (fun i hi => by
          rw [k5 i hi, l5 i hi, C.2.2.2.2.2.1 i hi])
        generalize sX6_readsHands_L39 13 0 ((upd (sX6_figures W 1).2.1 5 1), (sX6_figures W 1).2.2) = Y at k1 k2 k3 k4 he ⊢
        have k2 : Y.2.1 = upd (sX6_figures W 1).2.1 5 1 := k2
        have k3 : ∀ j, j ≠ 1 → Y.2.2 j = (sX6_figures W 1).2.2 j := k3
        have k4 : ∀ i, i ≠ 16 → Y.2.2 1 i = (sX6_figures W 1).2.2 1 i := k4
        refine Or.inl ⟨q1, true, true, D', _, etk.trans l2, ⟨c1, c2, c3, rfl⟩, q2, k1, ⟨by rw [k2]; exact g1.1, hn, by rw [k2]; exact g1.2.2.1, he2n⟩, by rw [k3 7 (by decide), g3.1, eW], by rw [k2]; rfl, ?_⟩
        have hs : Sh p (D'.1 2) := fun i hi q => by
          rw [l5 i hi, C.2.2.2.2.2.1 i hi] at q
          exact of_decide_eq_true (Bool.and_eq_true_iff.mp q).2
        refine ⟨T, p, w, c, b, D'.1 2, Lb_h B hs, ⟨(l4 0 (by decide)).trans C.1, (l4 3 (by decide)).trans C.2.1, (l4 4 (by decide)).trans C.2.2.1, (l4 5 (by decide)).trans C.2.2.2.1, fun j hj => by rw [l3]; exact C.2.2.2.2.1 j hj, fun i hi => by rw [l4 1 (by decide)]; exact C.2.2.2.2.2.1 i hi, rfl⟩, ?_, ?_, ?_, ?_, fun j hj => ?_, he, (fun z => by cases z), (fun z => by cases z)⟩
        · rw [if_pos rfl, k4 0 (by decide)]; exact hf0
        · rw [k4 1 (by decide), g3.1]; exact r1
        · rw [k4 2 (by decide), g3.1]; exact r2
        · rw [k4 3 (by decide), g3.1]; exact r3
        · rw [k4 (4 + j) (by omega), g3.1]; exact r4 j hj
      · have hfig := g5 (Or.inl ⟨s2 + j, by omega, by omega, by omega⟩)
        exact Or.inr ⟨Or.inr ⟨by rw [etk]; exact l3, by rw [etk]; exact l4⟩, bad (by rw [hfig]; exact m1)⟩
    · have hne : ¬ nI (e2 - s2) = nI T := fun z => hw ((nI_eq (by omega) (by omega)).mp z)
      rw [if_neg hne] at etk
      refine Or.inr ⟨Or.inr ⟨by rw [etk], by rw [etk]⟩, bad ?_⟩
      by_cases hg : ∀ j, s2 ≤ j → j < e2 → u j ≤ 48 + 1
      · rw [g4 q3 hg]; exact hne
      · rw [g5 (Or.inl (Classical.byContradiction (fun z => hg (fun j z1 z2 => Nat.not_lt.mp (fun z3 => z ⟨j, z1, z2, z3⟩)))))]; exact m1
  · exact Or.inr ⟨Or.inl q1, bad (by rw [g5 (Or.inr q2)]; exact m1)⟩
theorem dq_num {j : Nat} (hj : j ≤ 2) {v : Nat} {r : Nat → Int32} (hD : Dq tl hd D r) (hv : sX6_within (nI v) (sX6_least (nI (j + 1))) (sX6_greatest (nI (j + 1))) = true) (hv2 : v < 2 ^ 31) : Dq tl hd (sX0_setNumber D (nI j) (nI v)) (upd r (j + 1) (nI v)) := by
  obtain ⟨T, p, w, c, b, h, B, C, r0, r1, r2, r3, r4, r5, hp, hh⟩ := hD
  obtain ⟨b1, b2, b3, b4, b5, b6, b7, b8, b9, b10⟩ := B
  obtain ⟨c1, c2, c3, c4, c5, c6, c7⟩ := C
  rcases (show j = 0 ∨ j = 1 ∨ j = 2 by omega) with rfl | rfl | rfl
  · obtain ⟨v', h1, h2, e⟩ := num_bd (a := 1) (d := 5) rfl rfl (by decide) (by decide) hv
    have e := (nI_eq hv2 (by omega)).mp e
    subst e
    exact ⟨T, p, v, c, b, h, ⟨b1, b2, b3, b4, h1, h2, b7, b8, b9, b10⟩, ⟨c1, rfl, c3, c4, c5, c6, c7⟩, (pk_un (by decide)).trans r0, pk_us, (pk_un (by decide)).trans r2, (pk_un (by decide)).trans r3, fun i hi => (pk_un (by omega)).trans (r4 i hi), (pk_un (by decide)).trans r5, hp, hh⟩
  · obtain ⟨v', h1, h2, e⟩ := num_bd (a := 0) (d := 6) rfl rfl (by decide) (by decide) hv
    have e := (nI_eq hv2 (by omega)).mp e
    subst e
    exact ⟨T, p, w, v, b, h, ⟨b1, b2, b3, b4, b5, b6, h2, b8, b9, b10⟩, ⟨c1, c2, rfl, c4, c5, c6, c7⟩, (pk_un (by decide)).trans r0, (pk_un (by decide)).trans r1, pk_us, (pk_un (by decide)).trans r3, fun i hi => (pk_un (by omega)).trans (r4 i hi), (pk_un (by decide)).trans r5, hp, hh⟩
  · obtain ⟨v', h1, h2, e⟩ := num_bd (a := 2) (d := 6) rfl rfl (by decide) (by decide) hv
    have e := (nI_eq hv2 (by omega)).mp e
    subst e
    exact ⟨T, p, w, c, v, h, ⟨b1, b2, b3, b4, b5, b6, b7, h1, h2, b10⟩, ⟨c1, c2, c3, rfl, c5, c6, c7⟩, (pk_un (by decide)).trans r0, (pk_un (by decide)).trans r1, (pk_un (by decide)).trans r2, pk_us, fun i hi => (pk_un (by omega)).trans (r4 i hi), (pk_un (by decide)).trans r5, hp, hh⟩
theorem fs_num {j : Nat} (hj : j ≤ 2) (hn : n ≤ 120) (ht : Lt n u t) (hm : Lt n u m) (hR : TC n t R tl hd) (es : R.1 4 = nI s2) (hW : TXK W n a) (eW : W.2 7 = m) (e5 : W.1 5 = bI hd) (h2 : s2 = rn (uB u) n a) (h3 : e2 = rn (uF u) n s2) (hc : (R.1 3 = 2 ∧ R.1 5 = nI e2 ∧ s2 < e2) ∨ (¬ R.1 3 = 2 ∧ e2 ≤ s2)) (hD : Dq tl hd D (W.2 1)) : Fs n t m R D (nI j) (sX6_readsNumber W (nI (j + 1))) s2 e2 := by
  obtain ⟨g1, g2, g3, g4, g5⟩ := fgR (x := 9) (q := 9) hW (by rw [eW]; exact hm) rfl (by decide)
  rw [← h2, ← h3] at g1 g4 g5
  rw [← h2] at g2
  have hs2n : s2 ≤ n := by rw [h2]; exact rn_le hW.2.2.2
  have he2n : e2 ≤ n := by rw [h3]; exact rn_le hs2n
  have hall := rn_all (P := uF u) (n := n) _ s2 rfl hs2n
  rw [← h3] at hall
  obtain ⟨c1, c2, c3, c4⟩ := hR
  unfold sX6_readsNumber
  rcases hc with ⟨q1, q2, q3⟩ | ⟨q1, q2⟩
  · have hdig : ∀ i, s2 ≤ i → i < e2 → 48 ≤ u i ∧ u i ≤ 57 := fun i z1 z2 => of_decide_eq_true (hall i z1 z2)
    rw [g4 q3 (fun i z1 z2 => by have := hdig i z1 z2; omega)]
    have etk : sX4_takeFigures R D (nI j) = ((sX4_takeNumber R D (nI j)).1, R, (sX4_takeNumber R D (nI j)).2) := by
      unfold sX4_takeFigures
      rw [if_neg (fun z => by have := (nI_eq (b := 3) (by omega) (by decide)).mp z; omega), if_neg (fun z => by have := (nI_eq (b := 4) (by omega) (by decide)).mp z; omega)]
    have h48 := hdig s2 (Nat.le_refl _) q3
    have hfig : sX4_figureAt R (R.1 4) = nI (u s2 - 48) := by
      unfold sX4_figureAt
      rw [es, letterAt_in c1 hn (by omega), c2, (ht _ (by omega)).1]
      exact pk_sub (b := 48) h48.1
    have hnum : sX4_takeNumber R D (nI j) = if nI (e2 - s2) = 1 then (if sX6_within (nI (u s2 - 48)) (sX6_least (nI (j + 1))) (sX6_greatest (nI (j + 1))) = true then (true, sX0_setNumber D (nI j) (nI (u s2 - 48))) else (false, D)) else (false, D) := by
      unfold sX4_takeNumber
      rw [hfig, es, q2, pk_sub (by omega), isNum_eq, nI_1]
      have : sX6_within (nI j) 0 2 = true := by
        rcases (show j = 0 ∨ j = 1 ∨ j = 2 by omega) with rfl | rfl | rfl <;> rfl
      rw [this, Bool.true_and]
    by_cases hw : nI (e2 - s2) = 1
    · rw [if_pos hw] at hnum ⊢
      have hd2 : ((sX6_figures W 9).2.2 7) (((sX6_figures W 9).2.1 4)).toNatClampNeg - 48 = nI (u s2 - 48) := by
        rw [g2, nI_clamp (by omega), g3.1, eW, (hm _ (by omega)).1]
        exact pk_sub (b := 48) h48.1
      rw [hd2, nI_clamp (by omega), pk_us]
      by_cases hv : sX6_within (nI (u s2 - 48)) (sX6_least (nI (j + 1))) (sX6_greatest (nI (j + 1))) = true
      · rw [if_pos hv] at hnum
        rw [hnum] at etk
        refine Or.inl ⟨q1, tl, hd, _, R, etk, ⟨c1, c2, c3, c4⟩, q2, hv, g1, ?_, g3.2.2.2.2.trans e5, ?_⟩
        · show (sX6_figures W 9).2.2 7 = m
          rw [g3.1, eW]
        · show Dq tl hd _ (upd ((sX6_figures W 9).2.2 1) (j + 1) (nI (u s2 - 48)))
          rw [g3.1]
          exact dq_num hj hD hv (by omega)
      · rw [if_neg hv] at hnum
        rw [hnum] at etk
        exact Or.inr ⟨Or.inr ⟨by rw [etk], by rw [etk]⟩, Bool.eq_false_iff.mpr hv, g2⟩
    · rw [if_neg hw] at hnum ⊢
      rw [hnum] at etk
      exact Or.inr ⟨Or.inr ⟨by rw [etk], by rw [etk]⟩, rfl, g2⟩
  · rw [g5 (Or.inr q2), if_neg (show ¬ (-1 : Int32) = 1 by decide)]
    exact Or.inr ⟨Or.inl q1, rfl, g2⟩
/-- the stop behind the figures -/
theorem stop_sim {S : LSt} {Y : MSt} {e : Nat} (hn : n ≤ 120) (ht : Lt n u t) (hm : Lt n u m) (hS : TC n t S tl hd) (e5 : S.1 5 = nI e) (hY : TXK Y n e) (eY : Y.2 7 = m) :
    (((sX4_nextToken S).1 3 = 3 ∧ rn (uB u) n e < n ∧ (sX4_nextToken S).1 5 = nI (rn (uB u) n e + 1) ∧ (sX6_passesEnd Y).1 = true ∧ TXK (sX6_passesEnd Y).2 n (rn (uB u) n e + 1)) ∨ (¬ (sX4_nextToken S).1 3 = 3 ∧ (sX4_nextToken S).1 4 = nI (rn (uB u) n e) ∧ (sX6_passesEnd Y).1 = false ∧ (sX6_passesEnd Y).2.1 4 = nI (rn (uB u) n e))) ∧ TC n t (sX4_nextToken S) tl hd ∧ mAg Y (sX6_passesEnd Y).2 := by
  obtain ⟨s1, s2, s3, s4⟩ := hS
  obtain ⟨y1, y2, y3, y4⟩ := hY
  obtain ⟨k1, k2, k3, k4, k5, k6, k7⟩ := nt_ok s1 hn e5 y4
  rw [s2, tkS_u ht] at k1 k2 k3
  obtain ⟨f1, f2, f3⟩ := sk_ok y1 y2 y3 y4
  rw [eY, bl_u hm] at f1 f2
  have hle : rn (uB u) n e ≤ n := rn_le y4
  refine ⟨?_, ⟨k4.trans s1, k7.trans s2, k5.trans s3, k6.trans s4⟩, ?_⟩
  · unfold sX6_passesEnd
    rw [isAt_eq (f3.2.2.2.1.trans y1) hn f1 hle, f3.1, eY]
    by_cases c : rn (uB u) n e < n
    · rw [(hm _ c).1, (wu _ (by have := (hm _ c).2; omega)).2.2.2, decide_eq_true c, Bool.true_and]
      have hk := tkK_3 ht c
      by_cases c2 : u (rn (uB u) n e) = 59
      · rw [decide_eq_true c2, if_pos rfl]
        refine Or.inl ⟨k2.trans (hk.mpr c2), c, by rw [k3, tkE_S ht c c2], rfl, f3.2.2.2.1.trans y1, hn, ?_, by omega⟩
        show (sX6_skips Y).1 3 + 1 = _
        rw [f1, nI_1]
      · rw [decide_eq_false c2, if_neg (by decide)]
        exact Or.inr ⟨fun z => c2 (hk.mp (k2.symm.trans z)), k1, rfl, f2⟩
    · rw [decide_eq_false c, Bool.false_and, if_neg (by decide)]
      refine Or.inr ⟨fun z => ?_, k1, rfl, f2⟩
      rw [k2, tkK_n _ (by omega)] at z
      exact absurd z (by decide)
  · unfold sX6_passesEnd
    split
    · exact ⟨f3.1, f3.2.1, f3.2.2.1, f3.2.2.2.1, f3.2.2.2.2⟩
    · exact ⟨f3.1, f3.2.1, f3.2.2.1, f3.2.2.2.1, f3.2.2.2.2⟩
end
