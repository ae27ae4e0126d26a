/-! items: the word -/
theorem sub_iff {e s m : Nat} (h : s < e) : e - s = m ↔ e = s + m := by omega
theorem item_word {S : LSt} {n s : Nat} {u : Nat → Nat} {m : Nat → Int32} (l : S.1 0 = nI n) (hn : n ≤ 120) (es : S.1 4 = nI s) (ee : S.1 5 = nI (tkE S.2 n s)) (h : Lt n u S.2) (hm : Lt n u m) (hs : s < n) :
    It (sX4_itemOfWord S) (wres (rn (uW u) n s - s) (wc m s (rn (uW u) n s - s))) ∧ (¬ sX4_itemOfWord S = -9 → tkE S.2 n s = rn (uW u) n s ∧ s < rn (uW u) n s) := by
  obtain ⟨k1, k2⟩ := tkE_in (t := S.2) (n := n) (s := s) (by omega)
  have i0 := iw_iff l hn es ee k1 k2 h (i := 0) (by decide)
  have i1 := iw_iff l hn es ee k1 k2 h (i := 1) (by decide)
  have i2 := iw_iff l hn es ee k1 k2 h (i := 2) (by decide)
  have i3 := iw_iff l hn es ee k1 k2 h (i := 3) (by decide)
  have i4 := iw_iff l hn es ee k1 k2 h (i := 4) (by decide)
  have i0 : sX4_isWord S 0 = true ↔ (tkE S.2 n s = s + 4 ∧ u (s + 0) = 108 ∧ u (s + 1) = 105 ∧ u (s + 2) = 110 ∧ u (s + 3) = 101) := i0.trans (and_congr_right (fun _ => w_0))
  have i1 : sX4_isWord S 1 = true ↔ (tkE S.2 n s = s + 5 ∧ u (s + 0) = 104 ∧ u (s + 1) = 97 ∧ u (s + 2) = 110 ∧ u (s + 3) = 100 ∧ u (s + 4) = 115) := i1.trans (and_congr_right (fun _ => w_1))
  have i2 : sX4_isWord S 2 = true ↔ (tkE S.2 n s = s + 4 ∧ u (s + 0) = 119 ∧ u (s + 1) = 97 ∧ u (s + 2) = 105 ∧ u (s + 3) = 116) := i2.trans (and_congr_right (fun _ => w_2))
  have i3 : sX4_isWord S 3 = true ↔ (tkE S.2 n s = s + 5 ∧ u (s + 0) = 114 ∧ u (s + 1) = 101 ∧ u (s + 2) = 97 ∧ u (s + 3) = 99 ∧ u (s + 4) = 104) := i3.trans (and_congr_right (fun _ => w_3))
  have i4 : sX4_isWord S 4 = true ↔ (tkE S.2 n s = s + 3 ∧ u (s + 0) = 98 ∧ u (s + 1) = 97 ∧ u (s + 2) = 114) := i4.trans (and_congr_right (fun _ => w_4))
  by_cases c : uW u s = true
  · have hE := tkE_W h hs c
    have hgo := rn_go (P := uW u) hs c
    have hge := rn_ge (P := uW u) (n := n) (a := s + 1) (by omega)
    have hle := rn_le (P := uW u) (n := n) (a := s) (by omega)
    have hlt : s < rn (uW u) n s := by omega
    have hall := rn_all (P := uW u) (n := n) _ s rfl (by omega)
    rw [hE] at i0 i1 i2 i3 i4
    refine ⟨?_, fun _ => ⟨hE, hlt⟩⟩
    generalize rn (uW u) n s = e at hE hge hle hlt hall i0 i1 i2 i3 i4 ⊢
    have hlow : ∀ j, j < e - s → 97 ≤ u (s + j) ∧ u (s + j) ≤ 122 := fun j hj => of_decide_eq_true (hall (s + j) (by omega) (by omega))
    unfold sX4_itemOfWord
    by_cases hm5 : e - s ≤ 5
    · obtain ⟨w1, w2⟩ := wc_cod (u := u) (t := m) (s := s) (e - s) hm5 (fun j hj => ⟨(hm (s + j) (by omega)).1, hlow j hj⟩)
      obtain ⟨d4, d0, d2, d1, d3⟩ := cod_eq hm5 hlow
      have hb : cod u s (e - s) < 2 ^ 31 := Nat.lt_of_lt_of_le w2 (Nat.le_trans (Nat.pow_le_pow_right (by decide) hm5) (by decide))
      have d4 : nI (cod u s (e - s)) = 1503 ↔ _ := (nI_eq (b := 1503) hb (by decide)).trans d4
      have d0 : nI (cod u s (e - s)) = 243140 ↔ _ := (nI_eq (b := 243140) hb (by decide)).trans d0
      have d2 : nI (cod u s (e - s)) = 453701 ↔ _ := (nI_eq (b := 453701) hb (by decide)).trans d2
      have d1 : nI (cod u s (e - s)) = 4281544 ↔ _ := (nI_eq (b := 4281544) hb (by decide)).trans d1
      have d3 : nI (cod u s (e - s)) = 9665171 ↔ _ := (nI_eq (b := 9665171) hb (by decide)).trans d3
      have c0 : nI (cod u s (e - s)) = 243140 ↔ sX4_isWord S 0 = true := d0.trans (Iff.trans (and_congr_left (fun _ => sub_iff hlt)) i0.symm)
      have c1 : nI (cod u s (e - s)) = 4281544 ↔ sX4_isWord S 1 = true := d1.trans (Iff.trans (and_congr_left (fun _ => sub_iff hlt)) i1.symm)
      have c2 : nI (cod u s (e - s)) = 453701 ↔ sX4_isWord S 2 = true := d2.trans (Iff.trans (and_congr_left (fun _ => sub_iff hlt)) i2.symm)
      have c3 : nI (cod u s (e - s)) = 9665171 ↔ sX4_isWord S 3 = true := d3.trans (Iff.trans (and_congr_left (fun _ => sub_iff hlt)) i3.symm)
      have c4 : nI (cod u s (e - s)) = 1503 ↔ sX4_isWord S 4 = true := d4.trans (Iff.trans (and_congr_left (fun _ => sub_iff hlt)) i4.symm)
      clear d0 d1 d2 d3 d4 i0 i1 i2 i3 i4
      unfold wres
      rw [if_pos hm5, w1]
      by_cases q0 : sX4_isWord S 0 = true
      · rw [if_pos q0, c0.mpr q0]
        exact Or.inl ⟨rfl, by decide⟩
      · rw [if_neg q0]
        by_cases q1 : sX4_isWord S 1 = true
        · rw [if_pos q1, c1.mpr q1]
          exact Or.inr (Or.inl ⟨rfl, by decide⟩)
        · rw [if_neg q1]
          by_cases q2 : sX4_isWord S 2 = true
          · rw [if_pos q2, c2.mpr q2]
            exact Or.inr (Or.inr (Or.inl ⟨rfl, by decide⟩))
          · rw [if_neg q2]
            by_cases q3 : sX4_isWord S 3 = true
            · rw [if_pos q3, c3.mpr q3]
              exact Or.inr (Or.inr (Or.inr (Or.inl ⟨rfl, by decide⟩)))
            · rw [if_neg q3]
              by_cases q4 : sX4_isWord S 4 = true
              · rw [if_pos q4, c4.mpr q4]
                exact Or.inr (Or.inr (Or.inr (Or.inr (Or.inl ⟨rfl, by decide⟩))))
              · rw [if_neg q4, if_neg (fun z => q4 (c4.mp z)), if_neg (fun z => q0 (c0.mp z)), if_neg (fun z => q2 (c2.mp z)), if_neg (fun z => q1 (c1.mp z)), if_neg (fun z => q3 (c3.mp z))]
                exact Or.inr (Or.inr (Or.inr (Or.inr (Or.inr ⟨rfl, rfl⟩))))
    · unfold wres
      have f0 : ¬ sX4_isWord S 0 = true := fun z => by have := (i0.mp z).1; clear i0 i1 i2 i3 i4; omega
      have f1 : ¬ sX4_isWord S 1 = true := fun z => by have := (i1.mp z).1; clear i0 i1 i2 i3 i4; omega
      have f2 : ¬ sX4_isWord S 2 = true := fun z => by have := (i2.mp z).1; clear i0 i1 i2 i3 i4; omega
      have f3 : ¬ sX4_isWord S 3 = true := fun z => by have := (i3.mp z).1; clear i0 i1 i2 i3 i4; omega
      have f4 : ¬ sX4_isWord S 4 = true := fun z => by have := (i4.mp z).1; clear i0 i1 i2 i3 i4; omega
      rw [if_neg hm5, if_neg f0, if_neg f1, if_neg f2, if_neg f3, if_neg f4]
      exact Or.inr (Or.inr (Or.inr (Or.inr (Or.inr ⟨rfl, rfl⟩))))
  · have hst : rn (uW u) n s = s := rn_st (fun z => c z.2)
    have hnl : ¬ (97 ≤ u (s + 0) ∧ u (s + 0) ≤ 122) := fun z => c (decide_eq_true z)
    have f0 : ¬ sX4_isWord S 0 = true := fun z => by have := (i0.mp z).2.1; clear i0 i1 i2 i3 i4; omega
    have f1 : ¬ sX4_isWord S 1 = true := fun z => by have := (i1.mp z).2.1; clear i0 i1 i2 i3 i4; omega
    have f2 : ¬ sX4_isWord S 2 = true := fun z => by have := (i2.mp z).2.1; clear i0 i1 i2 i3 i4; omega
    have f3 : ¬ sX4_isWord S 3 = true := fun z => by have := (i3.mp z).2.1; clear i0 i1 i2 i3 i4; omega
    have f4 : ¬ sX4_isWord S 4 = true := fun z => by have := (i4.mp z).2.1; clear i0 i1 i2 i3 i4; omega
    have e9 : sX4_itemOfWord S = -9 := by
      unfold sX4_itemOfWord
      rw [if_neg f0, if_neg f1, if_neg f2, if_neg f3, if_neg f4]
    rw [hst, Nat.sub_self, e9]
    exact ⟨Or.inr (Or.inr (Or.inr (Or.inr (Or.inr ⟨rfl, rfl⟩)))), fun z => absurd rfl z⟩
/-! items: rows of figures, in the class -/
theorem fig_eq {S : LSt} {n s k : Nat} {u : Nat → Nat} (l : S.1 0 = nI n) (hn : n ≤ 120) (es : S.1 4 = nI s) (h : Lt n u S.2) (hk : s + k < n) (h48 : 48 ≤ u (s + k)) : sX4_figureAt S (S.1 4 + nI k) = nI (u (s + k) - 48) := by
  unfold sX4_figureAt
  rw [es, nI_add, letterAt_in l hn hk, (h _ hk).1]
  exact pk_sub (b := 48) h48
theorem sp_eq (Y : LSt) {k : Nat} (hk : k < 12) (v : Nat) (hv : v < 2 ^ 31) : sX0_setPitch Y (nI k) (nI v) = ((if v = 0 then Y.1 else upd Y.1 1 (Y.1 1 ||| ((1 : Int32) <<< (nI k &&& 31)))), upd Y.2 k (nI v)) := by
  unfold sX0_setPitch
  rw [if_neg (nI_pos (by omega)), if_pos (show nI k < 12 from nI_lt (b := 12) hk (by decide)), nI_clamp (by omega)]
  by_cases c : v = 0
  · rw [if_pos (show nI v = 0 by rw [c]; rfl), if_pos c]
  · rw [if_neg (nI_ne0 (by omega) hv), if_neg c]
theorem tl_L {S : LSt} {n s : Nat} {u : Nat → Nat} (l : S.1 0 = nI n) (hn : n ≤ 120) (es : S.1 4 = nI s) (h : Lt n u S.2) (w : Nat) (hw : w ≤ 12) (hsw : s + w ≤ n) (hd : ∀ j, j < w → 48 ≤ u (s + j) ∧ u (s + j) ≤ 57) (h0 a3 a4 a5 : Int32) : ∀ (f k : Nat) (x : Int32) (Y : LSt), x = nI k → k ≤ w → w + 1 ≤ f + k → Y.1 0 = nI w → (∀ t, t < 12 → Y.2 t = nI (if t < k then u (s + t) - 48 else 0)) → (∀ i, i < 32 → bt (Y.1 1) i = decide (i < k ∧ 48 < u (s + i))) → Y.1 2 = h0 → Y.1 3 = a3 → Y.1 4 = a4 → Y.1 5 = a5 →
    ((∀ j, k ≤ j → j < w → u (s + j) ≤ 55) ∧ ∃ Y', sX4_takeLine_L34 S f x Y = (true, (upd S.1 1 1, S.2), Y') ∧ Y'.1 0 = nI w ∧ (∀ t, t < 12 → Y'.2 t = nI (if t < w then u (s + t) - 48 else 0)) ∧ (∀ i, i < 32 → bt (Y'.1 1) i = decide (i < w ∧ 48 < u (s + i))) ∧ Y'.1 2 = h0 ∧ Y'.1 3 = a3 ∧ Y'.1 4 = a4 ∧ Y'.1 5 = a5) ∨
    ((∃ j, j < w ∧ 55 < u (s + j)) ∧ (sX4_takeLine_L34 S f x Y).1 = false ∧ (sX4_takeLine_L34 S f x Y).2.1 = S) := by
  intro f
  induction f with
  | zero => intro k x Y _ h1 h2; omega
  | succ f ih =>
    intro k x Y ex h1 h2 y0 y1 y2 y3 y4 y5 y6
    subst ex
    rw [sX4_takeLine_L34_s, y0]
    by_cases c1 : nI w ≤ nI k
    · rw [if_pos c1]
      have : ¬ k < w := fun q => nI_ge q (by omega) c1
      have hk : k = w := by omega
      subst hk
      exact Or.inl ⟨fun j z1 z2 => by omega, Y, rfl, y0, y1, y2, y3, y4, y5, y6⟩
    · have hlt : k < w := up_lt (x := nI k) rfl rfl (by omega) c1
      obtain ⟨g1, g2⟩ := hd k hlt
      rw [if_neg c1, fig_eq l hn es h (by omega) g1, nI_1]
      by_cases c2 : nI (u (s + k) - 48) ≤ 7
      · rw [if_pos c2, sp_eq Y (by omega) _ (by omega)]
        have g3 : u (s + k) ≤ 55 := by
          have := (nI_leI (b := 7) (by omega) (by decide)).mp c2
          omega
        have n1 : ∀ i, i ≠ 1 → ((if u (s + k) - 48 = 0 then Y.1 else upd Y.1 1 (Y.1 1 ||| ((1 : Int32) <<< (nI k &&& 31))))) i = Y.1 i := fun i hi => by
          split
          · rfl
          · exact pk_un hi
        have := ih (k + 1) (nI (k + 1)) ((if u (s + k) - 48 = 0 then Y.1 else upd Y.1 1 (Y.1 1 ||| ((1 : Int32) <<< (nI k &&& 31)))), upd Y.2 k (nI (u (s + k) - 48))) rfl (by omega) (by omega) ((n1 0 (by decide)).trans y0) (fun t ht => by
          show upd Y.2 k (nI (u (s + k) - 48)) t = _
          by_cases z : t = k
          · rw [z, pk_us, if_pos (by omega)]
          · rw [pk_un z, y1 t ht]
            by_cases z2 : t < k
            · rw [if_pos z2, if_pos (by omega)]
            · rw [if_neg z2, if_neg (by omega)]) (fun i hi => by
          show bt ((if u (s + k) - 48 = 0 then Y.1 else upd Y.1 1 (Y.1 1 ||| ((1 : Int32) <<< (nI k &&& 31)))) 1) i = _
          by_cases z : u (s + k) - 48 = 0
          · rw [if_pos z, y2 i hi]
            refine decide_eq_decide.mpr ⟨fun q => ⟨by omega, q.2⟩, fun q => ⟨?_, q.2⟩⟩
            rcases Nat.eq_or_lt_of_le (Nat.le_of_lt_succ q.1) with z2 | z2
            · have := q.2; rw [z2] at this; omega
            · exact z2
          · rw [if_neg z, pk_us, bt_or1 _ (by omega) hi, y2 i hi]
            by_cases z2 : i = k
            · rw [z2, decide_eq_true rfl, Bool.or_true, decide_eq_true (show k < k + 1 ∧ 48 < u (s + k) from ⟨by omega, by omega⟩)]
            · rw [decide_eq_false z2, Bool.or_false]
              exact decide_eq_decide.mpr ⟨fun q => ⟨by omega, q.2⟩, fun q => ⟨by omega, q.2⟩⟩) ((n1 2 (by decide)).trans y3) ((n1 3 (by decide)).trans y4) ((n1 4 (by decide)).trans y5) ((n1 5 (by decide)).trans y6)
        rcases this with ⟨r1, r2⟩ | r
        · refine Or.inl ⟨fun j z1 z2 => ?_, r2⟩
          rcases Nat.eq_or_lt_of_le z1 with z | z
          · rw [← z]; exact g3
          · exact r1 j z z2
        · exact Or.inr r
      · rw [if_neg c2]
        refine Or.inr ⟨⟨k, hlt, ?_⟩, rfl, rfl⟩
        have : ¬ u (s + k) - 48 ≤ 7 := fun z => c2 (nI_le (b := 7) z (by decide))
        omega
theorem th_L {S : LSt} {n s : Nat} {u : Nat → Nat} (l : S.1 0 = nI n) (hn : n ≤ 120) (es : S.1 4 = nI s) (h : Lt n u S.2) (w : Nat) (hw : w ≤ 12) (hsw : s + w ≤ n) (hd : ∀ j, j < w → 48 ≤ u (s + j) ∧ u (s + j) ≤ 57) (D : LSt) : ∀ (f k : Nat) (x : Int32) (Y : LSt), x = nI k → k ≤ w → w + 1 ≤ f + k → Y.1 0 = nI w → Y.2 = D.2 → (∀ i, i ≠ 2 → Y.1 i = D.1 i) → (∀ i, i < 32 → bt (Y.1 2) i = decide (i < k ∧ u (s + i) = 49)) →
    ((∀ j, k ≤ j → j < w → u (s + j) ≤ 49) ∧ ∃ Y', sX4_takeHands_L23 S f x Y = (true, (upd S.1 2 1, S.2), Y') ∧ Y'.2 = D.2 ∧ (∀ i, i ≠ 2 → Y'.1 i = D.1 i) ∧ (∀ i, i < 32 → bt (Y'.1 2) i = (decide (i < w ∧ u (s + i) = 49) && bt (D.1 1) i))) ∨
    ((∃ j, j < w ∧ 49 < u (s + j)) ∧ (sX4_takeHands_L23 S f x Y).1 = false ∧ (sX4_takeHands_L23 S f x Y).2.1 = S) := by
  intro f
  induction f with
  | zero => intro k x Y _ h1 h2; omega
  | succ f ih =>
    intro k x Y ex h1 h2 y0 y1 y2 y3
    subst ex
    rw [sX4_takeHands_L23_s, y0]
    by_cases c1 : nI w ≤ nI k
    · rw [if_pos c1]
      have : ¬ k < w := fun q => nI_ge q (by omega) c1
      have hk : k = w := by omega
      subst hk
      refine Or.inl ⟨fun j z1 z2 => by omega, _, rfl, y1, fun i hi => (pk_un hi).trans (y2 i hi), fun i hi => ?_⟩
      show bt (upd Y.1 2 (Y.1 2 &&& Y.1 1) 2) i = _
      rw [pk_us, b_and, y3 i hi, y2 1 (by decide)]
    · have hlt : k < w := up_lt (x := nI k) rfl rfl (by omega) c1
      obtain ⟨g1, g2⟩ := hd k hlt
      rw [if_neg c1, fig_eq l hn es h (by omega) g1, nI_1]
      by_cases c2 : sX5_isHand (nI (u (s + k) - 48)) = true
      · rw [if_pos c2]
        obtain ⟨g, eg⟩ := hand_bI c2
        have hg : g = decide (u (s + k) = 49) ∧ u (s + k) ≤ 49 := by
          cases g
          · have := (nI_eq (b := 0) (by omega) (by decide)).mp eg
            exact ⟨(decide_eq_false (by omega)).symm, by omega⟩
          · have := (nI_eq (b := 1) (by omega) (by decide)).mp eg
            exact ⟨(decide_eq_true (by omega)).symm, by omega⟩
        have := ih (k + 1) (nI (k + 1)) ((upd Y.1 2 ((Y.1 2) ||| ((nI (u (s + k) - 48)) <<< (nI k &&& 31)))), Y.2) rfl (by omega) (by omega) y0 y1 (fun i hi => (pk_un hi).trans (y2 i hi)) (fun i hi => by
          show bt (upd Y.1 2 ((Y.1 2) ||| ((nI (u (s + k) - 48)) <<< (nI k &&& 31))) 2) i = _
          rw [pk_us, b_or, y3 i hi, eg, bt_bIsh g (by omega) hi, hg.1]
          by_cases z : i = k
          · rw [z, decide_eq_true rfl, Bool.and_true, decide_eq_false (show ¬ (k < k ∧ u (s + k) = 49) from fun q => by omega), Bool.false_or]
            exact decide_eq_decide.mpr ⟨fun q => ⟨by omega, q⟩, fun q => q.2⟩
          · rw [decide_eq_false z, Bool.and_false, Bool.or_false]
            exact decide_eq_decide.mpr ⟨fun q => ⟨by omega, q.2⟩, fun q => ⟨by omega, q.2⟩⟩)
        rcases this with ⟨r1, r2⟩ | r
        · refine Or.inl ⟨fun j z1 z2 => ?_, r2⟩
          rcases Nat.eq_or_lt_of_le z1 with z | z
          · rw [← z]; exact hg.2
          · exact r1 j z z2
        · exact Or.inr r
      · rw [if_neg c2]
        refine Or.inr ⟨⟨k, hlt, ?_⟩, rfl, rfl⟩
        rcases (show u (s + k) = 48 ∨ u (s + k) = 49 ∨ 49 < u (s + k) by omega) with z | z | z
        · rw [z] at c2; exact absurd rfl c2
        · rw [z] at c2; exact absurd rfl c2
        · exact z
