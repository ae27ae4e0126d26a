/-! items: both sides, a row of figures behind a word -/
def Dq (tl hd : Bool) (D : LSt) (r : Nat → Int32) : Prop := ∃ (T : Nat) (p : Nat → Nat) (w c b : Nat) (h : Int32), Lb T p w c b h ∧ Lc T p w c b h D ∧ r 0 = (if tl = true then nI T else 0) ∧ r 1 = nI w ∧ r 2 = nI c ∧ r 3 = nI b ∧ (∀ t, t < 12 → r (4 + t) = nI (p t)) ∧ r 16 = h ∧ (tl = false → T = 1 ∧ ∀ t, p t = 0) ∧ (hd = false → h = 0)
def TC (n : Nat) (t : Nat → Int32) (S : LSt) (tl hd : Bool) : Prop := S.1 0 = nI n ∧ S.2 = t ∧ S.1 1 = bI tl ∧ S.1 2 = bI hd
def Fs (n : Nat) (t m : Nat → Int32) (R D : LSt) (a : Int32) (res : Bool × MSt) (s2 e2 : Nat) : Prop :=
  (R.1 3 = 2 ∧ ∃ (tl hd : Bool) (D' R' : LSt), sX4_takeFigures R D a = (true, R', D') ∧ TC n t R' tl hd ∧ R'.1 5 = nI e2 ∧ res.1 = true ∧ TXK res.2 n e2 ∧ res.2.2 7 = m ∧ res.2.1 5 = bI hd ∧ Dq tl hd D' (res.2.2 1)) ∨
  ((¬ R.1 3 = 2 ∨ ((sX4_takeFigures R D a).1 = false ∧ (sX4_takeFigures R D a).2.1 = R)) ∧ res.1 = false ∧ res.2.1 4 = nI s2)
theorem fgR {W : MSt} {n a q : Nat} {u : Nat → Nat} {x : Int32} (hW : TXK W n a) (hm : Lt n u (W.2 7)) (ex : x = nI q) (hq : q ≤ 9) :
    TXK (sX6_figures W x).2 n (rn (uF u) n (rn (uB u) n a)) ∧ (sX6_figures W x).2.1 4 = nI (rn (uB u) n a) ∧ mAg W (sX6_figures W x).2 ∧
    (rn (uB u) n a < rn (uF u) n (rn (uB u) n a) → (∀ j, rn (uB u) n a ≤ j → j < rn (uF u) n (rn (uB u) n a) → u j ≤ 48 + q) → (sX6_figures W x).1 = nI (rn (uF u) n (rn (uB u) n a) - rn (uB u) n a)) ∧
    (((∃ j, rn (uB u) n a ≤ j ∧ j < rn (uF u) n (rn (uB u) n a) ∧ 48 + q < u j) ∨ rn (uF u) n (rn (uB u) n a) ≤ rn (uB u) n a) → (sX6_figures W x).1 = -1) := by
  obtain ⟨l, hn, e, ha⟩ := hW
  obtain ⟨f1, f2, f3, f4, f5⟩ := fg_ok x l hn e ha
  rw [bl_u hm, dgt_u hm] at f1 f4 f5
  rw [bl_u hm] at f2
  have g2 : rn (uB u) n a ≤ n := rn_le ha
  have g3 : rn (uF u) n (rn (uB u) n a) ≤ n := rn_le g2
  have hall := rn_all (P := uF u) (n := n) _ (rn (uB u) n a) rfl g2
  have key : ∀ j, rn (uB u) n a ≤ j → j < rn (uF u) n (rn (uB u) n a) → (x < (W.2 7) j - 48 ↔ 48 + q < u j) := fun j h1 h2 => by
    have hd : 48 ≤ u j ∧ u j ≤ 57 := of_decide_eq_true (hall j h1 h2)
    rw [(hm j (by omega)).1, show nI (u j) - 48 = nI (u j - 48) from pk_sub (b := 48) hd.1, ex, nI_ltI (by omega) (by omega)]
    omega
  refine ⟨⟨f3.2.2.2.1.trans l, hn, f1, g3⟩, f2, f3, fun h1 h2 => f4 (fun j z1 z2 z3 => ?_) h1, fun h1 => f5 ?_⟩
  · have := (key j z1 z2).mp z3
    have := h2 j z1 z2
    omega
  · rcases h1 with ⟨j, z1, z2, z3⟩ | z
    · exact Or.inl ⟨j, z1, z2, (key j z1 z2).mpr z3⟩
    · exact Or.inr z
section
variable {n : Nat} {u : Nat → Nat} {t m : Nat → Int32} {R D : LSt} {W : MSt} {a s2 e2 : Nat} {tl hd : Bool}
theorem fs_line (hn : n ≤ 120) (ht : Lt n u t) (hm : Lt n u m) (hR : TC n t R false hd) (es : R.1 4 = nI s2) (hW : TXK W n a) (eW : W.2 7 = m) (e5 : W.1 5 = bI hd) (h2 : s2 = rn (uB u) n a) (h3 : e2 = rn (uF u) n s2) (hc : (R.1 3 = 2 ∧ R.1 5 = nI e2 ∧ s2 < e2) ∨ (¬ R.1 3 = 2 ∧ e2 ≤ s2)) (hD : Dq false hd D (W.2 1)) : Fs n t m R D 3 (sX6_readsLine W) s2 e2 := by
  obtain ⟨T, p, w, c, b, h, B, C, r0, r1, r2, r3, r4, r5, hp, hh⟩ := hD
  obtain ⟨hT1, hp0⟩ := hp rfl
  have hh0 : h = 0 := zero_iff.mpr (fun i hi => B.sh.no hi (hp0 i))
  have r0 : W.2 1 0 = 0 := r0
  obtain ⟨g1, g2, g3, g4, g5⟩ := fgR (x := 7) (q := 7) hW (by rw [eW]; exact hm) rfl (by decide)
  rw [← h2, ← h3] at g1 g4 g5
  rw [← h2] at g2
  have hs2n : s2 ≤ n := by rw [h2]; exact rn_le hW.2.2.2
  have he2n : e2 ≤ n := by rw [h3]; exact rn_le hs2n
  have hall := rn_all (P := uF u) (n := n) _ s2 rfl hs2n
  rw [← h3] at hall
  obtain ⟨c1, c2, c3, c4⟩ := hR
  unfold sX6_readsLine
  rw [r0, if_pos (show (0 : Int32) ≤ 0 by decide)]
  have bad : (sX6_figures W 7).1 = -1 → ((if sX6_within (sX6_figures W 7).1 1 12 = true then sX6_readsLine_L41 13 (sX6_figures W 7).1 0 ((sX6_figures W 7).2.1, (updR (sX6_figures W 7).2.2 1 (upd ((sX6_figures W 7).2.2 1) 0 (sX6_figures W 7).1))) else (false, (sX6_figures W 7).2)) : Bool × MSt).1 = false ∧ ((if sX6_within (sX6_figures W 7).1 1 12 = true then sX6_readsLine_L41 13 (sX6_figures W 7).1 0 ((sX6_figures W 7).2.1, (updR (sX6_figures W 7).2.2 1 (upd ((sX6_figures W 7).2.2 1) 0 (sX6_figures W 7).1))) else (false, (sX6_figures W 7).2)) : Bool × MSt).2.1 4 = nI s2 := fun z => by
    rw [z, if_neg (show ¬ sX6_within (-1) 1 12 = true by decide)]; exact ⟨rfl, g2⟩
  rcases hc with ⟨q1, q2, q3⟩ | ⟨q1, q2⟩
  · have hdig : ∀ j, j < e2 - s2 → 48 ≤ u (s2 + j) ∧ u (s2 + j) ≤ 57 := fun j hj => of_decide_eq_true (hall (s2 + j) (by omega) (by omega))
    have etk : sX4_takeFigures R D 3 = if nI (e2 - s2) ≤ 12 then sX4_takeLine_L34 R 13 0 ((upd D.1 0 (nI (e2 - s2))), D.2) else (false, R, D) := by
      show sX4_takeLine R D = _
      unfold sX4_takeLine
      rw [es, q2, pk_sub (by omega)]
    by_cases hw : e2 - s2 ≤ 12
    · rw [if_pos (show nI (e2 - s2) ≤ 12 from nI_le (b := 12) hw (by decide))] at etk
      have hL := tl_L c1 hn es (by rw [c2]; exact ht) (e2 - s2) hw (by omega) hdig (D.1 2) (D.1 3) (D.1 4) (D.1 5) 13 0 0 ((upd D.1 0 (nI (e2 - s2))), D.2) rfl (Nat.zero_le _) (by omega) rfl (fun j hj => by
        rw [if_neg (by omega)]
        exact (C.2.2.2.2.1 j hj).trans (by rw [hp0])) (fun i hi => by
        rw [decide_eq_false (show ¬ (i < 0 ∧ 48 < u (s2 + i)) from fun z => by omega)]
        exact (C.2.2.2.2.2.1 i hi).trans (by rw [hp0]; rfl)) rfl rfl rfl rfl
      rcases hL with ⟨l1, D', l2, l3, l4, l5, l6, l7, l8, l9⟩ | ⟨⟨j, l1, l2⟩, l3, l4⟩
      · have hfig : (sX6_figures W 7).1 = nI (e2 - s2) := g4 q3 (fun j z1 z2 => by have := l1 (j - s2) (by omega) (by omega); rw [show s2 + (j - s2) = j by omega] at this; omega)
        have hwi : sX6_within (nI (e2 - s2)) 1 12 = true := within_iff.mpr ⟨fun z => by have := (nI_ltI (b := 1) (by omega) (by decide)).mp z; omega, fun z => by have := (nI_ltI (a := 12) (by decide) (by omega)).mp z; omega⟩
        rw [hfig, if_pos hwi]
        obtain ⟨m1, m2, m3, m4⟩ := rl_L (e2 - s2) s2 hw 13 (nI (e2 - s2)) 0 ((sX6_figures W 7).2.1, (updR (sX6_figures W 7).2.2 1 (upd ((sX6_figures W 7).2.2 1) 0 (nI (e2 - s2))))) 0 rfl rfl (by omega) (by omega) g2 (by omega)
        refine Or.inl ⟨q1, true, hd, D', _, etk.trans l2, ⟨c1, c2, rfl, c4⟩, q2, m1, ⟨by rw [m2]; exact g1.1, hn, by rw [m2]; exact g1.2.2.1, he2n⟩, ?_, by rw [m2]; exact g3.2.2.2.2.trans e5, ?_⟩
        · rw [m3 7 (by decide)]
          show (sX6_figures W 7).2.2 7 = m
          rw [g3.1, eW]
        · have hp7 : ∀ j, (if j < e2 - s2 then u (s2 + j) - 48 else 0) ≤ 7 := fun j => by
            by_cases z : j < e2 - s2
            · rw [if_pos z]; have := l1 j (Nat.zero_le _) z; omega
            · rw [if_neg z]; omega
          have hpz : ∀ i, decide (i < e2 - s2 ∧ 48 < u (s2 + i)) = decide (0 < (if i < e2 - s2 then u (s2 + i) - 48 else 0)) := fun i => by
            refine decide_eq_decide.mpr ?_
            by_cases z : i < e2 - s2
            · rw [if_pos z]; exact ⟨fun q => by have := q.2; omega, fun q => ⟨z, by omega⟩⟩
            · rw [if_neg z]; exact ⟨fun q => absurd q.1 z, fun q => absurd q (by omega)⟩
          refine ⟨e2 - s2, fun j => if j < e2 - s2 then u (s2 + j) - 48 else 0, w, c, b, h, ⟨by omega, hw, hp7, fun j hj => if_neg (by omega), B.2.2.2.2.1, B.2.2.2.2.2.1, B.2.2.2.2.2.2.1, B.2.2.2.2.2.2.2.1, B.2.2.2.2.2.2.2.2.1, fun i hi q => by rw [hh0, b_0] at q; cases q⟩, ⟨l3, l7.trans C.2.1, l8.trans C.2.2.1, l9.trans C.2.2.2.1, l4, fun i hi => (l5 i hi).trans (hpz i), l6.trans C.2.2.2.2.2.2⟩, ?_, ?_, ?_, ?_, fun j hj => ?_, ?_, (fun z => by cases z), fun _ => hh0⟩
          · rw [if_pos rfl, m4, if_neg (show ¬ (4 + 0 ≤ 0 ∧ 0 < 4 + (e2 - s2)) from fun z => by omega)]; rfl
          · rw [m4, if_neg (show ¬ (4 + 0 ≤ 1 ∧ 1 < 4 + (e2 - s2)) from fun z => by omega)]
            show upd ((sX6_figures W 7).2.2 1) 0 (nI (e2 - s2)) 1 = _
            rw [pk_un (by decide), g3.1]; exact r1
          · rw [m4, if_neg (show ¬ (4 + 0 ≤ 2 ∧ 2 < 4 + (e2 - s2)) from fun z => by omega)]
            show upd ((sX6_figures W 7).2.2 1) 0 (nI (e2 - s2)) 2 = _
            rw [pk_un (by decide), g3.1]; exact r2
          · rw [m4, if_neg (show ¬ (4 + 0 ≤ 3 ∧ 3 < 4 + (e2 - s2)) from fun z => by omega)]
            show upd ((sX6_figures W 7).2.2 1) 0 (nI (e2 - s2)) 3 = _
            rw [pk_un (by decide), g3.1]; exact r3
          · rw [m4]
            show _ = nI (if j < e2 - s2 then u (s2 + j) - 48 else 0)
            by_cases z : j < e2 - s2
            · rw [if_pos (show 4 + 0 ≤ 4 + j ∧ 4 + j < 4 + (e2 - s2) from ⟨by omega, by omega⟩), if_pos z]
              show (sX6_figures W 7).2.2 7 (s2 + (4 + j - 4)) - 48 = _
              rw [g3.1, eW, show s2 + (4 + j - 4) = s2 + j by omega, (hm (s2 + j) (by omega)).1]
              exact pk_sub (b := 48) (hdig j z).1
            · rw [if_neg (show ¬ (4 + 0 ≤ 4 + j ∧ 4 + j < 4 + (e2 - s2)) from fun y => by omega), if_neg z]
              show upd ((sX6_figures W 7).2.2 1) 0 (nI (e2 - s2)) (4 + j) = _
              rw [pk_un (by omega), g3.1, r4 j hj, hp0]
          · rw [m4, if_neg (show ¬ (4 + 0 ≤ 16 ∧ 16 < 4 + (e2 - s2)) from fun z => by omega)]
            show upd ((sX6_figures W 7).2.2 1) 0 (nI (e2 - s2)) 16 = _
            rw [pk_un (by decide), g3.1]; exact r5
      · have hfig := g5 (Or.inl ⟨s2 + j, by omega, by omega, by omega⟩)
        exact Or.inr ⟨Or.inr ⟨by rw [etk]; exact l3, by rw [etk]; exact l4⟩, bad hfig⟩
    · rw [if_neg (show ¬ nI (e2 - s2) ≤ 12 from nI_ge (a := 12) (by omega) (by omega))] at etk
      refine Or.inr ⟨Or.inr ⟨by rw [etk], by rw [etk]⟩, ?_⟩
      by_cases hg : ∀ j, s2 ≤ j → j < e2 → u j ≤ 48 + 7
      · have hwi : ¬ sX6_within (nI (e2 - s2)) 1 12 = true := fun z => (within_iff.mp z).2 (nI_lt (a := 12) (by omega) (by omega))
        rw [g4 q3 hg, if_neg hwi]; exact ⟨rfl, g2⟩
      · refine bad (g5 (Or.inl ?_))
        exact Classical.byContradiction (fun z => hg (fun j z1 z2 => Nat.not_lt.mp (fun z3 => z ⟨j, z1, z2, z3⟩)))
  · exact Or.inr ⟨Or.inl q1, bad (g5 (Or.inr q2))⟩
theorem rhb_L {p : Nat → Nat} (T mk : Nat) (hT : T ≤ 12) (hmk : mk + T ≤ n) (hn : n ≤ 120) (hm : Lt n u m) : ∀ (f k : Nat) (x : Int32) (Y : MSt), x = nI k → k ≤ T → T + 1 ≤ f + k → (Y.2 1) 0 = nI T → Y.1 4 = nI mk → Y.2 7 = m → (∀ i, i < 12 → Y.2 1 (4 + i) = nI (p i)) → (∀ i, p i ≤ 7) → (∀ i, i < 32 → bt (Y.2 1 16) i = (decide (i < k ∧ u (mk + i) = 49) && decide (0 < p i))) → ∀ i, i < 32 → bt ((sX6_readsHands_L39 f x Y).2.2 1 16) i = (decide (i < T ∧ u (mk + i) = 49) && decide (0 < p i)) := by
  intro f
  induction f with
  | zero => intro k x Y _ h1 h2; omega
  | succ f ih =>
    intro k x Y ex h1 h2 y0 y1 y2 y3 y4 y5 i hi
    subst ex
    rw [sX6_readsHands_L39_s, y0]
    by_cases c1 : nI T ≤ nI k
    · rw [if_pos c1]
      have : ¬ k < T := fun q => nI_ge q (by omega) c1
      have hk : k = T := by omega
      subst hk
      exact y5 i hi
    · have hlt : k < T := up_lt (x := nI k) rfl rfl (by omega) c1
      have hpk := y4 k
      rw [if_neg c1, show (4 : Int32) + nI k = nI (4 + k) from nI_add 4 k, nI_clamp (by omega), y3 k (by omega), y1, nI_add, nI_clamp (by omega), y2, (hm (mk + k) (by omega)).1, nI_1, or0]
      have same : ∀ i, i < 32 → ¬ (u (mk + k) = 49 ∧ 0 < p k) → (decide (i < k ∧ u (mk + i) = 49) && decide (0 < p i)) = (decide (i < k + 1 ∧ u (mk + i) = 49) && decide (0 < p i)) := fun i hi z => by
        by_cases z2 : i = k
        · rw [z2, decide_eq_false (show ¬ (k < k ∧ u (mk + k) = 49) from fun q => by omega), Bool.false_and]
          by_cases z3 : 0 < p k
          · rw [decide_eq_false (show ¬ (k < k + 1 ∧ u (mk + k) = 49) from fun q => z ⟨q.2, z3⟩), Bool.false_and]
          · rw [decide_eq_false z3, Bool.and_false]
        · have : decide (i < k ∧ u (mk + i) = 49) = decide (i < k + 1 ∧ u (mk + i) = 49) := decide_eq_decide.mpr ⟨fun q => ⟨by omega, q.2⟩, fun q => ⟨by omega, q.2⟩⟩
          rw [this]
      by_cases c2 : nI (p k) ≤ 0
      · rw [if_pos c2]
        have hp0 : ¬ 0 < p k := fun z => nI_nle z (by omega) c2
        exact ih (k + 1) _ (Y.1, (updR Y.2 1 (upd (Y.2 1) 16 (Y.2 1 16)))) rfl (by omega) (by omega) y0 y1 y2 (fun i hi => (pk_un (by omega)).trans (y3 i hi)) y4 (fun i hi => by
          show bt (upd (Y.2 1) 16 (Y.2 1 16) 16) i = _
          rw [pk_us, y5 i hi, same i hi (fun z => hp0 z.2)]) i hi
      · rw [if_neg c2]
        have hp1 : 0 < p k := by
          rcases Nat.eq_zero_or_pos (p k) with z | z
          · rw [z] at c2; exact absurd (by decide) c2
          · exact z
        by_cases c3 : nI (u (mk + k)) = 49
        · have c3' : u (mk + k) = 49 := (nI_eq (b := 49) (by have := (hm (mk + k) (by omega)).2; omega) (by decide)).mp c3
          rw [if_pos c3]
          exact ih (k + 1) _ (Y.1, (updR Y.2 1 (upd (Y.2 1) 16 (Y.2 1 16 ||| ((1 : Int32) <<< (nI k &&& 31)))))) rfl (by omega) (by omega) y0 y1 y2 (fun i hi => (pk_un (by omega)).trans (y3 i hi)) y4 (fun i hi => by
            show bt (upd (Y.2 1) 16 (Y.2 1 16 ||| ((1 : Int32) <<< (nI k &&& 31))) 16) i = _
            rw [pk_us, bt_or1 _ (by omega) hi, y5 i hi]
            by_cases z2 : i = k
            · rw [z2, decide_eq_true rfl, Bool.or_true, decide_eq_true (show k < k + 1 ∧ u (mk + k) = 49 from ⟨by omega, c3'⟩), decide_eq_true hp1]; rfl
            · have : decide (i < k ∧ u (mk + i) = 49) = decide (i < k + 1 ∧ u (mk + i) = 49) := decide_eq_decide.mpr ⟨fun q => ⟨by omega, q.2⟩, fun q => ⟨by omega, q.2⟩⟩
              rw [decide_eq_false z2, Bool.or_false, this]) i hi
        · rw [if_neg c3]
          exact ih (k + 1) _ (Y.1, (updR Y.2 1 (upd (Y.2 1) 16 (Y.2 1 16)))) rfl (by omega) (by omega) y0 y1 y2 (fun i hi => (pk_un (by omega)).trans (y3 i hi)) y4 (fun i hi => by
            show bt (upd (Y.2 1) 16 (Y.2 1 16) 16) i = _
            rw [pk_us, y5 i hi, same i hi (fun z => c3 (by rw [z.1]; rfl))]) i hi
end
