/-! one item, all items -/
section
variable {n : Nat} {u : Nat → Nat} {t m : Nat → Int32} {D S : LSt} {Y : MSt} {s : Nat} {tl hd : Bool}
def OkI (n : Nat) (t m : Nat → Int32) (S D : LSt) (Y : MSt) (s : Nat) : Prop := ∃ (a : Nat) (tl hd : Bool) (D' S' : LSt), sX4_readItem S D = (true, S', D') ∧ TC n t S' tl hd ∧ S'.1 5 = nI a ∧ (sX6_readsItem Y).1 = true ∧ (sX6_passesEnd (sX6_readsItem Y).2).1 = true ∧ TXK (sX6_passesEnd (sX6_readsItem Y).2).2 n a ∧ (sX6_passesEnd (sX6_readsItem Y).2).2.2 7 = m ∧ (sX6_passesEnd (sX6_readsItem Y).2).2.1 5 = bI hd ∧ Dq tl hd D' ((sX6_passesEnd (sX6_readsItem Y).2).2.2 1) ∧ s < a
def NoI (n : Nat) (t : Nat → Int32) (S D : LSt) (Y : MSt) : Prop := ∃ f : Nat, f ≤ n ∧ (sX4_readItem S D).1 = false ∧ (sX4_readItem S D).2.1.1 4 = nI f ∧ (sX4_readItem S D).2.1.1 0 = nI n ∧ (sX4_readItem S D).2.1.2 = t ∧ (((sX6_readsItem Y).1 = false ∧ (sX6_readsItem Y).2.1 4 = nI f) ∨ ((sX6_readsItem Y).1 = true ∧ (sX6_passesEnd (sX6_readsItem Y).2).1 = false ∧ (sX6_passesEnd (sX6_readsItem Y).2).2.1 4 = nI f))
theorem fin_I {s2 e2 : Nat} {res : Bool × MSt} (hn : n ≤ 120) (ht : Lt n u t) (hm : Lt n u m) (hb : sX4_mayBegin S (sX4_itemOfWord S) = true) (hR : TC n t (sX4_nextToken S) tl hd) (es : (sX4_nextToken S).1 4 = nI s2) (er : sX6_readsItem Y = res) (hse : s < e2) (hen : e2 ≤ n) (hs2 : s2 ≤ n) (F : Fs n t m (sX4_nextToken S) D (sX4_itemOfWord S) res s2 e2) : OkI n t m S D Y s ∨ NoI n t S D Y := by
  rcases F with ⟨q1, tl', hd', D', R', q2, q3, q4, q5, q6, q7, q8, q9⟩ | ⟨q1, q2, q3⟩
  · obtain ⟨st, st2, st3⟩ := stop_sim hn ht hm q3 q4 q6 q7
    have hge : e2 ≤ rn (uB u) n e2 := rn_ge hen
    have hle : rn (uB u) n e2 ≤ n := rn_le hen
    rcases st with ⟨r1, r2, r3, r4, r5⟩ | ⟨r1, r2, r3, r4⟩
    · refine Or.inl ⟨rn (uB u) n e2 + 1, tl', hd', D', sX4_nextToken R', ?_, st2, r3, by rw [er]; exact q5, by rw [er]; exact r4, by rw [er]; exact r5, by rw [er, st3.1]; exact q7, by rw [er]; exact st3.2.2.2.2.trans q8, by rw [er, st3.1]; exact q9, by omega⟩
      unfold sX4_readItem
      rw [if_pos hb, if_pos q1, q2, if_pos rfl, if_pos r1]
    · have e : sX4_readItem S D = (false, sX4_nextToken R', D') := by
        unfold sX4_readItem
        rw [if_pos hb, if_pos q1, q2, if_pos rfl, if_neg r1]
      exact Or.inr ⟨rn (uB u) n e2, hle, by rw [e], by rw [e]; exact r2, by rw [e]; exact st2.1, by rw [e]; exact st2.2.1, Or.inr ⟨by rw [er]; exact q5, by rw [er]; exact r3, by rw [er]; exact r4⟩⟩
  · have e : (sX4_readItem S D).1 = false ∧ (sX4_readItem S D).2.1 = sX4_nextToken S := by
      unfold sX4_readItem
      rw [if_pos hb]
      by_cases c : (sX4_nextToken S).1 3 = 2
      · rcases q1 with q1 | ⟨q1, q4⟩
        · exact absurd c q1
        · rw [if_pos c, q1, if_neg (by decide)]; exact ⟨rfl, q4⟩
      · rw [if_neg c]; exact ⟨rfl, rfl⟩
    exact Or.inr ⟨s2, hs2, e.1, by rw [e.2]; exact es, by rw [e.2]; exact hR.1, by rw [e.2]; exact hR.2.1, Or.inl ⟨by rw [er]; exact q2, by rw [er]; exact q3⟩⟩
theorem no_I (hS : TC n t S tl hd) (es : S.1 4 = nI s) (hsn : s ≤ n) (hb : ¬ sX4_mayBegin S (sX4_itemOfWord S) = true) (h1 : (sX6_readsItem Y).1 = false) (h2 : (sX6_readsItem Y).2.1 4 = nI s) : NoI n t S D Y := by
  have e : sX4_readItem S D = (false, S, D) := by
    unfold sX4_readItem
    rw [if_neg hb]
  exact ⟨s, hsn, by rw [e], by rw [e]; exact es, by rw [e]; exact hS.1, by rw [e]; exact hS.2.1, Or.inl ⟨h1, h2⟩⟩
theorem item_sim (hn : n ≤ 120) (ht : Lt n u t) (hm : Lt n u m) (hS : TC n t S tl hd) (es : S.1 4 = nI s) (ee : S.1 5 = nI (tkE t n s)) (hs : s < n) (hnb : rn (uB u) n s = s) (hY : TXK Y n s) (eY : Y.2 7 = m) (e5 : Y.1 5 = bI hd) (hD : Dq tl hd D (Y.2 1)) : OkI n t m S D Y s ∨ NoI n t S D Y := by
  obtain ⟨s0, s2, s3, s4⟩ := id hS
  obtain ⟨w1, w2, w3, w4⟩ := wp_ok hY.1 hn hY.2.2.1 hY.2.2.2
  rw [eY, bl_u hm, hnb] at w1 w2 w4
  rw [low_u hm] at w1 w4
  obtain ⟨hI, hend⟩ := item_word s0 hn es (by rw [s2]; exact ee) (by rw [s2]; exact ht) hm hs
  rw [← w4] at hI
  rw [s2] at hend
  have hge : s ≤ rn (uW u) n s := rn_ge (by omega)
  have hle : rn (uW u) n s ≤ n := rn_le (by omega)
  have hW : TXK (sX6_wordPassed Y).2 n (rn (uW u) n s) := ⟨w3.2.2.2.1.trans hY.1, hn, w1, hle⟩
  have eW : (sX6_wordPassed Y).2.2 7 = m := by rw [w3.1]; exact eY
  have eW5 : (sX6_wordPassed Y).2.1 5 = bI hd := w3.2.2.2.2.trans e5
  have hDW : Dq tl hd D ((sX6_wordPassed Y).2.2 1) := by rw [w3.1]; exact hD
  -- the token behind the word
  have tok : ¬ sX4_itemOfWord S = -9 → TC n t (sX4_nextToken S) tl hd ∧ (sX4_nextToken S).1 4 = nI (rn (uB u) n (rn (uW u) n s)) ∧ (((sX4_nextToken S).1 3 = 2 ∧ (sX4_nextToken S).1 5 = nI (rn (uF u) n (rn (uB u) n (rn (uW u) n s))) ∧ rn (uB u) n (rn (uW u) n s) < rn (uF u) n (rn (uB u) n (rn (uW u) n s))) ∨ (¬ (sX4_nextToken S).1 3 = 2 ∧ rn (uF u) n (rn (uB u) n (rn (uW u) n s)) ≤ rn (uB u) n (rn (uW u) n s))) ∧ s < rn (uF u) n (rn (uB u) n (rn (uW u) n s)) ∧ rn (uF u) n (rn (uB u) n (rn (uW u) n s)) ≤ n ∧ rn (uB u) n (rn (uW u) n s) ≤ n := fun z => by
    obtain ⟨hE, hlt⟩ := hend z
    rw [hE] at ee
    obtain ⟨k1, k2, k3, k4, k5, k6, k7⟩ := nt_ok s0 hn ee hle
    rw [s2, tkS_u ht] at k1 k2 k3
    have g1 : rn (uW u) n s ≤ rn (uB u) n (rn (uW u) n s) := rn_ge hle
    have g2 : rn (uB u) n (rn (uW u) n s) ≤ n := rn_le hle
    have g3 : rn (uB u) n (rn (uW u) n s) ≤ rn (uF u) n (rn (uB u) n (rn (uW u) n s)) := rn_ge g2
    have g4 : rn (uF u) n (rn (uB u) n (rn (uW u) n s)) ≤ n := rn_le g2
    refine ⟨⟨k4.trans s0, k7.trans s2, k5.trans s3, k6.trans s4⟩, k1, ?_, by omega, g4, g2⟩
    generalize rn (uB u) n (rn (uW u) n s) = b2 at k1 k2 k3 g1 g2 g3 g4 ⊢
    by_cases c : b2 < n
    · by_cases c2 : uF u b2 = true
      · refine Or.inl ⟨k2.trans ((tkK_2 ht c).mpr c2), by rw [k3, tkE_F ht c c2], ?_⟩
        have h5 := rn_go (P := uF u) c c2
        have h6 := rn_ge (P := uF u) (n := n) (a := b2 + 1) (by omega)
        omega
      · refine Or.inr ⟨fun y => c2 ((tkK_2 ht c).mp (k2.symm.trans y)), ?_⟩
        rw [rn_st (fun y => c2 y.2)]; exact Nat.le_refl _
    · refine Or.inr ⟨fun y => ?_, ?_⟩
      · rw [k2, tkK_n _ (by omega)] at y; exact absurd y (by decide)
      · rw [rn_st (fun y => c y.1)]; exact Nat.le_refl _
  have begins : sX4_mayBegin S (sX4_itemOfWord S) = (if sX4_itemOfWord S = -9 then false else if sX4_itemOfWord S = 3 then !tl else if sX4_itemOfWord S = 4 then (tl && !hd) else true) := by
    unfold sX4_mayBegin
    rw [s3, s4]
    cases tl <;> cases hd <;> rfl
  rcases hI with ⟨i1, i2⟩ | ⟨i1, i2⟩ | ⟨i1, i2⟩ | ⟨i1, i2⟩ | ⟨i1, i2⟩ | ⟨i1, i2⟩
  · -- a line
    have er : sX6_readsItem Y = sX6_readsLine (sX6_wordPassed Y).2 := by
      unfold sX6_readsItem
      rw [i2, if_neg (by decide), if_pos rfl]
    rw [i1] at begins tok
    obtain ⟨t1, t2, t3, t4, t5, t6⟩ := tok (by decide)
    cases tl
    · refine fin_I hn ht hm (by rw [i1]; exact begins) t1 t2 er t4 t5 t6 ?_
      rw [i1]
      exact fs_line hn ht hm t1 t2 hW eW eW5 rfl rfl t3 hDW
    · refine Or.inr (no_I hS es (by omega) (by rw [i1, begins, if_neg (by decide), if_pos rfl]; decide) ?_ ?_)
      · rw [er]
        unfold sX6_readsLine
        obtain ⟨T, p, w, c, b, h, B, C, r0, -⟩ := hDW
        rw [r0, if_pos rfl, if_neg (nI_nle B.1 (by have := B.T12; omega))]
      · rw [er]
        unfold sX6_readsLine
        obtain ⟨T, p, w, c, b, h, B, C, r0, -⟩ := hDW
        rw [r0, if_pos rfl, if_neg (nI_nle B.1 (by have := B.T12; omega))]
        exact w2
  · -- hands
    have er : sX6_readsItem Y = sX6_readsHands (sX6_wordPassed Y).2 := by
      unfold sX6_readsItem
      rw [i2, if_neg (by decide), if_neg (by decide), if_pos rfl]
    rw [i1] at begins tok
    obtain ⟨t1, t2, t3, t4, t5, t6⟩ := tok (by decide)
    cases hd
    · cases tl
      · have e9 : sX6_readsHands (sX6_wordPassed Y).2 = (false, (sX6_wordPassed Y).2) := by
          unfold sX6_readsHands
          obtain ⟨T, p, w, c, b, h, B, C, r0, -⟩ := hDW
          rw [eW5, if_pos (show bI false = 0 from rfl), r0, if_pos (show (if false = true then nI T else 0) = 0 from rfl)]
        exact Or.inr (no_I hS es (by omega) (by rw [i1, begins]; decide) (by rw [er, e9]) (by rw [er, e9]; exact w2))
      · refine fin_I hn ht hm (by rw [i1]; exact begins) t1 t2 er t4 t5 t6 ?_
        rw [i1]
        exact fs_hands hn ht hm t1 t2 hW eW eW5 rfl rfl t3 hDW
    · have e9 : sX6_readsHands (sX6_wordPassed Y).2 = (false, (sX6_wordPassed Y).2) := by
        unfold sX6_readsHands
        rw [eW5, if_neg (show ¬ bI true = 0 by decide)]
      exact Or.inr (no_I hS es (by omega) (by rw [i1, begins]; cases tl <;> decide) (by rw [er, e9]) (by rw [er, e9]; exact w2))
  · have er : sX6_readsItem Y = sX6_readsNumber (sX6_wordPassed Y).2 (nI (0 + 1)) := by
      unfold sX6_readsItem
      rw [i2, if_neg (by decide), if_neg (by decide), if_neg (by decide)]; rfl
    rw [i1] at begins tok
    obtain ⟨t1, t2, t3, t4, t5, t6⟩ := tok (by decide)
    refine fin_I hn ht hm (by rw [i1]; exact begins) t1 t2 er t4 t5 t6 ?_
    rw [i1]
    exact fs_num (j := 0) (by decide) hn ht hm t1 t2 hW eW eW5 rfl rfl t3 hDW
  · have er : sX6_readsItem Y = sX6_readsNumber (sX6_wordPassed Y).2 (nI (1 + 1)) := by
      unfold sX6_readsItem
      rw [i2, if_neg (by decide), if_neg (by decide), if_neg (by decide)]; rfl
    rw [i1] at begins tok
    obtain ⟨t1, t2, t3, t4, t5, t6⟩ := tok (by decide)
    refine fin_I hn ht hm (by rw [i1]; exact begins) t1 t2 er t4 t5 t6 ?_
    rw [i1]
    exact fs_num (j := 1) (by decide) hn ht hm t1 t2 hW eW eW5 rfl rfl t3 hDW
  · have er : sX6_readsItem Y = sX6_readsNumber (sX6_wordPassed Y).2 (nI (2 + 1)) := by
      unfold sX6_readsItem
      rw [i2, if_neg (by decide), if_neg (by decide), if_neg (by decide)]; rfl
    rw [i1] at begins tok
    obtain ⟨t1, t2, t3, t4, t5, t6⟩ := tok (by decide)
    refine fin_I hn ht hm (by rw [i1]; exact begins) t1 t2 er t4 t5 t6 ?_
    rw [i1]
    exact fs_num (j := 2) (by decide) hn ht hm t1 t2 hW eW eW5 rfl rfl t3 hDW
  · have er : sX6_readsItem Y = (false, (sX6_wordPassed Y).2) := by
      unfold sX6_readsItem
      rw [i2, if_pos rfl]
    rw [i1] at begins
    exact Or.inr (no_I hS es (by omega) (by rw [i1, begins, if_pos rfl]; decide) (by rw [er]) (by rw [er]; exact w2))
set_option maxHeartbeats 2000000 in
theorem rd_L (hn : n ≤ 120) (ht : Lt n u t) (hm : Lt n u m) : ∀ (f f' k a : Nat) (x : Int32) (S D : LSt) (Y : MSt) (tl hd : Bool), x = nI k → TC n t S tl hd → S.1 5 = nI a → a ≤ n → k ≤ a → 122 ≤ f + k → TXK Y n (rn (uB u) n a) → Y.1 4 = nI (rn (uB u) n a) → Y.2 7 = m → Y.1 5 = bI hd → 120 + 1 ≤ f' + rn (uB u) n a → Dq tl hd D (Y.2 1) →
    ((∃ (k' : Nat) (hd' : Bool), k' ≤ 120 ∧ (sX4_read_L24 f x S D).1 = nI k' ∧ (sX6_reads_L23 f' x Y).1 = nI k' ∧ Dq true hd' (sX4_read_L24 f x S D).2.2 ((sX6_reads_L23 f' x Y).2.2 1)) ∨ (∃ s : Nat, s ≤ 120 ∧ (sX4_read_L24 f x S D).1 = -10 - nI s ∧ (sX6_reads_L23 f' x Y).1 = -1 ∧ (sX6_reads_L23 f' x Y).2.1 4 = nI s)) ∧ (sX4_read_L24 f x S D).2.1.1 0 = nI n ∧ (sX4_read_L24 f x S D).2.1.2 = t := by
  intro f
  induction f with
  | zero => intro f' k a x S D Y tl hd _ _ _ h1 h2 h3; omega
  | succ f ih =>
    intro f' k a x S D Y tl hd ex hS e5 ha hk hf hY e4 eY eY5 hf' hD
    have hge : a ≤ rn (uB u) n a := rn_ge ha
    have hle : rn (uB u) n a ≤ n := rn_le ha
    have hend := rn_end (P := uB u) (n := n) _ a rfl ha
    obtain ⟨f', rfl⟩ : ∃ g, f' = g + 1 := ⟨f' - 1, by omega⟩
    subst ex
    obtain ⟨s0, s2, s3, s4⟩ := id hS
    obtain ⟨k1, k2, k3, k4, k5, k6, k7⟩ := nt_ok s0 hn e5 ha
    rw [s2, tkS_u ht] at k1 k2 k3
    have hT : TC n t (sX4_nextToken S) tl hd := ⟨k4.trans s0, k7.trans s2, k5.trans s3, k6.trans s4⟩
    have e2 := sX4_read_L24_s f (nI k) S D
    rw [if_neg (show ¬ (120 : Int32) < nI k from nI_nlt (b := k) (a := 120) (by omega) (by omega))] at e2
    generalize sX4_nextToken S = S1 at k1 k2 k3 k4 k5 k6 k7 hT e2
    generalize rn (uB u) n a = s1 at hge hle hend hY e4 hf' k1 k2 k3
    have e3 := sX6_reads_L23_s f' (nI k) Y
    rw [hY.1, hY.2.2.1] at e3
    rcases Nat.lt_or_ge s1 n with c | c
    · rw [if_neg (nI_ge c (by omega))] at e3
      rw [if_neg (show ¬ S1.1 3 = 0 by rw [k2]; exact tkK_0 ht c)] at e2
      have hnb : rn (uB u) n s1 = s1 := rn_st (fun z => hend z)
      rcases item_sim hn ht hm hT k1 k3 c hnb hY eY eY5 hD with ⟨a', tl', hd', D', S', j1, j2, j3, j4, j5, j6, j7, j8, j9, j10⟩ | ⟨fl, j1, j2, j3, j4, j5, j6⟩
      · rw [j1, if_pos rfl, nI_1] at e2
        rw [if_pos j4, if_pos j5, nI_1] at e3
        obtain ⟨p1, p2, p3⟩ := sk_ok j6.1 hn j6.2.2.1 j6.2.2.2
        rw [j7, bl_u hm] at p1 p2
        have hge' : a' ≤ rn (uB u) n a' := rn_ge j6.2.2.2
        have := ih f' (k + 1) a' _ S' D' (sX6_skips (sX6_passesEnd (sX6_readsItem Y).2).2) tl' hd' rfl j2 j3 j6.2.2.2 (by omega) (by omega) ⟨p3.2.2.2.1.trans j6.1, hn, p1, rn_le j6.2.2.2⟩ p2 (by rw [p3.1]; exact j7) (p3.2.2.2.2.trans j8) (by omega) (by rw [p3.1]; exact j9)
        generalize sX6_skips (sX6_passesEnd (sX6_readsItem Y).2).2 = Sk at this e3
        rw [e2, e3]
        exact this
      · generalize sX4_readItem S1 D = Ri at e2 j2 j3 j4 j5
        generalize sX6_passesEnd (sX6_readsItem Y).2 = Pe at e3 j6
        generalize sX6_readsItem Y = Re at e3 j6
        rw [if_neg (by rw [j2]; decide)] at e2
        rw [e2]
        refine ⟨Or.inr ⟨fl, by omega, by rw [j3], ?_⟩, j4, j5⟩
        rcases j6 with ⟨r1, r2⟩ | ⟨r1, r2, r3⟩
        · rw [if_neg (by rw [r1]; decide)] at e3
          rw [e3]; exact ⟨rfl, r2⟩
        · rw [if_pos r1, if_neg (by rw [r2]; decide)] at e3
          rw [e3]; exact ⟨rfl, r3⟩
    · have hs1 : s1 = n := by omega
      rw [if_pos (nI_le c (by omega))] at e3
      rw [if_pos (show S1.1 3 = 0 by rw [k2]; exact tkK_n _ c), hT.2.2.1] at e2
      cases tl
      · rw [if_pos (show bI false = 0 from rfl)] at e2
        have hE : tkE t n s1 = s1 := by unfold tkE; rw [tkK_n _ c, if_pos rfl]
        rw [hE] at k3
        have hw : ∀ i, i < 5 → ¬ sX4_isWord S1 i = true := fun i hi z => by
          have h1 := iw_iff hT.1 hn k1 k3 (Nat.le_refl _) hle (by rw [hT.2.1]; exact ht) hi
          have h2 := (h1.mp z).1
          have h3 : 0 < txLen.getD i 0 := (by decide : ∀ i, i < 5 → 0 < txLen.getD i 0) i hi
          omega
        have hi9 : sX4_itemOfWord S1 = -9 := by
          unfold sX4_itemOfWord
          rw [if_neg (hw 0 (by decide)), if_neg (hw 1 (by decide)), if_neg (hw 2 (by decide)), if_neg (hw 3 (by decide)), if_neg (hw 4 (by decide))]
        have hrd : sX4_readItem S1 D = (false, S1, D) := by
          unfold sX4_readItem
          rw [hi9, if_neg (show ¬ sX4_mayBegin S1 (-9) = true by unfold sX4_mayBegin; rw [if_pos rfl]; decide)]
        rw [hrd, if_neg (show ¬ (false, S1, D).1 = true by intro z; cases z)] at e2
        have r0 : Y.2 1 0 = 0 := by
          obtain ⟨T, p, w, c, b, h, B, C, r0, -⟩ := hD
          exact r0
        rw [r0, if_pos (show (0 : Int32) ≤ 0 by decide)] at e3
        rw [e2, e3]
        exact ⟨Or.inr ⟨s1, by omega, by show (-10 : Int32) - S1.1 4 = _; rw [k1], rfl, e4⟩, hT.1, hT.2.1⟩
      · rw [if_neg (show ¬ bI true = 0 by decide)] at e2
        have r0 : ¬ Y.2 1 0 ≤ 0 := by
          obtain ⟨T, p, w, c, b, h, B, C, r0, -⟩ := hD
          rw [r0, if_pos rfl]
          exact nI_nle B.1 (by have := B.T12; omega)
        rw [if_neg r0] at e3
        rw [e2, e3]
        exact ⟨Or.inl ⟨k, hd, by omega, rfl, rfl, hD⟩, hT.1, hT.2.1⟩
end
theorem te_L : ∀ (f k : Nat) (x1 x : Int32) (Y : MSt), x = nI k → k ≤ 17 → 18 ≤ f + k → (sX6_tells_L23 f x1 x Y).1 = x1 ∧ (sX6_tells_L23 f x1 x Y).2.1 = upd Y.1 2 0 ∧ (∀ j, j ≠ 0 → (sX6_tells_L23 f x1 x Y).2.2 j = Y.2 j) ∧ (∀ i, i < 17 → (sX6_tells_L23 f x1 x Y).2.2 0 i = if k ≤ i then Y.2 1 i else Y.2 0 i) := by
  intro f
  induction f with
  | zero => intro k x1 x Y _ h1 h2; omega
  | succ f ih =>
    intro k x1 x Y ex h1 h2
    subst ex
    rw [sX6_tells_L23_s]
    by_cases c1 : 17 ≤ nI k
    · rw [if_pos c1]
      have : ¬ k < 17 := fun q => nI_ge (b := 17) q (by decide) c1
      exact ⟨rfl, rfl, fun _ _ => rfl, fun i hi => by rw [if_neg (by omega)]⟩
    · have hlt : k < 17 := up_lt (x := nI k) (b := 17) rfl rfl (by omega) c1
      rw [if_neg c1, nI_clamp (by omega), nI_1]
      obtain ⟨i1, i2, i3, i4⟩ := ih (k + 1) x1 _ (Y.1, (updR Y.2 0 (upd (Y.2 0) k ((Y.2 1) k)))) rfl (by omega) (by omega)
      refine ⟨i1, i2, fun j hj => (i3 j hj).trans (if_neg hj), fun i hi => (i4 i hi).trans ?_⟩
      show (if k + 1 ≤ i then Y.2 1 i else upd (Y.2 0) k ((Y.2 1) k) i) = _
      by_cases z : i = k
      · rw [z, if_neg (by omega), if_pos (Nat.le_refl _), pk_us]
      · rw [pk_un z]
        by_cases z2 : k ≤ i
        · rw [if_pos (by omega), if_pos z2]
        · rw [if_neg (by omega), if_neg z2]
theorem m10 : ∀ s, s < 121 → ¬ (0 : Int32) ≤ -10 - nI s := by decide +kernel
theorem dq_0 (D : LSt) (r : Nat → Int32) : Dq false false (sX0_makeNew D) (sX6_bares r) := by
  refine ⟨1, fun _ => 0, 2, 2, 4, 0, ⟨by decide, by decide, fun _ => Nat.zero_le _, fun _ _ => rfl, by decide, by decide, by decide, by decide, by decide, fun i _ q => by rw [b_0] at q; cases q⟩, ⟨rfl, rfl, rfl, rfl, fun j hj => fill_0 D.2 0 hj, fun i _ => b_0 i, rfl⟩, ?_, ?_, ?_, ?_, fun j hj => ?_, ?_, fun _ => ⟨rfl, fun _ => rfl⟩, fun _ => rfl⟩
  · rw [bares_at r 0 (by decide)]; rfl
  · rw [bares_at r 1 (by decide)]; rfl
  · rw [bares_at r 2 (by decide)]; rfl
  · rw [bares_at r 3 (by decide)]; rfl
  · rw [bares_at r (4 + j) (by omega), pk_un (by omega), pk_un (by omega), pk_un (by omega)]; rfl
  · rw [bares_at r 16 (by decide)]; rfl
theorem rl_tells : Rtells Rl := by
  intro Z N X H k0 k1 M R D
  obtain ⟨hL, ⟨n, hn, x1, x2, x3⟩, hp, i0, i1, hz⟩ := id R
  have ht : Lt n (fun j => (X.2 j).toNatClampNeg) X.2 := fun j hj => by
    obtain ⟨-, q, hq, e⟩ := x3 j hj
    show X.2 j = nI (X.2 j).toNatClampNeg ∧ (X.2 j).toNatClampNeg ≤ 255
    rw [e, nI_clamp (by omega)]; exact ⟨rfl, hq⟩
  have hm : Lt n (fun j => (X.2 j).toNatClampNeg) (M.2 7) := fun j hj => by
    rw [← (x3 j hj).1]; exact ht j hj
  generalize (fun j => (X.2 j).toNatClampNeg) = u at ht hm
  have hag := rs_ag (S := M) ⟨n, x2, hn⟩
  obtain ⟨p1, p2, p3⟩ := sk_ok (S := ((upd (upd M.1 5 0) 3 0), (updR M.2 1 (sX6_bares (M.2 1))))) (n := n) (a := 0) x2 hn rfl (Nat.zero_le _)
  have p1 : (sX6_skips ((upd (upd M.1 5 0) 3 0), (updR M.2 1 (sX6_bares (M.2 1))))).1 3 = nI (rn (bl (M.2 7)) n 0) := p1
  have p2 : (sX6_skips ((upd (upd M.1 5 0) 3 0), (updR M.2 1 (sX6_bares (M.2 1))))).1 4 = nI (rn (bl (M.2 7)) n 0) := p2
  rw [bl_u hm] at p1 p2
  have hrd := rd_L hn ht hm 122 121 0 0 0 ((upd (upd (upd X.1 1 0) 2 0) 5 0), X.2) (sX0_makeNew D) (sX6_skips ((upd (upd M.1 5 0) 3 0), (updR M.2 1 (sX6_bares (M.2 1))))) false false rfl ⟨x1, rfl, rfl, rfl⟩ rfl (Nat.zero_le _) (Nat.le_refl _) (by omega) ⟨p3.2.2.2.1.trans x2, hn, p1, rn_le (Nat.zero_le _)⟩ p2 (by rw [p3.1]; rfl) p3.2.2.2.2 (by omega) (by rw [p3.1]; exact dq_0 D (M.2 1))
  have e1 : sX4_read_L24 122 0 ((upd (upd (upd X.1 1 0) 2 0) 5 0), X.2) (sX0_makeNew D) = sX4_read X D := by unfold sX4_read; rfl
  have e2 : sX6_reads_L23 121 0 (sX6_skips ((upd (upd M.1 5 0) 3 0), (updR M.2 1 (sX6_bares (M.2 1))))) = sX6_reads M := by unfold sX6_reads; rfl
  rw [e1, e2] at hrd
  unfold sX5_tells sX6_tells
  generalize sX4_read X D = C at hrd ⊢
  generalize sX6_reads M = Q at hrd hag ⊢
  obtain ⟨g1, g2, g3, g4⟩ := hag
  obtain ⟨hrd, t1, t2⟩ := hrd
  rcases hrd with ⟨k', hd', q1, q2, q3, q4⟩ | ⟨s, q1, q2, q3, q4⟩
  · rw [q2, q3, if_pos (nI_pos' (n := k') (by omega)), if_pos (nI_pos' (n := k') (by omega))]
    obtain ⟨v1, v2, v3, v4⟩ := te_L 18 0 (nI k') 0 (sX6_keeps Q.2) rfl (by omega) (by omega)
    generalize sX6_tells_L23 18 (nI k') 0 (sX6_keeps Q.2) = Y at v1 v2 v3 v4 ⊢
    obtain ⟨uu, hu, h1, h2, h3, h4⟩ := id hp
    have h2' : Q.2.1 0 = nI uu := g2.trans h2
    obtain ⟨-, kk2, kk3, -⟩ := keeps_ok h2' hu
    have hpQ : PaR H Q.2 := ⟨uu, hu, h1, h2', h3, fun i hi => by rw [g1 2 (by decide)]; exact h4 i hi⟩
    have row : ∀ j, j ≠ 0 → j ≠ 1 → j ≠ 2 → Y.2.2 j = M.2 j := fun j z0 z1 z2 => by rw [v3 j z0, kk3 j z2, g1 j z1]
    refine ⟨v1.symm, ?_, ⟨0, by omega, rfl, by rw [v2]; rfl, fun j hj => by omega⟩, past_ok hpQ (by rw [g1 0 (by decide)]; exact hL) (by rw [v2]; rfl) (v3 2 (by decide)), ?_, ?_, ?_⟩
    · obtain ⟨T, p, w, c, b, h, B, C', r0, r1, r2, r3, r4, r5, -, -⟩ := q4
      refine ⟨T, p, w, c, b, h, B, copy_Lc N C', Lr_cong (fun i hi => ?_) ⟨by rw [if_pos rfl] at r0; exact r0, r1, r2, r3, r4, r5⟩⟩
      rw [v4 i hi, if_pos (Nat.zero_le _), kk3 1 (by decide)]
    · unfold IR; rw [row 4 (by decide) (by decide) (by decide), row 3 (by decide) (by decide) (by decide)]; exact i0
    · unfold IR; rw [row 4 (by decide) (by decide) (by decide), row 3 (by decide) (by decide) (by decide)]; exact i1
    · unfold Sn
      rw [v2, show upd (sX6_keeps Q.2).1 2 0 1 = M.1 1 from (kk2 1 (by decide)).trans g3, row 5 (by decide) (by decide) (by decide), row 6 (by decide) (by decide) (by decide)]; exact hz
  · rw [q2, q3, if_neg (m10 s (by omega)), if_neg (show ¬ (0 : Int32) ≤ -1 by decide), q4]
    refine ⟨rfl, by rw [g1 0 (by decide)]; exact hL, ⟨n, hn, t1, g4.trans x2, fun j hj => ?_⟩, ?_, ?_, ?_, ?_⟩
    · rw [g1 7 (by decide)]
      show C.2.1.2 j = _ ∧ ∃ q : Nat, q ≤ 255 ∧ C.2.1.2 j = nI q
      rw [t2]; exact x3 j hj
    · unfold PaR; rw [g2, g1 2 (by decide)]; exact hp
    · unfold IR; rw [g1 4 (by decide), g1 3 (by decide)]; exact i0
    · unfold IR; rw [g1 4 (by decide), g1 3 (by decide)]; exact i1
    · unfold Sn; rw [g3, g1 5 (by decide), g1 6 (by decide)]; exact hz
