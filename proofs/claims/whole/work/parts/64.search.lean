/-! all shares, in the order of the search -/
def fS {σ : Type} (p : Nat → Nat) (f : σ → Int32 → σ) : Nat → Nat → Int32 → σ → σ
  | 0, _, s, st => f st s
  | d + 1, k, s, st => if 0 < p k then fS p f d (k + 1) (s ||| ((1 : Int32) <<< (nI k &&& 31))) (fS p f d (k + 1) s st) else fS p f d (k + 1) s st
def Pz (k : Nat) (s : Int32) : Prop := ∀ i, k ≤ i → i < 32 → bt s i = false
def Cm (p : Nat → Nat) (k : Nat) (s s' : Int32) : Prop := (∀ i, i < k → bt s' i = bt s i) ∧ (∀ i, k ≤ i → i < 32 → bt s' i = true → 0 < p i)
theorem bt_or1 (s : Int32) {k : Nat} (hk : k < 32) {i : Nat} (hi : i < 32) : bt (s ||| ((1 : Int32) <<< (nI k &&& 31))) i = (bt s i || decide (i = k)) := by
  rw [b_or, bt_one hk hi]
theorem Cm_0 {p : Nat → Nat} {k : Nat} {s : Int32} (z : Pz k s) : Cm p k s s := ⟨fun _ _ => rfl, fun i h1 h2 q => by rw [z i h1 h2] at q; cases q⟩
theorem Cm_s0 {p : Nat → Nat} {k : Nat} {s s' : Int32} (hk : k < 32) (z : Pz k s) (q : Cm p (k + 1) s s') : Cm p k s s' := by
  refine ⟨fun i hi => q.1 i (by omega), fun i h1 h2 e => ?_⟩
  rcases Nat.eq_or_lt_of_le h1 with y | y
  · rw [← y, q.1 k (by omega), z k (Nat.le_refl _) hk] at e; cases e
  · exact q.2 i y h2 e
theorem Cm_s1 {p : Nat → Nat} {k : Nat} {s s' : Int32} (hk : k < 32) (hp : 0 < p k) (q : Cm p (k + 1) (s ||| ((1 : Int32) <<< (nI k &&& 31))) s') : Cm p k s s' := by
  refine ⟨fun i hi => ?_, fun i h1 h2 e => ?_⟩
  · rw [q.1 i (by omega), bt_or1 s hk (by omega), decide_eq_false (by omega), Bool.or_false]
  · rcases Nat.eq_or_lt_of_le h1 with y | y
    · rw [← y]; exact hp
    · exact q.2 i y h2 e
theorem Pz_s0 {k : Nat} {s : Int32} (z : Pz k s) : Pz (k + 1) s := fun i h1 h2 => z i (by omega) h2
theorem Pz_s1 {k : Nat} {s : Int32} (hk : k < 32) (z : Pz k s) : Pz (k + 1) (s ||| ((1 : Int32) <<< (nI k &&& 31))) := fun i h1 h2 => by
  rw [bt_or1 s hk h2, z i (by omega) h2, decide_eq_false (by omega)]; rfl
theorem fS_rel {σ τ : Type} {p : Nat → Nat} (R : σ → τ → Prop) (f : σ → Int32 → σ) (g : τ → Int32 → τ) : ∀ (d k : Nat) (s : Int32) (st : σ) (st' : τ), k + d ≤ 12 → Pz k s → (∀ s' a a', Cm p k s s' → R a a' → R (f a s') (g a' s')) → R st st' → R (fS p f d k s st) (fS p g d k s st') := by
  intro d
  induction d with
  | zero => intro k s st st' _ z hf hR; exact hf s st st' (Cm_0 z) hR
  | succ d ih =>
    intro k s st st' hk z hf hR
    have h0 := ih (k + 1) s st st' (by omega) (Pz_s0 z) (fun s' a a' q => hf s' a a' (Cm_s0 (by omega) z q)) hR
    rw [fS, fS]
    by_cases c : 0 < p k
    · rw [if_pos c, if_pos c]
      exact ih (k + 1) _ _ _ (by omega) (Pz_s1 (by omega) z) (fun s' a a' q => hf s' a a' (Cm_s1 (by omega) c q)) h0
    · rw [if_neg c, if_neg c]; exact h0
theorem fS_inv {σ : Type} {p : Nat → Nat} (P : σ → Prop) (f : σ → Int32 → σ) {d k : Nat} {s : Int32} {st : σ} (hk : k + d ≤ 12) (z : Pz k s) (hf : ∀ s' a, Cm p k s s' → P a → P (f a s')) (hP : P st) : P (fS p f d k s st) :=
  fS_rel (p := p) (fun a (_ : Unit) => P a) f (fun _ _ => ()) d k s st () hk z (fun s' a _ q => hf s' a q) hP
theorem fS_id {σ : Type} {p : Nat → Nat} (f : σ → Int32 → σ) {d k : Nat} {s : Int32} {st : σ} (hk : k + d ≤ 12) (z : Pz k s) (hf : ∀ s', Cm p k s s' → f st s' = st) : fS p f d k s st = st :=
  fS_inv (p := p) (fun a => a = st) f hk z (fun s' a q e => by rw [e]; exact hf s' q) rfl
/-! costs -/
def cst (p : Nat → Nat) (b : Nat) (h : Int32) (g : Nat) (s : Int32) (i : Nat) : Nat :=
  if g = 1 then (if b ≤ i ∧ 0 < p (i - b) ∧ bt s i ≠ bt s (i - b) then 100 else 0) else if g = 2 then (if bt s i = bt h i then 0 else 1) else 0
def cp (p : Nat → Nat) (b : Nat) (h : Int32) (g : Nat) (s : Int32) : Nat → Nat
  | 0 => 0
  | k + 1 => cp p b h g s k + (if 0 < p k then cst p b h g s k else 0)
theorem cst_le (p : Nat → Nat) (b : Nat) (h : Int32) (g : Nat) (s : Int32) (i : Nat) : cst p b h g s i ≤ 100 := by
  unfold cst
  repeat' split
  all_goals omega
theorem cp_le (p : Nat → Nat) (b : Nat) (h : Int32) (g : Nat) (s : Int32) (k : Nat) : cp p b h g s k ≤ 100 * k := by
  induction k with
  | zero => exact Nat.le_refl _
  | succ k ih =>
    have := cst_le p b h g s k
    rw [cp]; split <;> omega
theorem cp_mono (p : Nat → Nat) (b : Nat) (h : Int32) (g : Nat) (s : Int32) (k : Nat) : ∀ d, cp p b h g s k ≤ cp p b h g s (k + d) := by
  intro d
  induction d with
  | zero => exact Nat.le_refl _
  | succ d ih => rw [← Nat.add_assoc, cp]; omega
theorem cst_cong {p : Nat → Nat} {b : Nat} {h : Int32} {g : Nat} {s s' : Int32} {i : Nat} (q : ∀ j, j ≤ i → bt s j = bt s' j) : cst p b h g s i = cst p b h g s' i := by
  unfold cst
  rw [q i (Nat.le_refl _), q (i - b) (Nat.sub_le _ _)]
theorem cp_cong {p : Nat → Nat} {b : Nat} {h : Int32} {g : Nat} {s s' : Int32} : ∀ {k : Nat}, (∀ i, i < k → bt s i = bt s' i) → cp p b h g s k = cp p b h g s' k := by
  intro k
  induction k with
  | zero => intro _; rfl
  | succ k ih => intro q; rw [cp, cp, ih (fun i hi => q i (by omega)), cst_cong (fun j hj => q j (by omega))]
def tlA (p : Nat → Nat) (T : Nat) (s : Int32) : Nat := pc (h0b p s) T - pc (h1b p s) T + (pc (h1b p s) T - pc (h0b p s) T)
def tot (p : Nat → Nat) (b : Nat) (h : Int32) (g T : Nat) (s : Int32) : Nat := cp p b h g s T + (if g = 1 then tlA p T s else 0)
theorem tlA_le (p : Nat → Nat) (T : Nat) (s : Int32) : tlA p T s ≤ T := by
  have h0 := pc_le (h0b p s) T
  have h1 := pc_le (h1b p s) T
  unfold tlA; omega
/-- how the search goes on: what costs least, and which share that is -/
def stC (p : Nat → Nat) (w c b : Nat) (h : Int32) (g T : Nat) : Nat × Int32 → Int32 → Nat × Int32 := fun st s => if (scan p w c s T).isSome = true ∧ tot p b h g T s < st.1 then (tot p b h g T s, s) else st
def SR (g : Nat) (S : SSt) (st : Nat × Int32) : Prop := S 0 = st.2 ∧ S 1 = nI g ∧ S 2 = nI st.1 ∧ st.1 ≤ 1000000
section
variable {T : Nat} {p : Nat → Nat} {w c b : Nat} {h : Int32} {N : LSt} {M : MSt}
theorem costAt_eq (B : Lb T p w c b h) (C : Lc T p w c b h N) {g : Nat} (hg : g ≤ 2) {S : SSt} (e : S 1 = nI g) (s : Int32) {k : Nat} (hk : k < 12) : sX2_costAt S N (nI k) s = nI (cst p b h g s k) := by
  have hb : b ≤ 6 := B.2.2.2.2.2.2.2.2.1
  unfold sX2_costAt cst
  rw [e]
  have hg3 : g = 0 ∨ g = 1 ∨ g = 2 := by omega
  rcases hg3 with q | q | q
  · subst q; rfl
  · subst q
    rw [if_pos (show nI 1 = 1 from rfl), if_pos rfl]
    unfold sX2_isUnlike
    rw [C.2.2.2.1, hasNote_nz B C]
    rcases Nat.lt_or_ge k b with y | y
    · have : nz p (nI k - nI b) = false := by unfold nz; rw [if_pos (pk_sneg (by omega) y)]
      rw [this, if_neg (show ¬ (b ≤ k ∧ 0 < p (k - b) ∧ bt s k ≠ bt s (k - b)) from fun z => by omega)]; rfl
    · rw [pk_sub y, nz_nI (by omega), bit1 s (by omega), bit1 s (by omega)]
      by_cases y2 : 0 < p (k - b)
      · rw [if_pos (decide_eq_true y2)]
        by_cases y3 : bt s k = bt s (k - b)
        · rw [if_pos (bI_eq.mpr y3), if_neg (show ¬ (b ≤ k ∧ 0 < p (k - b) ∧ bt s k ≠ bt s (k - b)) from fun z => z.2.2 y3)]; rfl
        · rw [if_neg (fun z => y3 (bI_eq.mp z)), if_pos (show (b ≤ k ∧ 0 < p (k - b) ∧ bt s k ≠ bt s (k - b)) from ⟨y, y2, y3⟩)]; rfl
      · rw [if_neg (fun z => y2 (of_decide_eq_true z)), if_neg (show ¬ (b ≤ k ∧ 0 < p (k - b) ∧ bt s k ≠ bt s (k - b)) from fun z => y2 z.2.1)]; rfl
  · subst q
    rw [if_neg (show ¬ nI 2 = 1 by decide), if_pos (show nI 2 = 2 from rfl), if_neg (by decide), if_pos rfl, C.2.2.2.2.2.2, bit1 _ (by omega), b_xor]
    cases bt s k <;> cases bt h k <;> rfl
theorem weigh_ok (B : Lb T p w c b h) (C : Lc T p w c b h N) {g : Nat} (hg : g ≤ 2) {S : SSt} {st : Nat × Int32} {s : Int32} (hs : Sh p s) (hl : (scan p w c s T).isSome = true) (q : SR g S st) : SR g (sX2_weigh S N s (nI (cp p b h g s T))) (stC p w c b h g T st s) := by
  obtain ⟨q0, q1, q2, q3⟩ := q
  have hT := B.T12
  have h0 := pc_le (h0b p s) T
  have h1 := pc_le (h1b p s) T
  have h2 := cp_le p b h g s T
  have h3 := tlA_le p T s
  have key : ∀ x : Int32, x = nI (tot p b h g T s) → SR g (if S 2 ≤ x then S else upd (upd S 2 x) 0 s) (stC p w c b h g T st s) := by
    intro x ex
    have ht : tot p b h g T s ≤ 1212 := by unfold tot; split <;> omega
    unfold stC
    by_cases y : tot p b h g T s < st.1
    · rw [ex, q2, if_neg (nI_ge y (by omega)), if_pos (show (scan p w c s T).isSome = true ∧ tot p b h g T s < st.1 from ⟨hl, y⟩)]
      exact ⟨rfl, q1, rfl, by show tot p b h g T s ≤ 1000000; omega⟩
    · rw [ex, q2, if_pos (nI_le (by omega) (by omega)), if_neg (show ¬ ((scan p w c s T).isSome = true ∧ tot p b h g T s < st.1) from fun z => y z.2)]
      exact ⟨q0, q1, q2, q3⟩
  unfold sX2_weigh
  rw [q1]
  by_cases y : g = 1
  · rw [if_pos (show nI g = 1 by rw [y]; rfl)]
    refine key _ ?_
    rw [tlc_eq B C hs, tl_c _ (by omega) _ (by omega), nI_add]
    unfold tot tlA
    rw [if_pos y]
  · have : ¬ nI g = 1 := fun z => y ((nI_eq (b := 1) (by omega) (by decide)).mp z)
    rw [if_neg this]
    refine key _ ?_
    unfold tot
    rw [if_neg y]; rfl
theorem go_ok (B : Lb T p w c b h) (C : Lc T p w c b h N) {g : Nat} (hg : g ≤ 2) : ∀ (n k : Nat) (s : Int32) (q : Option Nat × Option Nat) (S : SSt) (st : Nat × Int32), scan p w c s k = some q → Pz k s → Sh p s → k ≤ T → T + 1 ≤ n + k → SR g S st →
    SR g (sX2_goOn n S N (nI k) s (lastI q.1) (lastI q.2) (nI (cp p b h g s k))) (fS p (stC p w c b h g T) (T - k) k s st) := by
  have hT := B.T12
  intro n
  induction n with
  | zero => intro k s q S st _ _ _ h1 h2; omega
  | succ n ih =>
    intro k s q S st e z hs h1 h2 r
    obtain ⟨l1, l2⟩ := scan_lt e
    have hcp := cp_le p b h g s k
    have hcs := cst_le p b h g s k
    rw [sX2_goOn_s, C.1, hasNote_nz B C]
    by_cases c0 : nI (cp p b h g s k) < S 2
    · rw [if_pos c0]
      by_cases c1 : nI k < nI T
      · rw [if_pos c1, nz_nI (by omega), nI_1]
        have hlt : k < T := (nI_ltI (by omega) (by omega)).mp c1
        rw [may_eq B C (by omega) l1, may_eq B C (by omega) l2, show T - k = (T - (k + 1)) + 1 by omega, fS]
        have hs0 := scan_s e
        unfold scn at hs0
        by_cases c2 : 0 < p k
        · rw [if_pos (decide_eq_true c2), if_pos c2]
          rw [if_pos c2] at hs0
          generalize e1 : s ||| ((1 : Int32) <<< (nI k &&& 31)) = s1
          have hb0 : bt s k = false := z k (Nat.le_refl _) (by omega)
          have hb1 : bt s1 k = true := by rw [← e1, bt_or1 s (by omega) (by omega), hb0, decide_eq_true rfl]; rfl
          have hbl : ∀ i, i < k → bt s1 i = bt s i := fun i hi => by rw [← e1, bt_or1 s (by omega) (by omega), decide_eq_false (by omega), Bool.or_false]
          have z1 : Pz (k + 1) s1 := e1 ▸ Pz_s1 (by omega) z
          have hsh1 : Sh p s1 := fun i hi y => by
            rw [← e1, bt_or1 s (by omega) hi] at y
            rcases Bool.or_eq_true_iff.mp y with y | y
            · exact hs i hi y
            · rw [of_decide_eq_true y]; exact c2
          have hsc1 : scan p w c s1 k = some q := (scan_cong hbl).trans e
          have hs1 := scan_s hsc1
          unfold scn at hs1
          rw [if_pos c2, if_pos hb1] at hs1
          rw [if_neg (by rw [hb0]; decide)] at hs0
          have hc0 : nI (cp p b h g s k) + nI (cst p b h g s k) = nI (cp p b h g s (k + 1)) := by rw [nI_add, cp, if_pos c2]
          have hc1 : nI (cp p b h g s k) + nI (cst p b h g s1 k) = nI (cp p b h g s1 (k + 1)) := by rw [nI_add, cp, if_pos c2, cp_cong hbl]
          -- completions that the law bars
          have bar : ∀ (s2 : Int32) (st2 : Nat × Int32), Pz (k + 1) s2 → scan p w c s2 (k + 1) = none → fS p (stC p w c b h g T) (T - (k + 1)) (k + 1) s2 st2 = st2 := by
            intro s2 st2 y1 y2
            refine fS_id _ (by omega) y1 (fun s' y3 => ?_)
            have y4 : scan p w c s' (k + 1) = none := (scan_cong y3.1).trans y2
            have y5 := scan_n y4 (T - (k + 1))
            rw [show k + 1 + (T - (k + 1)) = T by omega] at y5
            unfold stC
            rw [y5]
            exact if_neg (fun y => by cases y.1)
          have go0 : mayN p w c q.1 k = true → SR g (sX2_goOn n S N (nI (k + 1)) s (nI k) (lastI q.2) (nI (cp p b h g s k) + sX2_costAt S N (nI k) s)) (fS p (stC p w c b h g T) (T - (k + 1)) (k + 1) s st) := fun y => by
            rw [costAt_eq B C hg r.2.1 s (by omega), hc0]
            rw [if_pos y] at hs0
            exact ih (k + 1) s (some k, q.2) S st hs0 (Pz_s0 z) hs (by omega) (by omega) r
          have go1 : mayN p w c q.2 k = true → ∀ (S' : SSt) (st' : Nat × Int32), SR g S' st' → SR g (sX2_goOn n S' N (nI (k + 1)) s1 (lastI q.1) (nI k) (nI (cp p b h g s k) + sX2_costAt S' N (nI k) s1)) (fS p (stC p w c b h g T) (T - (k + 1)) (k + 1) s1 st') := fun y S' st' r' => by
            rw [costAt_eq B C hg r'.2.1 s1 (by omega), hc1]
            rw [if_pos y] at hs1
            exact ih (k + 1) s1 (q.1, some k) S' st' hs1 z1 hsh1 (by omega) (by omega) r'
          by_cases m0 : mayN p w c q.1 k = true
          · rw [if_pos m0]
            by_cases m1 : mayN p w c q.2 k = true
            · rw [if_pos m1]
              exact go1 m1 _ _ (go0 m0)
            · rw [if_neg m1]
              rw [if_neg m1] at hs1
              rw [bar s1 _ z1 hs1]
              exact go0 m0
          · rw [if_neg m0]
            rw [if_neg m0] at hs0
            rw [bar s st (Pz_s0 z) hs0]
            by_cases m1 : mayN p w c q.2 k = true
            · rw [if_pos m1]
              exact go1 m1 _ _ r
            · rw [if_neg m1]
              rw [if_neg m1] at hs1
              rw [bar s1 _ z1 hs1]
              exact r
        · rw [if_neg (fun y => c2 (of_decide_eq_true y)), if_neg c2]
          rw [if_neg c2] at hs0
          have : cp p b h g s (k + 1) = cp p b h g s k := by rw [cp, if_neg c2]; rfl
          rw [← this]
          exact ih (k + 1) s q S st hs0 (Pz_s0 z) hs (by omega) (by omega) r
      · rw [if_neg c1]
        have : ¬ k < T := fun y => c1 (nI_lt y (by omega))
        have hk : k = T := by omega
        subst hk
        rw [Nat.sub_self, fS]
        exact weigh_ok B C hg hs (by rw [e]; rfl) r
    · rw [if_neg c0]
      have hge : st.1 ≤ cp p b h g s k := by
        have := r.2.2.2
        rw [r.2.2.1] at c0
        exact Nat.not_lt.mp (fun y => c0 (nI_lt y (by omega)))
      rw [fS_id _ (by omega) z (fun s' y => ?_)]
      · exact r
      · unfold stC
        refine if_neg (fun y2 => ?_)
        have h3 : cp p b h g s' k = cp p b h g s k := cp_cong y.1
        have h4 := cp_mono p b h g s' k (T - k)
        rw [show k + (T - k) = T by omega] at h4
        have h5 := y2.2
        unfold tot at h5
        omega
theorem Pz_z : Pz 0 0 := fun i _ _ => b_0 i
theorem Sh_z (p : Nat → Nat) : Sh p 0 := fun i _ y => by rw [b_0] at y; cases y
theorem find_ok (B : Lb T p w c b h) (C : Lc T p w c b h N) {g : Nat} (hg : g ≤ 2) (S : SSt) : (sX2_find S N (nI g)).1 = decide ((fS p (stC p w c b h g T) T 0 0 (1000000, 0)).1 < 1000000) ∧ SR g (sX2_find S N (nI g)).2 (fS p (stC p w c b h g T) T 0 0 (1000000, 0)) := by
  have r : SR g (upd (upd (upd S 1 (nI g)) 0 0) 2 1000000) (1000000, 0) := ⟨rfl, rfl, rfl, Nat.le_refl _⟩
  have k := go_ok B C hg 14 0 0 (none, none) _ _ rfl Pz_z (Sh_z p) (by omega) (by have := B.T12; omega) r
  unfold sX2_find
  have k : SR g (sX2_goOn 14 (upd (upd (upd S 1 (nI g)) 0 0) 2 1000000) N 0 0 (-9) (-9) 0) (fS p (stC p w c b h g T) T 0 0 (1000000, 0)) := k
  generalize sX2_goOn 14 (upd (upd (upd S 1 (nI g)) 0 0) 2 1000000) N 0 0 (-9) (-9) 0 = S9 at k ⊢
  generalize fS p (stC p w c b h g T) T 0 0 (1000000, 0) = st9 at k ⊢
  obtain ⟨k0, k1, k2, k3⟩ := id k
  by_cases y : st9.1 < 1000000
  · have : ¬ (1000000 : Int32) ≤ S9 2 := by rw [k2]; exact nI_ge (b := 1000000) y (by decide)
    rw [if_neg this, decide_eq_true y]; exact ⟨rfl, k⟩
  · have : (1000000 : Int32) ≤ S9 2 := by rw [k2]; exact nI_le (a := 1000000) (by omega) (by omega)
    rw [if_pos this, decide_eq_false y]; exact ⟨rfl, k⟩
end
