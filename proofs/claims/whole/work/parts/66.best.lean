/-! best, nearest, slowest: class and reference find the same share -/
theorem df_pos : ∀ a, a < 13 → ∀ d, d < 13 → ((0 : Int32) < nI a - nI d ↔ d < a) := by decide +kernel
theorem df_0 : ∀ a, a < 13 → ∀ d, d < 13 → (nI a - nI d = 0 ↔ a = d) := by decide +kernel
def ulk (p : Nat → Nat) (b : Nat) (s : Int32) : Nat → Bool := fun i => decide (0 < p i) && (decide (0 < p (i + b)) && !(bt s i == bt s (i + b)))
def prb (p : Nat → Nat) (b : Nat) : Nat → Bool := fun i => decide (0 < p i) && decide (0 < p (i + b))
def ulb (p : Nat → Nat) (b : Nat) (s : Int32) : Nat → Bool := fun i => decide (0 < p i) && decide (b ≤ i ∧ 0 < p (i - b) ∧ bt s i ≠ bt s (i - b))
theorem lk_ul (p : Nat → Nat) (b : Nat) (s : Int32) (n : Nat) : pc (lkb p b s) n + pc (ulk p b s) n = pc (prb p b) n := by
  induction n with
  | zero => rfl
  | succ n ih =>
    rw [pc, pc, pc, ← ih]
    unfold lkb ulk prb
    cases decide (0 < p n) <;> cases decide (0 < p (n + b)) <;> cases bt s n <;> cases bt s (n + b) <;> simp <;> omega
theorem ul_sh (p : Nat → Nat) (b : Nat) (s : Int32) (n : Nat) : pc (ulb p b s) (n + b) = pc (ulk p b s) n := by
  induction n with
  | zero =>
    rw [Nat.zero_add]
    exact pc_ext (T := 0) (Nat.zero_le _) (fun i _ hi => by unfold ulb; rw [decide_eq_false (show ¬ (b ≤ i ∧ 0 < p (i - b) ∧ bt s i ≠ bt s (i - b)) from fun z => by omega), Bool.and_false])
  | succ n ih =>
    rw [show n + 1 + b = (n + b) + 1 by omega, pc, pc, ih]
    have : ulb p b s (n + b) = ulk p b s n := by
      unfold ulb ulk
      rw [Nat.add_sub_cancel]
      by_cases q1 : 0 < p n
      · by_cases q2 : 0 < p (n + b)
        · by_cases q3 : bt s n = bt s (n + b)
          · rw [decide_eq_false (show ¬ (b ≤ n + b ∧ 0 < p n ∧ bt s (n + b) ≠ bt s n) from fun z => z.2.2 q3.symm), q3]
            cases bt s (n + b) <;> simp
          · rw [decide_eq_true (show b ≤ n + b ∧ 0 < p n ∧ bt s (n + b) ≠ bt s n from ⟨by omega, q1, fun z => q3 z.symm⟩), decide_eq_true q1, decide_eq_true q2]
            cases h1 : bt s n <;> cases h2 : bt s (n + b) <;> first | rfl | (rw [h1, h2] at q3; exact absurd rfl q3)
        · rw [decide_eq_false q2, Bool.false_and, Bool.false_and, Bool.and_false]
      · rw [decide_eq_false (show ¬ (b ≤ n + b ∧ 0 < p n ∧ bt s (n + b) ≠ bt s n) from fun z => q1 z.2.1), decide_eq_false q1, Bool.and_false, Bool.false_and]
    rw [this]
theorem cp_ul (p : Nat → Nat) (b : Nat) (h s : Int32) (n : Nat) : cp p b h 1 s n = 100 * pc (ulb p b s) n := by
  induction n with
  | zero => rfl
  | succ n ih =>
    rw [cp, pc, ih]
    unfold cst ulb
    rw [if_pos rfl]
    by_cases q1 : 0 < p n
    · rw [if_pos q1, decide_eq_true q1, Bool.true_and]
      by_cases q2 : b ≤ n ∧ 0 < p (n - b) ∧ bt s n ≠ bt s (n - b)
      · rw [if_pos q2, if_pos (decide_eq_true q2)]; omega
      · rw [if_neg q2, if_neg (fun z => q2 (of_decide_eq_true z))]; omega
    · rw [if_neg q1, decide_eq_false q1, Bool.false_and, if_neg (by decide)]; omega
def xrb (p : Nat → Nat) (h s : Int32) : Nat → Bool := fun i => decide (0 < p i) && (bt s i ^^ bt h i)
theorem cp_xr (p : Nat → Nat) (b : Nat) (h s : Int32) (n : Nat) : cp p b h 2 s n = pc (xrb p h s) n := by
  induction n with
  | zero => rfl
  | succ n ih =>
    rw [cp, pc, ih]
    unfold cst xrb
    rw [if_neg (show ¬ (2 : Nat) = 1 by decide), if_pos (show (2 : Nat) = 2 from rfl)]
    by_cases q1 : 0 < p n
    · rw [if_pos q1, decide_eq_true q1, Bool.true_and]
      cases bt s n <;> cases bt h n <;> rfl
    · rw [if_neg q1, decide_eq_false q1, Bool.false_and, if_neg (by decide)]
theorem cp_0 (p : Nat → Nat) (b : Nat) (h s : Int32) (n : Nat) : cp p b h 0 s n = 0 := by
  induction n with
  | zero => rfl
  | succ n ih =>
    rw [cp, ih]
    split <;> rfl
section
variable {T : Nat} {p : Nat → Nat} {w c b : Nat} {h : Int32} {N : LSt} {M : MSt}
theorem copy_Lc (K : LSt) (C : Lc T p w c b h N) : Lc T p w c b h (sX0_copyFrom K N) := by
  obtain ⟨c1, c2, c3, c4, c5, c6, c7⟩ := C
  refine ⟨c1, c2, c3, c4, fun t ht => ?_, c6, c7⟩
  show va_cpy N.2 K.2 0 0 12 t = _
  rw [pk_cpy_in (Nat.zero_le _) (by omega), Nat.zero_add, Nat.sub_zero]
  exact c5 t ht
theorem tot1 (B : Lb T p w c b h) (s : Int32) : tot p b h 1 T s + 100 * pc (lkb p b s) T = 100 * pc (prb p b) T + tlA p T s := by
  have h1 := lk_ul p b s T
  have h2 := ul_sh p b s T
  have h3 : pc (ulb p b s) (T + b) = pc (ulb p b s) T := pc_ext (by omega) (fun i hi _ => by unfold ulb; rw [B.p0 hi]; rfl)
  unfold tot
  rw [cp_ul, if_pos rfl]
  omega
theorem better_eq (B : Lb T p w c b h) (R : Lr T p w c b h (M.2 0)) (s x : Int32) : sX6_isBetter M s x = decide (tot p b h 1 T s < tot p b h 1 T x) := by
  have hT := B.T12
  have a1 := tot1 B s
  have a2 := tot1 B x
  have l1 := pc_le (lkb p b s) T
  have l2 := pc_le (lkb p b x) T
  have m1 := tlA_le p T s
  have m2 := tlA_le p T x
  have g1 := pc_le (h0b p s) T
  have g2 := pc_le (h1b p s) T
  have g3 := pc_le (h0b p x) T
  have g4 := pc_le (h1b p x) T
  unfold sX6_isBetter
  rw [lkr_eq B R, lkr_eq B R, tlr_eq B R, tlr_eq B R, tl_r _ (by omega) _ (by omega), tl_r _ (by omega) _ (by omega)]
  have e1 : pc (h0b p s) T - pc (h1b p s) T + (pc (h1b p s) T - pc (h0b p s) T) = tlA p T s := rfl
  have e2 : pc (h0b p x) T - pc (h1b p x) T + (pc (h1b p x) T - pc (h0b p x) T) = tlA p T x := rfl
  rw [e1, e2]
  by_cases c1 : (0 : Int32) < nI (pc (lkb p b s) T) - nI (pc (lkb p b x) T)
  · rw [if_pos c1]
    have := (df_pos _ (by omega) _ (by omega)).mp c1
    rw [decide_eq_true (by omega)]
  · rw [if_neg c1]
    have n1 : ¬ pc (lkb p b x) T < pc (lkb p b s) T := fun z => c1 ((df_pos _ (by omega) _ (by omega)).mpr z)
    by_cases c2 : nI (pc (lkb p b s) T) - nI (pc (lkb p b x) T) = 0
    · rw [if_pos c2]
      have n2 := (df_0 _ (by omega) _ (by omega)).mp c2
      by_cases c3 : nI (tlA p T x) ≤ nI (tlA p T s)
      · rw [if_pos c3]
        have n3 := (nI_leI (by omega) (by omega)).mp c3
        rw [decide_eq_false (by omega)]
      · rw [if_neg c3]
        have n3 : ¬ tlA p T x ≤ tlA p T s := fun z => c3 (nI_le z (by omega))
        rw [decide_eq_true (by omega)]
    · rw [if_neg c2]
      have n2 : ¬ pc (lkb p b s) T = pc (lkb p b x) T := fun z => c2 ((df_0 _ (by omega) _ (by omega)).mpr z)
      rw [decide_eq_false (by omega)]
theorem tot2 (p : Nat → Nat) (b : Nat) (h s : Int32) (T : Nat) : tot p b h 2 T s = pc (xrb p h s) T := by
  unfold tot; rw [cp_xr, if_neg (by decide)]; rfl
theorem xr_bt (B : Lb T p w c b h) {s : Int32} (hs : Sh p s) {i : Nat} (hi : i < 32) : bt (s ^^^ h) i = xrb p h s i := by
  rw [b_xor]
  unfold xrb
  by_cases q : 0 < p i
  · rw [decide_eq_true q, Bool.true_and]
  · rw [hs.no hi (by omega), B.sh.no hi (by omega), decide_eq_false q]; rfl
theorem xrb_no (B : Lb T p w c b h) {s : Int32} {i : Nat} (hi : T ≤ i) : xrb p h s i = false := by
  unfold xrb; rw [B.p0 hi]; rfl
theorem xr_pc (B : Lb T p w c b h) {s : Int32} (hs : Sh p s) : pc (bt (s ^^^ h)) 12 = tot p b h 2 T s := by
  have hT := B.T12
  rw [tot2, pc_cong (fun i hi => xr_bt B hs (by omega)), pc_ext hT (fun i h1 _ => xrb_no B h1)]
theorem ones_xr (B : Lb T p w c b h) {s : Int32} (hs : Sh p s) : sX6_ones (s ^^^ h) = nI (tot p b h 2 T s) := by
  rw [ones_eq, xr_pc B hs]
theorem bc_xr (B : Lb T p w c b h) {s : Int32} (hs : Sh p s) : sJ6_bitCount_0f7a4 (s ^^^ h) = nI (tot p b h 2 T s) := by
  have hT := B.T12
  rw [bc_eq (fun i h1 h2 => by rw [xr_bt B hs h2]; exact xrb_no B (by omega)), xr_pc B hs]
theorem tot_le (B : Lb T p w c b h) (g : Nat) (s : Int32) : tot p b h g T s ≤ 1212 := by
  have hT := B.T12
  have h2 := cp_le p b h g s T
  have h3 := tlA_le p T s
  unfold tot; split <;> omega
theorem Sh_n9 (B : Lb T p w c b h) {s : Int32} (hs : Sh p s) : ¬ s = -9 := fun z => by
  have hT := B.T12
  have : bt s 31 = false := hs.no (by decide) (B.p0 (by omega))
  rw [z] at this
  exact absurd this (by decide)
theorem Cm_sh {s' : Int32} (q : Cm p 0 0 s') : Sh p s' := fun i hi y => q.2 i (Nat.zero_le _) hi y
/-- class and reference stand at the same share -/
def RB (p : Nat → Nat) (w c b : Nat) (h : Int32) (g T : Nat) (st : Nat × Int32) (x : Int32) : Prop := (st = (1000000, 0) ∧ x = -9) ∨ (Sh p st.2 ∧ st.1 = tot p b h g T st.2 ∧ x = st.2 ∧ (scan p w c st.2 T).isSome = true)
theorem best_rel (B : Lb T p w c b h) (R : Lr T p w c b h (M.2 0)) (s' : Int32) (a : Nat × Int32) (x : Int32) (q : Cm p 0 0 s') (r : RB p w c b h 1 T a x) : RB p w c b h 1 T (stC p w c b h 1 T a s') (stB M x s') := by
  have hs := Cm_sh q
  have ht := tot_le B 1 s'
  unfold stC stB
  rw [lawN_eq B R]
  by_cases c1 : (scan p w c s' T).isSome = true
  · rw [if_pos c1]
    rcases r with ⟨r1, r2⟩ | ⟨r1, r2, r3, r4⟩
    · rw [r1, r2, if_pos rfl, if_pos (show (scan p w c s' T).isSome = true ∧ tot p b h 1 T s' < 1000000 from ⟨c1, by omega⟩)]
      exact Or.inr ⟨hs, rfl, rfl, c1⟩
    · rw [if_neg (show ¬ x = -9 by rw [r3]; exact Sh_n9 B r1), better_eq B R, r3]
      by_cases c2 : tot p b h 1 T s' < tot p b h 1 T a.2
      · rw [if_pos (show (scan p w c s' T).isSome = true ∧ tot p b h 1 T s' < a.1 from ⟨c1, by omega⟩), if_pos (decide_eq_true c2)]
        exact Or.inr ⟨hs, rfl, rfl, c1⟩
      · rw [if_neg (show ¬ ((scan p w c s' T).isSome = true ∧ tot p b h 1 T s' < a.1) from fun z => by omega), if_neg (fun z => c2 (of_decide_eq_true z))]
        exact Or.inr ⟨r1, r2, rfl, r4⟩
  · rw [if_neg c1, if_neg (show ¬ ((scan p w c s' T).isSome = true ∧ tot p b h 1 T s' < a.1) from fun z => c1 z.1)]
    exact r
theorem near_rel (B : Lb T p w c b h) (R : Lr T p w c b h (M.2 0)) (s' : Int32) (a : Nat × Int32) (x : Int32) (q : Cm p 0 0 s') (r : RB p w c b h 2 T a x) : RB p w c b h 2 T (stC p w c b h 2 T a s') (stN M h x s') := by
  have hs := Cm_sh q
  have ht := tot_le B 2 s'
  unfold stC stN
  rw [lawN_eq B R]
  rcases r with ⟨r1, r2⟩ | ⟨r1, r2, r3, r4⟩
  · rw [r1, r2, if_pos rfl]
    by_cases c1 : (scan p w c s' T).isSome = true
    · rw [if_pos c1, if_pos (show (scan p w c s' T).isSome = true ∧ tot p b h 2 T s' < 1000000 from ⟨c1, by omega⟩)]
      exact Or.inr ⟨hs, rfl, rfl, c1⟩
    · rw [if_neg c1, if_neg (show ¬ ((scan p w c s' T).isSome = true ∧ tot p b h 2 T s' < 1000000) from fun z => c1 z.1)]
      exact Or.inl ⟨rfl, rfl⟩
  · have ht2 := tot_le B 2 a.2
    rw [if_neg (show ¬ x = -9 by rw [r3]; exact Sh_n9 B r1), r3, ones_xr B r1, ones_xr B hs]
    by_cases c2 : nI (tot p b h 2 T a.2) ≤ nI (tot p b h 2 T s')
    · have n2 := (nI_leI (by omega) (by omega)).mp c2
      rw [if_pos c2, if_neg (show ¬ ((scan p w c s' T).isSome = true ∧ tot p b h 2 T s' < a.1) from fun z => by omega)]
      exact Or.inr ⟨r1, r2, rfl, r4⟩
    · have n2 : ¬ tot p b h 2 T a.2 ≤ tot p b h 2 T s' := fun z => c2 (nI_le z (by omega))
      rw [if_neg c2]
      by_cases c1 : (scan p w c s' T).isSome = true
      · rw [if_pos c1, if_pos (show (scan p w c s' T).isSome = true ∧ tot p b h 2 T s' < a.1 from ⟨c1, by omega⟩)]
        exact Or.inr ⟨hs, rfl, rfl, c1⟩
      · rw [if_neg c1, if_neg (show ¬ ((scan p w c s' T).isSome = true ∧ tot p b h 2 T s' < a.1) from fun z => c1 z.1)]
        exact Or.inr ⟨r1, r2, rfl, r4⟩
theorem best_R (B : Lb T p w c b h) (R : Lr T p w c b h (M.2 0)) : RB p w c b h 1 T (fS p (stC p w c b h 1 T) T 0 0 (1000000, 0)) (itC (stB M) M (2 ^ pc (ntb p) T) 0 (-9)) := by
  rw [← fS_all B R]
  exact fS_rel (RB p w c b h 1 T) _ _ T 0 0 _ _ (by have := B.T12; omega) Pz_z (fun s' a a' q => best_rel B R s' a a' q) (Or.inl ⟨rfl, rfl⟩)
theorem near_R (B : Lb T p w c b h) (R : Lr T p w c b h (M.2 0)) : RB p w c b h 2 T (fS p (stC p w c b h 2 T) T 0 0 (1000000, 0)) (sX6_nearest M) := by
  have e : sX6_nearest M = itC (stN M h) M (2 ^ pc (ntb p) T) 0 (-9) := near_L B R 4097 0 (-9) (Nat.zero_le _) (by have := (pow_eq B R).2; omega)
  rw [e, ← fS_all B R]
  exact fS_rel (RB p w c b h 2 T) _ _ T 0 0 _ _ (by have := B.T12; omega) Pz_z (fun s' a a' q => near_rel B R s' a a' q) (Or.inl ⟨rfl, rfl⟩)
theorem best_eq (Z : SSt) (S : SSt) (SL : LSt) (B : Lb T p w c b h) (C : Lc T p w c b h N) (R : Lr T p w c b h (M.2 0)) (x : Int32) : (sX5_best Z N S SL x).1 = sX6_best M x := by
  have hr := best_R B R
  obtain ⟨f1, f2, -, -, -⟩ := find_ok B (copy_Lc SL C) (g := 1) (by decide) S
  have f1 : (sX2_find S (sX2_lookAt S SL N) 1).1 = _ := f1
  have f2 : (sX2_find S (sX2_lookAt S SL N) 1).2 0 = _ := f2
  unfold sX5_best sX6_best
  have hL : sX6_best_L17 M x 4097 (-9) 0 = fiB M x (itC (stB M) M (2 ^ pc (ntb p) T) 0 (-9)) := best_L B R x 4097 0 (-9) (Nat.zero_le _) (by have := (pow_eq B R).2; omega)
  rw [hL]
  generalize fS p (stC p w c b h 1 T) T 0 0 (1000000, 0) = st at hr f1 f2
  generalize itC (stB M) M (2 ^ pc (ntb p) T) 0 (-9) = y at hr ⊢
  generalize sX2_find S (sX2_lookAt S SL N) 1 = F at f1 f2 ⊢
  unfold sX6_within
  by_cases c1 : x < 0
  · rw [if_pos c1, if_pos c1]; rfl
  · rw [if_neg c1, if_neg c1]
    by_cases c2 : 2 < x
    · rw [if_pos c2, if_neg (Int32.not_le.mpr c2)]; rfl
    · rw [if_neg c2, if_pos rfl, if_pos (Int32.not_lt.mp c2)]
      unfold fiB
      rw [f1]
      rcases hr with ⟨r1, r2⟩ | ⟨r1, r2, r3, r4⟩
      · rw [r1, r2, if_pos rfl]; rfl
      · have ht := tot_le B 1 st.2
        rw [if_pos (decide_eq_true (by omega)), if_neg (show ¬ y = -9 by rw [r3]; exact Sh_n9 B r1), f2, r3, lkc_eq B C r1, lkr_eq B R, tlc_eq B C r1, tlr_eq B R]
        by_cases d0 : x = 0
        · rw [if_pos d0, if_pos d0]
        · rw [if_neg d0, if_neg d0]
          by_cases d1 : x = 1
          · rw [if_pos d1, if_pos d1]
          · rw [if_neg d1, if_neg d1]
/-! mending -/
theorem stC_le (p : Nat → Nat) (w c b : Nat) (h : Int32) (g T : Nat) (a : Nat × Int32) (s : Int32) : (stC p w c b h g T a s).1 ≤ a.1 := by
  unfold stC
  split
  · rename_i z; exact Nat.le_of_lt z.2
  · exact Nat.le_refl _
theorem fS_le (B : Lb T p w c b h) {g : Nat} {s0 : Int32} (hl : (scan p w c s0 T).isSome = true) : ∀ (d k : Nat) (s : Int32) (st : Nat × Int32), k + d = T → Pz k s → Cm p k s s0 → (fS p (stC p w c b h g T) d k s st).1 ≤ tot p b h g T s0 := by
  have hT := B.T12
  intro d
  induction d with
  | zero =>
    intro k s st hk z q
    have e : s0 = s := b_ext (fun i hi => by
      rcases Nat.lt_or_ge i k with y | y
      · exact q.1 i y
      · rw [z i y hi]
        cases y2 : bt s0 i
        · rfl
        · have := B.lt (q.2 i y hi y2); omega)
    rw [fS, ← e]
    unfold stC
    split
    · exact Nat.le_refl _
    · rename_i y
      exact Nat.not_lt.mp (fun y2 => y ⟨hl, y2⟩)
  | succ d ih =>
    intro k s st hk z q
    rw [fS]
    by_cases c1 : 0 < p k
    · rw [if_pos c1]
      cases y : bt s0 k
      · have h0 := ih (k + 1) s st (by omega) (Pz_s0 z) ⟨fun i hi => by
          rcases Nat.eq_or_lt_of_le (Nat.le_of_lt_succ hi) with y2 | y2
          · rw [y2, y, z k (Nat.le_refl _) (by omega)]
          · exact q.1 i y2, fun i h1 h2 h3 => q.2 i (by omega) h2 h3⟩
        exact fS_inv (p := p) (fun a : Nat × Int32 => a.1 ≤ tot p b h g T s0) _ (by omega) (Pz_s1 (by omega) z) (fun s' a _ h1 => Nat.le_trans (stC_le ..) h1) h0
      · exact ih (k + 1) _ _ (by omega) (Pz_s1 (by omega) z) ⟨fun i hi => by
          rw [bt_or1 s (by omega) (by omega)]
          rcases Nat.eq_or_lt_of_le (Nat.le_of_lt_succ hi) with y2 | y2
          · rw [y2, y, decide_eq_true rfl, Bool.or_true]
          · rw [decide_eq_false (by omega), Bool.or_false]; exact q.1 i y2, fun i h1 h2 h3 => q.2 i (by omega) h2 h3⟩
    · rw [if_neg c1]
      exact ih (k + 1) s st (by omega) (Pz_s0 z) ⟨fun i hi => by
        rcases Nat.eq_or_lt_of_le (Nat.le_of_lt_succ hi) with y2 | y2
        · rw [y2, z k (Nat.le_refl _) (by omega)]
          cases y3 : bt s0 k
          · rfl
          · exact absurd (q.2 k (Nat.le_refl _) (by omega) y3) c1
        · exact q.1 i y2, fun i h1 h2 h3 => q.2 i (by omega) h2 h3⟩
theorem pc_none {f : Nat → Bool} : ∀ {n : Nat}, pc f n = 0 → ∀ i, i < n → f i = false := by
  intro n
  induction n with
  | zero => intro _ i hi; omega
  | succ n ih =>
    intro e i hi
    rw [pc] at e
    rcases Nat.eq_or_lt_of_le (Nat.le_of_lt_succ hi) with q | q
    · rw [q]
      cases y : f n
      · rfl
      · rw [y, if_pos rfl] at e; omega
    · exact ih (by omega) i q
theorem mend_spec (Z : SSt) (S : SSt) (SL : LSt) (B : Lb T p w c b h) (C : Lc T p w c b h N) (R : Lr T p w c b h (M.2 0)) :
    (sX6_nearest M = -9 ∧ (sX5_mendingChanges Z N S SL).1 = -9) ∨
    (Sh p (sX6_nearest M) ∧ (sX5_mendingChanges Z N S SL).1 = nI (tot p b h 2 T (sX6_nearest M)) ∧ (sX5_mendingChanges Z N S SL).2.1 0 = sX6_nearest M ∧ (sX6_isLawfulNow M h = true ↔ tot p b h 2 T (sX6_nearest M) = 0)) := by
  have hr := near_R B R
  obtain ⟨f1, f2, -, -, -⟩ := find_ok B (copy_Lc SL C) (g := 2) (by decide) S
  have f1 : (sX2_find S (sX2_lookAt S SL N) 2).1 = _ := f1
  have f2 : (sX2_find S (sX2_lookAt S SL N) 2).2 0 = _ := f2
  have hmin : (scan p w c h T).isSome = true → (fS p (stC p w c b h 2 T) T 0 0 (1000000, 0)).1 ≤ tot p b h 2 T h := fun y => fS_le B y T 0 0 _ (by omega) Pz_z ⟨fun i hi => by omega, fun i _ hi y2 => B.sh i hi y2⟩
  have h0 : tot p b h 2 T h = 0 := by
    rw [tot2]
    have : pc (xrb p h h) T = pc (fun _ => false) T := pc_cong (fun i _ => by unfold xrb; cases bt h i <;> simp)
    rw [this]
    exact (pc_ext (T := 0) (n := T) (Nat.zero_le _) (fun i _ _ => rfl))
  unfold sX5_mendingChanges
  generalize fS p (stC p w c b h 2 T) T 0 0 (1000000, 0) = st at hr f1 f2 hmin
  generalize sX2_find S (sX2_lookAt S SL N) 2 = F at f1 f2 ⊢
  rw [f1]
  rcases hr with ⟨r1, r2⟩ | ⟨r1, r2, r3, r4⟩
  · rw [r1]
    exact Or.inl ⟨r2, rfl⟩
  · have ht := tot_le B 2 st.2
    rw [if_pos (decide_eq_true (by omega)), f2, C.2.2.2.2.2.2, bc_xr B r1, r3]
    refine Or.inr ⟨r1, rfl, f2, ?_⟩
    rw [lawN_eq B R]
    refine ⟨fun y => by have := hmin y; omega, fun y => ?_⟩
    have e : st.2 = h := b_ext (fun i hi => by
      rcases Nat.lt_or_ge i T with z | z
      · rw [tot2] at y
        have := pc_none y i z
        by_cases z2 : 0 < p i
        · unfold xrb at this
          rw [decide_eq_true z2, Bool.true_and] at this
          cases h1 : bt st.2 i <;> cases h2 : bt h i <;> first | rfl | (rw [h1, h2] at this; cases this)
        · rw [r1.no hi (by omega), B.sh.no hi (by omega)]
      · rw [r1.no hi (B.p0 z), B.sh.no hi (B.p0 z)])
    rw [← e]; exact r4
theorem change_eq (Z : SSt) (S : SSt) (SL : LSt) (B : Lb T p w c b h) (C : Lc T p w c b h N) (R : Lr T p w c b h (M.2 0)) : (sX5_change Z N S SL).1 = sX6_change M := by
  unfold sX5_change sX6_change
  rw [R.2.2.2.2.2]
  rcases mend_spec Z S SL B C R with ⟨h1, h2⟩ | ⟨h1, h2, -, -⟩
  · rw [h2, if_pos h1]
  · rw [h2, if_neg (Sh_n9 B h1), ones_xr B h1]
/-! slowest -/
theorem slow_rel (B : Lb T p w c b h) (R : Lr T p w c b h (M.2 0)) {v : Nat} (hv : v ≤ 5) (s' : Int32) (a : Nat × Int32) (x : Bool) (r : (x = true ∧ a.1 < 1000000) ∨ (x = false ∧ a.1 = 1000000)) : (stO M (nI v) x s' = true ∧ (stC p v c b h 0 T a s').1 < 1000000) ∨ (stO M (nI v) x s' = false ∧ (stC p v c b h 0 T a s').1 = 1000000) := by
  have ht := tot_le B 0 s'
  have hle := stC_le p v c b h 0 T a s'
  unfold stO
  rw [lawR_eq B R s' hv]
  rcases r with ⟨r1, r2⟩ | ⟨r1, r2⟩
  · rw [r1]
    exact Or.inl ⟨rfl, by omega⟩
  · rw [r1, Bool.false_or]
    unfold stC
    by_cases c1 : (scan p v c s' T).isSome = true
    · rw [if_pos (show (scan p v c s' T).isSome = true ∧ tot p b h 0 T s' < a.1 from ⟨c1, by omega⟩)]
      exact Or.inl ⟨c1, by show tot p b h 0 T s' < 1000000; omega⟩
    · rw [if_neg (show ¬ ((scan p v c s' T).isSome = true ∧ tot p b h 0 T s' < a.1) from fun z => c1 z.1)]
      exact Or.inr ⟨Bool.eq_false_iff.mpr c1, r2⟩
theorem slow_eqL (B : Lb T p w c b h) (R : Lr T p w c b h (M.2 0)) : ∀ (n v : Nat) (Y2 : SSt) (Y3 : LSt) (w' : Nat), v ≤ 5 → v + 1 ≤ n → Lc T p w' c b h Y3 → (sX5_slowest_L17 n (nI v) Y2 Y3).1 = sX6_slowest_L2 M n (nI v) := by
  intro n
  induction n with
  | zero => intro v Y2 Y3 w' _ h2; omega
  | succ n ih =>
    intro v Y2 Y3 w' h1 h2 C'
    rw [sX5_slowest_L17_s, sX6_slowest_L2_s]
    by_cases c1 : nI v < 1
    · have : v = 0 := by
        have := (nI_ltI (b := 1) (by omega) (by decide)).mp c1
        omega
      rw [if_pos c1, this, if_pos (by decide)]
    · have hv : 1 ≤ v := by
        rcases Nat.eq_zero_or_pos v with q | q
        · subst q; exact absurd (by decide) c1
        · exact q
      rw [if_neg c1, if_neg (nI_nle hv (by omega))]
      have Bv : Lb T p v c b h := ⟨B.1, B.2.1, B.2.2.1, B.2.2.2.1, hv, h1, B.2.2.2.2.2.2⟩
      have Cv : Lc T p v c b h ((upd Y3.1 3 (nI v)), Y3.2) := ⟨C'.1, rfl, C'.2.2⟩
      obtain ⟨f1, -⟩ := find_ok Bv Cv (g := 0) (by decide) Y2
      have f1 : (sX2_find Y2 ((upd Y3.1 3 (nI v)), Y3.2) 0).1 = _ := f1
      have hL : sX6_slowest_L8 M (nI v) (sX6_slowest_L2 M n) 4097 0 = if itC (stO M (nI v)) M (2 ^ pc (ntb p) T) 0 false = true then nI v else sX6_slowest_L2 M n (nI v + (-1)) := slow_L B R (nI v) _ 4097 0 (Nat.zero_le _) (by have := (pow_eq B R).2; omega)
      have hr := fS_rel (p := p) (fun (a : Nat × Int32) (x : Bool) => (x = true ∧ a.1 < 1000000) ∨ (x = false ∧ a.1 = 1000000)) (stC p v c b h 0 T) (stO M (nI v)) T 0 0 (1000000, 0) false (by have := B.T12; omega) Pz_z (fun s' a a' _ => slow_rel B R h1 s' a a') (Or.inr ⟨rfl, rfl⟩)
      rw [fS_all B R (stO M (nI v))] at hr
      rw [hL, f1]
      rcases hr with ⟨r1, r2⟩ | ⟨r1, r2⟩
      · rw [if_pos (decide_eq_true r2), r1, if_pos rfl]
      · rw [if_neg (fun z => by have := of_decide_eq_true z; omega), r1, if_neg (by decide)]
        obtain ⟨v', rfl⟩ : ∃ v', v = v' + 1 := ⟨v - 1, by omega⟩
        rw [pk_m1 v']
        exact ih v' _ _ (v' + 1) (by omega) (by omega) Cv
theorem slowest_eq (Z : SSt) (S : SSt) (SL : LSt) (B : Lb T p w c b h) (C : Lc T p w c b h N) (R : Lr T p w c b h (M.2 0)) : (sX5_slowest Z N S SL).1 = sX6_slowest M :=
  slow_eqL B R 6 5 S _ w (by decide) (by decide) (copy_Lc SL C)
end
