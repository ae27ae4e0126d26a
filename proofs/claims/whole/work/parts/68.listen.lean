/-! the set of tables -/
def lsF (G : Nat → Bool) : Nat → Int32
  | 0 => -9
  | n + 1 => if G n = true ∧ pc G n = 0 then nI n else lsF G n
theorem pc_pos {f : Nat → Bool} {j : Nat} (q : f j = true) : ∀ {n : Nat}, j < n → 0 < pc f n := by
  intro n
  induction n with
  | zero => intro h; omega
  | succ n ih =>
    intro h
    rw [pc]
    rcases Nat.eq_or_lt_of_le (Nat.le_of_lt_succ h) with y | y
    · rw [← y, if_pos q]; omega
    · have := ih y; omega
theorem lsF_none {G : Nat → Bool} : ∀ {n : Nat}, (∀ i, i < n → G i = false) → lsF G n = -9 := by
  intro n
  induction n with
  | zero => intro _; rfl
  | succ n ih =>
    intro q
    rw [lsF, if_neg (show ¬ (G n = true ∧ pc G n = 0) from fun z => by rw [q n (by omega)] at z; cases z.1)]
    exact ih (fun i hi => q i (by omega))
theorem lsF_some {G : Nat → Bool} {j : Nat} (hj : G j = true) (hm : ∀ i, i < j → G i = false) : ∀ {n : Nat}, j < n → lsF G n = nI j := by
  intro n
  induction n with
  | zero => intro h; omega
  | succ n ih =>
    intro h
    rw [lsF]
    rcases Nat.eq_or_lt_of_le (Nat.le_of_lt_succ h) with y | y
    · have : pc G n = 0 := pc_ext (T := 0) (Nat.zero_le _) (fun i _ hi => hm i (by omega))
      rw [if_pos (show G n = true ∧ pc G n = 0 from ⟨y ▸ hj, this⟩), y]
    · have := pc_pos hj y
      rw [if_neg (show ¬ (G n = true ∧ pc G n = 0) from fun z => by omega)]
      exact ih y
theorem inc_L (s : Int32) : ∀ (n k : Nat) (Y : LSt), k ≤ 12 → 13 ≤ n + k → (sX3_include_L24 s n (nI k) Y).1 = Y.1 ∧ ∀ t, t < 12 → (sX3_include_L24 s n (nI k) Y).2 t = if k ≤ t then Y.2 t + bI (bt s t) else Y.2 t := by
  intro n
  induction n with
  | zero => intro k Y h1 h2; omega
  | succ n ih =>
    intro k Y h1 h2
    rw [sX3_include_L24_s]
    by_cases c1 : 12 ≤ nI k
    · rw [if_pos c1]
      have : ¬ k < 12 := fun q => nI_ge (b := 12) q (by decide) c1
      exact ⟨rfl, fun t ht => by rw [if_neg (by omega)]⟩
    · rw [if_neg c1, nI_1, nI_clamp (by omega)]
      have hlt : k < 12 := up_lt (x := nI k) (b := 12) rfl rfl (by omega) c1
      rw [bit1 s (by omega)]
      obtain ⟨i1, i2⟩ := ih (k + 1) (Y.1, (upd Y.2 k ((Y.2 k) + bI (bt s k)))) (by omega) (by omega)
      refine ⟨i1, fun t ht => (i2 t ht).trans ?_⟩
      show (if k + 1 ≤ t then upd Y.2 k _ t + bI (bt s t) else upd Y.2 k _ t) = _
      by_cases c2 : t = k
      · rw [c2, if_neg (by omega), if_pos (Nat.le_refl _), pk_us]
      · rw [pk_un c2]
        by_cases c3 : k ≤ t
        · rw [if_pos (by omega), if_pos c3]
        · rw [if_neg (by omega), if_neg c3]
theorem inc_ok (Y : LSt) (x s : Int32) : (sX3_include Y x s).1 0 = Y.1 0 + 1 ∧ (sX3_include Y x s).1 1 = (if Y.1 0 = 0 then x else Y.1 1) ∧ ∀ t, t < 12 → (sX3_include Y x s).2 t = Y.2 t + bI (bt s t) := by
  unfold sX3_include
  by_cases c1 : Y.1 0 = 0
  · rw [if_pos c1, if_pos c1]
    obtain ⟨i1, i2⟩ := inc_L s 13 0 ((upd (upd Y.1 1 x) 0 ((Y.1 0) + 1)), Y.2) (by omega) (by omega)
    exact ⟨by show (sX3_include_L24 s 13 (nI 0) _).1 0 = _; rw [i1]; rfl, by show (sX3_include_L24 s 13 (nI 0) _).1 1 = _; rw [i1]; rfl, fun t ht => by rw [show (0 : Int32) = nI 0 from rfl, i2 t ht, if_pos (Nat.zero_le _)]⟩
  · rw [if_neg c1, if_neg c1]
    obtain ⟨i1, i2⟩ := inc_L s 13 0 ((upd Y.1 0 ((Y.1 0) + 1)), Y.2) (by omega) (by omega)
    exact ⟨by show (sX3_include_L24 s 13 (nI 0) _).1 0 = _; rw [i1]; rfl, by show (sX3_include_L24 s 13 (nI 0) _).1 1 = _; rw [i1]; rfl, fun t ht => by rw [show (0 : Int32) = nI 0 from rfl, i2 t ht, if_pos (Nat.zero_le _)]⟩
theorem fill_L (v : Int32) : ∀ (n k : Nat) (Y : Nat → Int32), k ≤ 12 → 13 ≤ n + k → ∀ t, t < 12 → sJ7_fill_53178_L5 v n (nI k) (nI 12) Y t = if k ≤ t then v else Y t := by
  intro n
  induction n with
  | zero => intro k Y h1 h2; omega
  | succ n ih =>
    intro k Y h1 h2 t ht
    rw [sJ7_fill_53178_L5_s]
    by_cases c1 : nI 12 ≤ nI k
    · rw [if_pos c1]
      have : ¬ k < 12 := fun q => nI_ge q (by decide) c1
      rw [if_neg (by omega)]
    · rw [if_neg c1, nI_1, nI_clamp (by omega)]
      have hlt : k < 12 := up_lt (x := nI k) rfl rfl (by omega) c1
      rw [ih (k + 1) _ (by omega) (by omega) t ht]
      by_cases c2 : t = k
      · rw [c2, if_neg (by omega), if_pos (Nat.le_refl _), pk_us]
      · rw [pk_un c2]
        by_cases c3 : k ≤ t
        · rw [if_pos (by omega), if_pos c3]
        · rw [if_neg (by omega), if_neg c3]
theorem fill_0 (f : Nat → Int32) (v : Int32) {t : Nat} (ht : t < 12) : sJ7_fill_53178 12 f v t = v := by
  have := fill_L v 13 0 f (by omega) (by omega) t ht
  rw [if_pos (Nat.zero_le _)] at this
  exact this
def GS (G : Nat → Bool) (sh : Int32 → Int32) (k : Nat) (Y : LSt) : Prop := Y.1 0 = nI (pc G k) ∧ Y.1 1 = lsF G k ∧ ∀ t, t < 12 → Y.2 t = nI (pc (fun j => G j && bt (sh (nI j)) t) k)
theorem ga_L {N : LSt} {m0 m1 u : Int32} {G : Nat → Bool} (hG : ∀ k, k < 128 → (G k = true ↔ ((nI k &&& u) = 0 ∧ (m0 &&& (((N.1 1) &&& ((sX0_shareByTable N (nI k)) ^^^ (-1))) ^^^ (-1))) = 0 ∧ (m1 &&& ((sX0_shareByTable N (nI k)) ^^^ (-1))) = 0 ∧ sX0_isLawful N (sX0_shareByTable N (nI k)) = true))) : ∀ (n k : Nat) (Y : LSt), k ≤ 128 → 129 ≤ n + k → GS G (sX0_shareByTable N) k Y → GS G (sX0_shareByTable N) 128 (sX3_gather_L30 N m0 m1 n u (nI k) Y) := by
  intro n
  induction n with
  | zero => intro k Y h1 h2; omega
  | succ n ih =>
    intro k Y h1 h2 g
    rw [sX3_gather_L30_s]
    by_cases c1 : 128 ≤ nI k
    · rw [if_pos c1]
      have : ¬ k < 128 := fun q => nI_ge (b := 128) q (by decide) c1
      rw [show (128 : Nat) = k by omega]; exact g
    · rw [if_neg c1, nI_1]
      have hlt : k < 128 := up_lt (x := nI k) (b := 128) rfl rfl (by omega) c1
      have hk := hG k hlt
      have hpc := pc_le G k
      obtain ⟨g1, g2, g3⟩ := g
      have no : G k = false → GS G (sX0_shareByTable N) 128 (sX3_gather_L30 N m0 m1 n u (nI (k + 1)) Y) := fun q => by
        refine ih (k + 1) Y (by omega) (by omega) ⟨?_, ?_, fun t ht => ?_⟩
        · rw [pc, q, if_neg (by decide)]; exact g1
        · rw [lsF, q, if_neg (show ¬ (false = true ∧ pc G k = 0) from fun z => by cases z.1)]; exact g2
        · rw [pc, q, Bool.false_and, if_neg (by decide)]; exact g3 t ht
      by_cases q1 : (nI k &&& u) = 0
      · rw [if_pos q1]
        by_cases q2 : (m0 &&& (((N.1 1) &&& ((sX0_shareByTable N (nI k)) ^^^ (-1))) ^^^ (-1))) = 0
        · rw [if_pos q2]
          by_cases q3 : (m1 &&& ((sX0_shareByTable N (nI k)) ^^^ (-1))) = 0
          · rw [if_pos q3]
            by_cases q4 : sX0_isLawful N (sX0_shareByTable N (nI k)) = true
            · rw [if_pos q4]
              have q := hk.mpr ⟨q1, q2, q3, q4⟩
              obtain ⟨i1, i2, i3⟩ := inc_ok Y (nI k) (sX0_shareByTable N (nI k))
              refine ih (k + 1) _ (by omega) (by omega) ⟨?_, ?_, fun t ht => ?_⟩
              · rw [i1, g1, nI_1, pc, if_pos q]
              · rw [i2, g1, lsF, g2]
                by_cases z : pc G k = 0
                · rw [if_pos (by rw [z]; rfl), if_pos (show G k = true ∧ pc G k = 0 from ⟨q, z⟩)]
                · rw [if_neg (nI_ne0 (by omega) (by omega)), if_neg (show ¬ (G k = true ∧ pc G k = 0) from fun y => z y.2)]
              · rw [i3 t ht, g3 t ht, nI_bI, pc, q, Bool.true_and]
            · rw [if_neg q4]; exact no (Bool.eq_false_iff.mpr (fun z => q4 (hk.mp z).2.2.2))
          · rw [if_neg q3]; exact no (Bool.eq_false_iff.mpr (fun z => q3 (hk.mp z).2.2.1))
        · rw [if_neg q2]; exact no (Bool.eq_false_iff.mpr (fun z => q2 (hk.mp z).2.1))
      · rw [if_neg q1]; exact no (Bool.eq_false_iff.mpr (fun z => q1 (hk.mp z).1))
theorem tt_L {M : MSt} {b : Bool} (x : Int32) {G : Nat → Bool} (hG : ∀ k, k < 128 → G k = (if b = true then sX6_isHeard M (nI k) else sX6_isTable M (nI k))) : ∀ (n k d : Nat) (x3 x4 x5 : Int32), k ≤ 128 → k + 1 ≤ n → x5 = nI k - 1 → x3 = nI d → d + pc G k = pc G 128 →
    ((x4 = -9 ∧ ∀ i, k ≤ i → i < 128 → G i = false) ∨ (∃ j, k ≤ j ∧ j < 128 ∧ G j = true ∧ (∀ i, k ≤ i → i < j → G i = false) ∧ x4 = nI j)) →
    sX6_tellTables_L10 M x b n x3 x4 x5 = if x = 0 then nI (pc G 128) else if x = 1 then lsF G 128 else -1 := by
  intro n
  induction n with
  | zero => intro k d x3 x4 x5 _ h2; omega
  | succ n ih =>
    intro k d x3 x4 x5 h1 h2 e5 e3 hd r
    rw [sX6_tellTables_L10_s]
    by_cases c1 : x5 < 0
    · rw [if_pos c1]
      have hk : k = 0 := by
        rcases Nat.eq_zero_or_pos k with q | q
        · exact q
        · obtain ⟨j, rfl⟩ : ∃ j, k = j + 1 := ⟨k - 1, by omega⟩
          rw [e5, nI_pred] at c1
          exact absurd c1 (nI_pos (by omega))
      subst hk
      have hd : d = pc G 128 := hd
      rw [e3, hd]
      rcases r with ⟨r1, r2⟩ | ⟨j, r0, r1, r2, r3, r4⟩
      · rw [r1, lsF_none (fun i hi => r2 i (Nat.zero_le _) hi)]
      · rw [r4, lsF_some r2 (fun i hi => r3 i (Nat.zero_le _) hi) r1]
    · rw [if_neg c1]
      obtain ⟨g1, g2, g3⟩ := dn_b e5 h1 (by omega) c1
      obtain ⟨j, rfl⟩ : ∃ j, k = j + 1 := ⟨k - 1, by omega⟩
      have g2 : x5 = nI j := g2
      have hj := hG j (by omega)
      rw [g2] at g3 ⊢
      have yes : G j = true → sX6_tellTables_L10 M x b n (x3 + 1) (nI j) (nI j + (-1)) = if x = 0 then nI (pc G 128) else if x = 1 then lsF G 128 else -1 := fun q => by
        refine ih j (d + 1) _ _ _ (by omega) (by omega) g3 (by rw [e3, nI_1]) ?_ (Or.inr ⟨j, Nat.le_refl _, by omega, q, fun i z1 z2 => by omega, rfl⟩)
        rw [pc, if_pos q] at hd; omega
      have no : G j = false → sX6_tellTables_L10 M x b n (x3 + 0) x4 (nI j + (-1)) = if x = 0 then nI (pc G 128) else if x = 1 then lsF G 128 else -1 := fun q => by
        refine ih j d _ _ _ (by omega) (by omega) g3 (by rw [Int32.add_zero]; exact e3) ?_ ?_
        · rw [pc, q, if_neg (by decide)] at hd; omega
        · rcases r with ⟨r1, r2⟩ | ⟨i, r0, r1, r2, r3, r4⟩
          · refine Or.inl ⟨r1, fun i z1 z2 => ?_⟩
            rcases Nat.eq_or_lt_of_le z1 with y | y
            · rw [← y]; exact q
            · exact r2 i y z2
          · refine Or.inr ⟨i, by omega, r1, r2, fun i' z1 z2 => ?_, r4⟩
            rcases Nat.eq_or_lt_of_le z1 with y | y
            · rw [← y]; exact q
            · exact r3 i' y z2
      cases b
      · rw [if_neg (by decide)] at hj ⊢
        rw [← hj]
        by_cases q : G j = true
        · rw [if_pos q]; exact yes q
        · rw [if_neg q]; exact no (Bool.eq_false_iff.mpr q)
      · rw [if_pos rfl] at hj ⊢
        rw [← hj]
        by_cases q : G j = true
        · rw [if_pos q]; exact yes q
        · rw [if_neg q]; exact no (Bool.eq_false_iff.mpr q)
theorem tt_eq {M : MSt} {b : Bool} (x : Int32) {G : Nat → Bool} (hG : ∀ k, k < 128 → G k = (if b = true then sX6_isHeard M (nI k) else sX6_isTable M (nI k))) : sX6_tellTables M x b = if x = 0 then nI (pc G 128) else if x = 1 then lsF G 128 else -1 :=
  tt_L x hG 129 128 0 0 (-9) 127 (Nat.le_refl _) (Nat.le_refl _) (by decide) rfl (Nat.zero_add _) (Or.inl ⟨rfl, fun i h1 h2 => by omega⟩)
section
variable {T : Nat} {p : Nat → Nat} {w c b : Nat} {h : Int32} {N : LSt} {M : MSt}
theorem table_iff (B : Lb T p w c b h) (C : Lc T p w c b h N) (R : Lr T p w c b h (M.2 0)) (x : Int32) : sX6_isTable M x = true ↔ ((x &&& (sX0_pitchesUsed N ^^^ (-1))) = 0 ∧ sX0_isLawful N (sX0_shareByTable N x) = true) := by
  unfold sX6_isTable
  rw [used_eq B C R, shareBy_eq B C R, lawN_eq B R, lawC_eq B C]
  by_cases c1 : (x &&& (sX6_pitches M ^^^ (-1))) = 0
  · rw [if_pos c1]
    by_cases c2 : (scan p w c (sX6_shareBy M x) T).isSome = true
    · rw [if_pos c2]; exact ⟨fun _ => ⟨c1, c2⟩, fun _ => rfl⟩
    · rw [if_neg c2]; exact ⟨(fun z => by cases z), fun z => absurd z.2 c2⟩
  · rw [if_neg c1]; exact ⟨(fun z => by cases z), fun z => absurd z.1 c1⟩
theorem and0 (x : Int32) : (0 : Int32) &&& x = 0 := b_ext (fun i _ => by rw [b_and, b_0, Bool.false_and])
theorem gather_t (B : Lb T p w c b h) (C : Lc T p w c b h N) (R : Lr T p w c b h (M.2 0)) (Q : LSt) : GS (fun k => sX6_isTable M (nI k)) (sX0_shareByTable N) 128 (sX3_gather Q N 0 0) := by
  refine ga_L (fun k hk => ?_) 129 0 _ (by omega) (by omega) ⟨rfl, rfl, fun t ht => fill_0 Q.2 0 ht⟩
  show sX6_isTable M (nI k) = true ↔ _
  rw [table_iff B C R, and0, and0]
  exact ⟨fun z => ⟨z.1, rfl, rfl, z.2⟩, fun z => ⟨z.1, z.2.2.2⟩⟩
theorem gather_h (Z : SSt) (B : Lb T p w c b h) (C : Lc T p w c b h N) (R : Lr T p w c b h (M.2 0)) (hz : Sn Z M) (Q : LSt) : GS (fun k => sX6_isHeard M (nI k)) (sX0_shareByTable N) 128 (sX3_gather Q N (Z 1) (Z 2)) := by
  refine ga_L (fun k hk => ?_) 129 0 _ (by omega) (by omega) ⟨rfl, rfl, fun t ht => fill_0 Q.2 0 ht⟩
  show sX6_isHeard M (nI k) = true ↔ _
  rw [heard_iff Z B C R hz, table_iff B C R, shareBy_eq B C R]
  exact ⟨fun z => ⟨z.1.1, z.2.1, z.2.2, z.1.2⟩, fun z => ⟨⟨z.1, z.2.2.2⟩, z.2.1, z.2.2.1⟩⟩
theorem ask_eq (Z : SSt) (Q : LSt) (x m0 m1 : Int32) {G : Nat → Bool} (g : GS G (sX0_shareByTable N) 128 (sX3_gather Q N m0 m1)) : (sX5_askTables Z N Q x m0 m1).1 = if x = 0 then nI (pc G 128) else if x = 1 then lsF G 128 else -1 := by
  unfold sX5_askTables
  obtain ⟨g1, g2, -⟩ := g
  by_cases c1 : x < 0
  · rw [if_pos c1, if_neg (fun z => by rw [z] at c1; exact absurd c1 (by decide)), if_neg (fun z => by rw [z] at c1; exact absurd c1 (by decide))]
  · rw [if_neg c1]
    by_cases c2 : x ≤ 1
    · rw [if_pos c2]
      by_cases c3 : x = 0
      · rw [if_pos c3, if_pos c3]; exact g1
      · rw [if_neg c3, if_neg c3]
        obtain ⟨j, hj, rfl⟩ := nI_of c1
        have := (nI_leI (b := 1) hj (by decide)).mp c2
        have h0 : j ≠ 0 := fun z => c3 (by rw [z]; rfl)
        rw [if_pos (show nI j = 1 by rw [show j = 1 by omega]; rfl)]; exact g2
    · rw [if_neg c2, if_neg (fun z => c2 (by rw [z]; decide)), if_neg (fun z => c2 (by rw [z]; decide))]
theorem tables_eq (Z : SSt) (Q : LSt) (B : Lb T p w c b h) (C : Lc T p w c b h N) (R : Lr T p w c b h (M.2 0)) (x : Int32) : (sX5_tables Z N Q x).1 = sX6_tables M x := by
  unfold sX5_tables sX6_tables
  rw [ask_eq Z Q x 0 0 (gather_t B C R Q), tt_eq (b := false) x (G := fun k => sX6_isTable M (nI k)) (fun k _ => by rw [if_neg (by decide)])]
theorem which_eq (Z : SSt) (Q : LSt) (B : Lb T p w c b h) (C : Lc T p w c b h N) (R : Lr T p w c b h (M.2 0)) (hz : Sn Z M) (x : Int32) : (sX5_which Z N Q x).1 = sX6_which M x := by
  unfold sX5_which sX6_which
  rw [ask_eq Z Q x _ _ (gather_h Z B C R hz Q), tt_eq (b := true) x (G := fun k => sX6_isHeard M (nI k)) (fun k _ => by rw [if_pos rfl])]
/-! when to listen -/
def Ag8 (M Y : MSt) : Prop := Y.1 = M.1 ∧ ∀ j, j ≠ 8 → Y.2 j = M.2 j
theorem Ag8.tr {M Y Y' : MSt} (h1 : Ag8 M Y) (h2 : Ag8 Y Y') : Ag8 M Y' := ⟨h2.1.trans h1.1, fun j hj => (h2.2 j hj).trans (h1.2 j hj)⟩
theorem Ag8.up (Y : MSt) (f : Nat → Int32) : Ag8 Y (Y.1, updR Y.2 8 f) := ⟨rfl, fun j hj => if_neg hj⟩
theorem ag_Lr {Y : MSt} (a : Ag8 M Y) (R : Lr T p w c b h (M.2 0)) : Lr T p w c b h (Y.2 0) := by rw [a.2 0 (by decide)]; exact R
theorem ag_Sn {Y : MSt} {Z : SSt} (a : Ag8 M Y) (hz : Sn Z M) : Sn Z Y := by
  unfold Sn
  rw [a.1, a.2 5 (by decide), a.2 6 (by decide)]; exact hz
theorem ag_heard {Y : MSt} {Z : SSt} (a : Ag8 M Y) (B : Lb T p w c b h) (C : Lc T p w c b h N) (R : Lr T p w c b h (M.2 0)) (hz : Sn Z M) (x : Int32) : sX6_isHeard Y x = sX6_isHeard M x := by
  rw [Bool.eq_iff_iff, heard_iff Z B C R hz, heard_iff Z B C (ag_Lr a R) (ag_Sn a hz), table_iff B C R, table_iff B C (ag_Lr a R), ← shareBy_eq B C R, ← shareBy_eq B C (ag_Lr a R)]
theorem ag_share {Y : MSt} (a : Ag8 M Y) (B : Lb T p w c b h) (C : Lc T p w c b h N) (R : Lr T p w c b h (M.2 0)) (x : Int32) : sX6_shareBy Y x = sX6_shareBy M x := by
  rw [← shareBy_eq B C R, ← shareBy_eq B C (ag_Lr a R)]
theorem l4_L : ∀ (n k : Nat) (Y : MSt), k ≤ 12 → 13 ≤ n + k → ∃ Y', sX6_listen_L4 n (nI k) Y = sX6_listen_L25 129 0 0 Y' ∧ Ag8 Y Y' ∧ ∀ t, t < 12 → Y'.2 8 t = if k ≤ t then 0 else Y.2 8 t := by
  intro n
  induction n with
  | zero => intro k Y h1 h2; omega
  | succ n ih =>
    intro k Y h1 h2
    rw [sX6_listen_L4_s]
    by_cases c1 : 12 ≤ nI k
    · rw [if_pos c1]
      have : ¬ k < 12 := fun q => nI_ge (b := 12) q (by decide) c1
      exact ⟨Y, rfl, ⟨rfl, fun _ _ => rfl⟩, fun t ht => by rw [if_neg (by omega)]⟩
    · rw [if_neg c1, nI_1, nI_clamp (by omega)]
      have hlt : k < 12 := up_lt (x := nI k) (b := 12) rfl rfl (by omega) c1
      obtain ⟨Y', i1, i2, i3⟩ := ih (k + 1) (Y.1, (updR Y.2 8 (upd (Y.2 8) k 0))) (by omega) (by omega)
      refine ⟨Y', i1, (Ag8.up Y _).tr i2, fun t ht => (i3 t ht).trans ?_⟩
      show (if k + 1 ≤ t then 0 else upd (Y.2 8) k 0 t) = _
      by_cases c2 : t = k
      · rw [c2, if_neg (by omega), if_pos (Nat.le_refl _), pk_us]
      · rw [pk_un c2]
        by_cases c3 : k ≤ t
        · rw [if_pos (by omega), if_pos c3]
        · rw [if_neg (by omega), if_neg c3]
theorem l52_L (x2 s : Int32) (κ : Int32 → Int32 → MSt → Int32 × MSt) (x1 : Int32) : ∀ (n k : Nat) (Y : MSt), k ≤ 12 → 13 ≤ n + k → ∃ Y', sX6_listen_L52 x2 κ n x1 s (nI k) Y = κ x1 (x2 + 1) Y' ∧ Ag8 Y Y' ∧ ∀ t, t < 12 → Y'.2 8 t = if k ≤ t then Y.2 8 t + bI (bt s t) else Y.2 8 t := by
  intro n
  induction n with
  | zero => intro k Y h1 h2; omega
  | succ n ih =>
    intro k Y h1 h2
    rw [sX6_listen_L52_s]
    by_cases c1 : 12 ≤ nI k
    · rw [if_pos c1]
      have : ¬ k < 12 := fun q => nI_ge (b := 12) q (by decide) c1
      exact ⟨Y, rfl, ⟨rfl, fun _ _ => rfl⟩, fun t ht => by rw [if_neg (by omega)]⟩
    · rw [if_neg c1, nI_1, nI_clamp (by omega)]
      have hlt : k < 12 := up_lt (x := nI k) (b := 12) rfl rfl (by omega) c1
      rw [bit1 s (by omega)]
      obtain ⟨Y', i1, i2, i3⟩ := ih (k + 1) (Y.1, (updR Y.2 8 (upd (Y.2 8) k ((Y.2 8) k + bI (bt s k))))) (by omega) (by omega)
      refine ⟨Y', i1, (Ag8.up Y _).tr i2, fun t ht => (i3 t ht).trans ?_⟩
      show (if k + 1 ≤ t then upd (Y.2 8) k _ t + bI (bt s t) else upd (Y.2 8) k _ t) = _
      by_cases c2 : t = k
      · rw [c2, if_neg (by omega), if_pos (Nat.le_refl _), pk_us]
      · rw [pk_un c2]
        by_cases c3 : k ≤ t
        · rw [if_pos (by omega), if_pos c3]
        · rw [if_neg (by omega), if_neg c3]
theorem l25_L (Z : SSt) (B : Lb T p w c b h) (C : Lc T p w c b h N) (R : Lr T p w c b h (M.2 0)) (hz : Sn Z M) : ∀ (n k : Nat) (Y : MSt), k ≤ 128 → 129 ≤ n + k → Ag8 M Y → (∀ t, t < 12 → Y.2 8 t = nI (pc (fun j => sX6_isHeard M (nI j) && bt (sX0_shareByTable N (nI j)) t) k)) →
    ∃ Y', Ag8 M Y' ∧ (∀ t, t < 12 → Y'.2 8 t = nI (pc (fun j => sX6_isHeard M (nI j) && bt (sX0_shareByTable N (nI j)) t) 128)) ∧ sX6_listen_L25 n (nI (pc (fun j => sX6_isHeard M (nI j)) k)) (nI k) Y = sX6_listen_L102 (nI (pc (fun j => sX6_isHeard M (nI j)) 128)) Y' 13 (-9) (nI (pc (fun j => sX6_isHeard M (nI j)) 128)) ((Y'.2 0) 0 - 1) := by
  intro n
  induction n with
  | zero => intro k Y h1 h2; omega
  | succ n ih =>
    intro k Y h1 h2 a e8
    rw [sX6_listen_L25_s]
    by_cases c1 : 128 ≤ nI k
    · rw [if_pos c1]
      have : ¬ k < 128 := fun q => nI_ge (b := 128) q (by decide) c1
      have hk : k = 128 := by omega
      subst hk
      exact ⟨Y, a, e8, rfl⟩
    · rw [if_neg c1, ag_heard a B C R hz, nI_1]
      have hlt : k < 128 := up_lt (x := nI k) (b := 128) rfl rfl (by omega) c1
      by_cases q : sX6_isHeard M (nI k) = true
      · rw [if_pos q, ag_share a B C R]
        obtain ⟨Y', i1, i2, i3⟩ := l52_L (nI k) (sX6_shareBy M (nI k)) (sX6_listen_L25 n) (nI (pc (fun j => sX6_isHeard M (nI j)) k + 1)) 13 0 Y (by omega) (by omega)
        obtain ⟨Y'', j1, j2, j3⟩ := ih (k + 1) Y' (by omega) (by omega) (a.tr i2) (fun t ht => by
          rw [i3 t ht, if_pos (Nat.zero_le _), e8 t ht, nI_bI, pc, q, Bool.true_and, shareBy_eq B C R])
        refine ⟨Y'', j1, j2, ?_⟩
        rw [← j3, nI_1] at *
        have e9 : pc (fun j => sX6_isHeard M (nI j)) (k + 1) = pc (fun j => sX6_isHeard M (nI j)) k + 1 := by rw [pc, if_pos q]
        rw [e9]
        exact i1
      · rw [if_neg q]
        obtain ⟨Y'', j1, j2, j3⟩ := ih (k + 1) Y (by omega) (by omega) a (fun t ht => by
          rw [e8 t ht, pc, Bool.eq_false_iff.mpr q, Bool.false_and, if_neg (by decide)]; rfl)
        refine ⟨Y'', j1, j2, ?_⟩
        rw [← j3]
        have e9 : pc (fun j => sX6_isHeard M (nI j)) (k + 1) = pc (fun j => sX6_isHeard M (nI j)) k := by rw [pc, if_neg q]; rfl
        rw [e9, nI_1]
end
