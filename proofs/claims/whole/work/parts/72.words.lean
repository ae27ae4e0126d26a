/-! the text's letters as numbers: tokens and words, as both tell them -/
def Lt (n : Nat) (u : Nat → Nat) (t : Nat → Int32) : Prop := ∀ j, j < n → t j = nI (u j) ∧ u j ≤ 255
def uB (u : Nat → Nat) : Nat → Bool := fun j => decide (u j = 32)
def uW (u : Nat → Nat) : Nat → Bool := fun j => decide (97 ≤ u j ∧ u j ≤ 122)
def uF (u : Nat → Nat) : Nat → Bool := fun j => decide (48 ≤ u j ∧ u j ≤ 57)
theorem run_cong {P Q : Nat → Bool} {n : Nat} (q : ∀ j, j < n → P j = Q j) : ∀ f a, run P n f a = run Q n f a := by
  intro f
  induction f with
  | zero => intro a; rfl
  | succ f ih =>
    intro a
    rw [run, run]
    by_cases c : a < n
    · rw [q a c, ih]
    · rw [if_neg (show ¬ (a < n ∧ P a = true) from fun z => c z.1), if_neg (show ¬ (a < n ∧ Q a = true) from fun z => c z.1)]
theorem rn_cong {P Q : Nat → Bool} {n : Nat} (q : ∀ j, j < n → P j = Q j) (a : Nat) : rn P n a = rn Q n a := run_cong q _ a
theorem ku : ∀ q, q < 256 → (kd (nI q) = 4 ↔ q = 32) ∧ (kd (nI q) = 1 ↔ 97 ≤ q ∧ q ≤ 122) ∧ (kd (nI q) = 2 ↔ 48 ≤ q ∧ q ≤ 57) ∧ (kd (nI q) = 3 ↔ q = 59) ∧ ¬ kd (nI q) = 0 := by decide +kernel
theorem wu : ∀ q, q < 256 → (nI q = 32 ↔ q = 32) ∧ sX6_within (nI q) 97 122 = decide (97 ≤ q ∧ q ≤ 122) ∧ sX6_within (nI q) 48 57 = decide (48 ≤ q ∧ q ≤ 57) ∧ sX6_within (nI q) 59 59 = decide (q = 59) := by decide +kernel
section
variable {n : Nat} {u : Nat → Nat} {t : Nat → Int32}
theorem tkS_u (h : Lt n u t) (a : Nat) : tkS t n a = rn (uB u) n a := rn_cong (fun j hj => by
  have := h j hj
  rw [this.1]
  exact decide_eq_decide.mpr (ku _ (by omega)).1) a
theorem bl_u (h : Lt n u t) (a : Nat) : rn (bl t) n a = rn (uB u) n a := rn_cong (fun j hj => by
  have := h j hj
  unfold bl
  rw [this.1]
  exact decide_eq_decide.mpr (wu _ (by omega)).1) a
theorem low_u (h : Lt n u t) (a : Nat) : rn (low t) n a = rn (uW u) n a := rn_cong (fun j hj => by
  have := h j hj
  unfold low
  rw [this.1]
  exact (wu _ (by omega)).2.1) a
theorem dgt_u (h : Lt n u t) (a : Nat) : rn (dgt t) n a = rn (uF u) n a := rn_cong (fun j hj => by
  have := h j hj
  unfold dgt
  rw [this.1]
  exact (wu _ (by omega)).2.2.1) a
theorem tkK_n (s : Nat) (hs : n ≤ s) : tkK t n s = 0 := by unfold tkK; rw [if_neg (by omega)]
theorem tkK_0 (h : Lt n u t) {s : Nat} (hs : s < n) : ¬ tkK t n s = 0 := by
  have := h s hs
  unfold tkK; rw [if_pos hs, this.1]; exact (ku _ (by omega)).2.2.2.2
theorem tkK_1 (h : Lt n u t) {s : Nat} (hs : s < n) : tkK t n s = 1 ↔ uW u s = true := by
  have := h s hs
  unfold tkK uW; rw [if_pos hs, this.1, decide_eq_true_iff]; exact (ku _ (by omega)).2.1
theorem tkK_2 (h : Lt n u t) {s : Nat} (hs : s < n) : tkK t n s = 2 ↔ uF u s = true := by
  have := h s hs
  unfold tkK uF; rw [if_pos hs, this.1, decide_eq_true_iff]; exact (ku _ (by omega)).2.2.1
theorem tkK_3 (h : Lt n u t) {s : Nat} (hs : s < n) : tkK t n s = 3 ↔ u s = 59 := by
  have := h s hs
  unfold tkK; rw [if_pos hs, this.1]; exact (ku _ (by omega)).2.2.2.1
theorem tkE_W (h : Lt n u t) {s : Nat} (hs : s < n) (q : uW u s = true) : tkE t n s = rn (uW u) n s := by
  have k := (tkK_1 h hs).mpr q
  unfold tkE
  rw [k, if_neg (by decide), if_pos (Or.inl rfl), rn_go hs q]
  exact rn_cong (fun j hj => by
    have := h j hj
    rw [this.1]
    exact decide_eq_decide.mpr (ku _ (by omega)).2.1) _
theorem tkE_F (h : Lt n u t) {s : Nat} (hs : s < n) (q : uF u s = true) : tkE t n s = rn (uF u) n s := by
  have k := (tkK_2 h hs).mpr q
  unfold tkE
  rw [k, if_neg (by decide), if_pos (Or.inr rfl), rn_go hs q]
  exact rn_cong (fun j hj => by
    have := h j hj
    rw [this.1]
    exact decide_eq_decide.mpr (ku _ (by omega)).2.2.1) _
theorem tkE_S (h : Lt n u t) {s : Nat} (hs : s < n) (q : u s = 59) : tkE t n s = s + 1 := by
  have k := (tkK_3 h hs).mpr q
  unfold tkE
  rw [k, if_neg (by decide), if_neg (by rintro (z | z) <;> exact absurd z (by decide))]
end
/-! words -/
def wN (i j : Nat) : Nat := ([[108, 105, 110, 101], [104, 97, 110, 100, 115], [119, 97, 105, 116], [114, 101, 97, 99, 104], [98, 97, 114]].getD i []).getD j 0
theorem wN_eq : ∀ i, i < 5 → ∀ j, j < 6 → (txByt.getD i []).getD j 0 &&& 255 = nI (wN i j) ∧ wN i j < 256 := by decide +kernel
theorem iw_L {S : LSt} {n s : Nat} (l : S.1 0 = nI n) (hn : n ≤ 120) (es : S.1 4 = nI s) {i : Nat} (hi : i < 5) (hs : s + txLen.getD i 0 ≤ n) : ∀ (f k : Nat), k ≤ txLen.getD i 0 → txLen.getD i 0 + 1 ≤ f + k → (sX4_isWord_L20 S i f (nI k) = true ↔ ∀ j, k ≤ j → j < txLen.getD i 0 → S.2 (s + j) = nI (wN i j)) := by
  have hL := tx_le i hi
  intro f
  induction f with
  | zero => intro k h1 h2; omega
  | succ f ih =>
    intro k h1 h2
    rw [sX4_isWord_L20_s]
    by_cases c1 : nI (txLen.getD i 0) ≤ nI k
    · rw [if_pos c1]
      have : ¬ k < txLen.getD i 0 := fun z => nI_ge z (by omega) c1
      exact ⟨fun _ j z1 z2 => by omega, fun _ => rfl⟩
    · have hlt : k < txLen.getD i 0 := up_lt (x := nI k) rfl rfl (by omega) c1
      rw [if_neg c1, es, nI_add, letterAt_in l hn (by omega), nI_clamp (by omega), (wN_eq i hi k (by omega)).1, nI_1]
      by_cases c2 : S.2 (s + k) = nI (wN i k)
      · rw [if_pos c2, ih (k + 1) (by omega) (by omega)]
        refine ⟨fun q j z1 z2 => ?_, fun q j z1 z2 => q j (by omega) z2⟩
        rcases Nat.eq_or_lt_of_le z1 with y | y
        · rw [← y]; exact c2
        · exact q j y z2
      · rw [if_neg c2]
        exact ⟨(fun z => by cases z), fun q => absurd (q k (Nat.le_refl _) hlt) c2⟩
theorem iw_iff {S : LSt} {n s e : Nat} {u : Nat → Nat} (l : S.1 0 = nI n) (hn : n ≤ 120) (es : S.1 4 = nI s) (ee : S.1 5 = nI e) (hse : s ≤ e) (hen : e ≤ n) (h : Lt n u S.2) {i : Nat} (hi : i < 5) : sX4_isWord S i = true ↔ (e = s + txLen.getD i 0 ∧ ∀ j, j < txLen.getD i 0 → u (s + j) = wN i j) := by
  have hL := tx_le i hi
  unfold sX4_isWord
  rw [es, ee, pk_sub hse]
  by_cases c1 : nI (e - s) = nI (txLen.getD i 0)
  · rw [if_pos c1]
    have c2 := (nI_eq (by omega) (by omega)).mp c1
    have := iw_L l hn es hi (by omega) 6 0 (Nat.zero_le _) (by omega)
    refine this.trans ⟨fun q => ⟨by omega, fun j hj => ?_⟩, fun q j _ hj => ?_⟩
    · have z := q j (Nat.zero_le _) hj
      obtain ⟨y1, y2⟩ := h (s + j) (by omega)
      rw [y1] at z
      have := (wN_eq i hi j (by omega)).2
      exact (nI_eq (by omega) (by omega)).mp z
    · rw [(h (s + j) (by omega)).1, q.2 j hj]
  · rw [if_neg c1]
    exact ⟨(fun z => by cases z), fun q => absurd (by rw [show e - s = txLen.getD i 0 by omega]) c1⟩
def cod (u : Nat → Nat) (s : Nat) : Nat → Nat
  | 0 => 0
  | m + 1 => 27 * cod u s m + (u (s + m) - 96)
theorem wc_cod {u : Nat → Nat} {t : Nat → Int32} {s : Nat} : ∀ (m : Nat), m ≤ 5 → (∀ j, j < m → t (s + j) = nI (u (s + j)) ∧ 97 ≤ u (s + j) ∧ u (s + j) ≤ 122) → wc t s m = nI (cod u s m) ∧ cod u s m < 27 ^ m := by
  intro m
  induction m with
  | zero => intro _ _; exact ⟨rfl, Nat.zero_lt_one⟩
  | succ m ih =>
    intro hm q
    obtain ⟨i1, i2⟩ := ih (by omega) (fun j hj => q j (by omega))
    obtain ⟨q1, q2, q3⟩ := q m (by omega)
    have hp : 27 ^ (m + 1) = 27 * 27 ^ m := by rw [Nat.pow_succ, Nat.mul_comm]
    rw [wc, if_pos (by omega), i1, q1, cod, show (27 : Int32) * nI (cod u s m) = nI (27 * cod u s m) from pk_mul 27 _, nI_add, show nI (27 * cod u s m + u (s + m)) - 97 = nI (27 * cod u s m + u (s + m) - 97) from pk_sub (b := 97) (by omega), nI_1]
    exact ⟨congrArg nI (by omega), by omega⟩
theorem w_0 {u : Nat → Nat} {s : Nat} : (∀ j, j < 4 → u (s + j) = wN 0 j) ↔ (u (s + 0) = 108 ∧ u (s + 1) = 105 ∧ u (s + 2) = 110 ∧ u (s + 3) = 101) :=
  ⟨fun q => ⟨q 0 (by decide), q 1 (by decide), q 2 (by decide), q 3 (by decide)⟩, fun ⟨a, b, c, d⟩ j hj => by rcases (show j = 0 ∨ j = 1 ∨ j = 2 ∨ j = 3 by omega) with rfl | rfl | rfl | rfl <;> assumption⟩
theorem w_1 {u : Nat → Nat} {s : Nat} : (∀ j, j < 5 → u (s + j) = wN 1 j) ↔ (u (s + 0) = 104 ∧ u (s + 1) = 97 ∧ u (s + 2) = 110 ∧ u (s + 3) = 100 ∧ u (s + 4) = 115) :=
  ⟨fun q => ⟨q 0 (by decide), q 1 (by decide), q 2 (by decide), q 3 (by decide), q 4 (by decide)⟩, fun ⟨a, b, c, d, e⟩ j hj => by rcases (show j = 0 ∨ j = 1 ∨ j = 2 ∨ j = 3 ∨ j = 4 by omega) with rfl | rfl | rfl | rfl | rfl <;> assumption⟩
theorem w_2 {u : Nat → Nat} {s : Nat} : (∀ j, j < 4 → u (s + j) = wN 2 j) ↔ (u (s + 0) = 119 ∧ u (s + 1) = 97 ∧ u (s + 2) = 105 ∧ u (s + 3) = 116) :=
  ⟨fun q => ⟨q 0 (by decide), q 1 (by decide), q 2 (by decide), q 3 (by decide)⟩, fun ⟨a, b, c, d⟩ j hj => by rcases (show j = 0 ∨ j = 1 ∨ j = 2 ∨ j = 3 by omega) with rfl | rfl | rfl | rfl <;> assumption⟩
theorem w_3 {u : Nat → Nat} {s : Nat} : (∀ j, j < 5 → u (s + j) = wN 3 j) ↔ (u (s + 0) = 114 ∧ u (s + 1) = 101 ∧ u (s + 2) = 97 ∧ u (s + 3) = 99 ∧ u (s + 4) = 104) :=
  ⟨fun q => ⟨q 0 (by decide), q 1 (by decide), q 2 (by decide), q 3 (by decide), q 4 (by decide)⟩, fun ⟨a, b, c, d, e⟩ j hj => by rcases (show j = 0 ∨ j = 1 ∨ j = 2 ∨ j = 3 ∨ j = 4 by omega) with rfl | rfl | rfl | rfl | rfl <;> assumption⟩
theorem w_4 {u : Nat → Nat} {s : Nat} : (∀ j, j < 3 → u (s + j) = wN 4 j) ↔ (u (s + 0) = 98 ∧ u (s + 1) = 97 ∧ u (s + 2) = 114) :=
  ⟨fun q => ⟨q 0 (by decide), q 1 (by decide), q 2 (by decide)⟩, fun ⟨a, b, c⟩ j hj => by rcases (show j = 0 ∨ j = 1 ∨ j = 2 by omega) with rfl | rfl | rfl <;> assumption⟩
/-- which item a word begins: the class's number, the reference's -/
def It (a r : Int32) : Prop := (a = 3 ∧ r = 0) ∨ (a = 4 ∧ r = 1) ∨ (a = 0 ∧ r = 2) ∨ (a = 1 ∧ r = 3) ∨ (a = 2 ∧ r = 4) ∨ (a = -9 ∧ r = -9)
theorem cod_eq {u : Nat → Nat} {s m : Nat} (hm : m ≤ 5) (hw : ∀ j, j < m → 97 ≤ u (s + j) ∧ u (s + j) ≤ 122) :
    (cod u s m = 1503 ↔ (m = 3 ∧ u (s + 0) = 98 ∧ u (s + 1) = 97 ∧ u (s + 2) = 114)) ∧ (cod u s m = 243140 ↔ (m = 4 ∧ u (s + 0) = 108 ∧ u (s + 1) = 105 ∧ u (s + 2) = 110 ∧ u (s + 3) = 101)) ∧ (cod u s m = 453701 ↔ (m = 4 ∧ u (s + 0) = 119 ∧ u (s + 1) = 97 ∧ u (s + 2) = 105 ∧ u (s + 3) = 116)) ∧ (cod u s m = 4281544 ↔ (m = 5 ∧ u (s + 0) = 104 ∧ u (s + 1) = 97 ∧ u (s + 2) = 110 ∧ u (s + 3) = 100 ∧ u (s + 4) = 115)) ∧ (cod u s m = 9665171 ↔ (m = 5 ∧ u (s + 0) = 114 ∧ u (s + 1) = 101 ∧ u (s + 2) = 97 ∧ u (s + 3) = 99 ∧ u (s + 4) = 104)) := by
  rcases (show m = 0 ∨ m = 1 ∨ m = 2 ∨ m = 3 ∨ m = 4 ∨ m = 5 by omega) with rfl | rfl | rfl | rfl | rfl | rfl
  · simp only [cod]
    refine ⟨⟨fun q => ?_, fun q => ?_⟩, ⟨fun q => ?_, fun q => ?_⟩, ⟨fun q => ?_, fun q => ?_⟩, ⟨fun q => ?_, fun q => ?_⟩, ⟨fun q => ?_, fun q => ?_⟩⟩ <;> first | (exfalso; omega) | omega | exact ⟨by trivial, by omega, by omega, by omega⟩ | exact ⟨by trivial, by omega, by omega, by omega, by omega⟩ | exact ⟨by trivial, by omega, by omega, by omega, by omega, by omega⟩
  · have h0 := hw 0 (by decide)
    simp only [cod]
    generalize u (s + 0) = a0 at *
    generalize u (s + 1) = a1 at *
    generalize u (s + 2) = a2 at *
    generalize u (s + 3) = a3 at *
    generalize u (s + 4) = a4 at *
    refine ⟨⟨fun q => ?_, fun q => ?_⟩, ⟨fun q => ?_, fun q => ?_⟩, ⟨fun q => ?_, fun q => ?_⟩, ⟨fun q => ?_, fun q => ?_⟩, ⟨fun q => ?_, fun q => ?_⟩⟩ <;> first | (exfalso; omega) | omega | exact ⟨by trivial, by omega, by omega, by omega⟩ | exact ⟨by trivial, by omega, by omega, by omega, by omega⟩ | exact ⟨by trivial, by omega, by omega, by omega, by omega, by omega⟩
  · have h0 := hw 0 (by decide)
    have h1 := hw 1 (by decide)
    simp only [cod]
    generalize u (s + 0) = a0 at *
    generalize u (s + 1) = a1 at *
    generalize u (s + 2) = a2 at *
    generalize u (s + 3) = a3 at *
    generalize u (s + 4) = a4 at *
    refine ⟨⟨fun q => ?_, fun q => ?_⟩, ⟨fun q => ?_, fun q => ?_⟩, ⟨fun q => ?_, fun q => ?_⟩, ⟨fun q => ?_, fun q => ?_⟩, ⟨fun q => ?_, fun q => ?_⟩⟩ <;> first | (exfalso; omega) | omega | exact ⟨by trivial, by omega, by omega, by omega⟩ | exact ⟨by trivial, by omega, by omega, by omega, by omega⟩ | exact ⟨by trivial, by omega, by omega, by omega, by omega, by omega⟩
  · have h0 := hw 0 (by decide)
    have h1 := hw 1 (by decide)
    have h2 := hw 2 (by decide)
    simp only [cod]
    generalize u (s + 0) = a0 at *
    generalize u (s + 1) = a1 at *
    generalize u (s + 2) = a2 at *
    generalize u (s + 3) = a3 at *
    generalize u (s + 4) = a4 at *
    refine ⟨⟨fun q => ?_, fun q => ?_⟩, ⟨fun q => ?_, fun q => ?_⟩, ⟨fun q => ?_, fun q => ?_⟩, ⟨fun q => ?_, fun q => ?_⟩, ⟨fun q => ?_, fun q => ?_⟩⟩ <;> first | (exfalso; omega) | omega | exact ⟨by trivial, by omega, by omega, by omega⟩ | exact ⟨by trivial, by omega, by omega, by omega, by omega⟩ | exact ⟨by trivial, by omega, by omega, by omega, by omega, by omega⟩
  · have h0 := hw 0 (by decide)
    have h1 := hw 1 (by decide)
    have h2 := hw 2 (by decide)
    have h3 := hw 3 (by decide)
    simp only [cod]
    generalize u (s + 0) = a0 at *
    generalize u (s + 1) = a1 at *
    generalize u (s + 2) = a2 at *
    generalize u (s + 3) = a3 at *
    generalize u (s + 4) = a4 at *
    refine ⟨⟨fun q => ?_, fun q => ?_⟩, ⟨fun q => ?_, fun q => ?_⟩, ⟨fun q => ?_, fun q => ?_⟩, ⟨fun q => ?_, fun q => ?_⟩, ⟨fun q => ?_, fun q => ?_⟩⟩ <;> first | (exfalso; omega) | omega | exact ⟨by trivial, by omega, by omega, by omega⟩ | exact ⟨by trivial, by omega, by omega, by omega, by omega⟩ | exact ⟨by trivial, by omega, by omega, by omega, by omega, by omega⟩
  · have h0 := hw 0 (by decide)
    have h1 := hw 1 (by decide)
    have h2 := hw 2 (by decide)
    have h3 := hw 3 (by decide)
    have h4 := hw 4 (by decide)
    simp only [cod]
    generalize u (s + 0) = a0 at *
    generalize u (s + 1) = a1 at *
    generalize u (s + 2) = a2 at *
    generalize u (s + 3) = a3 at *
    generalize u (s + 4) = a4 at *
    refine ⟨⟨fun q => ?_, fun q => ?_⟩, ⟨fun q => ?_, fun q => ?_⟩, ⟨fun q => ?_, fun q => ?_⟩, ⟨fun q => ?_, fun q => ?_⟩, ⟨fun q => ?_, fun q => ?_⟩⟩ <;> first | (exfalso; omega) | omega | exact ⟨by trivial, by omega, by omega, by omega⟩ | exact ⟨by trivial, by omega, by omega, by omega, by omega⟩ | exact ⟨by trivial, by omega, by omega, by omega, by omega, by omega⟩
