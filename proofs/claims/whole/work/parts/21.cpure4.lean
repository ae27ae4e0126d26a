/-! rows of letters: the first place from a on at which P does not hold, n at most -/
def run (P : Nat → Bool) (n : Nat) : Nat → Nat → Nat
  | 0, a => a
  | f + 1, a => if a < n ∧ P a = true then run P n f (a + 1) else a
def rn (P : Nat → Bool) (n a : Nat) : Nat := run P n (n - a) a
theorem rn_go {P : Nat → Bool} {n a : Nat} (h : a < n) (hp : P a = true) : rn P n a = rn P n (a + 1) := by
  unfold rn
  obtain ⟨f, hf⟩ : ∃ f, n - a = f + 1 := ⟨n - a - 1, by omega⟩
  have h2 : n - (a + 1) = f := by omega
  rw [hf, h2, run, if_pos ⟨h, hp⟩]
theorem rn_st {P : Nat → Bool} {n a : Nat} (h : ¬ (a < n ∧ P a = true)) : rn P n a = a := by
  unfold rn
  cases n - a with
  | zero => rfl
  | succ f => rw [run, if_neg h]
theorem rn_in {P : Nat → Bool} {n : Nat} : ∀ (d a : Nat), n - a = d → a ≤ n → a ≤ rn P n a ∧ rn P n a ≤ n := by
  intro d
  induction d with
  | zero => intro a hd ha; rw [rn_st (by omega)]; omega
  | succ d ih =>
    intro a hd ha
    by_cases q : a < n ∧ P a = true
    · rw [rn_go q.1 q.2]
      have := ih (a + 1) (by omega) (by omega)
      omega
    · rw [rn_st q]; omega
theorem rn_ge {P : Nat → Bool} {n a : Nat} (ha : a ≤ n) : a ≤ rn P n a := (rn_in _ a rfl ha).1
theorem rn_le {P : Nat → Bool} {n a : Nat} (ha : a ≤ n) : rn P n a ≤ n := (rn_in _ a rfl ha).2
theorem rn_end {P : Nat → Bool} {n : Nat} : ∀ (d a : Nat), n - a = d → a ≤ n → ¬ (rn P n a < n ∧ P (rn P n a) = true) := by
  intro d
  induction d with
  | zero => intro a hd ha; rw [rn_st (by omega)]; omega
  | succ d ih =>
    intro a hd ha
    by_cases q : a < n ∧ P a = true
    · rw [rn_go q.1 q.2]
      exact ih (a + 1) (by omega) (by omega)
    · rw [rn_st q]; exact q
theorem rn_all {P : Nat → Bool} {n : Nat} : ∀ (d a : Nat), n - a = d → a ≤ n → ∀ j, a ≤ j → j < rn P n a → P j = true := by
  intro d
  induction d with
  | zero => intro a hd ha j h1 h2; rw [rn_st (by omega)] at h2; omega
  | succ d ih =>
    intro a hd ha j h1 h2
    by_cases q : a < n ∧ P a = true
    · rw [rn_go q.1 q.2] at h2
      rcases Nat.eq_or_lt_of_le h1 with e | e
      · rw [← e]; exact q.2
      · exact ih (a + 1) (by omega) (by omega) j e h2
    · rw [rn_st q] at h2; omega
/-- the kind of a letter, as the class tells it -/
def kd (x : Int32) : Int32 :=
  if x = (-9) then (0 : Int32)
  else if x < 97 then (if x < 48 then (if x = 59 then (3 : Int32) else if x = 32 then (4 : Int32) else (5 : Int32))
    else if 57 < x then (if x = 59 then (3 : Int32) else if x = 32 then (4 : Int32) else (5 : Int32))
    else (2 : Int32))
  else if 122 < x then (if x < 48 then (if x = 59 then (3 : Int32) else if x = 32 then (4 : Int32) else (5 : Int32))
    else if 57 < x then (if x = 59 then (3 : Int32) else if x = 32 then (4 : Int32) else (5 : Int32))
    else (2 : Int32))
  else (1 : Int32)
theorem letterAt_in {S : LSt} {n j : Nat} (l : S.1 0 = nI n) (hn : n ≤ 120) (h : j < n) : sX4_letterAt S (nI j) = S.2 j := by
  unfold sX4_letterAt
  rw [if_neg (nI_pos (by omega)), l, if_neg (nI_ge h (by omega)), nI_clamp (by omega)]
theorem letterAt_out {S : LSt} {n j : Nat} (l : S.1 0 = nI n) (h : n ≤ j) (hj : j < 2 ^ 31) : sX4_letterAt S (nI j) = -9 := by
  unfold sX4_letterAt
  rw [if_neg (nI_pos hj), l, if_pos (nI_le h hj)]
theorem kindAt_eq (S : LSt) (p : Int32) : sX4_kindAt S p = kd (sX4_letterAt S p) := rfl
theorem kd_none : kd (-9) = 0 := by decide
/-- the token behind place a: where it begins, its kind, where it ends -/
def tkS (t : Nat → Int32) (n a : Nat) : Nat := rn (fun j => decide (kd (t j) = 4)) n a
def tkK (t : Nat → Int32) (n s : Nat) : Int32 := if s < n then kd (t s) else 0
def tkE (t : Nat → Int32) (n s : Nat) : Nat := if tkK t n s = 0 then s else if tkK t n s = 1 ∨ tkK t n s = 2 then rn (fun j => decide (kd (t j) = tkK t n s)) n (s + 1) else s + 1
theorem kindAt_tk {S : LSt} {n j : Nat} (l : S.1 0 = nI n) (hn : n ≤ 120) (hj : j < 2 ^ 31) : sX4_kindAt S (nI j) = tkK S.2 n j := by
  rw [kindAt_eq]
  unfold tkK
  rcases Nat.lt_or_ge j n with q | q
  · rw [letterAt_in l hn q, if_pos q]
  · rw [letterAt_out l q hj, if_neg (by omega)]; rfl
/-- of a state behind nextToken: all but kind, start, end is as it was -/
def tkR (S R : LSt) : Prop := R.1 0 = S.1 0 ∧ R.1 1 = S.1 1 ∧ R.1 2 = S.1 2 ∧ R.2 = S.2
theorem nt102 (n : Nat) (hn : n ≤ 120) : ∀ (f : Nat) (b : Bool) (Y : LSt) (k : Nat), Y.1 0 = nI n → Y.1 5 = nI k → k ≤ n → 120 + 1 ≤ f + k →
    (sX4_nextToken_L102 f b Y).1 5 = nI (if b = true then rn (fun j => decide (kd (Y.2 j) = Y.1 3)) n k else k) ∧ (sX4_nextToken_L102 f b Y).1 3 = Y.1 3 ∧ (sX4_nextToken_L102 f b Y).1 4 = Y.1 4 ∧ tkR Y (sX4_nextToken_L102 f b Y) := by
  intro f
  induction f with
  | zero => intro b Y k _ _ h1 h2; omega
  | succ f ih =>
    intro b Y k l e hk hf
    rw [sX4_nextToken_L102_s]
    cases b with
    | false => rw [if_neg (by decide), if_neg (by decide)]; exact ⟨e, rfl, rfl, rfl, rfl, rfl, rfl⟩
    | true =>
      rw [if_pos rfl, if_pos rfl]
      by_cases q : Y.1 0 ≤ Y.1 5
      · rw [if_pos q]
        have hge : ¬ (k < n ∧ decide (kd (Y.2 k) = Y.1 3) = true) := by
          intro z
          rw [l, e] at q
          exact nI_ge z.1 (by omega) q
        rw [rn_st hge]
        exact ⟨e, rfl, rfl, rfl, rfl, rfl, rfl⟩
      · rw [if_neg q]
        have hlt := up_lt e l (by omega) q
        have hkd : sX4_kindAt Y (Y.1 5) = kd (Y.2 k) := by
          rw [e, kindAt_tk l hn (by omega)]; unfold tkK; rw [if_pos hlt]
        by_cases q2 : sX4_kindAt Y (Y.1 5) = Y.1 3
        · rw [if_pos q2]
          have h3 := ih true ((upd Y.1 5 ((Y.1 5) + 1)), Y.2) (k + 1) l (up_s e) (by omega) (by omega)
          rw [if_pos rfl] at h3
          rw [rn_go hlt (by rw [hkd] at q2; exact decide_eq_true q2)]
          exact h3
        · rw [if_neg q2]
          rw [rn_st (by rw [hkd] at q2; intro z; exact q2 (of_decide_eq_true z.2))]
          exact ⟨e, rfl, rfl, rfl, rfl, rfl, rfl⟩
/-- what nextToken does once its start is found -/
def ntF (Y : LSt) : LSt :=
  if (sX4_kindAt Y (Y.1 4)) = 0 then (if (sX4_kindAt Y (Y.1 4)) = 1 then sX4_nextToken_L102  121 true ((upd (upd Y.1 3 (sX4_kindAt Y (Y.1 4))) 5 (Y.1 4)), Y.2)
        else if (sX4_kindAt Y (Y.1 4)) = 2 then sX4_nextToken_L102  121 true ((upd (upd Y.1 3 (sX4_kindAt Y (Y.1 4))) 5 (Y.1 4)), Y.2)
        else sX4_nextToken_L102  121 false ((upd (upd Y.1 3 (sX4_kindAt Y (Y.1 4))) 5 (Y.1 4)), Y.2))
      else if (sX4_kindAt Y (Y.1 4)) = 1 then sX4_nextToken_L102  121 true ((upd (upd Y.1 3 (sX4_kindAt Y (Y.1 4))) 5 ((Y.1 4) + 1)), Y.2)
      else if (sX4_kindAt Y (Y.1 4)) = 2 then sX4_nextToken_L102  121 true ((upd (upd Y.1 3 (sX4_kindAt Y (Y.1 4))) 5 ((Y.1 4) + 1)), Y.2)
      else sX4_nextToken_L102  121 false ((upd (upd Y.1 3 (sX4_kindAt Y (Y.1 4))) 5 ((Y.1 4) + 1)), Y.2)
theorem nt8_s (f : Nat) (Y : LSt) : sX4_nextToken_L8 (f + 1) Y = if (Y.1 0) ≤ (Y.1 4) then ntF Y else if (sX4_kindAt Y (Y.1 4)) = 4 then sX4_nextToken_L8 f ((upd Y.1 4 ((Y.1 4) + 1)), Y.2) else ntF Y := rfl
/-- what is known of a state behind nextToken -/
def tkOK (S R : LSt) (n s : Nat) : Prop := R.1 4 = nI s ∧ R.1 3 = tkK S.2 n s ∧ R.1 5 = nI (tkE S.2 n s) ∧ tkR S R
theorem tkE_in {t : Nat → Int32} {n s : Nat} (h : s ≤ n) : s ≤ tkE t n s ∧ tkE t n s ≤ n := by
  unfold tkE
  by_cases q : tkK t n s = 0
  · rw [if_pos q]; omega
  · rw [if_neg q]
    have hlt : s < n := by
      rcases Nat.lt_or_ge s n with z | z
      · exact z
      · exact absurd (by unfold tkK; rw [if_neg (by omega)]) q
    by_cases q2 : tkK t n s = 1 ∨ tkK t n s = 2
    · rw [if_pos q2]
      have h1 := rn_ge (P := fun j => decide (kd (t j) = tkK t n s)) (n := n) (a := s + 1) (by omega)
      have h2 := rn_le (P := fun j => decide (kd (t j) = tkK t n s)) (n := n) (a := s + 1) (by omega)
      omega
    · rw [if_neg q2]; omega
theorem ntF_ok (n : Nat) (hn : n ≤ 120) (Y : LSt) (s : Nat) (l : Y.1 0 = nI n) (e : Y.1 4 = nI s) (hs : s ≤ n) : tkOK Y (ntF Y) n s := by
  have hK : sX4_kindAt Y (Y.1 4) = tkK Y.2 n s := by rw [e, kindAt_tk l hn (by omega)]
  have hlt : ¬ tkK Y.2 n s = 0 → s < n := fun q => by
    rcases Nat.lt_or_ge s n with z | z
    · exact z
    · exact absurd (by unfold tkK; rw [if_neg (by omega)]) q
  unfold ntF tkOK
  rw [hK]
  unfold tkE
  by_cases q0 : tkK Y.2 n s = 0
  · rw [if_pos q0, if_pos q0, q0, if_neg (by decide), if_neg (by decide)]
    have h := nt102 n hn 121 false ((upd (upd Y.1 3 0) 5 (Y.1 4)), Y.2) s l e hs (by omega)
    rw [if_neg (by decide)] at h
    exact ⟨h.2.2.1.trans e, h.2.1, h.1, h.2.2.2⟩
  · rw [if_neg q0, if_neg q0]
    have hs1 := hlt q0
    by_cases q1 : tkK Y.2 n s = 1
    · rw [if_pos q1, if_pos (Or.inl q1)]
      have h := nt102 n hn 121 true ((upd (upd Y.1 3 (tkK Y.2 n s)) 5 ((Y.1 4) + 1)), Y.2) (s + 1) l (up_s e) (by omega) (by omega)
      rw [if_pos rfl] at h
      exact ⟨h.2.2.1.trans e, h.2.1, h.1, h.2.2.2⟩
    · rw [if_neg q1]
      by_cases q2 : tkK Y.2 n s = 2
      · rw [if_pos q2, if_pos (Or.inr q2)]
        have h := nt102 n hn 121 true ((upd (upd Y.1 3 (tkK Y.2 n s)) 5 ((Y.1 4) + 1)), Y.2) (s + 1) l (up_s e) (by omega) (by omega)
        rw [if_pos rfl] at h
        exact ⟨h.2.2.1.trans e, h.2.1, h.1, h.2.2.2⟩
      · rw [if_neg q2, if_neg (by rintro (z | z) <;> contradiction)]
        have h := nt102 n hn 121 false ((upd (upd Y.1 3 (tkK Y.2 n s)) 5 ((Y.1 4) + 1)), Y.2) (s + 1) l (up_s e) (by omega) (by omega)
        rw [if_neg (by decide)] at h
        exact ⟨h.2.2.1.trans e, h.2.1, h.1, h.2.2.2⟩
theorem nt8 (n : Nat) (hn : n ≤ 120) : ∀ (f : Nat) (Y : LSt) (k : Nat), Y.1 0 = nI n → Y.1 4 = nI k → k ≤ n → 120 + 1 ≤ f + k → tkOK Y (sX4_nextToken_L8 f Y) n (tkS Y.2 n k) := by
  intro f
  induction f with
  | zero => intro Y k _ _ h1 h2; omega
  | succ f ih =>
    intro Y k l e hk hf
    rw [nt8_s]
    by_cases q : Y.1 0 ≤ Y.1 4
    · rw [if_pos q]
      have hge : n ≤ k := by
        rcases Nat.lt_or_ge k n with z | z
        · rw [l, e] at q; exact absurd q (nI_ge z (by omega))
        · exact z
      have hs : tkS Y.2 n k = k := rn_st (by omega)
      rw [hs]
      exact ntF_ok n hn Y k l e hk
    · rw [if_neg q]
      have hlt := up_lt e l (by omega) q
      have hkd : sX4_kindAt Y (Y.1 4) = kd (Y.2 k) := by
        rw [e, kindAt_tk l hn (by omega)]; unfold tkK; rw [if_pos hlt]
      by_cases q2 : sX4_kindAt Y (Y.1 4) = 4
      · rw [if_pos q2]
        have hs : tkS Y.2 n k = tkS Y.2 n (k + 1) := rn_go hlt (by rw [hkd] at q2; exact decide_eq_true q2)
        rw [hs]
        exact ih ((upd Y.1 4 ((Y.1 4) + 1)), Y.2) (k + 1) l (up_s e) (by omega) (by omega)
      · rw [if_neg q2]
        have hs : tkS Y.2 n k = k := rn_st (by rw [hkd] at q2; intro z; exact q2 (of_decide_eq_true z.2))
        rw [hs]
        exact ntF_ok n hn Y k l e hk
theorem nt_ok {S : LSt} {n a : Nat} (l : S.1 0 = nI n) (hn : n ≤ 120) (e : S.1 5 = nI a) (ha : a ≤ n) : tkOK S (sX4_nextToken S) n (tkS S.2 n a) := nt8 n hn 121 ((upd S.1 4 (S.1 5)), S.2) a l e ha (by omega)
theorem tkS_in {t : Nat → Int32} {n a : Nat} (h : a ≤ n) : a ≤ tkS t n a ∧ tkS t n a ≤ n := ⟨rn_ge h, rn_le h⟩
