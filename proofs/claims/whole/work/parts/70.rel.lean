/-! the relation that all calls keep -/
def LnR (N : LSt) (r : Nat → Int32) : Prop := ∃ (T : Nat) (p : Nat → Nat) (w c b : Nat) (h : Int32), Lb T p w c b h ∧ Lc T p w c b h N ∧ Lr T p w c b h r
def TxR (X : LSt) (M : MSt) : Prop := ∃ n : Nat, n ≤ 120 ∧ X.1 0 = nI n ∧ M.1 2 = nI n ∧ ∀ j, j < n → X.2 j = M.2 7 j ∧ ∃ q : Nat, q ≤ 255 ∧ X.2 j = nI q
def PaR (H : HSt) (M : MSt) : Prop := ∃ u : Nat, u ≤ 6 ∧ H.1 = nI u ∧ M.1 0 = nI u ∧ (∀ i, i < 6 → H.2.1 i = some (H.2.2.1 i)) ∧ ∀ i, i < u → LnR (H.2.2.2.2 i) (fun k => M.2 2 (17 * i + k))
def IR (k : Option LSt) (M : MSt) (j : Nat) : Prop := (k = none ∧ M.2 4 j = 0) ∨ (∃ K, k = some K ∧ ¬ M.2 4 j = 0 ∧ LnR K (fun q => M.2 3 (17 * j + q)))
def Rl (Z : SSt) (N X : LSt) (H : HSt) (k0 k1 : Option LSt) (M : MSt) : Prop := LnR N (M.2 0) ∧ TxR X M ∧ PaR H M ∧ IR k0 M 0 ∧ IR k1 M 1 ∧ Sn Z M
theorem Lr_cong {T : Nat} {p : Nat → Nat} {w c b : Nat} {h : Int32} {r r' : Nat → Int32} (q : ∀ k, k < 17 → r' k = r k) (R : Lr T p w c b h r) : Lr T p w c b h r' := by
  obtain ⟨r0, r1, r2, r3, r4, r5⟩ := R
  exact ⟨(q 0 (by decide)).trans r0, (q 1 (by decide)).trans r1, (q 2 (by decide)).trans r2, (q 3 (by decide)).trans r3, fun t ht => (q (4 + t) (by omega)).trans (r4 t ht), (q 16 (by decide)).trans r5⟩
theorem LnR_cong {N : LSt} {r r' : Nat → Int32} (q : ∀ k, k < 17 → r' k = r k) (R : LnR N r) : LnR N r' := by
  obtain ⟨T, p, w, c, b, h, B, C, R⟩ := R
  exact ⟨T, p, w, c, b, h, B, C, Lr_cong q R⟩
theorem LnR_copy (K : LSt) {N : LSt} {r : Nat → Int32} (R : LnR N r) : LnR (sX0_copyFrom K N) r := by
  obtain ⟨T, p, w, c, b, h, B, C, R⟩ := R
  exact ⟨T, p, w, c, b, h, B, copy_Lc K C, R⟩
theorem rl_pre : Rpre Rl := by
  intro Z N X H k0 k1 M R
  obtain ⟨⟨T, p, w, c, b, h, B, C, L⟩, ⟨n, hn, x1, x2, -⟩, ⟨u, hu, h1, h2, h3, -⟩, -, -, ⟨Q, hQ, z1, z2, -⟩⟩ := R
  exact ⟨⟨T, C.1, B.1, B.2.1⟩, ⟨n, x1, hn⟩, ⟨⟨u, h1, hu⟩, h3⟩, ⟨T, L.1, B.1, B.2.1⟩, ⟨n, x2, hn⟩, ⟨u, h2, hu⟩, ⟨Q, z2, hQ⟩, ⟨b, L.2.2.2.1, B.2.2.2.2.2.2.2.2.1⟩⟩
/-! what is asked -/
theorem rl_tick : Rtick Rl := fun Z N X H k0 k1 M ⟨⟨T, p, w, c, b, h, B, C, L⟩, _⟩ x y => tick_eq Z B C L x y
theorem rl_share : Rshare Rl := fun Z N X H k0 k1 M ⟨⟨T, p, w, c, b, h, B, C, L⟩, _⟩ x => share_eq Z B C L x
theorem rl_best : Rbest Rl := fun Z N X H k0 k1 M ⟨⟨T, p, w, c, b, h, B, C, L⟩, _⟩ S SL x => best_eq Z S SL B C L x
theorem rl_slowest : Rslowest Rl := fun Z N X H k0 k1 M ⟨⟨T, p, w, c, b, h, B, C, L⟩, _⟩ S SL => slowest_eq Z S SL B C L
theorem rl_change : Rchange Rl := fun Z N X H k0 k1 M ⟨⟨T, p, w, c, b, h, B, C, L⟩, _⟩ S SL => change_eq Z S SL B C L
theorem rl_busiest : Rbusiest Rl := fun Z N X H k0 k1 M ⟨⟨T, p, w, c, b, h, B, C, L⟩, _⟩ x y => busiest_eq Z B C L x y
theorem rl_tables : Rtables Rl := fun Z N X H k0 k1 M ⟨⟨T, p, w, c, b, h, B, C, L⟩, _⟩ Q x => tables_eq Z Q B C L x
theorem rl_which : Rwhich Rl := fun Z N X H k0 k1 M ⟨⟨T, p, w, c, b, h, B, C, L⟩, _, _, _, _, hz⟩ Q x => which_eq Z Q B C L hz x
theorem rl_listen : Rlisten Rl := by
  intro Z N X H k0 k1 M R Q
  obtain ⟨⟨T, p, w, c, b, h, B, C, L⟩, hx, hp, i0, i1, hz⟩ := R
  obtain ⟨e, a⟩ := listen_eq Z Q B C L hz
  refine ⟨e, ⟨T, p, w, c, b, h, B, C, ag_Lr a L⟩, ?_, ?_, ?_, ?_, ag_Sn a hz⟩
  · unfold TxR; rw [a.1, a.2 7 (by decide)]; exact hx
  · unfold PaR; rw [a.1, a.2 2 (by decide)]; exact hp
  · unfold IR; rw [a.2 4 (by decide), a.2 3 (by decide)]; exact i0
  · unfold IR; rw [a.2 4 (by decide), a.2 3 (by decide)]; exact i1
theorem rl_count : Rcount Rl := by
  intro Z N X H k0 k1 M R x
  obtain ⟨⟨T, p, w, c, b, h, B, C, L⟩, ⟨n, hn, x1, x2, -⟩, ⟨u, hu, h1, h2, -⟩, -, -, ⟨Q, hQ, z1, z2, -⟩⟩ := R
  unfold sX5_count sX6_count
  rw [bcN_eq B C, notes_eq B L, C.1, L.1, C.2.1, L.2.1, C.2.2.1, L.2.2.1, C.2.2.2.1, L.2.2.2.1, z1, z2, x1, x2, h1, h2]
/-! letters, what was seen -/
theorem rl_type : Rtype Rl := by
  intro Z N X H k0 k1 M R x
  obtain ⟨hL, ⟨n, hn, x1, x2, x3⟩, hp, i0, i1, hz⟩ := id R
  unfold sX5_type sX6_type sX6_within
  by_cases c1 : x < 0
  · rw [if_pos c1, if_pos c1]; exact ⟨rfl, R⟩
  · rw [if_neg c1, if_neg c1]
    by_cases c2 : 255 < x
    · rw [if_pos c2, if_neg (Int32.not_le.mpr c2)]; exact ⟨rfl, R⟩
    · rw [if_neg c2, if_pos (Int32.not_lt.mp c2), if_pos rfl]
      obtain ⟨q, hq, rfl⟩ := nI_of c1
      have hq2 : q ≤ 255 := Nat.not_lt.mp (fun z => c2 (nI_lt (a := 255) z hq))
      unfold sX4_add
      rw [x1, x2]
      by_cases c3 : nI n < 120
      · have hlt : n < 120 := (nI_ltI (b := 120) (by omega) (by decide)).mp c3
        have hne : ¬ nI n = 120 := fun z => by
          have := (nI_eq (b := 120) (by omega) (by decide)).mp z
          omega
        rw [if_pos c3, if_pos rfl, if_neg hne, nI_clamp (by omega), nI_1]
        refine ⟨rfl, hL, ⟨n + 1, by omega, rfl, rfl, fun j hj => ?_⟩, hp, i0, i1, hz⟩
        show upd X.2 n (nI q) j = upd (M.2 7) n (nI q) j ∧ ∃ q' : Nat, q' ≤ 255 ∧ upd X.2 n (nI q) j = nI q'
        by_cases c4 : j = n
        · subst c4; rw [pk_us, pk_us]; exact ⟨rfl, q, hq2, rfl⟩
        · rw [pk_un c4, pk_un c4]; exact x3 j (by omega)
      · have he : n = 120 := by
          have : ¬ n < 120 := fun z => c3 (nI_lt (b := 120) z (by decide))
          omega
        rw [if_neg c3, if_neg (show ¬ (false, X).1 = true by intro z; cases z), if_pos (show nI n = 120 by rw [he]; rfl)]
        exact ⟨rfl, R⟩
theorem rl_clear : Rclear Rl := by
  intro Z N X H k0 k1 M R
  obtain ⟨hL, ⟨n, hn, x1, x2, x3⟩, hp, i0, i1, hz⟩ := id R
  exact ⟨x1.trans x2.symm, hL, ⟨0, by omega, rfl, rfl, fun j hj => by omega⟩, hp, i0, i1, hz⟩
theorem rl_forget : Rforget Rl := by
  intro Z N X H k0 k1 M R
  obtain ⟨hL, hx, hp, i0, i1, ⟨Q, hQ, z1, z2, -⟩⟩ := id R
  refine ⟨z1.trans z2.symm, hL, hx, hp, i0, i1, ⟨0, by omega, rfl, rfl, fun q hq => by omega, fun i hi => ?_, fun i hi => ?_⟩⟩
  · show bt 0 i = true ↔ _
    rw [b_0]; exact ⟨(fun z => by cases z), fun ⟨q, z, _⟩ => by omega⟩
  · show bt 0 i = true ↔ _
    rw [b_0]; exact ⟨(fun z => by cases z), fun ⟨q, z, _⟩ => by omega⟩
theorem seen_go {Q t : Nat} (ht : t < 32) {z : Int32} {f5 f6 : Nat → Int32} {g g' : Bool} (hz : ∀ i, i < 32 → (bt z i = true ↔ ∃ q, q < Q ∧ f5 q = nI i ∧ f6 q = bI g')) (hg : g = g') : ∀ i, i < 32 → (bt (z ||| ((1 : Int32) <<< (nI t &&& 31))) i = true ↔ ∃ q, q < Q + 1 ∧ upd f5 Q (nI t) q = nI i ∧ upd f6 Q (bI g) q = bI g') := by
  intro i hi
  rw [bt_or1 z ht hi, Bool.or_eq_true_iff, hz i hi, decide_eq_true_iff]
  constructor
  · rintro (⟨q, y1, y2, y3⟩ | y)
    · exact ⟨q, by omega, by rw [pk_un (by omega)]; exact y2, by rw [pk_un (by omega)]; exact y3⟩
    · exact ⟨Q, by omega, by rw [pk_us, y], by rw [pk_us, hg]⟩
  · rintro ⟨q, y1, y2, y3⟩
    by_cases y : q = Q
    · rw [y, pk_us] at y2
      exact Or.inr ((nI_eq (by omega) (by omega)).mp y2).symm
    · rw [pk_un y] at y2 y3
      exact Or.inl ⟨q, by omega, y2, y3⟩
theorem seen_no {Q : Nat} {z : Int32} {f5 f6 : Nat → Int32} {t : Int32} {g g' : Bool} (hz : ∀ i, i < 32 → (bt z i = true ↔ ∃ q, q < Q ∧ f5 q = nI i ∧ f6 q = bI g')) (hg : g ≠ g') : ∀ i, i < 32 → (bt z i = true ↔ ∃ q, q < Q + 1 ∧ upd f5 Q t q = nI i ∧ upd f6 Q (bI g) q = bI g') := by
  intro i hi
  rw [hz i hi]
  constructor
  · rintro ⟨q, y1, y2, y3⟩
    exact ⟨q, by omega, by rw [pk_un (by omega)]; exact y2, by rw [pk_un (by omega)]; exact y3⟩
  · rintro ⟨q, y1, y2, y3⟩
    by_cases y : q = Q
    · rw [y, pk_us] at y3; exact absurd (bI_eq.mp y3) hg
    · rw [pk_un y] at y2 y3
      exact ⟨q, by omega, y2, y3⟩
theorem rl_sees : Rsees Rl := by
  intro Z N X H k0 k1 M R x y
  obtain ⟨hL, hx, hp, i0, i1, ⟨Q, hQ, z1, z2, z3, z4, z5⟩⟩ := id R
  unfold sX5_sees sX6_sees sX6_within
  rw [hand_eq]
  by_cases c1 : x < 0
  · rw [if_pos c1, if_pos c1]; exact ⟨rfl, R⟩
  · rw [if_neg c1, if_neg c1]
    obtain ⟨t, ht, rfl⟩ := nI_of c1
    by_cases c2 : 12 ≤ nI t
    · have : ¬ t < 12 := fun z => nI_ge (b := 12) z (by decide) c2
      rw [if_pos c2, if_pos (show (11 : Int32) < nI t from nI_lt (a := 11) (by omega) ht)]; exact ⟨rfl, R⟩
    · have ht2 : t < 12 := Nat.not_le.mp (fun z => c2 (nI_le (a := 12) z ht))
      rw [if_neg c2, if_neg (show ¬ (11 : Int32) < nI t from nI_nlt (b := t) (a := 11) (by omega) (by decide)), if_pos rfl]
      by_cases c3 : sX5_isHand y = true
      · rw [if_pos c3, if_pos c3, z1, z2]
        obtain ⟨g, rfl⟩ := hand_bI c3
        by_cases c4 : nI Q < 6
        · have hlt : Q < 6 := (nI_ltI (b := 6) (by omega) (by decide)).mp c4
          have hne : ¬ nI Q = 6 := fun z => by
            have := (nI_eq (b := 6) (by omega) (by decide)).mp z
            omega
          rw [if_pos c4, if_neg hne, nI_clamp (by omega), nI_1]
          have hr : ∀ q, q < Q + 1 → ∃ t' : Nat, ∃ g' : Bool, t' < 12 ∧ upd (M.2 5) Q (nI t) q = nI t' ∧ upd (M.2 6) Q (bI g) q = bI g' := fun q hq => by
            by_cases y : q = Q
            · rw [y, pk_us, pk_us]; exact ⟨t, g, ht2, rfl, rfl⟩
            · rw [pk_un y, pk_un y]; exact z3 q (by omega)
          cases g
          · rw [if_pos (show bI false = 0 from rfl)]
            exact ⟨rfl, hL, hx, hp, i0, i1, ⟨Q + 1, by omega, rfl, rfl, hr, seen_go (by omega) z4 rfl, seen_no z5 (by decide)⟩⟩
          · rw [if_neg (show ¬ bI true = 0 by decide)]
            exact ⟨rfl, hL, hx, hp, i0, i1, ⟨Q + 1, by omega, rfl, rfl, hr, seen_no z4 (by decide), seen_go (by omega) z5 rfl⟩⟩
        · have he : Q = 6 := by
            have : ¬ Q < 6 := fun z => c4 (nI_lt (b := 6) z (by decide))
            omega
          rw [if_neg c4, if_pos (show nI Q = 6 by rw [he]; rfl)]; exact ⟨rfl, R⟩
      · rw [if_neg c3, if_neg c3]; exact ⟨rfl, R⟩
/-! what is done, and kept of what was -/
theorem past_ok {H : HSt} {N : LSt} {M M' : MSt} (hp : PaR H M) (hN : LnR N (M.2 0)) (e0 : M'.1 0 = (sX6_keeps M).1 0) (e2 : M'.2 2 = (sX6_keeps M).2 2) : PaR (sX1_remember H N) M' := by
  obtain ⟨u, hu, h1, h2, h3, h4⟩ := hp
  obtain ⟨k1, -, -, k4⟩ := keeps_ok h2 hu
  by_cases c : u = 6
  · subst c
    rw [if_pos rfl] at k1
    refine ⟨6, by omega, ?_, e0.trans k1, fun i hi => pr_pa h3 i hi, fun i hi => ?_⟩
    · show pz H.1 = nI 6
      unfold pz; rw [h1]; rfl
    · show LnR (pF H.1 H.2.2.2.2 N i) _
      unfold pF
      rw [h1, if_pos (show nI 6 = 6 from rfl)]
      by_cases c5 : i = 5
      · subst c5
        rw [va_up_self]
        refine LnR_cong (fun k hk => ?_) (LnR_copy _ hN)
        rw [e2, k4, if_pos rfl, if_pos (show 17 * 5 ≤ 17 * 5 + k ∧ 17 * 5 + k < 17 * 5 + 17 from ⟨by omega, by omega⟩), show 17 * 5 + k - 17 * 5 = k by omega]
      · rw [va_up_ne _ _ c5]
        unfold rot
        rw [if_neg c5]
        refine LnR_cong (fun k hk => ?_) (h4 (i + 1) (by omega))
        rw [e2, k4, if_pos rfl, if_neg (show ¬ (17 * 5 ≤ 17 * i + k ∧ 17 * i + k < 17 * 5 + 17) from fun z => by omega), if_pos (show (6 : Nat) = 6 ∧ 17 * i + k < 85 from ⟨rfl, by omega⟩), show 17 * i + k + 17 = 17 * (i + 1) + k by omega]
  · rw [if_neg c] at k1
    have hne : ¬ nI u = 6 := fun z => c ((nI_eq (b := 6) (by omega) (by decide)).mp z)
    refine ⟨u + 1, by omega, ?_, e0.trans k1, fun i hi => pr_pa h3 i hi, fun i hi => ?_⟩
    · show pz H.1 = _
      unfold pz; rw [h1, if_neg hne, nI_1]
    · show LnR (pF H.1 H.2.2.2.2 N i) _
      unfold pF
      rw [h1, if_neg hne, nI_clamp (by omega)]
      by_cases c5 : i = u
      · subst c5
        rw [va_up_self]
        refine LnR_cong (fun k hk => ?_) (LnR_copy _ hN)
        rw [e2, k4, if_neg c, if_pos (show 17 * i ≤ 17 * i + k ∧ 17 * i + k < 17 * i + 17 from ⟨by omega, by omega⟩), show 17 * i + k - 17 * i = k by omega]
      · rw [va_up_ne _ _ c5]
        refine LnR_cong (fun k hk => ?_) (h4 i (by omega))
        rw [e2, k4, if_neg c, if_neg (show ¬ (17 * u ≤ 17 * i + k ∧ 17 * i + k < 17 * u + 17) from fun z => by omega), if_neg (show ¬ (u = 6 ∧ 17 * i + k < 85) from fun z => c z.1)]
theorem rl_do {Z : SSt} {N X : LSt} {H : HSt} {k0 k1 : Option LSt} {M : MSt} (R : Rl Z N X H k0 k1 M) {N' : LSt} {r' : Nat → Int32} (hN : LnR N' r') : Rl Z N' X (sX1_remember H N) k0 k1 ((sX6_keeps M).1, updR (sX6_keeps M).2 0 r') := by
  obtain ⟨hL, hx, hp, i0, i1, hz⟩ := R
  obtain ⟨u, hu, -, h2, -⟩ := id hp
  obtain ⟨-, k2, k3, -⟩ := keeps_ok h2 hu
  refine ⟨hN, ?_, past_ok hp hL rfl rfl, ?_, ?_, ?_⟩
  · unfold TxR
    rw [show ((sX6_keeps M).1, updR (sX6_keeps M).2 0 r').1 2 = M.1 2 from k2 2 (by decide), show ((sX6_keeps M).1, updR (sX6_keeps M).2 0 r').2 7 = M.2 7 from k3 7 (by decide)]
    exact hx
  · unfold IR
    rw [show ((sX6_keeps M).1, updR (sX6_keeps M).2 0 r').2 4 = M.2 4 from k3 4 (by decide), show ((sX6_keeps M).1, updR (sX6_keeps M).2 0 r').2 3 = M.2 3 from k3 3 (by decide)]
    exact i0
  · unfold IR
    rw [show ((sX6_keeps M).1, updR (sX6_keeps M).2 0 r').2 4 = M.2 4 from k3 4 (by decide), show ((sX6_keeps M).1, updR (sX6_keeps M).2 0 r').2 3 = M.2 3 from k3 3 (by decide)]
    exact i1
  · unfold Sn
    rw [show ((sX6_keeps M).1, updR (sX6_keeps M).2 0 r').1 1 = M.1 1 from k2 1 (by decide), show ((sX6_keeps M).1, updR (sX6_keeps M).2 0 r').2 5 = M.2 5 from k3 5 (by decide), show ((sX6_keeps M).1, updR (sX6_keeps M).2 0 r').2 6 = M.2 6 from k3 6 (by decide)]
    exact hz
theorem rl_keeps0 {Z : SSt} {N X : LSt} {H : HSt} {k0 k1 : Option LSt} {M : MSt} (R : Rl Z N X H k0 k1 M) : (sX6_keeps M).2 0 = M.2 0 := by
  obtain ⟨u, hu, -, h2, -⟩ := R.2.2.1
  exact (keeps_ok h2 hu).2.2.1 0 (by decide)
section
variable {T : Nat} {p : Nat → Nat} {w c b : Nat} {h : Int32} {N : LSt} {M : MSt}
theorem Lb_h (B : Lb T p w c b h) {h' : Int32} (q : Sh p h') : Lb T p w c b h' := ⟨B.1, B.2.1, B.2.2.1, B.2.2.2.1, B.2.2.2.2.1, B.2.2.2.2.2.1, B.2.2.2.2.2.2.1, B.2.2.2.2.2.2.2.1, B.2.2.2.2.2.2.2.2.1, q⟩
theorem Lc_h (C : Lc T p w c b h N) (h' : Int32) : Lc T p w c b h' ((upd N.1 2 h'), N.2) := ⟨C.1, C.2.1, C.2.2.1, C.2.2.2.1, C.2.2.2.2.1, C.2.2.2.2.2.1, rfl⟩
theorem Lr_h {r : Nat → Int32} (R : Lr T p w c b h r) (h' : Int32) : Lr T p w c b h' (upd r 16 h') := ⟨R.1, R.2.1, R.2.2.1, R.2.2.2.1, fun t ht => by rw [pk_un (by omega)]; exact R.2.2.2.2.1 t ht, rfl⟩
theorem LnR_h (B : Lb T p w c b h) (C : Lc T p w c b h N) {r : Nat → Int32} (R : Lr T p w c b h r) {h' : Int32} (q : Sh p h') : LnR ((upd N.1 2 h'), N.2) (upd r 16 h') := ⟨T, p, w, c, b, h', Lb_h B q, Lc_h C h', Lr_h R h'⟩
end
theorem rl_gives : Rgives Rl := by
  intro Z N X H k0 k1 M R x y
  obtain ⟨T, p, w, c, b, h, B, C, L⟩ := R.1
  have hT := B.T12
  unfold sX5_gives sX6_gives
  rw [hasNote_nz B C, isNote_nz B L, hand_eq]
  by_cases c1 : nz p x = true
  · rw [if_pos c1, if_pos c1]
    obtain ⟨t, ht, hpt, rfl⟩ := note_tz B c1
    by_cases c2 : sX5_isHand y = true
    · rw [if_pos c2, if_pos c2]
      obtain ⟨g, rfl⟩ := hand_bI c2
      rw [handAt_eq C (by omega), L.2.2.2.2.2, bit1 h (by omega), C.2.2.2.2.2.2, rl_keeps0 R, L.2.2.2.2.2]
      by_cases c3 : bI (bt h t) = bI g
      · rw [if_pos c3, if_pos c3]; exact ⟨rfl, R⟩
      · rw [if_neg c3, if_neg c3]
        have hs : Sh p (h ^^^ ((1 : Int32) <<< (nI t &&& 31))) := fun i hi q => by
          rw [b_xor, bt_one (by omega) hi] at q
          by_cases z : i = t
          · rw [z]; exact hpt
          · rw [decide_eq_false z, Bool.xor_false] at q; exact B.hN hi q
        refine ⟨?_, rl_do R (LnR_h B C L hs)⟩
        have hM : Lr T p w c b (h ^^^ ((1 : Int32) <<< (nI t &&& 31))) (((sX6_keeps M).1, updR (sX6_keeps M).2 0 (upd (M.2 0) 16 (h ^^^ ((1 : Int32) <<< (nI t &&& 31))))).2 0) := Lr_h L _
        show sJ6_bitCount_0f7a4 (sX0_notesOf _ (bI g)) = sX6_ofHand _ (bI g)
        rw [bcH_eq (Lb_h B hs) (Lc_h C _) g, ofHand_eq (Lb_h B hs) hM g]
    · rw [if_neg c2, if_neg c2]; exact ⟨rfl, R⟩
  · rw [if_neg c1, if_neg c1]; exact ⟨rfl, R⟩
theorem rl_mends : Rmends Rl := by
  intro Z N X H k0 k1 M R S SL
  obtain ⟨T, p, w, c, b, h, B, C, L⟩ := R.1
  unfold sX5_mends sX6_mends
  rw [rl_keeps0 R, L.2.2.2.2.2]
  rcases mend_spec Z S SL B C L with ⟨m1, m2⟩ | ⟨m1, m2, m3, m4⟩
  · rw [m2, if_neg (show ¬ (0 : Int32) < -9 by decide), m1, if_pos (show (-9 : Int32) = -9 from rfl)]
    split <;> exact ⟨rfl, R⟩
  · have ht := tot_le B 2 (sX6_nearest M)
    rw [m2]
    by_cases c1 : sX6_isLawfulNow M h = true
    · rw [if_pos c1, m4.mp c1, if_neg (show ¬ (0 : Int32) < nI 0 by decide)]; exact ⟨rfl, R⟩
    · have hpos : 0 < tot p b h 2 T (sX6_nearest M) := Nat.pos_of_ne_zero (fun z => c1 (m4.mpr z))
      rw [if_neg c1, if_neg (Sh_n9 B m1), if_pos (show (0 : Int32) < nI (tot p b h 2 T (sX6_nearest M)) from nI_lt (a := 0) hpos (by omega)), m3, ones_xr B m1]
      exact ⟨rfl, rl_do R (LnR_h B C L m1)⟩
