/-! the past as one object: how many, its row, its lines' places and states -/
abbrev HSt : Type := Int32 × (Nat → Option Nat) × (Nat → Nat) × (Nat → Nat) × (Nat → LSt)
abbrev wH (cI cO : ClassId) (h hr : Nat) (S : HSt) : va_W := [(h, .inr (1, [.ref hr, .int S.1])), (hr, .inl (cO, 6, .inr (.inr (.inr (.inr S.2.1))))),
  (S.2.2.1 0, .inr (0, [.ref (S.2.2.2.1 0), .int ((S.2.2.2.2 0).1 0), .int ((S.2.2.2.2 0).1 1), .int ((S.2.2.2.2 0).1 2), .int ((S.2.2.2.2 0).1 3), .int ((S.2.2.2.2 0).1 4), .int ((S.2.2.2.2 0).1 5)])), (S.2.2.2.1 0, .inl (cI, 12, .inl (S.2.2.2.2 0).2)),
  (S.2.2.1 1, .inr (0, [.ref (S.2.2.2.1 1), .int ((S.2.2.2.2 1).1 0), .int ((S.2.2.2.2 1).1 1), .int ((S.2.2.2.2 1).1 2), .int ((S.2.2.2.2 1).1 3), .int ((S.2.2.2.2 1).1 4), .int ((S.2.2.2.2 1).1 5)])), (S.2.2.2.1 1, .inl (cI, 12, .inl (S.2.2.2.2 1).2)),
  (S.2.2.1 2, .inr (0, [.ref (S.2.2.2.1 2), .int ((S.2.2.2.2 2).1 0), .int ((S.2.2.2.2 2).1 1), .int ((S.2.2.2.2 2).1 2), .int ((S.2.2.2.2 2).1 3), .int ((S.2.2.2.2 2).1 4), .int ((S.2.2.2.2 2).1 5)])), (S.2.2.2.1 2, .inl (cI, 12, .inl (S.2.2.2.2 2).2)),
  (S.2.2.1 3, .inr (0, [.ref (S.2.2.2.1 3), .int ((S.2.2.2.2 3).1 0), .int ((S.2.2.2.2 3).1 1), .int ((S.2.2.2.2 3).1 2), .int ((S.2.2.2.2 3).1 3), .int ((S.2.2.2.2 3).1 4), .int ((S.2.2.2.2 3).1 5)])), (S.2.2.2.1 3, .inl (cI, 12, .inl (S.2.2.2.2 3).2)),
  (S.2.2.1 4, .inr (0, [.ref (S.2.2.2.1 4), .int ((S.2.2.2.2 4).1 0), .int ((S.2.2.2.2 4).1 1), .int ((S.2.2.2.2 4).1 2), .int ((S.2.2.2.2 4).1 3), .int ((S.2.2.2.2 4).1 4), .int ((S.2.2.2.2 4).1 5)])), (S.2.2.2.1 4, .inl (cI, 12, .inl (S.2.2.2.2 4).2)),
  (S.2.2.1 5, .inr (0, [.ref (S.2.2.2.1 5), .int ((S.2.2.2.2 5).1 0), .int ((S.2.2.2.2 5).1 1), .int ((S.2.2.2.2 5).1 2), .int ((S.2.2.2.2 5).1 3), .int ((S.2.2.2.2 5).1 4), .int ((S.2.2.2.2 5).1 5)])), (S.2.2.2.1 5, .inl (cI, 12, .inl (S.2.2.2.2 5).2))]
def HOK (S : HSt) : Prop := (∃ k : Nat, S.1 = nI k ∧ k ≤ 6) ∧ ∀ i, i < 6 → S.2.1 i = some (S.2.2.1 i)
def sX1_remember (S : HSt) (S1 : LSt) : HSt := (pz S.1, pr S.1 S.2.1 S.2.2.1, pa S.1 S.2.2.1, pa S.1 S.2.2.2.1, pF S.1 S.2.2.2.2 S1)
def sX1_recall (S : HSt) (S1 : LSt) : Bool × HSt × LSt := (decide (¬ S.1 = 0), (qz S.1, S.2), qF S.1 S.2.2.2.2 S1)
theorem cX1_rem_c (l : Launch) (ev : Nat → Nat) (dC : Nat → ClassId) (dI : Nat → Nat → Nat) (cI cZ cO : ClassId) (h hr : Nat) (S : HSt) (h1 hp1 : Nat) (S1 : LSt) (hH : HOK S) : MetV l ev (dC, dI) (tyC cI cZ cO) yX1_remember wsX1_remember (rmF 2 100) [.ref h, .ref h1] (wH cI cO h hr S ++ wL cI h1 hp1 S1) (wH cI cO h hr (sX1_remember S S1) ++ wL cI h1 hp1 S1) :=
  cX1_remember_c l ev dC dI cI cZ cO h hr S.1 S.2.1 S.2.2.1 S.2.2.2.1 S.2.2.2.2 h1 hp1 S1 hH.1 hH.2
theorem cX1_rec_c (l : Launch) (ev : Nat → Nat) (dC : Nat → ClassId) (dI : Nat → Nat → Nat) (cI cZ cO : ClassId) (h hr : Nat) (S : HSt) (h1 hp1 : Nat) (S1 : LSt) (hH : HOK S) : MetI l ev (dC, dI) (tyC cI cZ cO) yX1_recall wsX1_recall (rmF 2 100) [.ref h, .ref h1] (wH cI cO h hr S ++ wL cI h1 hp1 S1) (bI (sX1_recall S S1).1) (wH cI cO h hr (sX1_recall S S1).2.1 ++ wL cI h1 hp1 (sX1_recall S S1).2.2) :=
  cX1_recall_c l ev dC dI cI cZ cO h hr S.1 S.2.1 S.2.2.1 S.2.2.2.1 S.2.2.2.2 h1 hp1 S1 hH.1 hH.2
