def sX6_bares_L2  : Nat → Int32 → (Nat → Int32) → (Nat → Int32)
  | 0, _, _ => (fun _ => 0)
  | n2 + 1, x1_2, Y_2 => if 17 ≤ x1_2 then (upd (upd (upd Y_2 1 2) 2 2) 3 4)
    else sX6_bares_L2  n2 (x1_2 + 1) (upd Y_2 (x1_2).toNatClampNeg 0)
theorem sX6_bares_L2_s  (n2 : Nat) (x1_2 : Int32) (Y_2 : (Nat → Int32)) : sX6_bares_L2  (n2 + 1) x1_2 Y_2 = if 17 ≤ x1_2 then (upd (upd (upd Y_2 1 2) 2 2) 3 4)
    else sX6_bares_L2  n2 (x1_2 + 1) (upd Y_2 (x1_2).toNatClampNeg 0) := rfl
def sX6_bares (S : (Nat → Int32)) : (Nat → Int32) :=
  sX6_bares_L2  18 (0 : Int32) S
def sX6_skips_L0  : Nat → MSt → MSt
  | 0, _ => ((fun _ => 0), fun _ _ => 0)
  | n0 + 1, Y_0 => if (Y_0.1 2) ≤ (Y_0.1 3) then ((upd Y_0.1 4 (Y_0.1 3)), Y_0.2)
    else if ((Y_0.2 7) ((Y_0.1 3)).toNatClampNeg) = 32 then sX6_skips_L0  n0 ((upd Y_0.1 3 ((Y_0.1 3) + 1)), Y_0.2)
    else ((upd Y_0.1 4 (Y_0.1 3)), Y_0.2)
theorem sX6_skips_L0_s  (n0 : Nat)  (Y_0 : MSt) : sX6_skips_L0  (n0 + 1) Y_0 = if (Y_0.1 2) ≤ (Y_0.1 3) then ((upd Y_0.1 4 (Y_0.1 3)), Y_0.2)
    else if ((Y_0.2 7) ((Y_0.1 3)).toNatClampNeg) = 32 then sX6_skips_L0  n0 ((upd Y_0.1 3 ((Y_0.1 3) + 1)), Y_0.2)
    else ((upd Y_0.1 4 (Y_0.1 3)), Y_0.2) := rfl
def sX6_skips (S : MSt) : MSt :=
  sX6_skips_L0  121 S
def sX6_isAt (S : MSt) (p1 : Int32) (p2 : Int32) : Bool :=
  if (S.1 2) ≤ (S.1 3) then false
  else if (sX6_within ((S.2 7) ((S.1 3)).toNatClampNeg) p1 p2) = true then true
  else false
def sX6_passesEnd (S : MSt) : Bool × MSt :=
  if (sX6_isAt (sX6_skips S) (59 : Int32) (59 : Int32)) = true then ((sX6_isAt (sX6_skips S) (59 : Int32) (59 : Int32)), ((upd (sX6_skips S).1 3 (((sX6_skips S).1 3) + 1)), (sX6_skips S).2))
  else ((sX6_isAt (sX6_skips S) (59 : Int32) (59 : Int32)), ((upd (sX6_skips S).1 3 (((sX6_skips S).1 3) + 0)), (sX6_skips S).2))
def sX6_figures_L6 (p1 : Int32) : Nat → Bool → MSt → Int32 × MSt
  | 0, _, _ => (0, ((fun _ => 0), fun _ _ => 0))
  | n6 + 1, x2_6, Y_6 => if (sX6_isAt Y_6 (48 : Int32) (57 : Int32)) = true then (if x2_6 = true then (if p1 < (((Y_6.2 7) ((Y_6.1 3)).toNatClampNeg) - 48) then sX6_figures_L6 p1 n6 false ((upd Y_6.1 3 ((Y_6.1 3) + 1)), Y_6.2)
        else sX6_figures_L6 p1 n6 true ((upd Y_6.1 3 ((Y_6.1 3) + 1)), Y_6.2))
      else sX6_figures_L6 p1 n6 false ((upd Y_6.1 3 ((Y_6.1 3) + 1)), Y_6.2))
    else if x2_6 = true then (if (Y_6.1 3) ≤ (Y_6.1 4) then (((-1) : Int32), Y_6)
      else (((Y_6.1 3) - (Y_6.1 4)), Y_6))
    else (((-1) : Int32), Y_6)
theorem sX6_figures_L6_s (p1 : Int32) (n6 : Nat) (x2_6 : Bool) (Y_6 : MSt) : sX6_figures_L6 p1 (n6 + 1) x2_6 Y_6 = if (sX6_isAt Y_6 (48 : Int32) (57 : Int32)) = true then (if x2_6 = true then (if p1 < (((Y_6.2 7) ((Y_6.1 3)).toNatClampNeg) - 48) then sX6_figures_L6 p1 n6 false ((upd Y_6.1 3 ((Y_6.1 3) + 1)), Y_6.2)
        else sX6_figures_L6 p1 n6 true ((upd Y_6.1 3 ((Y_6.1 3) + 1)), Y_6.2))
      else sX6_figures_L6 p1 n6 false ((upd Y_6.1 3 ((Y_6.1 3) + 1)), Y_6.2))
    else if x2_6 = true then (if (Y_6.1 3) ≤ (Y_6.1 4) then (((-1) : Int32), Y_6)
      else (((Y_6.1 3) - (Y_6.1 4)), Y_6))
    else (((-1) : Int32), Y_6) := rfl
def sX6_figures (S : MSt) (p1 : Int32) : Int32 × MSt :=
  sX6_figures_L6 p1 121 true (sX6_skips S)
def sX6_wordPassed_L6  : Nat → Int32 → MSt → Int32 × MSt
  | 0, _, _ => (0, ((fun _ => 0), fun _ _ => 0))
  | n6 + 1, x1_6, Y_6 => if (sX6_isAt Y_6 (97 : Int32) (122 : Int32)) = true then (if ((Y_6.1 3) - (Y_6.1 4)) ≤ 4 then sX6_wordPassed_L6  n6 (((((27 : Int32) * x1_6) + ((Y_6.2 7) ((Y_6.1 3)).toNatClampNeg)) - 97) + 1) ((upd Y_6.1 3 ((Y_6.1 3) + 1)), Y_6.2)
      else sX6_wordPassed_L6  n6 (0 : Int32) ((upd Y_6.1 3 ((Y_6.1 3) + 1)), Y_6.2))
    else if ((Y_6.1 3) - (Y_6.1 4)) ≤ 5 then (if x1_6 = 1503 then ((4 : Int32), Y_6)
      else if x1_6 = 243140 then ((0 : Int32), Y_6)
      else if x1_6 = 453701 then ((2 : Int32), Y_6)
      else if x1_6 = 4281544 then ((1 : Int32), Y_6)
      else if x1_6 = 9665171 then ((3 : Int32), Y_6)
      else (((-9) : Int32), Y_6))
    else (((-9) : Int32), Y_6)
theorem sX6_wordPassed_L6_s  (n6 : Nat) (x1_6 : Int32) (Y_6 : MSt) : sX6_wordPassed_L6  (n6 + 1) x1_6 Y_6 = if (sX6_isAt Y_6 (97 : Int32) (122 : Int32)) = true then (if ((Y_6.1 3) - (Y_6.1 4)) ≤ 4 then sX6_wordPassed_L6  n6 (((((27 : Int32) * x1_6) + ((Y_6.2 7) ((Y_6.1 3)).toNatClampNeg)) - 97) + 1) ((upd Y_6.1 3 ((Y_6.1 3) + 1)), Y_6.2)
      else sX6_wordPassed_L6  n6 (0 : Int32) ((upd Y_6.1 3 ((Y_6.1 3) + 1)), Y_6.2))
    else if ((Y_6.1 3) - (Y_6.1 4)) ≤ 5 then (if x1_6 = 1503 then ((4 : Int32), Y_6)
      else if x1_6 = 243140 then ((0 : Int32), Y_6)
      else if x1_6 = 453701 then ((2 : Int32), Y_6)
      else if x1_6 = 4281544 then ((1 : Int32), Y_6)
      else if x1_6 = 9665171 then ((3 : Int32), Y_6)
      else (((-9) : Int32), Y_6))
    else (((-9) : Int32), Y_6) := rfl
def sX6_wordPassed (S : MSt) : Int32 × MSt :=
  sX6_wordPassed_L6  121 (0 : Int32) (sX6_skips S)
