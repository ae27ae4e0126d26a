def sX4_letterAt (S : LSt) (p1 : Int32) : Int32 :=
  if p1 < 0 then ((-9) : Int32)
  else if (S.1 0) ≤ p1 then ((-9) : Int32)
  else (S.2 (p1).toNatClampNeg)
def sX4_kindAt (S : LSt) (p1 : Int32) : Int32 :=
  if (sX4_letterAt S p1) = (-9) then (0 : Int32)
  else if (sX4_letterAt S p1) < 97 then (if (sX4_letterAt S p1) < 48 then (if (sX4_letterAt S p1) = 59 then (3 : Int32)
      else if (sX4_letterAt S p1) = 32 then (4 : Int32)
      else (5 : Int32))
    else if 57 < (sX4_letterAt S p1) then (if (sX4_letterAt S p1) = 59 then (3 : Int32)
      else if (sX4_letterAt S p1) = 32 then (4 : Int32)
      else (5 : Int32))
    else (2 : Int32))
  else if 122 < (sX4_letterAt S p1) then (if (sX4_letterAt S p1) < 48 then (if (sX4_letterAt S p1) = 59 then (3 : Int32)
      else if (sX4_letterAt S p1) = 32 then (4 : Int32)
      else (5 : Int32))
    else if 57 < (sX4_letterAt S p1) then (if (sX4_letterAt S p1) = 59 then (3 : Int32)
      else if (sX4_letterAt S p1) = 32 then (4 : Int32)
      else (5 : Int32))
    else (2 : Int32))
  else (1 : Int32)
def sX4_figureAt (S : LSt) (p1 : Int32) : Int32 :=
  ((sX4_letterAt S p1) - 48)
def sX4_add (S : LSt) (p1 : Int32) : Bool × LSt :=
  if (S.1 0) < 120 then (true, ((upd S.1 0 ((S.1 0) + 1)), (upd S.2 ((S.1 0)).toNatClampNeg p1)))
  else (false, S)
def sX4_mayBegin (S : LSt) (p1 : Int32) : Bool :=
  if p1 = (-9) then false
  else if p1 = 3 then (if (S.1 1) = 0 then true
    else false)
  else if p1 = 4 then (if (S.1 1) = 0 then false
    else if (S.1 2) = 0 then true
    else false)
  else true
def sX4_isWord_L20 (S : LSt) (i : Nat) : Nat → Int32 → Bool
  | 0, _ => false
  | n20 + 1, x2_20 => if (nI (txLen.getD i 0)) ≤ x2_20 then true
    else if (sX4_letterAt S ((S.1 4) + x2_20)) = ((txByt.getD i []).getD (x2_20).toNatClampNeg 0 &&& 255) then sX4_isWord_L20 S i n20 (x2_20 + 1)
    else false
theorem sX4_isWord_L20_s (S : LSt) (i : Nat) (n20 : Nat) (x2_20 : Int32)  : sX4_isWord_L20 S i (n20 + 1) x2_20 = if (nI (txLen.getD i 0)) ≤ x2_20 then true
    else if (sX4_letterAt S ((S.1 4) + x2_20)) = ((txByt.getD i []).getD (x2_20).toNatClampNeg 0 &&& 255) then sX4_isWord_L20 S i n20 (x2_20 + 1)
    else false := rfl
def sX4_isWord (S : LSt) (i : Nat) : Bool :=
  if ((S.1 5) - (S.1 4)) = (nI (txLen.getD i 0)) then sX4_isWord_L20 S i 6 (0 : Int32)
  else false
def sX4_itemOfWord (S : LSt) : Int32 :=
  if (sX4_isWord S 0) = true then (3 : Int32)
  else if (sX4_isWord S 1) = true then (4 : Int32)
  else if (sX4_isWord S 2) = true then (0 : Int32)
  else if (sX4_isWord S 3) = true then (1 : Int32)
  else if (sX4_isWord S 4) = true then (2 : Int32)
  else ((-9) : Int32)
def sX4_nextToken_L102  : Nat → Bool → LSt → LSt
  | 0, _, _ => ((fun _ => 0), fun _ => 0)
  | n102 + 1, x1_102, Y_102 => if x1_102 = true then (if (Y_102.1 0) ≤ (Y_102.1 5) then Y_102
      else if (sX4_kindAt Y_102 (Y_102.1 5)) = (Y_102.1 3) then sX4_nextToken_L102  n102 x1_102 ((upd Y_102.1 5 ((Y_102.1 5) + 1)), Y_102.2)
      else Y_102)
    else Y_102
theorem sX4_nextToken_L102_s  (n102 : Nat) (x1_102 : Bool) (Y_102 : LSt) : sX4_nextToken_L102  (n102 + 1) x1_102 Y_102 = if x1_102 = true then (if (Y_102.1 0) ≤ (Y_102.1 5) then Y_102
      else if (sX4_kindAt Y_102 (Y_102.1 5)) = (Y_102.1 3) then sX4_nextToken_L102  n102 x1_102 ((upd Y_102.1 5 ((Y_102.1 5) + 1)), Y_102.2)
      else Y_102)
    else Y_102 := rfl
def sX4_nextToken_L8  : Nat → LSt → LSt
  | 0, _ => ((fun _ => 0), fun _ => 0)
  | n8 + 1, Y_8 => if (Y_8.1 0) ≤ (Y_8.1 4) then (if (sX4_kindAt Y_8 (Y_8.1 4)) = 0 then (if (sX4_kindAt Y_8 (Y_8.1 4)) = 1 then sX4_nextToken_L102  121 true ((upd (upd Y_8.1 3 (sX4_kindAt Y_8 (Y_8.1 4))) 5 (Y_8.1 4)), Y_8.2)
        else if (sX4_kindAt Y_8 (Y_8.1 4)) = 2 then sX4_nextToken_L102  121 true ((upd (upd Y_8.1 3 (sX4_kindAt Y_8 (Y_8.1 4))) 5 (Y_8.1 4)), Y_8.2)
        else sX4_nextToken_L102  121 false ((upd (upd Y_8.1 3 (sX4_kindAt Y_8 (Y_8.1 4))) 5 (Y_8.1 4)), Y_8.2))
      else if (sX4_kindAt Y_8 (Y_8.1 4)) = 1 then sX4_nextToken_L102  121 true ((upd (upd Y_8.1 3 (sX4_kindAt Y_8 (Y_8.1 4))) 5 ((Y_8.1 4) + 1)), Y_8.2)
      else if (sX4_kindAt Y_8 (Y_8.1 4)) = 2 then sX4_nextToken_L102  121 true ((upd (upd Y_8.1 3 (sX4_kindAt Y_8 (Y_8.1 4))) 5 ((Y_8.1 4) + 1)), Y_8.2)
      else sX4_nextToken_L102  121 false ((upd (upd Y_8.1 3 (sX4_kindAt Y_8 (Y_8.1 4))) 5 ((Y_8.1 4) + 1)), Y_8.2))
    else if (sX4_kindAt Y_8 (Y_8.1 4)) = 4 then sX4_nextToken_L8  n8 ((upd Y_8.1 4 ((Y_8.1 4) + 1)), Y_8.2)
    else if (sX4_kindAt Y_8 (Y_8.1 4)) = 0 then (if (sX4_kindAt Y_8 (Y_8.1 4)) = 1 then sX4_nextToken_L102  121 true ((upd (upd Y_8.1 3 (sX4_kindAt Y_8 (Y_8.1 4))) 5 (Y_8.1 4)), Y_8.2)
      else if (sX4_kindAt Y_8 (Y_8.1 4)) = 2 then sX4_nextToken_L102  121 true ((upd (upd Y_8.1 3 (sX4_kindAt Y_8 (Y_8.1 4))) 5 (Y_8.1 4)), Y_8.2)
      else sX4_nextToken_L102  121 false ((upd (upd Y_8.1 3 (sX4_kindAt Y_8 (Y_8.1 4))) 5 (Y_8.1 4)), Y_8.2))
    else if (sX4_kindAt Y_8 (Y_8.1 4)) = 1 then sX4_nextToken_L102  121 true ((upd (upd Y_8.1 3 (sX4_kindAt Y_8 (Y_8.1 4))) 5 ((Y_8.1 4) + 1)), Y_8.2)
    else if (sX4_kindAt Y_8 (Y_8.1 4)) = 2 then sX4_nextToken_L102  121 true ((upd (upd Y_8.1 3 (sX4_kindAt Y_8 (Y_8.1 4))) 5 ((Y_8.1 4) + 1)), Y_8.2)
    else sX4_nextToken_L102  121 false ((upd (upd Y_8.1 3 (sX4_kindAt Y_8 (Y_8.1 4))) 5 ((Y_8.1 4) + 1)), Y_8.2)
theorem sX4_nextToken_L8_s  (n8 : Nat)  (Y_8 : LSt) : sX4_nextToken_L8  (n8 + 1) Y_8 = if (Y_8.1 0) ≤ (Y_8.1 4) then (if (sX4_kindAt Y_8 (Y_8.1 4)) = 0 then (if (sX4_kindAt Y_8 (Y_8.1 4)) = 1 then sX4_nextToken_L102  121 true ((upd (upd Y_8.1 3 (sX4_kindAt Y_8 (Y_8.1 4))) 5 (Y_8.1 4)), Y_8.2)
        else if (sX4_kindAt Y_8 (Y_8.1 4)) = 2 then sX4_nextToken_L102  121 true ((upd (upd Y_8.1 3 (sX4_kindAt Y_8 (Y_8.1 4))) 5 (Y_8.1 4)), Y_8.2)
        else sX4_nextToken_L102  121 false ((upd (upd Y_8.1 3 (sX4_kindAt Y_8 (Y_8.1 4))) 5 (Y_8.1 4)), Y_8.2))
      else if (sX4_kindAt Y_8 (Y_8.1 4)) = 1 then sX4_nextToken_L102  121 true ((upd (upd Y_8.1 3 (sX4_kindAt Y_8 (Y_8.1 4))) 5 ((Y_8.1 4) + 1)), Y_8.2)
      else if (sX4_kindAt Y_8 (Y_8.1 4)) = 2 then sX4_nextToken_L102  121 true ((upd (upd Y_8.1 3 (sX4_kindAt Y_8 (Y_8.1 4))) 5 ((Y_8.1 4) + 1)), Y_8.2)
      else sX4_nextToken_L102  121 false ((upd (upd Y_8.1 3 (sX4_kindAt Y_8 (Y_8.1 4))) 5 ((Y_8.1 4) + 1)), Y_8.2))
    else if (sX4_kindAt Y_8 (Y_8.1 4)) = 4 then sX4_nextToken_L8  n8 ((upd Y_8.1 4 ((Y_8.1 4) + 1)), Y_8.2)
    else if (sX4_kindAt Y_8 (Y_8.1 4)) = 0 then (if (sX4_kindAt Y_8 (Y_8.1 4)) = 1 then sX4_nextToken_L102  121 true ((upd (upd Y_8.1 3 (sX4_kindAt Y_8 (Y_8.1 4))) 5 (Y_8.1 4)), Y_8.2)
      else if (sX4_kindAt Y_8 (Y_8.1 4)) = 2 then sX4_nextToken_L102  121 true ((upd (upd Y_8.1 3 (sX4_kindAt Y_8 (Y_8.1 4))) 5 (Y_8.1 4)), Y_8.2)
      else sX4_nextToken_L102  121 false ((upd (upd Y_8.1 3 (sX4_kindAt Y_8 (Y_8.1 4))) 5 (Y_8.1 4)), Y_8.2))
    else if (sX4_kindAt Y_8 (Y_8.1 4)) = 1 then sX4_nextToken_L102  121 true ((upd (upd Y_8.1 3 (sX4_kindAt Y_8 (Y_8.1 4))) 5 ((Y_8.1 4) + 1)), Y_8.2)
    else if (sX4_kindAt Y_8 (Y_8.1 4)) = 2 then sX4_nextToken_L102  121 true ((upd (upd Y_8.1 3 (sX4_kindAt Y_8 (Y_8.1 4))) 5 ((Y_8.1 4) + 1)), Y_8.2)
    else sX4_nextToken_L102  121 false ((upd (upd Y_8.1 3 (sX4_kindAt Y_8 (Y_8.1 4))) 5 ((Y_8.1 4) + 1)), Y_8.2) := rfl
def sX4_nextToken (S : LSt) : LSt :=
  sX4_nextToken_L8  121 ((upd S.1 4 (S.1 5)), S.2)
