def sX4_takeLine_L34 (S : LSt) : Nat → Int32 → LSt → Bool × LSt × LSt
  | 0, _, _ => (false, ((fun _ => 0), fun _ => 0), ((fun _ => 0), fun _ => 0))
  | n34 + 1, x1_34, Y1_34 => if (Y1_34.1 0) ≤ x1_34 then (true, ((upd S.1 1 1), S.2), Y1_34)
    else if (sX4_figureAt S ((S.1 4) + x1_34)) ≤ 7 then sX4_takeLine_L34 S n34 (x1_34 + 1) (sX0_setPitch Y1_34 x1_34 (sX4_figureAt S ((S.1 4) + x1_34)))
    else (false, S, Y1_34)
theorem sX4_takeLine_L34_s (S : LSt) (n34 : Nat) (x1_34 : Int32) (Y1_34 : LSt) : sX4_takeLine_L34 S (n34 + 1) x1_34 Y1_34 = if (Y1_34.1 0) ≤ x1_34 then (true, ((upd S.1 1 1), S.2), Y1_34)
    else if (sX4_figureAt S ((S.1 4) + x1_34)) ≤ 7 then sX4_takeLine_L34 S n34 (x1_34 + 1) (sX0_setPitch Y1_34 x1_34 (sX4_figureAt S ((S.1 4) + x1_34)))
    else (false, S, Y1_34) := rfl
def sX4_takeLine (S : LSt) (S1 : LSt) : Bool × LSt × LSt :=
  if ((S.1 5) - (S.1 4)) ≤ 12 then sX4_takeLine_L34 S 13 (0 : Int32) ((upd S1.1 0 ((S.1 5) - (S.1 4))), S1.2)
  else (false, S, S1)
def sX4_takeHands_L23 (S : LSt) : Nat → Int32 → LSt → Bool × LSt × LSt
  | 0, _, _ => (false, ((fun _ => 0), fun _ => 0), ((fun _ => 0), fun _ => 0))
  | n23 + 1, x1_23, Y1_23 => if (Y1_23.1 0) ≤ x1_23 then (true, ((upd S.1 2 1), S.2), ((upd Y1_23.1 2 ((Y1_23.1 2) &&& (Y1_23.1 1))), Y1_23.2))
    else if (sX5_isHand (sX4_figureAt S ((S.1 4) + x1_23))) = true then sX4_takeHands_L23 S n23 (x1_23 + 1) ((upd Y1_23.1 2 ((Y1_23.1 2) ||| ((sX4_figureAt S ((S.1 4) + x1_23)) <<< (x1_23 &&& 31)))), Y1_23.2)
    else (false, S, Y1_23)
theorem sX4_takeHands_L23_s (S : LSt) (n23 : Nat) (x1_23 : Int32) (Y1_23 : LSt) : sX4_takeHands_L23 S (n23 + 1) x1_23 Y1_23 = if (Y1_23.1 0) ≤ x1_23 then (true, ((upd S.1 2 1), S.2), ((upd Y1_23.1 2 ((Y1_23.1 2) &&& (Y1_23.1 1))), Y1_23.2))
    else if (sX5_isHand (sX4_figureAt S ((S.1 4) + x1_23))) = true then sX4_takeHands_L23 S n23 (x1_23 + 1) ((upd Y1_23.1 2 ((Y1_23.1 2) ||| ((sX4_figureAt S ((S.1 4) + x1_23)) <<< (x1_23 &&& 31)))), Y1_23.2)
    else (false, S, Y1_23) := rfl
def sX4_takeHands (S : LSt) (S1 : LSt) : Bool × LSt × LSt :=
  if ((S.1 5) - (S.1 4)) = (S1.1 0) then sX4_takeHands_L23 S 13 (0 : Int32) S1
  else (false, S, S1)
def sX4_takeNumber (S : LSt) (S1 : LSt) (p1 : Int32) : Bool × LSt :=
  if ((S.1 5) - (S.1 4)) = 1 then (if (sX5_isNumber p1 (sX4_figureAt S (S.1 4))) = true then (true, (sX0_setNumber S1 p1 (sX4_figureAt S (S.1 4))))
    else (false, S1))
  else (false, S1)
def sX4_takeFigures (S : LSt) (S1 : LSt) (p1 : Int32) : Bool × LSt × LSt :=
  if p1 = 3 then (sX4_takeLine S S1)
  else if p1 = 4 then (sX4_takeHands S S1)
  else ((sX4_takeNumber S S1 p1).1, S, (sX4_takeNumber S S1 p1).2)
def sX4_readItem (S : LSt) (S1 : LSt) : Bool × LSt × LSt :=
  if (sX4_mayBegin S (sX4_itemOfWord S)) = true then (if ((sX4_nextToken S).1 3) = 2 then (if (sX4_takeFigures (sX4_nextToken S) S1 (sX4_itemOfWord S)).1 = true then (if ((sX4_nextToken (sX4_takeFigures (sX4_nextToken S) S1 (sX4_itemOfWord S)).2.1).1 3) = 3 then (true, (sX4_nextToken (sX4_takeFigures (sX4_nextToken S) S1 (sX4_itemOfWord S)).2.1), (sX4_takeFigures (sX4_nextToken S) S1 (sX4_itemOfWord S)).2.2)
        else (false, (sX4_nextToken (sX4_takeFigures (sX4_nextToken S) S1 (sX4_itemOfWord S)).2.1), (sX4_takeFigures (sX4_nextToken S) S1 (sX4_itemOfWord S)).2.2))
      else (false, (sX4_takeFigures (sX4_nextToken S) S1 (sX4_itemOfWord S)).2.1, (sX4_takeFigures (sX4_nextToken S) S1 (sX4_itemOfWord S)).2.2))
    else (false, (sX4_nextToken S), S1))
  else (false, S, S1)
def sX4_read_L24  : Nat → Int32 → LSt → LSt → Int32 × LSt × LSt
  | 0, _, _, _ => (0, ((fun _ => 0), fun _ => 0), ((fun _ => 0), fun _ => 0))
  | n24 + 1, x1_24, Y0_24, Y1_24 => if 120 < x1_24 then ((((-10) : Int32) - (Y0_24.1 4)), Y0_24, Y1_24)
    else if ((sX4_nextToken Y0_24).1 3) = 0 then (if ((sX4_nextToken Y0_24).1 1) = 0 then (if (sX4_readItem (sX4_nextToken Y0_24) Y1_24).1 = true then sX4_read_L24  n24 (x1_24 + 1) (sX4_readItem (sX4_nextToken Y0_24) Y1_24).2.1 (sX4_readItem (sX4_nextToken Y0_24) Y1_24).2.2
        else ((((-10) : Int32) - ((sX4_readItem (sX4_nextToken Y0_24) Y1_24).2.1.1 4)), (sX4_readItem (sX4_nextToken Y0_24) Y1_24).2.1, (sX4_readItem (sX4_nextToken Y0_24) Y1_24).2.2))
      else (x1_24, (sX4_nextToken Y0_24), Y1_24))
    else if (sX4_readItem (sX4_nextToken Y0_24) Y1_24).1 = true then sX4_read_L24  n24 (x1_24 + 1) (sX4_readItem (sX4_nextToken Y0_24) Y1_24).2.1 (sX4_readItem (sX4_nextToken Y0_24) Y1_24).2.2
    else ((((-10) : Int32) - ((sX4_readItem (sX4_nextToken Y0_24) Y1_24).2.1.1 4)), (sX4_readItem (sX4_nextToken Y0_24) Y1_24).2.1, (sX4_readItem (sX4_nextToken Y0_24) Y1_24).2.2)
theorem sX4_read_L24_s  (n24 : Nat) (x1_24 : Int32) (Y0_24 : LSt) (Y1_24 : LSt) : sX4_read_L24  (n24 + 1) x1_24 Y0_24 Y1_24 = if 120 < x1_24 then ((((-10) : Int32) - (Y0_24.1 4)), Y0_24, Y1_24)
    else if ((sX4_nextToken Y0_24).1 3) = 0 then (if ((sX4_nextToken Y0_24).1 1) = 0 then (if (sX4_readItem (sX4_nextToken Y0_24) Y1_24).1 = true then sX4_read_L24  n24 (x1_24 + 1) (sX4_readItem (sX4_nextToken Y0_24) Y1_24).2.1 (sX4_readItem (sX4_nextToken Y0_24) Y1_24).2.2
        else ((((-10) : Int32) - ((sX4_readItem (sX4_nextToken Y0_24) Y1_24).2.1.1 4)), (sX4_readItem (sX4_nextToken Y0_24) Y1_24).2.1, (sX4_readItem (sX4_nextToken Y0_24) Y1_24).2.2))
      else (x1_24, (sX4_nextToken Y0_24), Y1_24))
    else if (sX4_readItem (sX4_nextToken Y0_24) Y1_24).1 = true then sX4_read_L24  n24 (x1_24 + 1) (sX4_readItem (sX4_nextToken Y0_24) Y1_24).2.1 (sX4_readItem (sX4_nextToken Y0_24) Y1_24).2.2
    else ((((-10) : Int32) - ((sX4_readItem (sX4_nextToken Y0_24) Y1_24).2.1.1 4)), (sX4_readItem (sX4_nextToken Y0_24) Y1_24).2.1, (sX4_readItem (sX4_nextToken Y0_24) Y1_24).2.2) := rfl
def sX4_read (S : LSt) (S1 : LSt) : Int32 × LSt × LSt :=
  sX4_read_L24  122 (0 : Int32) ((upd (upd (upd S.1 1 0) 2 0) 5 0), S.2) (sX0_makeNew S1)
