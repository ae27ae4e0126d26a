def sJ6_bitCount_0f7a4 (p1 : Int32) : Int32 :=
  ((((((((p1 - ((((p1).toUInt32 >>> (((1 : Int32)).toUInt32 &&& Int32.toUInt32 31)).toInt32) &&& 1431655765)) &&& 858993459) + (((((p1 - ((((p1).toUInt32 >>> (((1 : Int32)).toUInt32 &&& Int32.toUInt32 31)).toInt32) &&& 1431655765))).toUInt32 >>> (((2 : Int32)).toUInt32 &&& Int32.toUInt32 31)).toInt32) &&& 858993459)) + ((((((p1 - ((((p1).toUInt32 >>> (((1 : Int32)).toUInt32 &&& Int32.toUInt32 31)).toInt32) &&& 1431655765)) &&& 858993459) + (((((p1 - ((((p1).toUInt32 >>> (((1 : Int32)).toUInt32 &&& Int32.toUInt32 31)).toInt32) &&& 1431655765))).toUInt32 >>> (((2 : Int32)).toUInt32 &&& Int32.toUInt32 31)).toInt32) &&& 858993459))).toUInt32 >>> (((4 : Int32)).toUInt32 &&& Int32.toUInt32 31)).toInt32)) &&& 252645135) + ((((((((p1 - ((((p1).toUInt32 >>> (((1 : Int32)).toUInt32 &&& Int32.toUInt32 31)).toInt32) &&& 1431655765)) &&& 858993459) + (((((p1 - ((((p1).toUInt32 >>> (((1 : Int32)).toUInt32 &&& Int32.toUInt32 31)).toInt32) &&& 1431655765))).toUInt32 >>> (((2 : Int32)).toUInt32 &&& Int32.toUInt32 31)).toInt32) &&& 858993459)) + ((((((p1 - ((((p1).toUInt32 >>> (((1 : Int32)).toUInt32 &&& Int32.toUInt32 31)).toInt32) &&& 1431655765)) &&& 858993459) + (((((p1 - ((((p1).toUInt32 >>> (((1 : Int32)).toUInt32 &&& Int32.toUInt32 31)).toInt32) &&& 1431655765))).toUInt32 >>> (((2 : Int32)).toUInt32 &&& Int32.toUInt32 31)).toInt32) &&& 858993459))).toUInt32 >>> (((4 : Int32)).toUInt32 &&& Int32.toUInt32 31)).toInt32)) &&& 252645135)).toUInt32 >>> (((8 : Int32)).toUInt32 &&& Int32.toUInt32 31)).toInt32)) + (((((((((p1 - ((((p1).toUInt32 >>> (((1 : Int32)).toUInt32 &&& Int32.toUInt32 31)).toInt32) &&& 1431655765)) &&& 858993459) + (((((p1 - ((((p1).toUInt32 >>> (((1 : Int32)).toUInt32 &&& Int32.toUInt32 31)).toInt32) &&& 1431655765))).toUInt32 >>> (((2 : Int32)).toUInt32 &&& Int32.toUInt32 31)).toInt32) &&& 858993459)) + ((((((p1 - ((((p1).toUInt32 >>> (((1 : Int32)).toUInt32 &&& Int32.toUInt32 31)).toInt32) &&& 1431655765)) &&& 858993459) + (((((p1 - ((((p1).toUInt32 >>> (((1 : Int32)).toUInt32 &&& Int32.toUInt32 31)).toInt32) &&& 1431655765))).toUInt32 >>> (((2 : Int32)).toUInt32 &&& Int32.toUInt32 31)).toInt32) &&& 858993459))).toUInt32 >>> (((4 : Int32)).toUInt32 &&& Int32.toUInt32 31)).toInt32)) &&& 252645135) + ((((((((p1 - ((((p1).toUInt32 >>> (((1 : Int32)).toUInt32 &&& Int32.toUInt32 31)).toInt32) &&& 1431655765)) &&& 858993459) + (((((p1 - ((((p1).toUInt32 >>> (((1 : Int32)).toUInt32 &&& Int32.toUInt32 31)).toInt32) &&& 1431655765))).toUInt32 >>> (((2 : Int32)).toUInt32 &&& Int32.toUInt32 31)).toInt32) &&& 858993459)) + ((((((p1 - ((((p1).toUInt32 >>> (((1 : Int32)).toUInt32 &&& Int32.toUInt32 31)).toInt32) &&& 1431655765)) &&& 858993459) + (((((p1 - ((((p1).toUInt32 >>> (((1 : Int32)).toUInt32 &&& Int32.toUInt32 31)).toInt32) &&& 1431655765))).toUInt32 >>> (((2 : Int32)).toUInt32 &&& Int32.toUInt32 31)).toInt32) &&& 858993459))).toUInt32 >>> (((4 : Int32)).toUInt32 &&& Int32.toUInt32 31)).toInt32)) &&& 252645135)).toUInt32 >>> (((8 : Int32)).toUInt32 &&& Int32.toUInt32 31)).toInt32))).toUInt32 >>> (((16 : Int32)).toUInt32 &&& Int32.toUInt32 31)).toInt32)) &&& 63)
def sJ7_fill_53178_L5 (p2 : Int32) : Nat → Int32 → Int32 → (Nat → Int32) → (Nat → Int32)
  | 0, _, _, _ => (fun _ => 0)
  | n5 + 1, x2_5, x3_5, Y_5 => if x3_5 ≤ x2_5 then Y_5
    else sJ7_fill_53178_L5 p2 n5 (x2_5 + 1) x3_5 (upd Y_5 (x2_5).toNatClampNeg p2)
theorem sJ7_fill_53178_L5_s (p2 : Int32) (n5 : Nat) (x2_5 : Int32) (x3_5 : Int32) (Y_5 : (Nat → Int32)) : sJ7_fill_53178_L5 p2 (n5 + 1) x2_5 x3_5 Y_5 = if x3_5 ≤ x2_5 then Y_5
    else sJ7_fill_53178_L5 p2 n5 (x2_5 + 1) x3_5 (upd Y_5 (x2_5).toNatClampNeg p2) := rfl
def sJ7_fill_53178 (n : Nat) (S : (Nat → Int32)) (p2 : Int32) : (Nat → Int32) :=
  sJ7_fill_53178_L5 p2 (n + 1) (0 : Int32) (nI n) S
def sX0_hasTick (S : LSt) (p1 : Int32) : Bool :=
  if p1 < 0 then false
  else if (S.1 0) ≤ p1 then false
  else true
def sX0_hasNote (S : LSt) (p1 : Int32) : Bool :=
  if p1 < 0 then false
  else if (S.1 0) ≤ p1 then false
  else if (((S.1 1) >>> (p1 &&& 31)) &&& 1) = 1 then true
  else false
def sX0_handAt (S : LSt) (p1 : Int32) : Int32 :=
  (((S.1 2) >>> (p1 &&& 31)) &&& 1)
def sX0_notesOf (S : LSt) (p1 : Int32) : Int32 :=
  if p1 = 0 then ((S.1 1) &&& ((S.1 2) ^^^ (-1)))
  else (S.1 2)
def sX0_isTooSoon (S : LSt) (p1 : Int32) (p2 : Int32) : Bool :=
  if (S.1 3) ≤ (p2 - p1) then false
  else true
def sX0_number (S : LSt) (p1 : Int32) : Int32 :=
  if p1 = 0 then (S.1 3)
  else if p1 = 1 then (S.1 4)
  else (S.1 5)
def sX0_setNumber (S : LSt) (p1 : Int32) (p2 : Int32) : LSt :=
  if p1 = 0 then ((upd S.1 3 p2), S.2)
  else if p1 = 1 then ((upd S.1 4 p2), S.2)
  else ((upd S.1 5 p2), S.2)
def sX0_pitchAt (S : LSt) (p1 : Int32) : Int32 :=
  if p1 < 0 then (0 : Int32)
  else if 12 ≤ p1 then (0 : Int32)
  else (S.2 (p1).toNatClampNeg)
def sX0_setPitch (S : LSt) (p1 : Int32) (p2 : Int32) : LSt :=
  if p1 < 0 then S
  else if p1 < 12 then (if p2 = 0 then (S.1, (upd S.2 (p1).toNatClampNeg p2))
    else ((upd S.1 1 ((S.1 1) ||| ((1 : Int32) <<< (p1 &&& 31)))), (upd S.2 (p1).toNatClampNeg p2)))
  else S
def sX0_isTooFar (S : LSt) (p1 : Int32) (p2 : Int32) : Bool :=
  if (if 0 ≤ ((sX0_pitchAt S p1) - (sX0_pitchAt S p2)) then ((sX0_pitchAt S p1) - (sX0_pitchAt S p2)) else 0 - ((sX0_pitchAt S p1) - (sX0_pitchAt S p2))) ≤ (((S.1 4) + p2) - p1) then false
  else true
def sX0_mayStrike (S : LSt) (p1 : Int32) (p2 : Int32) : Bool :=
  if p1 = (-9) then true
  else if (sX0_isTooSoon S p1 p2) = true then false
  else if (sX0_isTooFar S p1 p2) = true then false
  else true
def sX0_nextOfHand_L15 (S : LSt) (p1 : Int32) : Nat → Int32 → Int32
  | 0, _ => 0
  | n15 + 1, x2_15 => if (S.1 0) ≤ x2_15 then ((-9) : Int32)
    else if (sX0_hasNote S x2_15) = true then (if (sX0_handAt S x2_15) = (sX0_handAt S p1) then x2_15
      else sX0_nextOfHand_L15 S p1 n15 (x2_15 + 1))
    else sX0_nextOfHand_L15 S p1 n15 (x2_15 + 1)
theorem sX0_nextOfHand_L15_s (S : LSt) (p1 : Int32) (n15 : Nat) (x2_15 : Int32)  : sX0_nextOfHand_L15 S p1 (n15 + 1) x2_15 = if (S.1 0) ≤ x2_15 then ((-9) : Int32)
    else if (sX0_hasNote S x2_15) = true then (if (sX0_handAt S x2_15) = (sX0_handAt S p1) then x2_15
      else sX0_nextOfHand_L15 S p1 n15 (x2_15 + 1))
    else sX0_nextOfHand_L15 S p1 n15 (x2_15 + 1) := rfl
def sX0_nextOfHand (S : LSt) (p1 : Int32) : Int32 :=
  if (sX0_hasNote S p1) = true then sX0_nextOfHand_L15 S p1 13 (p1 + 1)
  else ((-9) : Int32)
def sX0_isSoonBehind (S : LSt) (p1 : Int32) : Bool :=
  if (sX0_nextOfHand S p1) = (-9) then false
  else if (sX0_isTooSoon S p1 (sX0_nextOfHand S p1)) = true then true
  else false
def sX0_isFarBehind (S : LSt) (p1 : Int32) : Bool :=
  if (sX0_nextOfHand S p1) = (-9) then false
  else if (sX0_isTooFar S p1 (sX0_nextOfHand S p1)) = true then true
  else false
def sX0_countTooSoon_L4 (S : LSt) : Nat → Int32 → Int32 → Int32
  | 0, _, _ => 0
  | n4 + 1, x1_4, x2_4 => if (S.1 0) ≤ x2_4 then x1_4
    else if (sX0_isSoonBehind S x2_4) = true then sX0_countTooSoon_L4 S n4 (x1_4 + 1) (x2_4 + 1)
    else sX0_countTooSoon_L4 S n4 x1_4 (x2_4 + 1)
theorem sX0_countTooSoon_L4_s (S : LSt) (n4 : Nat) (x1_4 : Int32) (x2_4 : Int32)  : sX0_countTooSoon_L4 S (n4 + 1) x1_4 x2_4 = if (S.1 0) ≤ x2_4 then x1_4
    else if (sX0_isSoonBehind S x2_4) = true then sX0_countTooSoon_L4 S n4 (x1_4 + 1) (x2_4 + 1)
    else sX0_countTooSoon_L4 S n4 x1_4 (x2_4 + 1) := rfl
def sX0_countTooSoon (S : LSt) : Int32 :=
  sX0_countTooSoon_L4 S 13 (0 : Int32) (0 : Int32)
def sX0_countTooFar_L4 (S : LSt) : Nat → Int32 → Int32 → Int32
  | 0, _, _ => 0
  | n4 + 1, x1_4, x2_4 => if (S.1 0) ≤ x2_4 then x1_4
    else if (sX0_isFarBehind S x2_4) = true then sX0_countTooFar_L4 S n4 (x1_4 + 1) (x2_4 + 1)
    else sX0_countTooFar_L4 S n4 x1_4 (x2_4 + 1)
theorem sX0_countTooFar_L4_s (S : LSt) (n4 : Nat) (x1_4 : Int32) (x2_4 : Int32)  : sX0_countTooFar_L4 S (n4 + 1) x1_4 x2_4 = if (S.1 0) ≤ x2_4 then x1_4
    else if (sX0_isFarBehind S x2_4) = true then sX0_countTooFar_L4 S n4 (x1_4 + 1) (x2_4 + 1)
    else sX0_countTooFar_L4 S n4 x1_4 (x2_4 + 1) := rfl
def sX0_countTooFar (S : LSt) : Int32 :=
  sX0_countTooFar_L4 S 13 (0 : Int32) (0 : Int32)
def sX0_isLawful_L9 (S : LSt) (p1 : Int32) : Nat → Int32 → Int32 → Int32 → Bool
  | 0, _, _, _ => false
  | n9 + 1, x2_9, x3_9, x4_9 => if (S.1 0) ≤ x4_9 then true
    else if (sX0_hasNote S x4_9) = true then (if ((p1 >>> (x4_9 &&& 31)) &&& 1) = 1 then (if (sX0_mayStrike S x3_9 x4_9) = true then sX0_isLawful_L9 S p1 n9 x2_9 x4_9 (x4_9 + 1)
        else false)
      else if (sX0_mayStrike S x2_9 x4_9) = true then sX0_isLawful_L9 S p1 n9 x4_9 x3_9 (x4_9 + 1)
      else false)
    else sX0_isLawful_L9 S p1 n9 x2_9 x3_9 (x4_9 + 1)
theorem sX0_isLawful_L9_s (S : LSt) (p1 : Int32) (n9 : Nat) (x2_9 : Int32) (x3_9 : Int32) (x4_9 : Int32)  : sX0_isLawful_L9 S p1 (n9 + 1) x2_9 x3_9 x4_9 = if (S.1 0) ≤ x4_9 then true
    else if (sX0_hasNote S x4_9) = true then (if ((p1 >>> (x4_9 &&& 31)) &&& 1) = 1 then (if (sX0_mayStrike S x3_9 x4_9) = true then sX0_isLawful_L9 S p1 n9 x2_9 x4_9 (x4_9 + 1)
        else false)
      else if (sX0_mayStrike S x2_9 x4_9) = true then sX0_isLawful_L9 S p1 n9 x4_9 x3_9 (x4_9 + 1)
      else false)
    else sX0_isLawful_L9 S p1 n9 x2_9 x3_9 (x4_9 + 1) := rfl
def sX0_isLawful (S : LSt) (p1 : Int32) : Bool :=
  sX0_isLawful_L9 S p1 13 ((-9) : Int32) ((-9) : Int32) (0 : Int32)
def sX0_likeness (S : LSt) (p1 : Int32) : Int32 :=
  (sJ6_bitCount_0f7a4 (((S.1 1) &&& ((S.1 1) >>> ((S.1 5) &&& 31))) &&& ((p1 ^^^ (p1 >>> ((S.1 5) &&& 31))) ^^^ (-1))))
def sX0_tilt (S : LSt) (p1 : Int32) : Int32 :=
  ((sJ6_bitCount_0f7a4 (S.1 1)) - ((2 : Int32) * (sJ6_bitCount_0f7a4 p1)))
def sX0_pitchesUsed_L4 (S : LSt) : Nat → Int32 → Int32 → Int32
  | 0, _, _ => 0
  | n4 + 1, x1_4, x2_4 => if (S.1 0) ≤ x2_4 then x1_4
    else if (sX0_hasNote S x2_4) = true then sX0_pitchesUsed_L4 S n4 (x1_4 ||| ((1 : Int32) <<< (((sX0_pitchAt S x2_4) - 1) &&& 31))) (x2_4 + 1)
    else sX0_pitchesUsed_L4 S n4 x1_4 (x2_4 + 1)
theorem sX0_pitchesUsed_L4_s (S : LSt) (n4 : Nat) (x1_4 : Int32) (x2_4 : Int32)  : sX0_pitchesUsed_L4 S (n4 + 1) x1_4 x2_4 = if (S.1 0) ≤ x2_4 then x1_4
    else if (sX0_hasNote S x2_4) = true then sX0_pitchesUsed_L4 S n4 (x1_4 ||| ((1 : Int32) <<< (((sX0_pitchAt S x2_4) - 1) &&& 31))) (x2_4 + 1)
    else sX0_pitchesUsed_L4 S n4 x1_4 (x2_4 + 1) := rfl
def sX0_pitchesUsed (S : LSt) : Int32 :=
  sX0_pitchesUsed_L4 S 13 (0 : Int32) (0 : Int32)
def sX0_shareByTable_L4 (S : LSt) (p1 : Int32) : Nat → Int32 → Int32 → Int32
  | 0, _, _ => 0
  | n4 + 1, x2_4, x3_4 => if (S.1 0) ≤ x3_4 then x2_4
    else if (sX0_hasNote S x3_4) = true then (if ((p1 >>> (((sX0_pitchAt S x3_4) - 1) &&& 31)) &&& 1) = 1 then sX0_shareByTable_L4 S p1 n4 (x2_4 ||| ((1 : Int32) <<< (x3_4 &&& 31))) (x3_4 + 1)
      else sX0_shareByTable_L4 S p1 n4 x2_4 (x3_4 + 1))
    else sX0_shareByTable_L4 S p1 n4 x2_4 (x3_4 + 1)
theorem sX0_shareByTable_L4_s (S : LSt) (p1 : Int32) (n4 : Nat) (x2_4 : Int32) (x3_4 : Int32)  : sX0_shareByTable_L4 S p1 (n4 + 1) x2_4 x3_4 = if (S.1 0) ≤ x3_4 then x2_4
    else if (sX0_hasNote S x3_4) = true then (if ((p1 >>> (((sX0_pitchAt S x3_4) - 1) &&& 31)) &&& 1) = 1 then sX0_shareByTable_L4 S p1 n4 (x2_4 ||| ((1 : Int32) <<< (x3_4 &&& 31))) (x3_4 + 1)
      else sX0_shareByTable_L4 S p1 n4 x2_4 (x3_4 + 1))
    else sX0_shareByTable_L4 S p1 n4 x2_4 (x3_4 + 1) := rfl
def sX0_shareByTable (S : LSt) (p1 : Int32) : Int32 :=
  sX0_shareByTable_L4 S p1 13 (0 : Int32) (0 : Int32)
def sX0_copyFrom (S : LSt) (S1 : LSt) : LSt :=
  ((upd (upd (upd (upd (upd (upd S.1 0 (S1.1 0)) 1 (S1.1 1)) 2 (S1.1 2)) 3 (S1.1 3)) 4 (S1.1 4)) 5 (S1.1 5)), (va_cpy S1.2 S.2 0 0 12))
def sX0_makeNew (S : LSt) : LSt :=
  ((upd (upd (upd (upd (upd (upd S.1 0 1) 1 0) 2 0) 3 2) 4 2) 5 4), (sJ7_fill_53178 12 S.2 (0 : Int32)))
