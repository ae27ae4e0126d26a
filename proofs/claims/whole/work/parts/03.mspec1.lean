def sX6_within (p1 : Int32) (p2 : Int32) (p3 : Int32) : Bool :=
  if p1 < p2 then false
  else if p3 < p1 then false
  else true
def sX6_has (p1 : Int32) (p2 : Int32) : Bool :=
  if ((p1 >>> (p2 &&& 31)) &&& 1) = 1 then true
  else false
def sX6_least (p1 : Int32) : Int32 :=
  if p1 = 1 then (1 : Int32)
  else if p1 = 2 then (0 : Int32)
  else (2 : Int32)
def sX6_greatest (p1 : Int32) : Int32 :=
  if p1 = 1 then (5 : Int32)
  else (6 : Int32)
def sX6_isHand (p1 : Int32) : Bool :=
  if p1 = 0 then true
  else if p1 = 1 then true
  else false
def sX6_off (p1 : Int32) : Int32 :=
  if 0 ≤ p1 then p1
  else (-p1)
def sX6_ones_L4 (p1 : Int32) : Nat → Int32 → Int32 → Int32
  | 0, _, _ => 0
  | n4 + 1, x1_4, x2_4 => if 12 ≤ x2_4 then x1_4
    else sX6_ones_L4 p1 n4 (x1_4 + ((p1 >>> (x2_4 &&& 31)) &&& 1)) (x2_4 + 1)
theorem sX6_ones_L4_s (p1 : Int32) (n4 : Nat) (x1_4 : Int32) (x2_4 : Int32)  : sX6_ones_L4 p1 (n4 + 1) x1_4 x2_4 = if 12 ≤ x2_4 then x1_4
    else sX6_ones_L4 p1 n4 (x1_4 + ((p1 >>> (x2_4 &&& 31)) &&& 1)) (x2_4 + 1) := rfl
def sX6_ones (p1 : Int32) : Int32 :=
  sX6_ones_L4 p1 13 (0 : Int32) (0 : Int32)
def sX6_isTick (S : MSt) (p1 : Int32) : Bool :=
  (sX6_within p1 (0 : Int32) (((S.2 0) 0) - 1))
def sX6_isNote (S : MSt) (p1 : Int32) : Bool :=
  if (sX6_isTick S p1) = true then (if ((S.2 0) (((4 : Int32) + p1)).toNatClampNeg) ≤ 0 then false
    else true)
  else false
def sX6_notes_L4 (S : MSt) : Nat → Int32 → Int32 → Int32
  | 0, _, _ => 0
  | n4 + 1, x1_4, x2_4 => if ((S.2 0) 0) ≤ x2_4 then x1_4
    else if (sX6_isNote S x2_4) = true then sX6_notes_L4 S n4 (x1_4 + 1) (x2_4 + 1)
    else sX6_notes_L4 S n4 (x1_4 + 0) (x2_4 + 1)
theorem sX6_notes_L4_s (S : MSt) (n4 : Nat) (x1_4 : Int32) (x2_4 : Int32)  : sX6_notes_L4 S (n4 + 1) x1_4 x2_4 = if ((S.2 0) 0) ≤ x2_4 then x1_4
    else if (sX6_isNote S x2_4) = true then sX6_notes_L4 S n4 (x1_4 + 1) (x2_4 + 1)
    else sX6_notes_L4 S n4 (x1_4 + 0) (x2_4 + 1) := rfl
def sX6_notes (S : MSt) : Int32 :=
  sX6_notes_L4 S 13 (0 : Int32) (0 : Int32)
def sX6_nextOf_L4 (S : MSt) (p1 : Int32) (p2 : Int32) : Nat → Int32 → Int32
  | 0, _ => 0
  | n4 + 1, x3_4 => if ((S.2 0) 0) ≤ x3_4 then ((-9) : Int32)
    else if (sX6_isNote S x3_4) = true then (if (sX6_has p1 x3_4) = (sX6_has p1 p2) then x3_4
      else sX6_nextOf_L4 S p1 p2 n4 (x3_4 + 1))
    else sX6_nextOf_L4 S p1 p2 n4 (x3_4 + 1)
theorem sX6_nextOf_L4_s (S : MSt) (p1 : Int32) (p2 : Int32) (n4 : Nat) (x3_4 : Int32)  : sX6_nextOf_L4 S p1 p2 (n4 + 1) x3_4 = if ((S.2 0) 0) ≤ x3_4 then ((-9) : Int32)
    else if (sX6_isNote S x3_4) = true then (if (sX6_has p1 x3_4) = (sX6_has p1 p2) then x3_4
      else sX6_nextOf_L4 S p1 p2 n4 (x3_4 + 1))
    else sX6_nextOf_L4 S p1 p2 n4 (x3_4 + 1) := rfl
def sX6_nextOf (S : MSt) (p1 : Int32) (p2 : Int32) : Int32 :=
  sX6_nextOf_L4 S p1 p2 13 (p2 + 1)
def sX6_isSoon (S : MSt) (p1 : Int32) (p2 : Int32) (p3 : Int32) : Bool :=
  if (sX6_isNote S p2) = true then (if (sX6_nextOf S p1 p2) = (-9) then false
    else if p3 ≤ ((sX6_nextOf S p1 p2) - p2) then false
    else true)
  else false
def sX6_isFar (S : MSt) (p1 : Int32) (p2 : Int32) : Bool :=
  if (sX6_isNote S p2) = true then (if (sX6_nextOf S p1 p2) = (-9) then false
    else if 0 ≤ (((S.2 0) (((4 : Int32) + (sX6_nextOf S p1 p2))).toNatClampNeg) - ((S.2 0) (((4 : Int32) + p2)).toNatClampNeg)) then (if (((S.2 0) (((4 : Int32) + (sX6_nextOf S p1 p2))).toNatClampNeg) - ((S.2 0) (((4 : Int32) + p2)).toNatClampNeg)) ≤ ((((S.2 0) 2) + (sX6_nextOf S p1 p2)) - p2) then false
      else true)
    else if (-(((S.2 0) (((4 : Int32) + (sX6_nextOf S p1 p2))).toNatClampNeg) - ((S.2 0) (((4 : Int32) + p2)).toNatClampNeg))) ≤ ((((S.2 0) 2) + (sX6_nextOf S p1 p2)) - p2) then false
    else true)
  else false
def sX6_isLawful_L5 (S : MSt) (p1 : Int32) (p2 : Int32) : Nat → Bool → Int32 → Bool
  | 0, _, _ => false
  | n5 + 1, x3_5, x4_5 => if ((S.2 0) 0) ≤ x4_5 then x3_5
    else if x3_5 = true then (if (sX6_isSoon S p1 x4_5 p2) = true then sX6_isLawful_L5 S p1 p2 n5 false (x4_5 + 1)
      else if (sX6_isFar S p1 x4_5) = true then sX6_isLawful_L5 S p1 p2 n5 false (x4_5 + 1)
      else sX6_isLawful_L5 S p1 p2 n5 true (x4_5 + 1))
    else x3_5
theorem sX6_isLawful_L5_s (S : MSt) (p1 : Int32) (p2 : Int32) (n5 : Nat) (x3_5 : Bool) (x4_5 : Int32)  : sX6_isLawful_L5 S p1 p2 (n5 + 1) x3_5 x4_5 = if ((S.2 0) 0) ≤ x4_5 then x3_5
    else if x3_5 = true then (if (sX6_isSoon S p1 x4_5 p2) = true then sX6_isLawful_L5 S p1 p2 n5 false (x4_5 + 1)
      else if (sX6_isFar S p1 x4_5) = true then sX6_isLawful_L5 S p1 p2 n5 false (x4_5 + 1)
      else sX6_isLawful_L5 S p1 p2 n5 true (x4_5 + 1))
    else x3_5 := rfl
def sX6_isLawful (S : MSt) (p1 : Int32) (p2 : Int32) : Bool :=
  sX6_isLawful_L5 S p1 p2 13 true (0 : Int32)
def sX6_isLawfulNow (S : MSt) (p1 : Int32) : Bool :=
  (sX6_isLawful S p1 ((S.2 0) 1))
def sX6_likeness_L4 (S : MSt) (p1 : Int32) : Nat → Int32 → Int32 → Int32
  | 0, _, _ => 0
  | n4 + 1, x2_4, x3_4 => if ((S.2 0) 0) ≤ x3_4 then x2_4
    else if (sX6_isNote S x3_4) = true then (if (sX6_isNote S (x3_4 + ((S.2 0) 3))) = true then (if (sX6_has p1 x3_4) = (sX6_has p1 (x3_4 + ((S.2 0) 3))) then sX6_likeness_L4 S p1 n4 (x2_4 + 1) (x3_4 + 1)
        else sX6_likeness_L4 S p1 n4 (x2_4 + 0) (x3_4 + 1))
      else sX6_likeness_L4 S p1 n4 (x2_4 + 0) (x3_4 + 1))
    else sX6_likeness_L4 S p1 n4 (x2_4 + 0) (x3_4 + 1)
theorem sX6_likeness_L4_s (S : MSt) (p1 : Int32) (n4 : Nat) (x2_4 : Int32) (x3_4 : Int32)  : sX6_likeness_L4 S p1 (n4 + 1) x2_4 x3_4 = if ((S.2 0) 0) ≤ x3_4 then x2_4
    else if (sX6_isNote S x3_4) = true then (if (sX6_isNote S (x3_4 + ((S.2 0) 3))) = true then (if (sX6_has p1 x3_4) = (sX6_has p1 (x3_4 + ((S.2 0) 3))) then sX6_likeness_L4 S p1 n4 (x2_4 + 1) (x3_4 + 1)
        else sX6_likeness_L4 S p1 n4 (x2_4 + 0) (x3_4 + 1))
      else sX6_likeness_L4 S p1 n4 (x2_4 + 0) (x3_4 + 1))
    else sX6_likeness_L4 S p1 n4 (x2_4 + 0) (x3_4 + 1) := rfl
def sX6_likeness (S : MSt) (p1 : Int32) : Int32 :=
  sX6_likeness_L4 S p1 13 (0 : Int32) (0 : Int32)
def sX6_tilt_L4 (S : MSt) (p1 : Int32) : Nat → Int32 → Int32 → Int32
  | 0, _, _ => 0
  | n4 + 1, x2_4, x3_4 => if ((S.2 0) 0) ≤ x3_4 then x2_4
    else if (sX6_isNote S x3_4) = true then (if (sX6_has p1 x3_4) = true then sX6_tilt_L4 S p1 n4 (x2_4 + (-1)) (x3_4 + 1)
      else sX6_tilt_L4 S p1 n4 (x2_4 + 1) (x3_4 + 1))
    else sX6_tilt_L4 S p1 n4 (x2_4 + 0) (x3_4 + 1)
theorem sX6_tilt_L4_s (S : MSt) (p1 : Int32) (n4 : Nat) (x2_4 : Int32) (x3_4 : Int32)  : sX6_tilt_L4 S p1 (n4 + 1) x2_4 x3_4 = if ((S.2 0) 0) ≤ x3_4 then x2_4
    else if (sX6_isNote S x3_4) = true then (if (sX6_has p1 x3_4) = true then sX6_tilt_L4 S p1 n4 (x2_4 + (-1)) (x3_4 + 1)
      else sX6_tilt_L4 S p1 n4 (x2_4 + 1) (x3_4 + 1))
    else sX6_tilt_L4 S p1 n4 (x2_4 + 0) (x3_4 + 1) := rfl
def sX6_tilt (S : MSt) (p1 : Int32) : Int32 :=
  sX6_tilt_L4 S p1 13 (0 : Int32) (0 : Int32)
def sX6_ofHand_L4 (S : MSt) (p1 : Int32) : Nat → Int32 → Int32 → Int32
  | 0, _, _ => 0
  | n4 + 1, x2_4, x3_4 => if ((S.2 0) 0) ≤ x3_4 then x2_4
    else if (sX6_isNote S x3_4) = true then (if ((((S.2 0) 16) >>> (x3_4 &&& 31)) &&& 1) = p1 then sX6_ofHand_L4 S p1 n4 (x2_4 + 1) (x3_4 + 1)
      else sX6_ofHand_L4 S p1 n4 (x2_4 + 0) (x3_4 + 1))
    else sX6_ofHand_L4 S p1 n4 (x2_4 + 0) (x3_4 + 1)
theorem sX6_ofHand_L4_s (S : MSt) (p1 : Int32) (n4 : Nat) (x2_4 : Int32) (x3_4 : Int32)  : sX6_ofHand_L4 S p1 (n4 + 1) x2_4 x3_4 = if ((S.2 0) 0) ≤ x3_4 then x2_4
    else if (sX6_isNote S x3_4) = true then (if ((((S.2 0) 16) >>> (x3_4 &&& 31)) &&& 1) = p1 then sX6_ofHand_L4 S p1 n4 (x2_4 + 1) (x3_4 + 1)
      else sX6_ofHand_L4 S p1 n4 (x2_4 + 0) (x3_4 + 1))
    else sX6_ofHand_L4 S p1 n4 (x2_4 + 0) (x3_4 + 1) := rfl
def sX6_ofHand (S : MSt) (p1 : Int32) : Int32 :=
  sX6_ofHand_L4 S p1 13 (0 : Int32) (0 : Int32)
def sX6_shareOf_L14 (S : MSt) : Nat → Int32 → Int32 → Int32 → Int32
  | 0, _, _, _ => 0
  | n14 + 1, x2_14, x3_14, x4_14 => if x4_14 < 0 then x3_14
    else if (sX6_isNote S x4_14) = true then sX6_shareOf_L14 S n14 (x2_14 >>> ((1 : Int32) &&& 31)) (x3_14 ||| ((x2_14 &&& 1) <<< (x4_14 &&& 31))) (x4_14 + (-1))
    else sX6_shareOf_L14 S n14 x2_14 x3_14 (x4_14 + (-1))
theorem sX6_shareOf_L14_s (S : MSt) (n14 : Nat) (x2_14 : Int32) (x3_14 : Int32) (x4_14 : Int32)  : sX6_shareOf_L14 S (n14 + 1) x2_14 x3_14 x4_14 = if x4_14 < 0 then x3_14
    else if (sX6_isNote S x4_14) = true then sX6_shareOf_L14 S n14 (x2_14 >>> ((1 : Int32) &&& 31)) (x3_14 ||| ((x2_14 &&& 1) <<< (x4_14 &&& 31))) (x4_14 + (-1))
    else sX6_shareOf_L14 S n14 x2_14 x3_14 (x4_14 + (-1)) := rfl
def sX6_shareOf (S : MSt) (p1 : Int32) : Int32 :=
  sX6_shareOf_L14 S 13 p1 (0 : Int32) (((S.2 0) 0) - 1)
def sX6_isBetter (S : MSt) (p1 : Int32) (p2 : Int32) : Bool :=
  if 0 < ((sX6_likeness S p1) - (sX6_likeness S p2)) then true
  else if ((sX6_likeness S p1) - (sX6_likeness S p2)) = 0 then (if (sX6_off (sX6_tilt S p2)) ≤ (sX6_off (sX6_tilt S p1)) then false
    else true)
  else false
def sX6_pairs_L4 (S : MSt) (p1 : Bool) : Nat → Int32 → Int32 → Int32
  | 0, _, _ => 0
  | n4 + 1, x2_4, x3_4 => if ((S.2 0) 0) ≤ x3_4 then x2_4
    else if p1 = true then (if (sX6_isSoon S ((S.2 0) 16) x3_4 ((S.2 0) 1)) = true then sX6_pairs_L4 S p1 n4 (x2_4 + 1) (x3_4 + 1)
      else sX6_pairs_L4 S p1 n4 (x2_4 + 0) (x3_4 + 1))
    else if (sX6_isFar S ((S.2 0) 16) x3_4) = true then sX6_pairs_L4 S p1 n4 (x2_4 + 1) (x3_4 + 1)
    else sX6_pairs_L4 S p1 n4 (x2_4 + 0) (x3_4 + 1)
theorem sX6_pairs_L4_s (S : MSt) (p1 : Bool) (n4 : Nat) (x2_4 : Int32) (x3_4 : Int32)  : sX6_pairs_L4 S p1 (n4 + 1) x2_4 x3_4 = if ((S.2 0) 0) ≤ x3_4 then x2_4
    else if p1 = true then (if (sX6_isSoon S ((S.2 0) 16) x3_4 ((S.2 0) 1)) = true then sX6_pairs_L4 S p1 n4 (x2_4 + 1) (x3_4 + 1)
      else sX6_pairs_L4 S p1 n4 (x2_4 + 0) (x3_4 + 1))
    else if (sX6_isFar S ((S.2 0) 16) x3_4) = true then sX6_pairs_L4 S p1 n4 (x2_4 + 1) (x3_4 + 1)
    else sX6_pairs_L4 S p1 n4 (x2_4 + 0) (x3_4 + 1) := rfl
def sX6_pairs (S : MSt) (p1 : Bool) : Int32 :=
  sX6_pairs_L4 S p1 13 (0 : Int32) (0 : Int32)
def sX6_shareBy_L4 (S : MSt) (p1 : Int32) : Nat → Int32 → Int32 → Int32
  | 0, _, _ => 0
  | n4 + 1, x2_4, x3_4 => if ((S.2 0) 0) ≤ x3_4 then x2_4
    else if (sX6_isNote S x3_4) = true then (if (sX6_has p1 (((S.2 0) (((4 : Int32) + x3_4)).toNatClampNeg) - 1)) = true then sX6_shareBy_L4 S p1 n4 (x2_4 ||| ((1 : Int32) <<< (x3_4 &&& 31))) (x3_4 + 1)
      else sX6_shareBy_L4 S p1 n4 (x2_4 ||| 0) (x3_4 + 1))
    else sX6_shareBy_L4 S p1 n4 (x2_4 ||| 0) (x3_4 + 1)
theorem sX6_shareBy_L4_s (S : MSt) (p1 : Int32) (n4 : Nat) (x2_4 : Int32) (x3_4 : Int32)  : sX6_shareBy_L4 S p1 (n4 + 1) x2_4 x3_4 = if ((S.2 0) 0) ≤ x3_4 then x2_4
    else if (sX6_isNote S x3_4) = true then (if (sX6_has p1 (((S.2 0) (((4 : Int32) + x3_4)).toNatClampNeg) - 1)) = true then sX6_shareBy_L4 S p1 n4 (x2_4 ||| ((1 : Int32) <<< (x3_4 &&& 31))) (x3_4 + 1)
      else sX6_shareBy_L4 S p1 n4 (x2_4 ||| 0) (x3_4 + 1))
    else sX6_shareBy_L4 S p1 n4 (x2_4 ||| 0) (x3_4 + 1) := rfl
def sX6_shareBy (S : MSt) (p1 : Int32) : Int32 :=
  sX6_shareBy_L4 S p1 13 (0 : Int32) (0 : Int32)
def sX6_pitches_L4 (S : MSt) : Nat → Int32 → Int32 → Int32
  | 0, _, _ => 0
  | n4 + 1, x1_4, x2_4 => if ((S.2 0) 0) ≤ x2_4 then x1_4
    else if (sX6_isNote S x2_4) = true then sX6_pitches_L4 S n4 (x1_4 ||| ((1 : Int32) <<< ((((S.2 0) (((4 : Int32) + x2_4)).toNatClampNeg) - 1) &&& 31))) (x2_4 + 1)
    else sX6_pitches_L4 S n4 (x1_4 ||| 0) (x2_4 + 1)
theorem sX6_pitches_L4_s (S : MSt) (n4 : Nat) (x1_4 : Int32) (x2_4 : Int32)  : sX6_pitches_L4 S (n4 + 1) x1_4 x2_4 = if ((S.2 0) 0) ≤ x2_4 then x1_4
    else if (sX6_isNote S x2_4) = true then sX6_pitches_L4 S n4 (x1_4 ||| ((1 : Int32) <<< ((((S.2 0) (((4 : Int32) + x2_4)).toNatClampNeg) - 1) &&& 31))) (x2_4 + 1)
    else sX6_pitches_L4 S n4 (x1_4 ||| 0) (x2_4 + 1) := rfl
def sX6_pitches (S : MSt) : Int32 :=
  sX6_pitches_L4 S 13 (0 : Int32) (0 : Int32)
def sX6_isTable (S : MSt) (p1 : Int32) : Bool :=
  if (p1 &&& ((sX6_pitches S) ^^^ (-1))) = 0 then (if (sX6_isLawfulNow S (sX6_shareBy S p1)) = true then true
    else false)
  else false
def sX6_share (S : MSt) (p1 : Int32) : Int32 :=
  if p1 = 0 then (sX6_pairs S true)
  else if p1 = 1 then (sX6_pairs S false)
  else if p1 = 2 then (sX6_likeness S ((S.2 0) 16))
  else if p1 = 3 then (sX6_tilt S ((S.2 0) 16))
  else if p1 = 4 then (if (sX6_isLawfulNow S ((S.2 0) 16)) = true then (1 : Int32)
    else (0 : Int32))
  else ((-1000000) : Int32)
def sX6_tick (S : MSt) (p1 : Int32) (p2 : Int32) : Int32 :=
  if (sX6_isTick S p1) = true then (if (sX6_within p2 (0 : Int32) (3 : Int32)) = true then (if p2 = 0 then ((S.2 0) (((4 : Int32) + p1)).toNatClampNeg)
      else if p2 = 1 then (if (sX6_isNote S p1) = true then ((((S.2 0) 16) >>> (p1 &&& 31)) &&& 1)
        else ((-9) : Int32))
      else if p2 = 2 then (if (sX6_isSoon S ((S.2 0) 16) p1 ((S.2 0) 1)) = true then (1 : Int32)
        else (0 : Int32))
      else if (sX6_isFar S ((S.2 0) 16) p1) = true then (1 : Int32)
      else (0 : Int32))
    else ((-1) : Int32))
  else ((-1) : Int32)
def sX6_count (S : MSt) (p1 : Int32) : Int32 :=
  if p1 = 0 then ((S.2 0) 0)
  else if p1 = 1 then (sX6_notes S)
  else if p1 = 2 then ((S.2 0) 1)
  else if p1 = 3 then ((S.2 0) 2)
  else if p1 = 4 then ((S.2 0) 3)
  else if p1 = 5 then (S.1 1)
  else if p1 = 6 then (S.1 2)
  else if p1 = 7 then (S.1 0)
  else ((-1) : Int32)
