def sX5_isHand (p1 : Int32) : Bool :=
  if p1 = 0 then true
  else if p1 = 1 then true
  else false
def sX5_ticksFrom (p1 : Int32) (p2 : Int32) : Int32 :=
  ((((1 : Int32) <<< (p2 &&& 31)) - 1) <<< (p1 &&& 31))
def sX5_isNumber (p1 : Int32) (p2 : Int32) : Bool :=
  if p1 < 0 then false
  else if 2 < p1 then false
  else if p2 < (nbLeast (p1).toNatClampNeg) then false
  else if (nbMost (p1).toNatClampNeg) < p2 then false
  else true
def sX2_lookAt (S : SSt) (S1 : LSt) (S2 : LSt) : LSt :=
  (sX0_copyFrom S1 S2)
def sX2_isUnlike (S : SSt) (S1 : LSt) (p1 : Int32) (p2 : Int32) : Bool :=
  if (sX0_hasNote S1 (p1 - (S1.1 5))) = true then (if ((p2 >>> (p1 &&& 31)) &&& 1) = ((p2 >>> ((p1 - (S1.1 5)) &&& 31)) &&& 1) then false
    else true)
  else false
def sX2_costAt (S : SSt) (S1 : LSt) (p1 : Int32) (p2 : Int32) : Int32 :=
  if (S 1) = 1 then (if (sX2_isUnlike S S1 p1 p2) = true then (100 : Int32)
    else (0 : Int32))
  else if (S 1) = 2 then (((p2 ^^^ (S1.1 2)) >>> (p1 &&& 31)) &&& 1)
  else (0 : Int32)
def sX2_weigh (S : SSt) (S1 : LSt) (p1 : Int32) (p2 : Int32) : SSt :=
  if (S 1) = 1 then (if (S 2) ≤ (p2 + (if 0 ≤ (sX0_tilt S1 p1) then (sX0_tilt S1 p1) else 0 - (sX0_tilt S1 p1))) then S
    else (upd (upd S 2 (p2 + (if 0 ≤ (sX0_tilt S1 p1) then (sX0_tilt S1 p1) else 0 - (sX0_tilt S1 p1)))) 0 p1))
  else if (S 2) ≤ p2 then S
  else (upd (upd S 2 p2) 0 p1)
def sX2_goOn : Nat → SSt → LSt → Int32 → Int32 → Int32 → Int32 → Int32 → SSt
  | 0, S, _, _, _, _, _, _ => S
  | d + 1, S, S1, p1, p2, p3, p4, p5 => if p5 < (S 2) then (if p1 < (S1.1 0) then (if (sX0_hasNote S1 p1) = true then (if (sX0_mayStrike S1 p3 p1) = true then (if (sX0_mayStrike S1 p4 p1) = true then (sX2_goOn d (sX2_goOn d S S1 (p1 + 1) p2 p1 p4 (p5 + (sX2_costAt S S1 p1 p2))) S1 (p1 + 1) (p2 ||| ((1 : Int32) <<< (p1 &&& 31))) p3 p1 (p5 + (sX2_costAt (sX2_goOn d S S1 (p1 + 1) p2 p1 p4 (p5 + (sX2_costAt S S1 p1 p2))) S1 p1 (p2 ||| ((1 : Int32) <<< (p1 &&& 31))))))
            else (sX2_goOn d S S1 (p1 + 1) p2 p1 p4 (p5 + (sX2_costAt S S1 p1 p2))))
          else if (sX0_mayStrike S1 p4 p1) = true then (sX2_goOn d S S1 (p1 + 1) (p2 ||| ((1 : Int32) <<< (p1 &&& 31))) p3 p1 (p5 + (sX2_costAt S S1 p1 (p2 ||| ((1 : Int32) <<< (p1 &&& 31))))))
          else S)
        else (sX2_goOn d S S1 (p1 + 1) p2 p3 p4 p5))
      else (sX2_weigh S S1 p2 p5))
    else S
theorem sX2_goOn_s (d : Nat) (S : SSt) (S1 : LSt) (p1 : Int32) (p2 : Int32) (p3 : Int32) (p4 : Int32) (p5 : Int32) : sX2_goOn (d + 1) S S1 p1 p2 p3 p4 p5 = if p5 < (S 2) then (if p1 < (S1.1 0) then (if (sX0_hasNote S1 p1) = true then (if (sX0_mayStrike S1 p3 p1) = true then (if (sX0_mayStrike S1 p4 p1) = true then (sX2_goOn d (sX2_goOn d S S1 (p1 + 1) p2 p1 p4 (p5 + (sX2_costAt S S1 p1 p2))) S1 (p1 + 1) (p2 ||| ((1 : Int32) <<< (p1 &&& 31))) p3 p1 (p5 + (sX2_costAt (sX2_goOn d S S1 (p1 + 1) p2 p1 p4 (p5 + (sX2_costAt S S1 p1 p2))) S1 p1 (p2 ||| ((1 : Int32) <<< (p1 &&& 31))))))
            else (sX2_goOn d S S1 (p1 + 1) p2 p1 p4 (p5 + (sX2_costAt S S1 p1 p2))))
          else if (sX0_mayStrike S1 p4 p1) = true then (sX2_goOn d S S1 (p1 + 1) (p2 ||| ((1 : Int32) <<< (p1 &&& 31))) p3 p1 (p5 + (sX2_costAt S S1 p1 (p2 ||| ((1 : Int32) <<< (p1 &&& 31))))))
          else S)
        else (sX2_goOn d S S1 (p1 + 1) p2 p3 p4 p5))
      else (sX2_weigh S S1 p2 p5))
    else S := rfl
def sX2_find (S : SSt) (S1 : LSt) (p1 : Int32) : Bool × SSt :=
  if 1000000 ≤ ((sX2_goOn 14 (upd (upd (upd S 1 p1) 0 0) 2 1000000) S1 (0 : Int32) (0 : Int32) ((-9) : Int32) ((-9) : Int32) (0 : Int32)) 2) then (false, (sX2_goOn 14 (upd (upd (upd S 1 p1) 0 0) 2 1000000) S1 (0 : Int32) (0 : Int32) ((-9) : Int32) ((-9) : Int32) (0 : Int32)))
  else (true, (sX2_goOn 14 (upd (upd (upd S 1 p1) 0 0) 2 1000000) S1 (0 : Int32) (0 : Int32) ((-9) : Int32) ((-9) : Int32) (0 : Int32)))
def sX3_include_L24 (p2 : Int32) : Nat → Int32 → LSt → LSt
  | 0, _, _ => ((fun _ => 0), fun _ => 0)
  | n24 + 1, x3_24, Y_24 => if 12 ≤ x3_24 then Y_24
    else sX3_include_L24 p2 n24 (x3_24 + 1) (Y_24.1, (upd Y_24.2 (x3_24).toNatClampNeg ((Y_24.2 (x3_24).toNatClampNeg) + ((p2 >>> (x3_24 &&& 31)) &&& 1))))
theorem sX3_include_L24_s (p2 : Int32) (n24 : Nat) (x3_24 : Int32) (Y_24 : LSt) : sX3_include_L24 p2 (n24 + 1) x3_24 Y_24 = if 12 ≤ x3_24 then Y_24
    else sX3_include_L24 p2 n24 (x3_24 + 1) (Y_24.1, (upd Y_24.2 (x3_24).toNatClampNeg ((Y_24.2 (x3_24).toNatClampNeg) + ((p2 >>> (x3_24 &&& 31)) &&& 1)))) := rfl
def sX3_include (S : LSt) (p1 : Int32) (p2 : Int32) : LSt :=
  if (S.1 0) = 0 then sX3_include_L24 p2 13 (0 : Int32) ((upd (upd S.1 1 p1) 0 ((S.1 0) + 1)), S.2)
  else sX3_include_L24 p2 13 (0 : Int32) ((upd S.1 0 ((S.1 0) + 1)), S.2)
def sX3_tickThatHalvesBest_L13 (S : LSt) (S1 : LSt) : Nat → Int32 → Int32 → Int32 → Int32
  | 0, _, _, _ => 0
  | n13 + 1, x2_13, x3_13, x4_13 => if 12 ≤ x4_13 then x2_13
    else if (sX0_hasNote S1 x4_13) = true then (if x3_13 ≤ (if (S.2 (x4_13).toNatClampNeg) < ((S.1 0) - (S.2 (x4_13).toNatClampNeg)) then ((S.1 0) - (S.2 (x4_13).toNatClampNeg)) else (S.2 (x4_13).toNatClampNeg)) then sX3_tickThatHalvesBest_L13 S S1 n13 x2_13 x3_13 (x4_13 + 1)
      else sX3_tickThatHalvesBest_L13 S S1 n13 x4_13 (if (S.2 (x4_13).toNatClampNeg) < ((S.1 0) - (S.2 (x4_13).toNatClampNeg)) then ((S.1 0) - (S.2 (x4_13).toNatClampNeg)) else (S.2 (x4_13).toNatClampNeg)) (x4_13 + 1))
    else sX3_tickThatHalvesBest_L13 S S1 n13 x2_13 x3_13 (x4_13 + 1)
theorem sX3_tickThatHalvesBest_L13_s (S : LSt) (S1 : LSt) (n13 : Nat) (x2_13 : Int32) (x3_13 : Int32) (x4_13 : Int32)  : sX3_tickThatHalvesBest_L13 S S1 (n13 + 1) x2_13 x3_13 x4_13 = if 12 ≤ x4_13 then x2_13
    else if (sX0_hasNote S1 x4_13) = true then (if x3_13 ≤ (if (S.2 (x4_13).toNatClampNeg) < ((S.1 0) - (S.2 (x4_13).toNatClampNeg)) then ((S.1 0) - (S.2 (x4_13).toNatClampNeg)) else (S.2 (x4_13).toNatClampNeg)) then sX3_tickThatHalvesBest_L13 S S1 n13 x2_13 x3_13 (x4_13 + 1)
      else sX3_tickThatHalvesBest_L13 S S1 n13 x4_13 (if (S.2 (x4_13).toNatClampNeg) < ((S.1 0) - (S.2 (x4_13).toNatClampNeg)) then ((S.1 0) - (S.2 (x4_13).toNatClampNeg)) else (S.2 (x4_13).toNatClampNeg)) (x4_13 + 1))
    else sX3_tickThatHalvesBest_L13 S S1 n13 x2_13 x3_13 (x4_13 + 1) := rfl
def sX3_tickThatHalvesBest (S : LSt) (S1 : LSt) : Int32 :=
  sX3_tickThatHalvesBest_L13 S S1 13 ((-9) : Int32) ((S.1 0) + 1) (0 : Int32)
def sX3_gather_L30 (S1 : LSt) (p2 : Int32) (p3 : Int32) : Nat → Int32 → Int32 → LSt → LSt
  | 0, _, _, _ => ((fun _ => 0), fun _ => 0)
  | n30 + 1, x4_30, x5_30, Y0_30 => if 128 ≤ x5_30 then Y0_30
    else if (x5_30 &&& x4_30) = 0 then (if (p2 &&& (((S1.1 1) &&& ((sX0_shareByTable S1 x5_30) ^^^ (-1))) ^^^ (-1))) = 0 then (if (p3 &&& ((sX0_shareByTable S1 x5_30) ^^^ (-1))) = 0 then (if (sX0_isLawful S1 (sX0_shareByTable S1 x5_30)) = true then sX3_gather_L30 S1 p2 p3 n30 x4_30 (x5_30 + 1) (sX3_include Y0_30 x5_30 (sX0_shareByTable S1 x5_30))
          else sX3_gather_L30 S1 p2 p3 n30 x4_30 (x5_30 + 1) Y0_30)
        else sX3_gather_L30 S1 p2 p3 n30 x4_30 (x5_30 + 1) Y0_30)
      else sX3_gather_L30 S1 p2 p3 n30 x4_30 (x5_30 + 1) Y0_30)
    else sX3_gather_L30 S1 p2 p3 n30 x4_30 (x5_30 + 1) Y0_30
theorem sX3_gather_L30_s (S1 : LSt) (p2 : Int32) (p3 : Int32) (n30 : Nat) (x4_30 : Int32) (x5_30 : Int32) (Y0_30 : LSt) : sX3_gather_L30 S1 p2 p3 (n30 + 1) x4_30 x5_30 Y0_30 = if 128 ≤ x5_30 then Y0_30
    else if (x5_30 &&& x4_30) = 0 then (if (p2 &&& (((S1.1 1) &&& ((sX0_shareByTable S1 x5_30) ^^^ (-1))) ^^^ (-1))) = 0 then (if (p3 &&& ((sX0_shareByTable S1 x5_30) ^^^ (-1))) = 0 then (if (sX0_isLawful S1 (sX0_shareByTable S1 x5_30)) = true then sX3_gather_L30 S1 p2 p3 n30 x4_30 (x5_30 + 1) (sX3_include Y0_30 x5_30 (sX0_shareByTable S1 x5_30))
          else sX3_gather_L30 S1 p2 p3 n30 x4_30 (x5_30 + 1) Y0_30)
        else sX3_gather_L30 S1 p2 p3 n30 x4_30 (x5_30 + 1) Y0_30)
      else sX3_gather_L30 S1 p2 p3 n30 x4_30 (x5_30 + 1) Y0_30)
    else sX3_gather_L30 S1 p2 p3 n30 x4_30 (x5_30 + 1) Y0_30 := rfl
def sX3_gather (S : LSt) (S1 : LSt) (p2 : Int32) (p3 : Int32) : LSt :=
  sX3_gather_L30 S1 p2 p3 129 ((sX0_pitchesUsed S1) ^^^ (-1)) (0 : Int32) ((upd (upd S.1 0 0) 1 (-9)), (sJ7_fill_53178 12 S.2 (0 : Int32)))
