def sX5_gives (S : SSt) (S1 : LSt) (S2 : HSt) (p1 : Int32) (p2 : Int32) : Int32 × LSt × HSt :=
  if (sX0_hasNote S1 p1) = true then (if (sX5_isHand p2) = true then (if (sX0_handAt S1 p1) = p2 then (((-2) : Int32), S1, S2)
      else ((sJ6_bitCount_0f7a4 (sX0_notesOf ((upd S1.1 2 ((S1.1 2) ^^^ ((1 : Int32) <<< (p1 &&& 31)))), S1.2) p2)), ((upd S1.1 2 ((S1.1 2) ^^^ ((1 : Int32) <<< (p1 &&& 31)))), S1.2), (sX1_remember S2 S1)))
    else (((-1) : Int32), S1, S2))
  else (((-1) : Int32), S1, S2)
def sX5_flips (S : SSt) (S1 : LSt) (S2 : HSt) (p1 : Int32) (p2 : Int32) : Int32 × LSt × HSt :=
  if (sX0_hasTick S1 p1) = true then (if (sX0_hasTick S1 p2) = true then (if p1 ≤ p2 then (if ((S1.1 1) &&& (sX5_ticksFrom p1 ((p2 + 1) - p1))) = 0 then (((-2) : Int32), S1, S2)
        else ((sJ6_bitCount_0f7a4 ((S1.1 1) &&& (sX5_ticksFrom p1 ((p2 + 1) - p1)))), ((upd S1.1 2 ((S1.1 2) ^^^ ((S1.1 1) &&& (sX5_ticksFrom p1 ((p2 + 1) - p1))))), S1.2), (sX1_remember S2 S1)))
      else (((-1) : Int32), S1, S2))
    else (((-1) : Int32), S1, S2))
  else (((-1) : Int32), S1, S2)
def sX5_sets (S : SSt) (S1 : LSt) (S2 : HSt) (p1 : Int32) (p2 : Int32) : Int32 × LSt × HSt :=
  if (sX5_isNumber p1 p2) = true then (if (sX0_number S1 p1) = p2 then (((-2) : Int32), S1, S2)
    else ((sX0_number S1 p1), (sX0_setNumber S1 p1 p2), (sX1_remember S2 S1)))
  else (((-1) : Int32), S1, S2)
def sX5_undo (S : SSt) (S1 : LSt) (S2 : HSt) : Int32 × LSt × HSt :=
  if (sX1_recall S2 S1).1 = true then ((sX1_recall S2 S1).2.1.1, (sX1_recall S2 S1).2.2, (sX1_recall S2 S1).2.1)
  else (((-2) : Int32), (sX1_recall S2 S1).2.2, (sX1_recall S2 S1).2.1)
def sX5_mends (S : SSt) (S1 : LSt) (S2 : SSt) (S3 : LSt) (S4 : HSt) : Int32 × LSt × SSt × LSt × HSt :=
  if 0 < (sX5_mendingChanges S S1 S2 S3).1 then ((sX5_mendingChanges S S1 S2 S3).1, ((upd S1.1 2 ((sX5_mendingChanges S S1 S2 S3).2.1 0)), S1.2), (sX5_mendingChanges S S1 S2 S3).2.1, (sX5_mendingChanges S S1 S2 S3).2.2, (sX1_remember S4 S1))
  else (((-2) : Int32), S1, (sX5_mendingChanges S S1 S2 S3).2.1, (sX5_mendingChanges S S1 S2 S3).2.2, S4)
def sX5_tells (S : SSt) (S1 : LSt) (S2 : LSt) (S3 : LSt) (S4 : HSt) : Int32 × LSt × LSt × LSt × HSt :=
  if 0 ≤ (sX4_read S2 S3).1 then ((sX4_read S2 S3).1, (sX0_copyFrom S1 (sX4_read S2 S3).2.2), ((upd (sX4_read S2 S3).2.1.1 0 0), (sX4_read S2 S3).2.1.2), (sX4_read S2 S3).2.2, (sX1_remember S4 S1))
  else ((sX4_read S2 S3).1, S1, (sX4_read S2 S3).2.1, (sX4_read S2 S3).2.2, S4)
