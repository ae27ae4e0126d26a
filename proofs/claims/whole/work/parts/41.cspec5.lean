def sX5_type (S : SSt) (S1 : LSt) (p1 : Int32) : Int32 × LSt :=
  if p1 < 0 then (((-1) : Int32), S1)
  else if p1 ≤ 255 then (if (sX4_add S1 p1).1 = true then (((sX4_add S1 p1).2.1 0), (sX4_add S1 p1).2)
    else (((-3) : Int32), (sX4_add S1 p1).2))
  else (((-1) : Int32), S1)
def sX5_clear (S : SSt) (S1 : LSt) : Int32 × LSt :=
  ((S1.1 0), ((upd S1.1 0 0), S1.2))
def sX5_tick (S : SSt) (S1 : LSt) (p1 : Int32) (p2 : Int32) : Int32 :=
  if (sX0_hasTick S1 p1) = true then (if p2 = 0 then (sX0_pitchAt S1 p1)
    else if p2 = 1 then (if (sX0_hasNote S1 p1) = true then (sX0_handAt S1 p1)
      else ((-9) : Int32))
    else if p2 = 2 then (if (sX0_isSoonBehind S1 p1) = true then (1 : Int32)
      else (0 : Int32))
    else if p2 = 3 then (if (sX0_isFarBehind S1 p1) = true then (1 : Int32)
      else (0 : Int32))
    else ((-1) : Int32))
  else ((-1) : Int32)
def sX5_share (S : SSt) (S1 : LSt) (p1 : Int32) : Int32 :=
  if p1 = 0 then (sX0_countTooSoon S1)
  else if p1 = 1 then (sX0_countTooFar S1)
  else if p1 = 2 then (sX0_likeness S1 (S1.1 2))
  else if p1 = 3 then (sX0_tilt S1 (S1.1 2))
  else if p1 = 4 then (if (sX0_isLawful S1 (S1.1 2)) = true then (1 : Int32)
    else (0 : Int32))
  else ((-1000000) : Int32)
def sX5_mendingChanges (S : SSt) (S1 : LSt) (S2 : SSt) (S3 : LSt) : Int32 × SSt × LSt :=
  if (sX2_find S2 (sX2_lookAt S2 S3 S1) (2 : Int32)).1 = true then ((sJ6_bitCount_0f7a4 (((sX2_find S2 (sX2_lookAt S2 S3 S1) (2 : Int32)).2 0) ^^^ (S1.1 2))), (sX2_find S2 (sX2_lookAt S2 S3 S1) (2 : Int32)).2, (sX2_lookAt S2 S3 S1))
  else (((-9) : Int32), (sX2_find S2 (sX2_lookAt S2 S3 S1) (2 : Int32)).2, (sX2_lookAt S2 S3 S1))
def sX5_change (S : SSt) (S1 : LSt) (S2 : SSt) (S3 : LSt) : Int32 × SSt × LSt :=
  (sX5_mendingChanges S S1 S2 S3)
def sX5_best (S : SSt) (S1 : LSt) (S2 : SSt) (S3 : LSt) (p1 : Int32) : Int32 × SSt × LSt :=
  if p1 < 0 then (((-1000000) : Int32), S2, S3)
  else if p1 ≤ 2 then (if (sX2_find S2 (sX2_lookAt S2 S3 S1) (1 : Int32)).1 = true then (if p1 = 0 then ((sX0_likeness S1 ((sX2_find S2 (sX2_lookAt S2 S3 S1) (1 : Int32)).2 0)), (sX2_find S2 (sX2_lookAt S2 S3 S1) (1 : Int32)).2, (sX2_lookAt S2 S3 S1))
      else if p1 = 1 then ((sX0_tilt S1 ((sX2_find S2 (sX2_lookAt S2 S3 S1) (1 : Int32)).2 0)), (sX2_find S2 (sX2_lookAt S2 S3 S1) (1 : Int32)).2, (sX2_lookAt S2 S3 S1))
      else (((sX2_find S2 (sX2_lookAt S2 S3 S1) (1 : Int32)).2 0), (sX2_find S2 (sX2_lookAt S2 S3 S1) (1 : Int32)).2, (sX2_lookAt S2 S3 S1)))
    else (((-2000000) : Int32), (sX2_find S2 (sX2_lookAt S2 S3 S1) (1 : Int32)).2, (sX2_lookAt S2 S3 S1)))
  else (((-1000000) : Int32), S2, S3)
def sX5_slowest_L17  : Nat → Int32 → SSt → LSt → Int32 × SSt × LSt
  | 0, _, _, _ => (0, (fun _ => 0), ((fun _ => 0), fun _ => 0))
  | n17 + 1, x1_17, Y2_17, Y3_17 => if x1_17 < 1 then (((-9) : Int32), Y2_17, Y3_17)
    else if (sX2_find Y2_17 ((upd Y3_17.1 3 x1_17), Y3_17.2) (0 : Int32)).1 = true then (x1_17, (sX2_find Y2_17 ((upd Y3_17.1 3 x1_17), Y3_17.2) (0 : Int32)).2, ((upd Y3_17.1 3 x1_17), Y3_17.2))
    else sX5_slowest_L17  n17 (x1_17 + (-1)) (sX2_find Y2_17 ((upd Y3_17.1 3 x1_17), Y3_17.2) (0 : Int32)).2 ((upd Y3_17.1 3 x1_17), Y3_17.2)
theorem sX5_slowest_L17_s  (n17 : Nat) (x1_17 : Int32) (Y2_17 : SSt) (Y3_17 : LSt) : sX5_slowest_L17  (n17 + 1) x1_17 Y2_17 Y3_17 = if x1_17 < 1 then (((-9) : Int32), Y2_17, Y3_17)
    else if (sX2_find Y2_17 ((upd Y3_17.1 3 x1_17), Y3_17.2) (0 : Int32)).1 = true then (x1_17, (sX2_find Y2_17 ((upd Y3_17.1 3 x1_17), Y3_17.2) (0 : Int32)).2, ((upd Y3_17.1 3 x1_17), Y3_17.2))
    else sX5_slowest_L17  n17 (x1_17 + (-1)) (sX2_find Y2_17 ((upd Y3_17.1 3 x1_17), Y3_17.2) (0 : Int32)).2 ((upd Y3_17.1 3 x1_17), Y3_17.2) := rfl
def sX5_slowest (S : SSt) (S1 : LSt) (S2 : SSt) (S3 : LSt) : Int32 × SSt × LSt :=
  sX5_slowest_L17  6 (5 : Int32) S2 (sX2_lookAt S2 S3 S1)
def sX5_busiest_L36 (S1 : LSt) (p2 : Int32) : Nat → Int32 → Int32 → Int32 → Int32 → Int32
  | 0, _, _, _, _ => 0
  | n36 + 1, x3_36, x4_36, x5_36, x6_36 => if (S1.1 0) ≤ x6_36 then (if p2 = 0 then x4_36
      else x5_36)
    else if (sJ6_bitCount_0f7a4 (x3_36 &&& (sX5_ticksFrom x6_36 (S1.1 5)))) ≤ x5_36 then sX5_busiest_L36 S1 p2 n36 x3_36 x4_36 x5_36 (x6_36 + 1)
    else sX5_busiest_L36 S1 p2 n36 x3_36 x6_36 (sJ6_bitCount_0f7a4 (x3_36 &&& (sX5_ticksFrom x6_36 (S1.1 5)))) (x6_36 + 1)
theorem sX5_busiest_L36_s (S1 : LSt) (p2 : Int32) (n36 : Nat) (x3_36 : Int32) (x4_36 : Int32) (x5_36 : Int32) (x6_36 : Int32)  : sX5_busiest_L36 S1 p2 (n36 + 1) x3_36 x4_36 x5_36 x6_36 = if (S1.1 0) ≤ x6_36 then (if p2 = 0 then x4_36
      else x5_36)
    else if (sJ6_bitCount_0f7a4 (x3_36 &&& (sX5_ticksFrom x6_36 (S1.1 5)))) ≤ x5_36 then sX5_busiest_L36 S1 p2 n36 x3_36 x4_36 x5_36 (x6_36 + 1)
    else sX5_busiest_L36 S1 p2 n36 x3_36 x6_36 (sJ6_bitCount_0f7a4 (x3_36 &&& (sX5_ticksFrom x6_36 (S1.1 5)))) (x6_36 + 1) := rfl
def sX5_busiest (S : SSt) (S1 : LSt) (p1 : Int32) (p2 : Int32) : Int32 :=
  if (sX5_isHand p1) = true then (if p2 < 0 then ((-1) : Int32)
    else if p2 ≤ 1 then sX5_busiest_L36 S1 p2 13 (sX0_notesOf S1 p1) (0 : Int32) (0 : Int32) (0 : Int32)
    else ((-1) : Int32))
  else ((-1) : Int32)
def sX5_askTables (S : SSt) (S1 : LSt) (S2 : LSt) (p1 : Int32) (p2 : Int32) (p3 : Int32) : Int32 × LSt :=
  if p1 < 0 then (((-1) : Int32), S2)
  else if p1 ≤ 1 then (if p1 = 0 then (((sX3_gather S2 S1 p2 p3).1 0), (sX3_gather S2 S1 p2 p3))
    else (((sX3_gather S2 S1 p2 p3).1 1), (sX3_gather S2 S1 p2 p3)))
  else (((-1) : Int32), S2)
def sX5_tables (S : SSt) (S1 : LSt) (S2 : LSt) (p1 : Int32) : Int32 × LSt :=
  (sX5_askTables S S1 S2 p1 (0 : Int32) (0 : Int32))
def sX5_which (S : SSt) (S1 : LSt) (S2 : LSt) (p1 : Int32) : Int32 × LSt :=
  (sX5_askTables S S1 S2 p1 (S 1) (S 2))
def sX5_listen (S : SSt) (S1 : LSt) (S2 : LSt) : Int32 × LSt :=
  if ((sX3_gather S2 S1 (S 1) (S 2)).1 0) ≤ 1 then (((-9) : Int32), (sX3_gather S2 S1 (S 1) (S 2)))
  else ((sX3_tickThatHalvesBest (sX3_gather S2 S1 (S 1) (S 2)) S1), (sX3_gather S2 S1 (S 1) (S 2)))
def sX5_sees (S : SSt) (p1 : Int32) (p2 : Int32) : Int32 × SSt :=
  if p1 < 0 then (((-1) : Int32), S)
  else if 12 ≤ p1 then (((-1) : Int32), S)
  else if (sX5_isHand p2) = true then (if (S 0) < 6 then (if p2 = 0 then (((S 0) + 1), (upd (upd S 1 ((S 1) ||| ((1 : Int32) <<< (p1 &&& 31)))) 0 ((S 0) + 1)))
      else (((S 0) + 1), (upd (upd S 2 ((S 2) ||| ((1 : Int32) <<< (p1 &&& 31)))) 0 ((S 0) + 1))))
    else (((-3) : Int32), S))
  else (((-1) : Int32), S)
def sX5_forget (S : SSt) : Int32 × SSt :=
  ((S 0), (upd (upd (upd S 0 0) 1 0) 2 0))
def sX5_count (S : SSt) (S1 : LSt) (S2 : LSt) (S3 : SSt) (p1 : Int32) : Int32 :=
  if p1 = 0 then (S1.1 0)
  else if p1 = 1 then (sJ6_bitCount_0f7a4 (S1.1 1))
  else if p1 = 2 then (S1.1 3)
  else if p1 = 3 then (S1.1 4)
  else if p1 = 4 then (S1.1 5)
  else if p1 = 5 then (S 0)
  else if p1 = 6 then (S2.1 0)
  else if p1 = 7 then (S3 0)
  else ((-1) : Int32)
