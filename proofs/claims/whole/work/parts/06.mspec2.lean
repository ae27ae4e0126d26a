def sX6_busyAt_L5 (S : MSt) (p1 : Int32) (p2 : Int32) : Nat → Int32 → Int32 → Int32
  | 0, _, _ => 0
  | n5 + 1, x3_5, x4_5 => if (p2 + ((S.2 0) 3)) ≤ x4_5 then x3_5
    else if (sX6_isNote S x4_5) = true then (if ((((S.2 0) 16) >>> (x4_5 &&& 31)) &&& 1) = p1 then sX6_busyAt_L5 S p1 p2 n5 (x3_5 + 1) (x4_5 + 1)
      else sX6_busyAt_L5 S p1 p2 n5 (x3_5 + 0) (x4_5 + 1))
    else sX6_busyAt_L5 S p1 p2 n5 (x3_5 + 0) (x4_5 + 1)
theorem sX6_busyAt_L5_s (S : MSt) (p1 : Int32) (p2 : Int32) (n5 : Nat) (x3_5 : Int32) (x4_5 : Int32)  : sX6_busyAt_L5 S p1 p2 (n5 + 1) x3_5 x4_5 = if (p2 + ((S.2 0) 3)) ≤ x4_5 then x3_5
    else if (sX6_isNote S x4_5) = true then (if ((((S.2 0) 16) >>> (x4_5 &&& 31)) &&& 1) = p1 then sX6_busyAt_L5 S p1 p2 n5 (x3_5 + 1) (x4_5 + 1)
      else sX6_busyAt_L5 S p1 p2 n5 (x3_5 + 0) (x4_5 + 1))
    else sX6_busyAt_L5 S p1 p2 n5 (x3_5 + 0) (x4_5 + 1) := rfl
def sX6_busyAt (S : MSt) (p1 : Int32) (p2 : Int32) : Int32 :=
  sX6_busyAt_L5 S p1 p2 19 (0 : Int32) p2
def sX6_busiest_L23 (S : MSt) (p1 : Int32) (p2 : Int32) : Nat → Int32 → Int32 → Int32
  | 0, _, _ => 0
  | n23 + 1, x3_23, x4_23 => if ((S.2 0) 0) ≤ x4_23 then (if p2 = 0 then x3_23
      else (sX6_busyAt S p1 x3_23))
    else if (sX6_busyAt S p1 x4_23) ≤ (sX6_busyAt S p1 x3_23) then sX6_busiest_L23 S p1 p2 n23 x3_23 (x4_23 + 1)
    else sX6_busiest_L23 S p1 p2 n23 x4_23 (x4_23 + 1)
theorem sX6_busiest_L23_s (S : MSt) (p1 : Int32) (p2 : Int32) (n23 : Nat) (x3_23 : Int32) (x4_23 : Int32)  : sX6_busiest_L23 S p1 p2 (n23 + 1) x3_23 x4_23 = if ((S.2 0) 0) ≤ x4_23 then (if p2 = 0 then x3_23
      else (sX6_busyAt S p1 x3_23))
    else if (sX6_busyAt S p1 x4_23) ≤ (sX6_busyAt S p1 x3_23) then sX6_busiest_L23 S p1 p2 n23 x3_23 (x4_23 + 1)
    else sX6_busiest_L23 S p1 p2 n23 x4_23 (x4_23 + 1) := rfl
def sX6_busiest (S : MSt) (p1 : Int32) (p2 : Int32) : Int32 :=
  if (sX6_isHand p1) = true then (if (sX6_within p2 (0 : Int32) (1 : Int32)) = true then sX6_busiest_L23 S p1 p2 13 (0 : Int32) (1 : Int32)
    else ((-1) : Int32))
  else ((-1) : Int32)
def sX6_nearest_L5 (S : MSt) : Nat → Int32 → Int32 → Int32
  | 0, _, _ => 0
  | n5 + 1, x1_5, x2_5 => if ((1 : Int32) <<< ((sX6_notes S) &&& 31)) ≤ x2_5 then x1_5
    else if x1_5 = (-9) then (if (sX6_isLawfulNow S (sX6_shareOf S x2_5)) = true then sX6_nearest_L5 S n5 (sX6_shareOf S x2_5) (x2_5 + 1)
      else sX6_nearest_L5 S n5 x1_5 (x2_5 + 1))
    else if (sX6_ones (x1_5 ^^^ ((S.2 0) 16))) ≤ (sX6_ones ((sX6_shareOf S x2_5) ^^^ ((S.2 0) 16))) then sX6_nearest_L5 S n5 x1_5 (x2_5 + 1)
    else if (sX6_isLawfulNow S (sX6_shareOf S x2_5)) = true then sX6_nearest_L5 S n5 (sX6_shareOf S x2_5) (x2_5 + 1)
    else sX6_nearest_L5 S n5 x1_5 (x2_5 + 1)
theorem sX6_nearest_L5_s (S : MSt) (n5 : Nat) (x1_5 : Int32) (x2_5 : Int32)  : sX6_nearest_L5 S (n5 + 1) x1_5 x2_5 = if ((1 : Int32) <<< ((sX6_notes S) &&& 31)) ≤ x2_5 then x1_5
    else if x1_5 = (-9) then (if (sX6_isLawfulNow S (sX6_shareOf S x2_5)) = true then sX6_nearest_L5 S n5 (sX6_shareOf S x2_5) (x2_5 + 1)
      else sX6_nearest_L5 S n5 x1_5 (x2_5 + 1))
    else if (sX6_ones (x1_5 ^^^ ((S.2 0) 16))) ≤ (sX6_ones ((sX6_shareOf S x2_5) ^^^ ((S.2 0) 16))) then sX6_nearest_L5 S n5 x1_5 (x2_5 + 1)
    else if (sX6_isLawfulNow S (sX6_shareOf S x2_5)) = true then sX6_nearest_L5 S n5 (sX6_shareOf S x2_5) (x2_5 + 1)
    else sX6_nearest_L5 S n5 x1_5 (x2_5 + 1) := rfl
def sX6_nearest (S : MSt) : Int32 :=
  sX6_nearest_L5 S 4097 ((-9) : Int32) (0 : Int32)
def sX6_best_L17 (S : MSt) (p1 : Int32) : Nat → Int32 → Int32 → Int32
  | 0, _, _ => 0
  | n17 + 1, x2_17, x3_17 => if ((1 : Int32) <<< ((sX6_notes S) &&& 31)) ≤ x3_17 then (if x2_17 = (-9) then ((-2000000) : Int32)
      else if p1 = 0 then (sX6_likeness S x2_17)
      else if p1 = 1 then (sX6_tilt S x2_17)
      else x2_17)
    else if (sX6_isLawfulNow S (sX6_shareOf S x3_17)) = true then (if x2_17 = (-9) then sX6_best_L17 S p1 n17 (sX6_shareOf S x3_17) (x3_17 + 1)
      else if (sX6_isBetter S (sX6_shareOf S x3_17) x2_17) = true then sX6_best_L17 S p1 n17 (sX6_shareOf S x3_17) (x3_17 + 1)
      else sX6_best_L17 S p1 n17 x2_17 (x3_17 + 1))
    else sX6_best_L17 S p1 n17 x2_17 (x3_17 + 1)
theorem sX6_best_L17_s (S : MSt) (p1 : Int32) (n17 : Nat) (x2_17 : Int32) (x3_17 : Int32)  : sX6_best_L17 S p1 (n17 + 1) x2_17 x3_17 = if ((1 : Int32) <<< ((sX6_notes S) &&& 31)) ≤ x3_17 then (if x2_17 = (-9) then ((-2000000) : Int32)
      else if p1 = 0 then (sX6_likeness S x2_17)
      else if p1 = 1 then (sX6_tilt S x2_17)
      else x2_17)
    else if (sX6_isLawfulNow S (sX6_shareOf S x3_17)) = true then (if x2_17 = (-9) then sX6_best_L17 S p1 n17 (sX6_shareOf S x3_17) (x3_17 + 1)
      else if (sX6_isBetter S (sX6_shareOf S x3_17) x2_17) = true then sX6_best_L17 S p1 n17 (sX6_shareOf S x3_17) (x3_17 + 1)
      else sX6_best_L17 S p1 n17 x2_17 (x3_17 + 1))
    else sX6_best_L17 S p1 n17 x2_17 (x3_17 + 1) := rfl
def sX6_best (S : MSt) (p1 : Int32) : Int32 :=
  if (sX6_within p1 (0 : Int32) (2 : Int32)) = true then sX6_best_L17 S p1 4097 ((-9) : Int32) (0 : Int32)
  else ((-1000000) : Int32)
def sX6_change (S : MSt) : Int32 :=
  if (sX6_nearest S) = (-9) then ((-9) : Int32)
  else (sX6_ones ((sX6_nearest S) ^^^ ((S.2 0) 16)))
def sX6_slowest_L8 (S : MSt) (x1_2 : Int32) (κ2 : Int32 → Int32) : Nat → Int32 → Int32
  | 0, _ => 0
  | n8 + 1, x2_8 => if ((1 : Int32) <<< ((sX6_notes S) &&& 31)) ≤ x2_8 then κ2 (x1_2 + (-1))
    else if (sX6_isLawful S (sX6_shareOf S x2_8) x1_2) = true then x1_2
    else sX6_slowest_L8 S x1_2 κ2 n8 (x2_8 + 1)
theorem sX6_slowest_L8_s (S : MSt) (x1_2 : Int32) (κ2 : Int32 → Int32) (n8 : Nat) (x2_8 : Int32)  : sX6_slowest_L8 S x1_2 κ2 (n8 + 1) x2_8 = if ((1 : Int32) <<< ((sX6_notes S) &&& 31)) ≤ x2_8 then κ2 (x1_2 + (-1))
    else if (sX6_isLawful S (sX6_shareOf S x2_8) x1_2) = true then x1_2
    else sX6_slowest_L8 S x1_2 κ2 n8 (x2_8 + 1) := rfl
def sX6_slowest_L2 (S : MSt) : Nat → Int32 → Int32
  | 0, _ => 0
  | n2 + 1, x1_2 => if x1_2 ≤ 0 then ((-9) : Int32)
    else sX6_slowest_L8 S x1_2 (sX6_slowest_L2 S n2) 4097 (0 : Int32)
theorem sX6_slowest_L2_s (S : MSt) (n2 : Nat) (x1_2 : Int32)  : sX6_slowest_L2 S (n2 + 1) x1_2 = if x1_2 ≤ 0 then ((-9) : Int32)
    else sX6_slowest_L8 S x1_2 (sX6_slowest_L2 S n2) 4097 (0 : Int32) := rfl
def sX6_slowest (S : MSt) : Int32 :=
  sX6_slowest_L2 S 6 (5 : Int32)
def sX6_isHeard_L15 (S : MSt) : Nat → Int32 → Bool → Int32 → Bool
  | 0, _, _, _ => false
  | n15 + 1, x2_15, x3_15, x4_15 => if (S.1 1) ≤ x4_15 then x3_15
    else if x3_15 = true then (if (sX6_isNote S ((S.2 5) (x4_15).toNatClampNeg)) = true then (if ((x2_15 >>> (((S.2 5) (x4_15).toNatClampNeg) &&& 31)) &&& 1) = ((S.2 6) (x4_15).toNatClampNeg) then sX6_isHeard_L15 S n15 x2_15 true (x4_15 + 1)
        else sX6_isHeard_L15 S n15 x2_15 false (x4_15 + 1))
      else sX6_isHeard_L15 S n15 x2_15 false (x4_15 + 1))
    else sX6_isHeard_L15 S n15 x2_15 false (x4_15 + 1)
theorem sX6_isHeard_L15_s (S : MSt) (n15 : Nat) (x2_15 : Int32) (x3_15 : Bool) (x4_15 : Int32)  : sX6_isHeard_L15 S (n15 + 1) x2_15 x3_15 x4_15 = if (S.1 1) ≤ x4_15 then x3_15
    else if x3_15 = true then (if (sX6_isNote S ((S.2 5) (x4_15).toNatClampNeg)) = true then (if ((x2_15 >>> (((S.2 5) (x4_15).toNatClampNeg) &&& 31)) &&& 1) = ((S.2 6) (x4_15).toNatClampNeg) then sX6_isHeard_L15 S n15 x2_15 true (x4_15 + 1)
        else sX6_isHeard_L15 S n15 x2_15 false (x4_15 + 1))
      else sX6_isHeard_L15 S n15 x2_15 false (x4_15 + 1))
    else sX6_isHeard_L15 S n15 x2_15 false (x4_15 + 1) := rfl
def sX6_isHeard (S : MSt) (p1 : Int32) : Bool :=
  sX6_isHeard_L15 S 7 (sX6_shareBy S p1) (sX6_isTable S p1) (0 : Int32)
def sX6_tellTables_L10 (S : MSt) (p1 : Int32) (p2 : Bool) : Nat → Int32 → Int32 → Int32 → Int32
  | 0, _, _, _ => 0
  | n10 + 1, x3_10, x4_10, x5_10 => if x5_10 < 0 then (if p1 = 0 then x3_10
      else if p1 = 1 then x4_10
      else ((-1) : Int32))
    else if p2 = true then (if (sX6_isHeard S x5_10) = true then sX6_tellTables_L10 S p1 p2 n10 (x3_10 + 1) x5_10 (x5_10 + (-1))
      else sX6_tellTables_L10 S p1 p2 n10 (x3_10 + 0) x4_10 (x5_10 + (-1)))
    else if (sX6_isTable S x5_10) = true then sX6_tellTables_L10 S p1 p2 n10 (x3_10 + 1) x5_10 (x5_10 + (-1))
    else sX6_tellTables_L10 S p1 p2 n10 (x3_10 + 0) x4_10 (x5_10 + (-1))
theorem sX6_tellTables_L10_s (S : MSt) (p1 : Int32) (p2 : Bool) (n10 : Nat) (x3_10 : Int32) (x4_10 : Int32) (x5_10 : Int32)  : sX6_tellTables_L10 S p1 p2 (n10 + 1) x3_10 x4_10 x5_10 = if x5_10 < 0 then (if p1 = 0 then x3_10
      else if p1 = 1 then x4_10
      else ((-1) : Int32))
    else if p2 = true then (if (sX6_isHeard S x5_10) = true then sX6_tellTables_L10 S p1 p2 n10 (x3_10 + 1) x5_10 (x5_10 + (-1))
      else sX6_tellTables_L10 S p1 p2 n10 (x3_10 + 0) x4_10 (x5_10 + (-1)))
    else if (sX6_isTable S x5_10) = true then sX6_tellTables_L10 S p1 p2 n10 (x3_10 + 1) x5_10 (x5_10 + (-1))
    else sX6_tellTables_L10 S p1 p2 n10 (x3_10 + 0) x4_10 (x5_10 + (-1)) := rfl
def sX6_tellTables (S : MSt) (p1 : Int32) (p2 : Bool) : Int32 :=
  sX6_tellTables_L10 S p1 p2 129 (0 : Int32) ((-9) : Int32) (127 : Int32)
def sX6_tables (S : MSt) (p1 : Int32) : Int32 :=
  (sX6_tellTables S p1 false)
def sX6_which (S : MSt) (p1 : Int32) : Int32 :=
  (sX6_tellTables S p1 true)
