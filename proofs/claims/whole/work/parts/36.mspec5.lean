def sX6_type (S : MSt) (p1 : Int32) : Int32 × MSt :=
  if (sX6_within p1 (0 : Int32) (255 : Int32)) = true then (if (S.1 2) = 120 then (((-3) : Int32), S)
    else (((S.1 2) + 1), ((upd S.1 2 ((S.1 2) + 1)), (updR S.2 7 (upd (S.2 7) ((S.1 2)).toNatClampNeg p1)))))
  else (((-1) : Int32), S)
def sX6_clear (S : MSt) : Int32 × MSt :=
  ((S.1 2), ((upd S.1 2 0), S.2))
def sX6_forget (S : MSt) : Int32 × MSt :=
  ((S.1 1), ((upd S.1 1 0), S.2))
def sX6_keeps_L50  : Nat → Int32 → MSt → MSt
  | 0, _, _ => ((fun _ => 0), fun _ _ => 0)
  | n50 + 1, x1_50, Y_50 => if 17 ≤ x1_50 then ((upd Y_50.1 0 ((Y_50.1 0) + 1)), Y_50.2)
    else sX6_keeps_L50  n50 (x1_50 + 1) (Y_50.1, (updR Y_50.2 2 (upd (Y_50.2 2) ((((17 : Int32) * (Y_50.1 0)) + x1_50)).toNatClampNeg ((Y_50.2 0) (x1_50).toNatClampNeg))))
theorem sX6_keeps_L50_s  (n50 : Nat) (x1_50 : Int32) (Y_50 : MSt) : sX6_keeps_L50  (n50 + 1) x1_50 Y_50 = if 17 ≤ x1_50 then ((upd Y_50.1 0 ((Y_50.1 0) + 1)), Y_50.2)
    else sX6_keeps_L50  n50 (x1_50 + 1) (Y_50.1, (updR Y_50.2 2 (upd (Y_50.2 2) ((((17 : Int32) * (Y_50.1 0)) + x1_50)).toNatClampNeg ((Y_50.2 0) (x1_50).toNatClampNeg)))) := rfl
def sX6_keeps_L11  : Nat → Int32 → MSt → MSt
  | 0, _, _ => ((fun _ => 0), fun _ _ => 0)
  | n11 + 1, x1_11, Y_11 => if 85 ≤ x1_11 then sX6_keeps_L50  18 (0 : Int32) ((upd Y_11.1 0 ((Y_11.1 0) - 1)), Y_11.2)
    else sX6_keeps_L11  n11 (x1_11 + 1) (Y_11.1, (updR Y_11.2 2 (upd (Y_11.2 2) (x1_11).toNatClampNeg ((Y_11.2 2) ((x1_11 + 17)).toNatClampNeg))))
theorem sX6_keeps_L11_s  (n11 : Nat) (x1_11 : Int32) (Y_11 : MSt) : sX6_keeps_L11  (n11 + 1) x1_11 Y_11 = if 85 ≤ x1_11 then sX6_keeps_L50  18 (0 : Int32) ((upd Y_11.1 0 ((Y_11.1 0) - 1)), Y_11.2)
    else sX6_keeps_L11  n11 (x1_11 + 1) (Y_11.1, (updR Y_11.2 2 (upd (Y_11.2 2) (x1_11).toNatClampNeg ((Y_11.2 2) ((x1_11 + 17)).toNatClampNeg)))) := rfl
def sX6_keeps (S : MSt) : MSt :=
  if (S.1 0) = 6 then sX6_keeps_L11  86 (0 : Int32) S
  else sX6_keeps_L50  18 (0 : Int32) S
def sX6_tells_L23  : Nat → Int32 → Int32 → MSt → Int32 × MSt
  | 0, _, _, _ => (0, ((fun _ => 0), fun _ _ => 0))
  | n23 + 1, x1_23, x2_23, Y_23 => if 17 ≤ x2_23 then (x1_23, ((upd Y_23.1 2 0), Y_23.2))
    else sX6_tells_L23  n23 x1_23 (x2_23 + 1) (Y_23.1, (updR Y_23.2 0 (upd (Y_23.2 0) (x2_23).toNatClampNeg ((Y_23.2 1) (x2_23).toNatClampNeg))))
theorem sX6_tells_L23_s  (n23 : Nat) (x1_23 : Int32) (x2_23 : Int32) (Y_23 : MSt) : sX6_tells_L23  (n23 + 1) x1_23 x2_23 Y_23 = if 17 ≤ x2_23 then (x1_23, ((upd Y_23.1 2 0), Y_23.2))
    else sX6_tells_L23  n23 x1_23 (x2_23 + 1) (Y_23.1, (updR Y_23.2 0 (upd (Y_23.2 0) (x2_23).toNatClampNeg ((Y_23.2 1) (x2_23).toNatClampNeg)))) := rfl
def sX6_tells (S : MSt) : Int32 × MSt :=
  if 0 ≤ (sX6_reads S).1 then sX6_tells_L23  18 (sX6_reads S).1 (0 : Int32) (sX6_keeps (sX6_reads S).2)
  else ((((-10) : Int32) - ((sX6_reads S).2.1 4)), (sX6_reads S).2)
def sX6_gives (S : MSt) (p1 : Int32) (p2 : Int32) : Int32 × MSt :=
  if (sX6_isNote S p1) = true then (if (sX6_isHand p2) = true then (if ((((S.2 0) 16) >>> (p1 &&& 31)) &&& 1) = p2 then (((-2) : Int32), S)
      else ((sX6_ofHand ((sX6_keeps S).1, (updR (sX6_keeps S).2 0 (upd ((sX6_keeps S).2 0) 16 ((((sX6_keeps S).2 0) 16) ^^^ ((1 : Int32) <<< (p1 &&& 31)))))) p2), ((sX6_keeps S).1, (updR (sX6_keeps S).2 0 (upd ((sX6_keeps S).2 0) 16 ((((sX6_keeps S).2 0) 16) ^^^ ((1 : Int32) <<< (p1 &&& 31))))))))
    else (((-1) : Int32), S))
  else (((-1) : Int32), S)
def sX6_flips_L31 (S : MSt) (p2 : Int32) : Nat → Int32 → Int32 → Int32 → Int32 × MSt
  | 0, _, _, _ => (0, ((fun _ => 0), fun _ _ => 0))
  | n31 + 1, x3_31, x4_31, x5_31 => if p2 < x5_31 then (if x4_31 = 0 then (((-2) : Int32), S)
      else (x4_31, ((sX6_keeps S).1, (updR (sX6_keeps S).2 0 (upd ((sX6_keeps S).2 0) 16 ((((sX6_keeps S).2 0) 16) ^^^ x3_31))))))
    else if (sX6_isNote S x5_31) = true then sX6_flips_L31 S p2 n31 (x3_31 ||| ((1 : Int32) <<< (x5_31 &&& 31))) (x4_31 + 1) (x5_31 + 1)
    else sX6_flips_L31 S p2 n31 (x3_31 ||| 0) (x4_31 + 0) (x5_31 + 1)
theorem sX6_flips_L31_s (S : MSt) (p2 : Int32) (n31 : Nat) (x3_31 : Int32) (x4_31 : Int32) (x5_31 : Int32)  : sX6_flips_L31 S p2 (n31 + 1) x3_31 x4_31 x5_31 = if p2 < x5_31 then (if x4_31 = 0 then (((-2) : Int32), S)
      else (x4_31, ((sX6_keeps S).1, (updR (sX6_keeps S).2 0 (upd ((sX6_keeps S).2 0) 16 ((((sX6_keeps S).2 0) 16) ^^^ x3_31))))))
    else if (sX6_isNote S x5_31) = true then sX6_flips_L31 S p2 n31 (x3_31 ||| ((1 : Int32) <<< (x5_31 &&& 31))) (x4_31 + 1) (x5_31 + 1)
    else sX6_flips_L31 S p2 n31 (x3_31 ||| 0) (x4_31 + 0) (x5_31 + 1) := rfl
def sX6_flips (S : MSt) (p1 : Int32) (p2 : Int32) : Int32 × MSt :=
  if (sX6_isTick S p1) = true then (if (sX6_isTick S p2) = true then (if p1 ≤ p2 then sX6_flips_L31 S p2 14 (0 : Int32) (0 : Int32) p1
      else (((-1) : Int32), S))
    else (((-1) : Int32), S))
  else (((-1) : Int32), S)
def sX6_mends (S : MSt) : Int32 × MSt :=
  if (sX6_isLawfulNow S ((S.2 0) 16)) = true then (((-2) : Int32), S)
  else if (sX6_nearest S) = (-9) then (((-2) : Int32), S)
  else ((sX6_ones ((sX6_nearest S) ^^^ (((sX6_keeps S).2 0) 16))), ((sX6_keeps S).1, (updR (sX6_keeps S).2 0 (upd ((sX6_keeps S).2 0) 16 (sX6_nearest S)))))
def sX6_sets (S : MSt) (p1 : Int32) (p2 : Int32) : Int32 × MSt :=
  if (sX6_within p1 (0 : Int32) (2 : Int32)) = true then (if (sX6_within p2 (sX6_least (p1 + 1)) (sX6_greatest (p1 + 1))) = true then (if ((S.2 0) ((p1 + 1)).toNatClampNeg) = p2 then (((-2) : Int32), S)
      else (((S.2 0) ((p1 + 1)).toNatClampNeg), ((sX6_keeps S).1, (updR (sX6_keeps S).2 0 (upd ((sX6_keeps S).2 0) ((p1 + 1)).toNatClampNeg p2)))))
    else (((-1) : Int32), S))
  else (((-1) : Int32), S)
def sX6_undo_L22  : Nat → Int32 → MSt → Int32 × MSt
  | 0, _, _ => (0, ((fun _ => 0), fun _ _ => 0))
  | n22 + 1, x1_22, Y_22 => if 17 ≤ x1_22 then ((Y_22.1 0), Y_22)
    else sX6_undo_L22  n22 (x1_22 + 1) (Y_22.1, (updR Y_22.2 0 (upd (Y_22.2 0) (x1_22).toNatClampNeg ((Y_22.2 2) ((((17 : Int32) * (Y_22.1 0)) + x1_22)).toNatClampNeg))))
theorem sX6_undo_L22_s  (n22 : Nat) (x1_22 : Int32) (Y_22 : MSt) : sX6_undo_L22  (n22 + 1) x1_22 Y_22 = if 17 ≤ x1_22 then ((Y_22.1 0), Y_22)
    else sX6_undo_L22  n22 (x1_22 + 1) (Y_22.1, (updR Y_22.2 0 (upd (Y_22.2 0) (x1_22).toNatClampNeg ((Y_22.2 2) ((((17 : Int32) * (Y_22.1 0)) + x1_22)).toNatClampNeg)))) := rfl
def sX6_undo (S : MSt) : Int32 × MSt :=
  if (S.1 0) = 0 then (((-2) : Int32), S)
  else sX6_undo_L22  18 (0 : Int32) ((upd S.1 0 ((S.1 0) - 1)), S.2)
def sX6_sees (S : MSt) (p1 : Int32) (p2 : Int32) : Int32 × MSt :=
  if (sX6_within p1 (0 : Int32) (11 : Int32)) = true then (if (sX6_isHand p2) = true then (if (S.1 1) = 6 then (((-3) : Int32), S)
      else (((S.1 1) + 1), ((upd S.1 1 ((S.1 1) + 1)), (updR (updR S.2 5 (upd (S.2 5) ((S.1 1)).toNatClampNeg p1)) 6 (upd (S.2 6) ((S.1 1)).toNatClampNeg p2)))))
    else (((-1) : Int32), S))
  else (((-1) : Int32), S)
def sX6_keep_L13 (p1 : Int32) : Nat → Int32 → MSt → Int32 × MSt
  | 0, _, _ => (0, ((fun _ => 0), fun _ _ => 0))
  | n13 + 1, x2_13, Y_13 => if 17 ≤ x2_13 then (((Y_13.2 0) 0), (Y_13.1, (updR Y_13.2 4 (upd (Y_13.2 4) (p1).toNatClampNeg (vp_nar .boolean 1)))))
    else sX6_keep_L13 p1 n13 (x2_13 + 1) (Y_13.1, (updR Y_13.2 3 (upd (Y_13.2 3) ((((17 : Int32) * p1) + x2_13)).toNatClampNeg ((Y_13.2 0) (x2_13).toNatClampNeg))))
theorem sX6_keep_L13_s (p1 : Int32) (n13 : Nat) (x2_13 : Int32) (Y_13 : MSt) : sX6_keep_L13 p1 (n13 + 1) x2_13 Y_13 = if 17 ≤ x2_13 then (((Y_13.2 0) 0), (Y_13.1, (updR Y_13.2 4 (upd (Y_13.2 4) (p1).toNatClampNeg (vp_nar .boolean 1)))))
    else sX6_keep_L13 p1 n13 (x2_13 + 1) (Y_13.1, (updR Y_13.2 3 (upd (Y_13.2 3) ((((17 : Int32) * p1) + x2_13)).toNatClampNeg ((Y_13.2 0) (x2_13).toNatClampNeg)))) := rfl
def sX6_keep (S : MSt) (p1 : Int32) : Int32 × MSt :=
  if (sX6_within p1 (0 : Int32) (1 : Int32)) = true then sX6_keep_L13 p1 18 (0 : Int32) S
  else (((-1) : Int32), S)
def sX6_back_L25 (p1 : Int32) : Nat → Int32 → MSt → Int32 × MSt
  | 0, _, _ => (0, ((fun _ => 0), fun _ _ => 0))
  | n25 + 1, x2_25, Y_25 => if 17 ≤ x2_25 then (((Y_25.2 0) 0), ((upd Y_25.1 0 0), Y_25.2))
    else sX6_back_L25 p1 n25 (x2_25 + 1) (Y_25.1, (updR Y_25.2 0 (upd (Y_25.2 0) (x2_25).toNatClampNeg ((Y_25.2 3) ((((17 : Int32) * p1) + x2_25)).toNatClampNeg))))
theorem sX6_back_L25_s (p1 : Int32) (n25 : Nat) (x2_25 : Int32) (Y_25 : MSt) : sX6_back_L25 p1 (n25 + 1) x2_25 Y_25 = if 17 ≤ x2_25 then (((Y_25.2 0) 0), ((upd Y_25.1 0 0), Y_25.2))
    else sX6_back_L25 p1 n25 (x2_25 + 1) (Y_25.1, (updR Y_25.2 0 (upd (Y_25.2 0) (x2_25).toNatClampNeg ((Y_25.2 3) ((((17 : Int32) * p1) + x2_25)).toNatClampNeg)))) := rfl
def sX6_back (S : MSt) (p1 : Int32) : Int32 × MSt :=
  if (sX6_within p1 (0 : Int32) (1 : Int32)) = true then (if ((S.2 4) (p1).toNatClampNeg) = 0 then (((-2) : Int32), S)
    else sX6_back_L25 p1 18 (0 : Int32) S)
  else (((-1) : Int32), S)
def sX6_listen_L102 (x1_25 : Int32) (Y_25 : MSt) : Nat → Int32 → Int32 → Int32 → Int32 × MSt
  | 0, _, _, _ => (0, ((fun _ => 0), fun _ _ => 0))
  | n102 + 1, x2_102, x3_102, x4_102 => if x4_102 < 0 then (if x1_25 ≤ 1 then (((-9) : Int32), Y_25)
      else (x2_102, Y_25))
    else if ((Y_25.2 8) (x4_102).toNatClampNeg) ≤ (x1_25 - ((Y_25.2 8) (x4_102).toNatClampNeg)) then (if (sX6_isNote Y_25 x4_102) = true then (if x3_102 < (x1_25 - ((Y_25.2 8) (x4_102).toNatClampNeg)) then sX6_listen_L102 x1_25 Y_25 n102 x2_102 x3_102 (x4_102 + (-1))
        else sX6_listen_L102 x1_25 Y_25 n102 x4_102 (x1_25 - ((Y_25.2 8) (x4_102).toNatClampNeg)) (x4_102 + (-1)))
      else sX6_listen_L102 x1_25 Y_25 n102 x2_102 x3_102 (x4_102 + (-1)))
    else if (sX6_isNote Y_25 x4_102) = true then (if x3_102 < ((Y_25.2 8) (x4_102).toNatClampNeg) then sX6_listen_L102 x1_25 Y_25 n102 x2_102 x3_102 (x4_102 + (-1))
      else sX6_listen_L102 x1_25 Y_25 n102 x4_102 ((Y_25.2 8) (x4_102).toNatClampNeg) (x4_102 + (-1)))
    else sX6_listen_L102 x1_25 Y_25 n102 x2_102 x3_102 (x4_102 + (-1))
theorem sX6_listen_L102_s (x1_25 : Int32) (Y_25 : MSt) (n102 : Nat) (x2_102 : Int32) (x3_102 : Int32) (x4_102 : Int32)  : sX6_listen_L102 x1_25 Y_25 (n102 + 1) x2_102 x3_102 x4_102 = if x4_102 < 0 then (if x1_25 ≤ 1 then (((-9) : Int32), Y_25)
      else (x2_102, Y_25))
    else if ((Y_25.2 8) (x4_102).toNatClampNeg) ≤ (x1_25 - ((Y_25.2 8) (x4_102).toNatClampNeg)) then (if (sX6_isNote Y_25 x4_102) = true then (if x3_102 < (x1_25 - ((Y_25.2 8) (x4_102).toNatClampNeg)) then sX6_listen_L102 x1_25 Y_25 n102 x2_102 x3_102 (x4_102 + (-1))
        else sX6_listen_L102 x1_25 Y_25 n102 x4_102 (x1_25 - ((Y_25.2 8) (x4_102).toNatClampNeg)) (x4_102 + (-1)))
      else sX6_listen_L102 x1_25 Y_25 n102 x2_102 x3_102 (x4_102 + (-1)))
    else if (sX6_isNote Y_25 x4_102) = true then (if x3_102 < ((Y_25.2 8) (x4_102).toNatClampNeg) then sX6_listen_L102 x1_25 Y_25 n102 x2_102 x3_102 (x4_102 + (-1))
      else sX6_listen_L102 x1_25 Y_25 n102 x4_102 ((Y_25.2 8) (x4_102).toNatClampNeg) (x4_102 + (-1)))
    else sX6_listen_L102 x1_25 Y_25 n102 x2_102 x3_102 (x4_102 + (-1)) := rfl
def sX6_listen_L52 (x2_25 : Int32) (κ25 : Int32 → Int32 → MSt → Int32 × MSt) : Nat → Int32 → Int32 → Int32 → MSt → Int32 × MSt
  | 0, _, _, _, _ => (0, ((fun _ => 0), fun _ _ => 0))
  | n52 + 1, x1_52, x3_52, x4_52, Y_52 => if 12 ≤ x4_52 then κ25 x1_52 (x2_25 + 1) Y_52
    else sX6_listen_L52 x2_25 κ25 n52 x1_52 x3_52 (x4_52 + 1) (Y_52.1, (updR Y_52.2 8 (upd (Y_52.2 8) (x4_52).toNatClampNeg (((Y_52.2 8) (x4_52).toNatClampNeg) + ((x3_52 >>> (x4_52 &&& 31)) &&& 1)))))
theorem sX6_listen_L52_s (x2_25 : Int32) (κ25 : Int32 → Int32 → MSt → Int32 × MSt) (n52 : Nat) (x1_52 : Int32) (x3_52 : Int32) (x4_52 : Int32) (Y_52 : MSt) : sX6_listen_L52 x2_25 κ25 (n52 + 1) x1_52 x3_52 x4_52 Y_52 = if 12 ≤ x4_52 then κ25 x1_52 (x2_25 + 1) Y_52
    else sX6_listen_L52 x2_25 κ25 n52 x1_52 x3_52 (x4_52 + 1) (Y_52.1, (updR Y_52.2 8 (upd (Y_52.2 8) (x4_52).toNatClampNeg (((Y_52.2 8) (x4_52).toNatClampNeg) + ((x3_52 >>> (x4_52 &&& 31)) &&& 1))))) := rfl
def sX6_listen_L25  : Nat → Int32 → Int32 → MSt → Int32 × MSt
  | 0, _, _, _ => (0, ((fun _ => 0), fun _ _ => 0))
  | n25 + 1, x1_25, x2_25, Y_25 => if 128 ≤ x2_25 then sX6_listen_L102 x1_25 Y_25 13 ((-9) : Int32) x1_25 (((Y_25.2 0) 0) - 1)
    else if (sX6_isHeard Y_25 x2_25) = true then sX6_listen_L52 x2_25 (sX6_listen_L25  n25) 13 (x1_25 + 1) (sX6_shareBy Y_25 x2_25) (0 : Int32) Y_25
    else sX6_listen_L25  n25 x1_25 (x2_25 + 1) Y_25
theorem sX6_listen_L25_s  (n25 : Nat) (x1_25 : Int32) (x2_25 : Int32) (Y_25 : MSt) : sX6_listen_L25  (n25 + 1) x1_25 x2_25 Y_25 = if 128 ≤ x2_25 then sX6_listen_L102 x1_25 Y_25 13 ((-9) : Int32) x1_25 (((Y_25.2 0) 0) - 1)
    else if (sX6_isHeard Y_25 x2_25) = true then sX6_listen_L52 x2_25 (sX6_listen_L25  n25) 13 (x1_25 + 1) (sX6_shareBy Y_25 x2_25) (0 : Int32) Y_25
    else sX6_listen_L25  n25 x1_25 (x2_25 + 1) Y_25 := rfl
def sX6_listen_L4  : Nat → Int32 → MSt → Int32 × MSt
  | 0, _, _ => (0, ((fun _ => 0), fun _ _ => 0))
  | n4 + 1, x2_4, Y_4 => if 12 ≤ x2_4 then sX6_listen_L25  129 (0 : Int32) (0 : Int32) Y_4
    else sX6_listen_L4  n4 (x2_4 + 1) (Y_4.1, (updR Y_4.2 8 (upd (Y_4.2 8) (x2_4).toNatClampNeg 0)))
theorem sX6_listen_L4_s  (n4 : Nat) (x2_4 : Int32) (Y_4 : MSt) : sX6_listen_L4  (n4 + 1) x2_4 Y_4 = if 12 ≤ x2_4 then sX6_listen_L25  129 (0 : Int32) (0 : Int32) Y_4
    else sX6_listen_L4  n4 (x2_4 + 1) (Y_4.1, (updR Y_4.2 8 (upd (Y_4.2 8) (x2_4).toNatClampNeg 0))) := rfl
def sX6_listen (S : MSt) : Int32 × MSt :=
  sX6_listen_L4  13 (0 : Int32) S
