def sX6_readsLine_L41  : Nat → Int32 → Int32 → MSt → Bool × MSt
  | 0, _, _, _ => (false, ((fun _ => 0), fun _ _ => 0))
  | n41 + 1, x1_41, x2_41, Y_41 => if x1_41 ≤ x2_41 then (true, Y_41)
    else sX6_readsLine_L41  n41 x1_41 (x2_41 + 1) (Y_41.1, (updR Y_41.2 1 (upd (Y_41.2 1) (((4 : Int32) + x2_41)).toNatClampNeg (((Y_41.2 7) (((Y_41.1 4) + x2_41)).toNatClampNeg) - 48))))
theorem sX6_readsLine_L41_s  (n41 : Nat) (x1_41 : Int32) (x2_41 : Int32) (Y_41 : MSt) : sX6_readsLine_L41  (n41 + 1) x1_41 x2_41 Y_41 = if x1_41 ≤ x2_41 then (true, Y_41)
    else sX6_readsLine_L41  n41 x1_41 (x2_41 + 1) (Y_41.1, (updR Y_41.2 1 (upd (Y_41.2 1) (((4 : Int32) + x2_41)).toNatClampNeg (((Y_41.2 7) (((Y_41.1 4) + x2_41)).toNatClampNeg) - 48)))) := rfl
def sX6_readsLine (S : MSt) : Bool × MSt :=
  if ((S.2 1) 0) ≤ 0 then (if (sX6_within (sX6_figures S (7 : Int32)).1 (1 : Int32) (12 : Int32)) = true then sX6_readsLine_L41  13 (sX6_figures S (7 : Int32)).1 (0 : Int32) ((sX6_figures S (7 : Int32)).2.1, (updR (sX6_figures S (7 : Int32)).2.2 1 (upd ((sX6_figures S (7 : Int32)).2.2 1) 0 (sX6_figures S (7 : Int32)).1)))
    else (false, (sX6_figures S (7 : Int32)).2))
  else (false, S)
def sX6_readsHands_L39  : Nat → Int32 → MSt → Bool × MSt
  | 0, _, _ => (false, ((fun _ => 0), fun _ _ => 0))
  | n39 + 1, x1_39, Y_39 => if ((Y_39.2 1) 0) ≤ x1_39 then (true, Y_39)
    else if ((Y_39.2 1) (((4 : Int32) + x1_39)).toNatClampNeg) ≤ 0 then sX6_readsHands_L39  n39 (x1_39 + 1) (Y_39.1, (updR Y_39.2 1 (upd (Y_39.2 1) 16 (((Y_39.2 1) 16) ||| 0))))
    else if ((Y_39.2 7) (((Y_39.1 4) + x1_39)).toNatClampNeg) = 49 then sX6_readsHands_L39  n39 (x1_39 + 1) (Y_39.1, (updR Y_39.2 1 (upd (Y_39.2 1) 16 (((Y_39.2 1) 16) ||| ((1 : Int32) <<< (x1_39 &&& 31))))))
    else sX6_readsHands_L39  n39 (x1_39 + 1) (Y_39.1, (updR Y_39.2 1 (upd (Y_39.2 1) 16 (((Y_39.2 1) 16) ||| 0))))
theorem sX6_readsHands_L39_s  (n39 : Nat) (x1_39 : Int32) (Y_39 : MSt) : sX6_readsHands_L39  (n39 + 1) x1_39 Y_39 = if ((Y_39.2 1) 0) ≤ x1_39 then (true, Y_39)
    else if ((Y_39.2 1) (((4 : Int32) + x1_39)).toNatClampNeg) ≤ 0 then sX6_readsHands_L39  n39 (x1_39 + 1) (Y_39.1, (updR Y_39.2 1 (upd (Y_39.2 1) 16 (((Y_39.2 1) 16) ||| 0))))
    else if ((Y_39.2 7) (((Y_39.1 4) + x1_39)).toNatClampNeg) = 49 then sX6_readsHands_L39  n39 (x1_39 + 1) (Y_39.1, (updR Y_39.2 1 (upd (Y_39.2 1) 16 (((Y_39.2 1) 16) ||| ((1 : Int32) <<< (x1_39 &&& 31))))))
    else sX6_readsHands_L39  n39 (x1_39 + 1) (Y_39.1, (updR Y_39.2 1 (upd (Y_39.2 1) 16 (((Y_39.2 1) 16) ||| 0)))) := rfl
def sX6_readsHands (S : MSt) : Bool × MSt :=
  if (S.1 5) = 0 then (if ((S.2 1) 0) = 0 then (false, S)
    else if (sX6_figures S (1 : Int32)).1 = (((sX6_figures S (1 : Int32)).2.2 1) 0) then sX6_readsHands_L39  13 (0 : Int32) ((upd (sX6_figures S (1 : Int32)).2.1 5 1), (sX6_figures S (1 : Int32)).2.2)
    else (false, (sX6_figures S (1 : Int32)).2))
  else (false, S)
def sX6_readsNumber (S : MSt) (p1 : Int32) : Bool × MSt :=
  if (sX6_figures S (9 : Int32)).1 = 1 then ((sX6_within ((upd ((sX6_figures S (9 : Int32)).2.2 1) (p1).toNatClampNeg ((((sX6_figures S (9 : Int32)).2.2 7) (((sX6_figures S (9 : Int32)).2.1 4)).toNatClampNeg) - 48)) (p1).toNatClampNeg) (sX6_least p1) (sX6_greatest p1)), ((sX6_figures S (9 : Int32)).2.1, (updR (sX6_figures S (9 : Int32)).2.2 1 (upd ((sX6_figures S (9 : Int32)).2.2 1) (p1).toNatClampNeg ((((sX6_figures S (9 : Int32)).2.2 7) (((sX6_figures S (9 : Int32)).2.1 4)).toNatClampNeg) - 48)))))
  else (false, (sX6_figures S (9 : Int32)).2)
def sX6_readsItem (S : MSt) : Bool × MSt :=
  if (sX6_wordPassed S).1 = (-9) then (false, (sX6_wordPassed S).2)
  else if (sX6_wordPassed S).1 = 0 then (sX6_readsLine (sX6_wordPassed S).2)
  else if (sX6_wordPassed S).1 = 1 then (sX6_readsHands (sX6_wordPassed S).2)
  else (sX6_readsNumber (sX6_wordPassed S).2 ((sX6_wordPassed S).1 - 1))
def sX6_reads_L23  : Nat → Int32 → MSt → Int32 × MSt
  | 0, _, _ => (0, ((fun _ => 0), fun _ _ => 0))
  | n23 + 1, x1_23, Y_23 => if (Y_23.1 2) ≤ (Y_23.1 3) then (if ((Y_23.2 1) 0) ≤ 0 then (((-1) : Int32), Y_23)
      else (x1_23, Y_23))
    else if (sX6_readsItem Y_23).1 = true then (if (sX6_passesEnd (sX6_readsItem Y_23).2).1 = true then sX6_reads_L23  n23 (x1_23 + 1) (sX6_skips (sX6_passesEnd (sX6_readsItem Y_23).2).2)
      else (((-1) : Int32), (sX6_passesEnd (sX6_readsItem Y_23).2).2))
    else (((-1) : Int32), (sX6_readsItem Y_23).2)
theorem sX6_reads_L23_s  (n23 : Nat) (x1_23 : Int32) (Y_23 : MSt) : sX6_reads_L23  (n23 + 1) x1_23 Y_23 = if (Y_23.1 2) ≤ (Y_23.1 3) then (if ((Y_23.2 1) 0) ≤ 0 then (((-1) : Int32), Y_23)
      else (x1_23, Y_23))
    else if (sX6_readsItem Y_23).1 = true then (if (sX6_passesEnd (sX6_readsItem Y_23).2).1 = true then sX6_reads_L23  n23 (x1_23 + 1) (sX6_skips (sX6_passesEnd (sX6_readsItem Y_23).2).2)
      else (((-1) : Int32), (sX6_passesEnd (sX6_readsItem Y_23).2).2))
    else (((-1) : Int32), (sX6_readsItem Y_23).2) := rfl
def sX6_reads (S : MSt) : Int32 × MSt :=
  sX6_reads_L23  121 (0 : Int32) (sX6_skips ((upd (upd S.1 5 0) 3 0), (updR S.2 1 (sX6_bares (S.2 1)))))
