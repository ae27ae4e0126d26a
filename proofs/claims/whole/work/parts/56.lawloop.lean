set_option maxHeartbeats 40000000 in
set_option maxRecDepth 100000 in
/-- THE LAW'S LOOP, over any relation that each call keeps -/
theorem law_loop (Rel : SSt → LSt → LSt → HSt → Option LSt → Option LSt → MSt → Prop) (hpre : Rpre Rel) (htype : Rtype Rel) (hclear : Rclear Rel) (htells : Rtells Rel) (hgives : Rgives Rel) (hflips : Rflips Rel) (hmends : Rmends Rel) (hsets : Rsets Rel) (hundo : Rundo Rel) (htick : Rtick Rel) (hshare : Rshare Rel) (hbest : Rbest Rel) (hslowest : Rslowest Rel) (hchange : Rchange Rel) (hbusiest : Rbusiest Rel) (htables : Rtables Rel) (hsees : Rsees Rel) (hforget : Rforget Rel) (hwhich : Rwhich Rel) (hlisten : Rlisten Rel) (hkeep : Rkeep Rel) (hback : Rback Rel) (hcount : Rcount Rel) {p : Program} {l : Launch} {e : Env} {s : State} {m : MethodId} {below : List Frame} {meth : Method} {c : Code} {ev : Nat → Nat} {dC : Nat → ClassId} {dI : Nat → Nat → Nat} {cI cZ cO : ClassId} {b L : Nat} {xs : Nat → Int32} {g gm : Nat → Nat} (hL : L ≤ 1536) (C0 : lw_At p s m meth c b L xs) (hE : EN ev (fun q : Nat => s.heap.size ≤ q) s s.heap) (hO : va_AO RX0 s) (hK : va_K (dC, dI) vwCl (tyC cI cZ cO) s) :
    ∀ (n j : Nat) (x3 : Int32), x3 = nI (3 * j) → j ≤ 512 → 513 ≤ n + j → ∀ (Z : SSt) (N X D : LSt) (H : HSt) (S : SSt) (SL T : LSt) (r : Nat → Option Nat) (k0 k1 : Option (Nat × Nat × LSt)) (M : MSt), Rel Z N X H (kS k0) (kS k1) M → r 0 = k0.map (fun q => q.1) → r 1 = k1.map (fun q => q.1) →
      ∀ (H9 : Heap) (locs : List Loc) (ls : Array Slot), va_P (dC, dI) vwCl (wC cI cZ cO g Z N X D H S SL T r gm M ++ (imC cI k0 ++ imC cI k1)) H9 → va_D (fun q : Nat => s.heap.size ≤ q) (wC cI cZ cO g Z N X D H S SL T r gm M ++ (imC cI k0 ++ imC cI k1)) → va_S (fun q : Nat => s.heap.size ≤ q) s.heap H9 locs → lv_has ls 4 [(0, .ref b), (1, .ref (g 0)), (2, .ref (g 15)), (3, .int x3)] →
      W p l e room_1 s m #[Value.ref b] below meth c H9 locs (37 + 2 * j) (668 + 19 * j) (lw_Z below #[Value.ref b] s) (F0 m 18 ls []) := by
  obtain ⟨hx, hb, hr, hml, hown, hts, hX, hbl, hlocks, hgv⟩ := C0
  have hb : c.code = cL_law := hb
  have hown : s.vm.findClass RL = some m.cls := hown
  have hts : ∀ w ∈ wsL_law, w.before #[Value.ref b] s = true := fun w h => hts w (wsL_law_in w h)
  have hA : ∀ q : Nat, s.heap.size ≤ q → (fun q : Nat => s.heap.size ≤ q) q := fun _ h => h
  have hbA : ¬ (fun q : Nat => s.heap.size ≤ q) b := Nat.not_le.mpr hbl
  intro n
  induction n with
  | zero =>
    intro j x3 e3 h1 h2
    exact absurd h2 (by omega)
  | succ n ih =>
    intro j x3 e3 hj hn Z N X D H S SL T r k0 k1 M hRel hr0 hr1 H9 locs ls hP hD hS hl
    obtain ⟨pT, pN, pH, qT, qN, qU, qS, qB⟩ := hpre Z N X H (kS k0) (kS k1) M hRel
    refine lv_iload_n hx hb dL_law_18 rfl (lv_at hl 3 rfl) ?_
    refine lv_aload_n hx hb dL_law_19 rfl (lv_at hl 0 rfl) ?_
    refine va_slen hx hb hX hbl hbA hS dL_law_20 ?_
    refine lv_iconst (v := 3) hx hb dL_law_21 (by decide) ?_
    refine lv_isub hx hb dL_law_22 ?_
    refine lv_icmp_gt (tgt := 628) hx hb dL_law_23 (by decide) (fun c23 => ?_) (fun c23 => ?_)
    · refine lv_iconst (v := 1) hx hb dL_law_628 (by decide) ?_
      refine va_forget (fun q hq => hS.2.2 q hq) ?_
      refine W.widen (k := 600000) (n := 7302250) (by omega) (by omega) ?_
      exact lw_ret hx hb hr hlocks dL_law_629
    · obtain ⟨hlt, hj1, hi0, hi1, hi2⟩ := law_in (L := L) (j := j) e3 hj hL c23
      obtain ⟨p0, ha0⟩ : ∃ q, xs x3.toNatClampNeg = q := ⟨_, rfl⟩
      obtain ⟨p1, ha1⟩ : ∃ q, xs (x3 + 1).toNatClampNeg = q := ⟨_, rfl⟩
      obtain ⟨p2, ha2⟩ : ∃ q, xs (x3 + 2).toNatClampNeg = q := ⟨_, rfl⟩
      have fin : ∀ (Z : SSt) (N X D : LSt) (H : HSt) (S : SSt) (SL T : LSt) (r : Nat → Option Nat) (k0 k1 : Option (Nat × Nat × LSt)) (M : MSt), Rel Z N X H (kS k0) (kS k1) M → r 0 = k0.map (fun q => q.1) → r 1 = k1.map (fun q => q.1) →
          ∀ (H9 : Heap) (locs : List Loc) (ls : Array Slot), va_P (dC, dI) vwCl (wC cI cZ cO g Z N X D H S SL T r gm M ++ (imC cI k0 ++ imC cI k1)) H9 → va_D (fun q : Nat => s.heap.size ≤ q) (wC cI cZ cO g Z N X D H S SL T r gm M ++ (imC cI k0 ++ imC cI k1)) → va_S (fun q : Nat => s.heap.size ≤ q) s.heap H9 locs → lv_has ls 4 [(0, .ref b), (1, .ref (g 0)), (2, .ref (g 15)), (3, .int x3)] →
          W p l e room_1 s m #[Value.ref b] below meth c H9 locs (37 + 2 * j + 2) (668 + 19 * j + 19) (lw_Z below #[Value.ref b] s) (F0 m 622 ls []) := by
        intro Z N X D H S SL T r k0 k1 M hRel hr0 hr1 H9 locs ls hP hD hS hl
        refine lv_iinc (v := x3 + 3) (lv' := [(3, .int (x3 + 3)), (0, .ref b), (1, .ref (g 0)), (2, .ref (g 15))]) hx hb dL_law_622 hl (k := 3) rfl rfl (by decide) rfl (fun ls hl => ?_)
        refine lv_goto (tgt := 18) hx hb dL_law_625 (by decide) ?_
        refine W.widen (k := 37 + 2 * (j + 1)) (n := 668 + 19 * (j + 1)) (by omega) (by omega) ?_
        exact ih (j + 1) (x3 + 3) (law_3 e3) hj1 (by omega) Z N X D H S SL T r k0 k1 M hRel hr0 hr1 H9 locs ls hP hD hS (lv_sub hl [1, 2, 3, 0] rfl)
      refine lv_aload_n hx hb dL_law_26 rfl (lv_at hl 0 rfl) ?_
      refine lv_iload_n hx hb dL_law_27 rfl (lv_at hl 3 rfl) ?_
      refine va_sld hx hb hX hbl hbA hS (i := x3) hi0 dL_law_28 ?_
      rw [ha0]
      refine lv_bipush (v := 31) hx hb dL_law_29 (by decide) ?_
      refine lv_iand hx hb dL_law_31 ?_
      by_cases c32_0 : p0 &&& 31 = 0
      · refine lv_tableIn (x := p0 &&& 31) (off := 104) (tgt := 136) hx hb dL_law_32 (by rw [c32_0]; decide) (by rw [c32_0]; decide) (by rw [c32_0]; rfl) (by decide) ?_
        refine lv_aload_n hx hb dL_law_136 rfl (lv_at hl 1 rfl) ?_
        refine lv_aload_n hx hb dL_law_137 rfl (lv_at hl 0 rfl) ?_
        refine lv_iload_n hx hb dL_law_138 rfl (lv_at hl 3 rfl) ?_
        refine lv_iconst (v := 1) hx hb dL_law_139 (by decide) ?_
        refine lv_iadd hx hb dL_law_140 ?_
        refine va_sld hx hb hX hbl hbA hS (i := x3 + 1) (hi1) dL_law_141 ?_
        rw [ha1]
        refine vq_Vit (As := [.int p1]) (rest := []) (W2 := (wC cI cZ cO g Z N (sX5_type Z X p1).2 D H S SL T r gm M)) (f := (sX5_type Z X p1).1) hx hb hml hown hts hK hP hD hS hA hE hl.1 (cX5_type_c l ev dC dI cI cZ cO (g 0) (g 1) (g 3) (g 7) (g 9) (g 12) (g 14) Z (g 4) (g 5) X p1 pN) gL_law_X5_type rfl hdX5_type (Nat.le_of_ble_eq_true rfl) (Nat.le_of_ble_eq_true rfl) rfl rfl (ci := 5) (qr := 0) rfl rfl rfl [0, 3, 4] [1, 2, 5, 6, 7, 8, 9, 10, 11, 12, 13, 14, 15, 16, 17, 18, 19, 20, 21, 22, 23, 24, 25, 26, 27, 28, 29, 30, 31, 32, 33, 34, 35, 36] [34, 0, 1, 35, 36, 2, 3, 4, 5, 6, 7, 8, 9, 10, 11, 12, 13, 14, 15, 16, 17, 18, 19, 20, 21, 22, 23, 24, 25, 26, 27, 28, 29, 30, 31, 32, 33] rfl rfl (by decide) (by decide) (by decide) rfl rfl rfl (Nat.le_of_ble_eq_true rfl) dL_law_142 ⟨(by show 37 + 2 * j ≤ 600000; omega), (by show 668 + 19 * j ≤ 7302250; omega)⟩ (fun H9 locs hP hD hS => ?_)
        refine lv_aload_n hx hb dL_law_145 rfl (lv_at hl 2 rfl) ?_
        refine lv_aload_n hx hb dL_law_146 rfl (lv_at hl 0 rfl) ?_
        refine lv_iload_n hx hb dL_law_147 rfl (lv_at hl 3 rfl) ?_
        refine lv_iconst (v := 1) hx hb dL_law_148 (by decide) ?_
        refine lv_iadd hx hb dL_law_149 ?_
        refine va_sld hx hb hX hbl hbA hS (i := x3 + 1) (hi1) dL_law_150 ?_
        rw [ha1]
        refine vq_Vit (As := [.int p1]) (rest := [.int (sX5_type Z X p1).1]) (W2 := (wC cI cZ cO g Z N (sX5_type Z X p1).2 D H S SL T r gm (sX6_type M p1).2)) (f := (sX6_type M p1).1) hx hb hml hown hts hK hP hD hS hA hE hl.1 (cX6_type_c l ev dC dI cI cZ cO (g 15) gm M p1 qN) gL_law_X6_type rfl hdX6_type (Nat.le_of_ble_eq_true rfl) (Nat.le_of_ble_eq_true rfl) rfl rfl (ci := 6) (qr := 27) rfl rfl rfl [27, 28, 29, 30, 31, 32, 33, 34, 35, 36] [0, 1, 2, 3, 4, 5, 6, 7, 8, 9, 10, 11, 12, 13, 14, 15, 16, 17, 18, 19, 20, 21, 22, 23, 24, 25, 26] [0, 1, 2, 3, 4, 5, 6, 7, 8, 9, 10, 11, 12, 13, 14, 15, 16, 17, 18, 19, 20, 21, 22, 23, 24, 25, 26, 27, 28, 29, 30, 31, 32, 33, 34, 35, 36] rfl rfl (by decide) (by decide) (by decide) rfl rfl rfl (Nat.le_of_ble_eq_true rfl) dL_law_151 ⟨(by show 37 + 2 * j ≤ 600000; omega), (by show 668 + 19 * j ≤ 7302250; omega)⟩ (fun H9 locs hP hD hS => ?_)
        refine lv_icmp_eq (tgt := 622) hx hb dL_law_154 (by decide) (fun c9 => ?_) (fun c9 => absurd (htype Z N X H (kS k0) (kS k1) M hRel  p1).1 c9)
        refine W.widen (k := 37 + 2 * j + 2) (n := 668 + 19 * j + 19) (by omega) (by omega) ?_
        exact fin Z N (sX5_type Z X p1).2 D H S SL T r k0 k1 (sX6_type M p1).2 (htype Z N X H (kS k0) (kS k1) M hRel  p1).2 hr0 hr1 _ _ ls hP hD hS hl
      · skip
        by_cases c32_1 : p0 &&& 31 = 1
        · refine lv_tableIn (x := p0 &&& 31) (off := 127) (tgt := 159) hx hb dL_law_32 (by rw [c32_1]; decide) (by rw [c32_1]; decide) (by rw [c32_1]; rfl) (by decide) ?_
          refine lv_aload_n hx hb dL_law_159 rfl (lv_at hl 1 rfl) ?_
          refine vq_Vit (As := []) (rest := []) (W2 := (wC cI cZ cO g Z N (sX5_clear Z X).2 D H S SL T r gm M)) (f := (sX5_clear Z X).1) hx hb hml hown hts hK hP hD hS hA hE hl.1 (cX5_clear_c l ev dC dI cI cZ cO (g 0) (g 1) (g 3) (g 7) (g 9) (g 12) (g 14) Z (g 4) (g 5) X) gL_law_X5_clear rfl hdX5_clear (Nat.le_of_ble_eq_true rfl) (Nat.le_of_ble_eq_true rfl) rfl rfl (ci := 5) (qr := 0) rfl rfl rfl [0, 3, 4] [1, 2, 5, 6, 7, 8, 9, 10, 11, 12, 13, 14, 15, 16, 17, 18, 19, 20, 21, 22, 23, 24, 25, 26, 27, 28, 29, 30, 31, 32, 33, 34, 35, 36] [34, 0, 1, 35, 36, 2, 3, 4, 5, 6, 7, 8, 9, 10, 11, 12, 13, 14, 15, 16, 17, 18, 19, 20, 21, 22, 23, 24, 25, 26, 27, 28, 29, 30, 31, 32, 33] rfl rfl (by decide) (by decide) (by decide) rfl rfl rfl (Nat.le_of_ble_eq_true rfl) dL_law_160 ⟨(by show 37 + 2 * j ≤ 600000; omega), (by show 668 + 19 * j ≤ 7302250; omega)⟩ (fun H9 locs hP hD hS => ?_)
          refine lv_aload_n hx hb dL_law_163 rfl (lv_at hl 2 rfl) ?_
          refine vq_Vit (As := []) (rest := [.int (sX5_clear Z X).1]) (W2 := (wC cI cZ cO g Z N (sX5_clear Z X).2 D H S SL T r gm (sX6_clear M).2)) (f := (sX6_clear M).1) hx hb hml hown hts hK hP hD hS hA hE hl.1 (cX6_clear_c l ev dC dI cI cZ cO (g 15) gm M) gL_law_X6_clear rfl hdX6_clear (Nat.le_of_ble_eq_true rfl) (Nat.le_of_ble_eq_true rfl) rfl rfl (ci := 6) (qr := 27) rfl rfl rfl [27, 28, 29, 30, 31, 32, 33, 34, 35, 36] [0, 1, 2, 3, 4, 5, 6, 7, 8, 9, 10, 11, 12, 13, 14, 15, 16, 17, 18, 19, 20, 21, 22, 23, 24, 25, 26] [0, 1, 2, 3, 4, 5, 6, 7, 8, 9, 10, 11, 12, 13, 14, 15, 16, 17, 18, 19, 20, 21, 22, 23, 24, 25, 26, 27, 28, 29, 30, 31, 32, 33, 34, 35, 36] rfl rfl (by decide) (by decide) (by decide) rfl rfl rfl (Nat.le_of_ble_eq_true rfl) dL_law_164 ⟨(by show 37 + 2 * j ≤ 600000; omega), (by show 668 + 19 * j ≤ 7302250; omega)⟩ (fun H9 locs hP hD hS => ?_)
          refine lv_icmp_eq (tgt := 622) hx hb dL_law_167 (by decide) (fun c9 => ?_) (fun c9 => absurd (hclear Z N X H (kS k0) (kS k1) M hRel  ).1 c9)
          refine W.widen (k := 37 + 2 * j + 2) (n := 668 + 19 * j + 19) (by omega) (by omega) ?_
          exact fin Z N (sX5_clear Z X).2 D H S SL T r k0 k1 (sX6_clear M).2 (hclear Z N X H (kS k0) (kS k1) M hRel  ).2 hr0 hr1 _ _ ls hP hD hS hl
        · skip
          by_cases c32_2 : p0 &&& 31 = 2
          · refine lv_tableIn (x := p0 &&& 31) (off := 140) (tgt := 172) hx hb dL_law_32 (by rw [c32_2]; decide) (by rw [c32_2]; decide) (by rw [c32_2]; rfl) (by decide) ?_
            refine lv_aload_n hx hb dL_law_172 rfl (lv_at hl 1 rfl) ?_
            refine vq_Vit (As := []) (rest := []) (W2 := (wC cI cZ cO g Z (sX5_tells Z N X D H).2.1 (sX5_tells Z N X D H).2.2.1 (sX5_tells Z N X D H).2.2.2.1 (sX5_tells Z N X D H).2.2.2.2 S SL T r gm M)) (f := (sX5_tells Z N X D H).1) hx hb hml hown hts hK hP hD hS hA hE hl.1 (cX5_tells_c l ev dC dI cI cZ cO (g 0) (g 1) (g 3) (g 7) (g 9) (g 12) (g 14) Z (g 2) N (g 4) (g 5) X (g 6) D (g 8) H pN pH) gL_law_X5_tells rfl hdX5_tells (Nat.le_of_ble_eq_true rfl) (Nat.le_of_ble_eq_true rfl) rfl rfl (ci := 5) (qr := 0) rfl rfl rfl [0, 1, 2, 3, 4, 5, 6, 7, 8, 9, 10, 11, 12, 13, 14, 15, 16, 17, 18, 19, 20] [21, 22, 23, 24, 25, 26, 27, 28, 29, 30, 31, 32, 33, 34, 35, 36] [16, 17, 18, 19, 20, 21, 22, 23, 24, 25, 26, 27, 28, 29, 30, 31, 32, 33, 34, 35, 36, 0, 1, 2, 3, 4, 5, 6, 7, 8, 9, 10, 11, 12, 13, 14, 15] rfl rfl (by decide) (by decide) (by decide) rfl rfl rfl (Nat.le_of_ble_eq_true rfl) dL_law_173 ⟨(by show 37 + 2 * j ≤ 600000; omega), (by show 668 + 19 * j ≤ 7302250; omega)⟩ (fun H9 locs hP hD hS => ?_)
            refine lv_aload_n hx hb dL_law_176 rfl (lv_at hl 2 rfl) ?_
            refine vq_Vit (As := []) (rest := [.int (sX5_tells Z N X D H).1]) (W2 := (wC cI cZ cO g Z (sX5_tells Z N X D H).2.1 (sX5_tells Z N X D H).2.2.1 (sX5_tells Z N X D H).2.2.2.1 (sX5_tells Z N X D H).2.2.2.2 S SL T r gm (sX6_tells M).2)) (f := (sX6_tells M).1) hx hb hml hown hts hK hP hD hS hA hE hl.1 (cX6_tells_c l ev dC dI cI cZ cO (g 15) gm M qN qU) gL_law_X6_tells rfl hdX6_tells (Nat.le_of_ble_eq_true rfl) (Nat.le_of_ble_eq_true rfl) rfl rfl (ci := 6) (qr := 27) rfl rfl rfl [27, 28, 29, 30, 31, 32, 33, 34, 35, 36] [0, 1, 2, 3, 4, 5, 6, 7, 8, 9, 10, 11, 12, 13, 14, 15, 16, 17, 18, 19, 20, 21, 22, 23, 24, 25, 26] [0, 1, 2, 3, 4, 5, 6, 7, 8, 9, 10, 11, 12, 13, 14, 15, 16, 17, 18, 19, 20, 21, 22, 23, 24, 25, 26, 27, 28, 29, 30, 31, 32, 33, 34, 35, 36] rfl rfl (by decide) (by decide) (by decide) rfl rfl rfl (Nat.le_of_ble_eq_true rfl) dL_law_177 ⟨(by show 37 + 2 * j ≤ 600000; omega), (by show 668 + 19 * j ≤ 7302250; omega)⟩ (fun H9 locs hP hD hS => ?_)
            refine lv_icmp_eq (tgt := 622) hx hb dL_law_180 (by decide) (fun c9 => ?_) (fun c9 => absurd (htells Z N X H (kS k0) (kS k1) M hRel D ).1 c9)
            refine W.widen (k := 37 + 2 * j + 2) (n := 668 + 19 * j + 19) (by omega) (by omega) ?_
            exact fin Z (sX5_tells Z N X D H).2.1 (sX5_tells Z N X D H).2.2.1 (sX5_tells Z N X D H).2.2.2.1 (sX5_tells Z N X D H).2.2.2.2 S SL T r k0 k1 (sX6_tells M).2 (htells Z N X H (kS k0) (kS k1) M hRel D ).2 hr0 hr1 _ _ ls hP hD hS hl
          · skip
            by_cases c32_3 : p0 &&& 31 = 3
            · refine lv_tableIn (x := p0 &&& 31) (off := 153) (tgt := 185) hx hb dL_law_32 (by rw [c32_3]; decide) (by rw [c32_3]; decide) (by rw [c32_3]; rfl) (by decide) ?_
              refine lv_aload_n hx hb dL_law_185 rfl (lv_at hl 1 rfl) ?_
              refine lv_aload_n hx hb dL_law_186 rfl (lv_at hl 0 rfl) ?_
              refine lv_iload_n hx hb dL_law_187 rfl (lv_at hl 3 rfl) ?_
              refine lv_iconst (v := 1) hx hb dL_law_188 (by decide) ?_
              refine lv_iadd hx hb dL_law_189 ?_
              refine va_sld hx hb hX hbl hbA hS (i := x3 + 1) (hi1) dL_law_190 ?_
              rw [ha1]
              refine lv_aload_n hx hb dL_law_191 rfl (lv_at hl 0 rfl) ?_
              refine lv_iload_n hx hb dL_law_192 rfl (lv_at hl 3 rfl) ?_
              refine lv_iconst (v := 2) hx hb dL_law_193 (by decide) ?_
              refine lv_iadd hx hb dL_law_194 ?_
              refine va_sld hx hb hX hbl hbA hS (i := x3 + 2) (hi2) dL_law_195 ?_
              rw [ha2]
              refine vq_Vit (As := [.int p1, .int p2]) (rest := []) (W2 := (wC cI cZ cO g Z (sX5_gives Z N H p1 p2).2.1 X D (sX5_gives Z N H p1 p2).2.2 S SL T r gm M)) (f := (sX5_gives Z N H p1 p2).1) hx hb hml hown hts hK hP hD hS hA hE hl.1 (cX5_gives_c l ev dC dI cI cZ cO (g 0) (g 1) (g 3) (g 7) (g 9) (g 12) (g 14) Z (g 2) N (g 8) H p1 p2 pH) gL_law_X5_gives rfl hdX5_gives (Nat.le_of_ble_eq_true rfl) (Nat.le_of_ble_eq_true rfl) rfl rfl (ci := 5) (qr := 0) rfl rfl rfl [0, 1, 2, 7, 8, 9, 10, 11, 12, 13, 14, 15, 16, 17, 18, 19, 20] [3, 4, 5, 6, 21, 22, 23, 24, 25, 26, 27, 28, 29, 30, 31, 32, 33, 34, 35, 36] [20, 21, 22, 0, 1, 2, 3, 23, 24, 25, 26, 27, 28, 29, 30, 31, 32, 33, 34, 35, 36, 4, 5, 6, 7, 8, 9, 10, 11, 12, 13, 14, 15, 16, 17, 18, 19] rfl rfl (by decide) (by decide) (by decide) rfl rfl rfl (Nat.le_of_ble_eq_true rfl) dL_law_196 ⟨(by show 37 + 2 * j ≤ 600000; omega), (by show 668 + 19 * j ≤ 7302250; omega)⟩ (fun H9 locs hP hD hS => ?_)
              refine lv_aload_n hx hb dL_law_199 rfl (lv_at hl 2 rfl) ?_
              refine lv_aload_n hx hb dL_law_200 rfl (lv_at hl 0 rfl) ?_
              refine lv_iload_n hx hb dL_law_201 rfl (lv_at hl 3 rfl) ?_
              refine lv_iconst (v := 1) hx hb dL_law_202 (by decide) ?_
              refine lv_iadd hx hb dL_law_203 ?_
              refine va_sld hx hb hX hbl hbA hS (i := x3 + 1) (hi1) dL_law_204 ?_
              rw [ha1]
              refine lv_aload_n hx hb dL_law_205 rfl (lv_at hl 0 rfl) ?_
              refine lv_iload_n hx hb dL_law_206 rfl (lv_at hl 3 rfl) ?_
              refine lv_iconst (v := 2) hx hb dL_law_207 (by decide) ?_
              refine lv_iadd hx hb dL_law_208 ?_
              refine va_sld hx hb hX hbl hbA hS (i := x3 + 2) (hi2) dL_law_209 ?_
              rw [ha2]
              refine vq_Vit (As := [.int p1, .int p2]) (rest := [.int (sX5_gives Z N H p1 p2).1]) (W2 := (wC cI cZ cO g Z (sX5_gives Z N H p1 p2).2.1 X D (sX5_gives Z N H p1 p2).2.2 S SL T r gm (sX6_gives M p1 p2).2)) (f := (sX6_gives M p1 p2).1) hx hb hml hown hts hK hP hD hS hA hE hl.1 (cX6_gives_c l ev dC dI cI cZ cO (g 15) gm M p1 p2 qT qU) gL_law_X6_gives rfl hdX6_gives (Nat.le_of_ble_eq_true rfl) (Nat.le_of_ble_eq_true rfl) rfl rfl (ci := 6) (qr := 27) rfl rfl rfl [27, 28, 29, 30, 31, 32, 33, 34, 35, 36] [0, 1, 2, 3, 4, 5, 6, 7, 8, 9, 10, 11, 12, 13, 14, 15, 16, 17, 18, 19, 20, 21, 22, 23, 24, 25, 26] [0, 1, 2, 3, 4, 5, 6, 7, 8, 9, 10, 11, 12, 13, 14, 15, 16, 17, 18, 19, 20, 21, 22, 23, 24, 25, 26, 27, 28, 29, 30, 31, 32, 33, 34, 35, 36] rfl rfl (by decide) (by decide) (by decide) rfl rfl rfl (Nat.le_of_ble_eq_true rfl) dL_law_210 ⟨(by show 37 + 2 * j ≤ 600000; omega), (by show 668 + 19 * j ≤ 7302250; omega)⟩ (fun H9 locs hP hD hS => ?_)
              refine lv_icmp_eq (tgt := 622) hx hb dL_law_213 (by decide) (fun c9 => ?_) (fun c9 => absurd (hgives Z N X H (kS k0) (kS k1) M hRel  p1 p2).1 c9)
              refine W.widen (k := 37 + 2 * j + 2) (n := 668 + 19 * j + 19) (by omega) (by omega) ?_
              exact fin Z (sX5_gives Z N H p1 p2).2.1 X D (sX5_gives Z N H p1 p2).2.2 S SL T r k0 k1 (sX6_gives M p1 p2).2 (hgives Z N X H (kS k0) (kS k1) M hRel  p1 p2).2 hr0 hr1 _ _ ls hP hD hS hl
            · skip
              by_cases c32_4 : p0 &&& 31 = 4
              · refine lv_tableIn (x := p0 &&& 31) (off := 186) (tgt := 218) hx hb dL_law_32 (by rw [c32_4]; decide) (by rw [c32_4]; decide) (by rw [c32_4]; rfl) (by decide) ?_
                refine lv_aload_n hx hb dL_law_218 rfl (lv_at hl 1 rfl) ?_
                refine lv_aload_n hx hb dL_law_219 rfl (lv_at hl 0 rfl) ?_
                refine lv_iload_n hx hb dL_law_220 rfl (lv_at hl 3 rfl) ?_
                refine lv_iconst (v := 1) hx hb dL_law_221 (by decide) ?_
                refine lv_iadd hx hb dL_law_222 ?_
                refine va_sld hx hb hX hbl hbA hS (i := x3 + 1) (hi1) dL_law_223 ?_
                rw [ha1]
                refine lv_aload_n hx hb dL_law_224 rfl (lv_at hl 0 rfl) ?_
                refine lv_iload_n hx hb dL_law_225 rfl (lv_at hl 3 rfl) ?_
                refine lv_iconst (v := 2) hx hb dL_law_226 (by decide) ?_
                refine lv_iadd hx hb dL_law_227 ?_
                refine va_sld hx hb hX hbl hbA hS (i := x3 + 2) (hi2) dL_law_228 ?_
                rw [ha2]
                refine vq_Vit (As := [.int p1, .int p2]) (rest := []) (W2 := (wC cI cZ cO g Z (sX5_flips Z N H p1 p2).2.1 X D (sX5_flips Z N H p1 p2).2.2 S SL T r gm M)) (f := (sX5_flips Z N H p1 p2).1) hx hb hml hown hts hK hP hD hS hA hE hl.1 (cX5_flips_c l ev dC dI cI cZ cO (g 0) (g 1) (g 3) (g 7) (g 9) (g 12) (g 14) Z (g 2) N (g 8) H p1 p2 pH) gL_law_X5_flips rfl hdX5_flips (Nat.le_of_ble_eq_true rfl) (Nat.le_of_ble_eq_true rfl) rfl rfl (ci := 5) (qr := 0) rfl rfl rfl [0, 1, 2, 7, 8, 9, 10, 11, 12, 13, 14, 15, 16, 17, 18, 19, 20] [3, 4, 5, 6, 21, 22, 23, 24, 25, 26, 27, 28, 29, 30, 31, 32, 33, 34, 35, 36] [20, 21, 22, 0, 1, 2, 3, 23, 24, 25, 26, 27, 28, 29, 30, 31, 32, 33, 34, 35, 36, 4, 5, 6, 7, 8, 9, 10, 11, 12, 13, 14, 15, 16, 17, 18, 19] rfl rfl (by decide) (by decide) (by decide) rfl rfl rfl (Nat.le_of_ble_eq_true rfl) dL_law_229 ⟨(by show 37 + 2 * j ≤ 600000; omega), (by show 668 + 19 * j ≤ 7302250; omega)⟩ (fun H9 locs hP hD hS => ?_)
                refine lv_aload_n hx hb dL_law_232 rfl (lv_at hl 2 rfl) ?_
                refine lv_aload_n hx hb dL_law_233 rfl (lv_at hl 0 rfl) ?_
                refine lv_iload_n hx hb dL_law_234 rfl (lv_at hl 3 rfl) ?_
                refine lv_iconst (v := 1) hx hb dL_law_235 (by decide) ?_
                refine lv_iadd hx hb dL_law_236 ?_
                refine va_sld hx hb hX hbl hbA hS (i := x3 + 1) (hi1) dL_law_237 ?_
                rw [ha1]
                refine lv_aload_n hx hb dL_law_238 rfl (lv_at hl 0 rfl) ?_
                refine lv_iload_n hx hb dL_law_239 rfl (lv_at hl 3 rfl) ?_
                refine lv_iconst (v := 2) hx hb dL_law_240 (by decide) ?_
                refine lv_iadd hx hb dL_law_241 ?_
                refine va_sld hx hb hX hbl hbA hS (i := x3 + 2) (hi2) dL_law_242 ?_
                rw [ha2]
                refine vq_Vit (As := [.int p1, .int p2]) (rest := [.int (sX5_flips Z N H p1 p2).1]) (W2 := (wC cI cZ cO g Z (sX5_flips Z N H p1 p2).2.1 X D (sX5_flips Z N H p1 p2).2.2 S SL T r gm (sX6_flips M p1 p2).2)) (f := (sX6_flips M p1 p2).1) hx hb hml hown hts hK hP hD hS hA hE hl.1 (cX6_flips_c l ev dC dI cI cZ cO (g 15) gm M p1 p2 qT qU) gL_law_X6_flips rfl hdX6_flips (Nat.le_of_ble_eq_true rfl) (Nat.le_of_ble_eq_true rfl) rfl rfl (ci := 6) (qr := 27) rfl rfl rfl [27, 28, 29, 30, 31, 32, 33, 34, 35, 36] [0, 1, 2, 3, 4, 5, 6, 7, 8, 9, 10, 11, 12, 13, 14, 15, 16, 17, 18, 19, 20, 21, 22, 23, 24, 25, 26] [0, 1, 2, 3, 4, 5, 6, 7, 8, 9, 10, 11, 12, 13, 14, 15, 16, 17, 18, 19, 20, 21, 22, 23, 24, 25, 26, 27, 28, 29, 30, 31, 32, 33, 34, 35, 36] rfl rfl (by decide) (by decide) (by decide) rfl rfl rfl (Nat.le_of_ble_eq_true rfl) dL_law_243 ⟨(by show 37 + 2 * j ≤ 600000; omega), (by show 668 + 19 * j ≤ 7302250; omega)⟩ (fun H9 locs hP hD hS => ?_)
                refine lv_icmp_eq (tgt := 622) hx hb dL_law_246 (by decide) (fun c9 => ?_) (fun c9 => absurd (hflips Z N X H (kS k0) (kS k1) M hRel  p1 p2).1 c9)
                refine W.widen (k := 37 + 2 * j + 2) (n := 668 + 19 * j + 19) (by omega) (by omega) ?_
                exact fin Z (sX5_flips Z N H p1 p2).2.1 X D (sX5_flips Z N H p1 p2).2.2 S SL T r k0 k1 (sX6_flips M p1 p2).2 (hflips Z N X H (kS k0) (kS k1) M hRel  p1 p2).2 hr0 hr1 _ _ ls hP hD hS hl
              · skip
                by_cases c32_5 : p0 &&& 31 = 5
                · refine lv_tableIn (x := p0 &&& 31) (off := 219) (tgt := 251) hx hb dL_law_32 (by rw [c32_5]; decide) (by rw [c32_5]; decide) (by rw [c32_5]; rfl) (by decide) ?_
                  refine lv_aload_n hx hb dL_law_251 rfl (lv_at hl 1 rfl) ?_
                  refine vq_Vit (As := []) (rest := []) (W2 := (wC cI cZ cO g Z (sX5_mends Z N S SL H).2.1 X D (sX5_mends Z N S SL H).2.2.2.2 (sX5_mends Z N S SL H).2.2.1 (sX5_mends Z N S SL H).2.2.2.1 T r gm M)) (f := (sX5_mends Z N S SL H).1) hx hb hml hown hts hK hP hD hS hA hE hl.1 (cX5_mends_c l ev dC dI cI cZ cO (g 0) (g 1) (g 3) (g 7) (g 9) (g 12) (g 14) Z (g 2) N (g 10) S (g 11) SL (g 8) H pT pH) gL_law_X5_mends rfl hdX5_mends (Nat.le_of_ble_eq_true rfl) (Nat.le_of_ble_eq_true rfl) rfl rfl (ci := 5) (qr := 0) rfl rfl rfl [0, 1, 2, 21, 22, 23, 7, 8, 9, 10, 11, 12, 13, 14, 15, 16, 17, 18, 19, 20] [3, 4, 5, 6, 24, 25, 26, 27, 28, 29, 30, 31, 32, 33, 34, 35, 36] [17, 18, 19, 0, 1, 2, 3, 23, 24, 25, 26, 27, 28, 29, 30, 31, 32, 33, 34, 35, 36, 20, 21, 22, 4, 5, 6, 7, 8, 9, 10, 11, 12, 13, 14, 15, 16] rfl rfl (by decide) (by decide) (by decide) rfl rfl rfl (Nat.le_of_ble_eq_true rfl) dL_law_252 ⟨(by show 37 + 2 * j ≤ 600000; omega), (by show 668 + 19 * j ≤ 7302250; omega)⟩ (fun H9 locs hP hD hS => ?_)
                  refine lv_aload_n hx hb dL_law_255 rfl (lv_at hl 2 rfl) ?_
                  refine vq_Vit (As := []) (rest := [.int (sX5_mends Z N S SL H).1]) (W2 := (wC cI cZ cO g Z (sX5_mends Z N S SL H).2.1 X D (sX5_mends Z N S SL H).2.2.2.2 (sX5_mends Z N S SL H).2.2.1 (sX5_mends Z N S SL H).2.2.2.1 T r gm (sX6_mends M).2)) (f := (sX6_mends M).1) hx hb hml hown hts hK hP hD hS hA hE hl.1 (cX6_mends_c l ev dC dI cI cZ cO (g 15) gm M qT qU) gL_law_X6_mends rfl hdX6_mends (Nat.le_of_ble_eq_true rfl) (Nat.le_of_ble_eq_true rfl) rfl rfl (ci := 6) (qr := 27) rfl rfl rfl [27, 28, 29, 30, 31, 32, 33, 34, 35, 36] [0, 1, 2, 3, 4, 5, 6, 7, 8, 9, 10, 11, 12, 13, 14, 15, 16, 17, 18, 19, 20, 21, 22, 23, 24, 25, 26] [0, 1, 2, 3, 4, 5, 6, 7, 8, 9, 10, 11, 12, 13, 14, 15, 16, 17, 18, 19, 20, 21, 22, 23, 24, 25, 26, 27, 28, 29, 30, 31, 32, 33, 34, 35, 36] rfl rfl (by decide) (by decide) (by decide) rfl rfl rfl (Nat.le_of_ble_eq_true rfl) dL_law_256 ⟨(by show 37 + 2 * j ≤ 600000; omega), (by show 668 + 19 * j ≤ 7302250; omega)⟩ (fun H9 locs hP hD hS => ?_)
                  refine lv_icmp_eq (tgt := 622) hx hb dL_law_259 (by decide) (fun c9 => ?_) (fun c9 => absurd (hmends Z N X H (kS k0) (kS k1) M hRel S SL ).1 c9)
                  refine W.widen (k := 37 + 2 * j + 2) (n := 668 + 19 * j + 19) (by omega) (by omega) ?_
                  exact fin Z (sX5_mends Z N S SL H).2.1 X D (sX5_mends Z N S SL H).2.2.2.2 (sX5_mends Z N S SL H).2.2.1 (sX5_mends Z N S SL H).2.2.2.1 T r k0 k1 (sX6_mends M).2 (hmends Z N X H (kS k0) (kS k1) M hRel S SL ).2 hr0 hr1 _ _ ls hP hD hS hl
                · skip
                  by_cases c32_6 : p0 &&& 31 = 6
                  · refine lv_tableIn (x := p0 &&& 31) (off := 232) (tgt := 264) hx hb dL_law_32 (by rw [c32_6]; decide) (by rw [c32_6]; decide) (by rw [c32_6]; rfl) (by decide) ?_
                    refine lv_aload_n hx hb dL_law_264 rfl (lv_at hl 1 rfl) ?_
                    refine lv_aload_n hx hb dL_law_265 rfl (lv_at hl 0 rfl) ?_
                    refine lv_iload_n hx hb dL_law_266 rfl (lv_at hl 3 rfl) ?_
                    refine lv_iconst (v := 1) hx hb dL_law_267 (by decide) ?_
                    refine lv_iadd hx hb dL_law_268 ?_
                    refine va_sld hx hb hX hbl hbA hS (i := x3 + 1) (hi1) dL_law_269 ?_
                    rw [ha1]
                    refine lv_aload_n hx hb dL_law_270 rfl (lv_at hl 0 rfl) ?_
                    refine lv_iload_n hx hb dL_law_271 rfl (lv_at hl 3 rfl) ?_
                    refine lv_iconst (v := 2) hx hb dL_law_272 (by decide) ?_
                    refine lv_iadd hx hb dL_law_273 ?_
                    refine va_sld hx hb hX hbl hbA hS (i := x3 + 2) (hi2) dL_law_274 ?_
                    rw [ha2]
                    refine vq_Vit (As := [.int p1, .int p2]) (rest := []) (W2 := (wC cI cZ cO g Z (sX5_sets Z N H p1 p2).2.1 X D (sX5_sets Z N H p1 p2).2.2 S SL T r gm M)) (f := (sX5_sets Z N H p1 p2).1) hx hb hml hown hts hK hP hD hS hA hE hl.1 (cX5_sets_c l ev dC dI cI cZ cO (g 0) (g 1) (g 3) (g 7) (g 9) (g 12) (g 14) Z (g 2) N (g 8) H p1 p2 pH) gL_law_X5_sets rfl hdX5_sets (Nat.le_of_ble_eq_true rfl) (Nat.le_of_ble_eq_true rfl) rfl rfl (ci := 5) (qr := 0) rfl rfl rfl [0, 1, 2, 7, 8, 9, 10, 11, 12, 13, 14, 15, 16, 17, 18, 19, 20] [3, 4, 5, 6, 21, 22, 23, 24, 25, 26, 27, 28, 29, 30, 31, 32, 33, 34, 35, 36] [20, 21, 22, 0, 1, 2, 3, 23, 24, 25, 26, 27, 28, 29, 30, 31, 32, 33, 34, 35, 36, 4, 5, 6, 7, 8, 9, 10, 11, 12, 13, 14, 15, 16, 17, 18, 19] rfl rfl (by decide) (by decide) (by decide) rfl rfl rfl (Nat.le_of_ble_eq_true rfl) dL_law_275 ⟨(by show 37 + 2 * j ≤ 600000; omega), (by show 668 + 19 * j ≤ 7302250; omega)⟩ (fun H9 locs hP hD hS => ?_)
                    refine lv_aload_n hx hb dL_law_278 rfl (lv_at hl 2 rfl) ?_
                    refine lv_aload_n hx hb dL_law_279 rfl (lv_at hl 0 rfl) ?_
                    refine lv_iload_n hx hb dL_law_280 rfl (lv_at hl 3 rfl) ?_
                    refine lv_iconst (v := 1) hx hb dL_law_281 (by decide) ?_
                    refine lv_iadd hx hb dL_law_282 ?_
                    refine va_sld hx hb hX hbl hbA hS (i := x3 + 1) (hi1) dL_law_283 ?_
                    rw [ha1]
                    refine lv_aload_n hx hb dL_law_284 rfl (lv_at hl 0 rfl) ?_
                    refine lv_iload_n hx hb dL_law_285 rfl (lv_at hl 3 rfl) ?_
                    refine lv_iconst (v := 2) hx hb dL_law_286 (by decide) ?_
                    refine lv_iadd hx hb dL_law_287 ?_
                    refine va_sld hx hb hX hbl hbA hS (i := x3 + 2) (hi2) dL_law_288 ?_
                    rw [ha2]
                    refine vq_Vit (As := [.int p1, .int p2]) (rest := [.int (sX5_sets Z N H p1 p2).1]) (W2 := (wC cI cZ cO g Z (sX5_sets Z N H p1 p2).2.1 X D (sX5_sets Z N H p1 p2).2.2 S SL T r gm (sX6_sets M p1 p2).2)) (f := (sX6_sets M p1 p2).1) hx hb hml hown hts hK hP hD hS hA hE hl.1 (cX6_sets_c l ev dC dI cI cZ cO (g 15) gm M p1 p2 qU) gL_law_X6_sets rfl hdX6_sets (Nat.le_of_ble_eq_true rfl) (Nat.le_of_ble_eq_true rfl) rfl rfl (ci := 6) (qr := 27) rfl rfl rfl [27, 28, 29, 30, 31, 32, 33, 34, 35, 36] [0, 1, 2, 3, 4, 5, 6, 7, 8, 9, 10, 11, 12, 13, 14, 15, 16, 17, 18, 19, 20, 21, 22, 23, 24, 25, 26] [0, 1, 2, 3, 4, 5, 6, 7, 8, 9, 10, 11, 12, 13, 14, 15, 16, 17, 18, 19, 20, 21, 22, 23, 24, 25, 26, 27, 28, 29, 30, 31, 32, 33, 34, 35, 36] rfl rfl (by decide) (by decide) (by decide) rfl rfl rfl (Nat.le_of_ble_eq_true rfl) dL_law_289 ⟨(by show 37 + 2 * j ≤ 600000; omega), (by show 668 + 19 * j ≤ 7302250; omega)⟩ (fun H9 locs hP hD hS => ?_)
                    refine lv_icmp_eq (tgt := 622) hx hb dL_law_292 (by decide) (fun c9 => ?_) (fun c9 => absurd (hsets Z N X H (kS k0) (kS k1) M hRel  p1 p2).1 c9)
                    refine W.widen (k := 37 + 2 * j + 2) (n := 668 + 19 * j + 19) (by omega) (by omega) ?_
                    exact fin Z (sX5_sets Z N H p1 p2).2.1 X D (sX5_sets Z N H p1 p2).2.2 S SL T r k0 k1 (sX6_sets M p1 p2).2 (hsets Z N X H (kS k0) (kS k1) M hRel  p1 p2).2 hr0 hr1 _ _ ls hP hD hS hl
                  · skip
                    by_cases c32_7 : p0 &&& 31 = 7
                    · refine lv_tableIn (x := p0 &&& 31) (off := 265) (tgt := 297) hx hb dL_law_32 (by rw [c32_7]; decide) (by rw [c32_7]; decide) (by rw [c32_7]; rfl) (by decide) ?_
                      refine lv_aload_n hx hb dL_law_297 rfl (lv_at hl 1 rfl) ?_
                      refine vq_Vit (As := []) (rest := []) (W2 := (wC cI cZ cO g Z (sX5_undo Z N H).2.1 X D (sX5_undo Z N H).2.2 S SL T r gm M)) (f := (sX5_undo Z N H).1) hx hb hml hown hts hK hP hD hS hA hE hl.1 (cX5_undo_c l ev dC dI cI cZ cO (g 0) (g 1) (g 3) (g 7) (g 9) (g 12) (g 14) Z (g 2) N (g 8) H pH) gL_law_X5_undo rfl hdX5_undo (Nat.le_of_ble_eq_true rfl) (Nat.le_of_ble_eq_true rfl) rfl rfl (ci := 5) (qr := 0) rfl rfl rfl [0, 1, 2, 7, 8, 9, 10, 11, 12, 13, 14, 15, 16, 17, 18, 19, 20] [3, 4, 5, 6, 21, 22, 23, 24, 25, 26, 27, 28, 29, 30, 31, 32, 33, 34, 35, 36] [20, 21, 22, 0, 1, 2, 3, 23, 24, 25, 26, 27, 28, 29, 30, 31, 32, 33, 34, 35, 36, 4, 5, 6, 7, 8, 9, 10, 11, 12, 13, 14, 15, 16, 17, 18, 19] rfl rfl (by decide) (by decide) (by decide) rfl rfl rfl (Nat.le_of_ble_eq_true rfl) dL_law_298 ⟨(by show 37 + 2 * j ≤ 600000; omega), (by show 668 + 19 * j ≤ 7302250; omega)⟩ (fun H9 locs hP hD hS => ?_)
                      refine lv_aload_n hx hb dL_law_301 rfl (lv_at hl 2 rfl) ?_
                      refine vq_Vit (As := []) (rest := [.int (sX5_undo Z N H).1]) (W2 := (wC cI cZ cO g Z (sX5_undo Z N H).2.1 X D (sX5_undo Z N H).2.2 S SL T r gm (sX6_undo M).2)) (f := (sX6_undo M).1) hx hb hml hown hts hK hP hD hS hA hE hl.1 (cX6_undo_c l ev dC dI cI cZ cO (g 15) gm M qU) gL_law_X6_undo rfl hdX6_undo (Nat.le_of_ble_eq_true rfl) (Nat.le_of_ble_eq_true rfl) rfl rfl (ci := 6) (qr := 27) rfl rfl rfl [27, 28, 29, 30, 31, 32, 33, 34, 35, 36] [0, 1, 2, 3, 4, 5, 6, 7, 8, 9, 10, 11, 12, 13, 14, 15, 16, 17, 18, 19, 20, 21, 22, 23, 24, 25, 26] [0, 1, 2, 3, 4, 5, 6, 7, 8, 9, 10, 11, 12, 13, 14, 15, 16, 17, 18, 19, 20, 21, 22, 23, 24, 25, 26, 27, 28, 29, 30, 31, 32, 33, 34, 35, 36] rfl rfl (by decide) (by decide) (by decide) rfl rfl rfl (Nat.le_of_ble_eq_true rfl) dL_law_302 ⟨(by show 37 + 2 * j ≤ 600000; omega), (by show 668 + 19 * j ≤ 7302250; omega)⟩ (fun H9 locs hP hD hS => ?_)
                      refine lv_icmp_eq (tgt := 622) hx hb dL_law_305 (by decide) (fun c9 => ?_) (fun c9 => absurd (hundo Z N X H (kS k0) (kS k1) M hRel  ).1 c9)
                      refine W.widen (k := 37 + 2 * j + 2) (n := 668 + 19 * j + 19) (by omega) (by omega) ?_
                      exact fin Z (sX5_undo Z N H).2.1 X D (sX5_undo Z N H).2.2 S SL T r k0 k1 (sX6_undo M).2 (hundo Z N X H (kS k0) (kS k1) M hRel  ).2 hr0 hr1 _ _ ls hP hD hS hl
                    · skip
                      by_cases c32_8 : p0 &&& 31 = 8
                      · refine lv_tableIn (x := p0 &&& 31) (off := 278) (tgt := 310) hx hb dL_law_32 (by rw [c32_8]; decide) (by rw [c32_8]; decide) (by rw [c32_8]; rfl) (by decide) ?_
                        refine lv_aload_n hx hb dL_law_310 rfl (lv_at hl 1 rfl) ?_
                        refine lv_aload_n hx hb dL_law_311 rfl (lv_at hl 0 rfl) ?_
                        refine lv_iload_n hx hb dL_law_312 rfl (lv_at hl 3 rfl) ?_
                        refine lv_iconst (v := 1) hx hb dL_law_313 (by decide) ?_
                        refine lv_iadd hx hb dL_law_314 ?_
                        refine va_sld hx hb hX hbl hbA hS (i := x3 + 1) (hi1) dL_law_315 ?_
                        rw [ha1]
                        refine lv_aload_n hx hb dL_law_316 rfl (lv_at hl 0 rfl) ?_
                        refine lv_iload_n hx hb dL_law_317 rfl (lv_at hl 3 rfl) ?_
                        refine lv_iconst (v := 2) hx hb dL_law_318 (by decide) ?_
                        refine lv_iadd hx hb dL_law_319 ?_
                        refine va_sld hx hb hX hbl hbA hS (i := x3 + 2) (hi2) dL_law_320 ?_
                        rw [ha2]
                        refine vq_Vit (As := [.int p1, .int p2]) (rest := []) (W2 := (wC cI cZ cO g Z N X D H S SL T r gm M)) (f := (sX5_tick Z N p1 p2)) hx hb hml hown hts hK hP hD hS hA hE hl.1 (cX5_tick_c l ev dC dI cI cZ cO (g 0) (g 1) (g 3) (g 7) (g 9) (g 12) (g 14) Z (g 2) N p1 p2 pT) gL_law_X5_tick rfl hdX5_tick (Nat.le_of_ble_eq_true rfl) (Nat.le_of_ble_eq_true rfl) rfl rfl (ci := 5) (qr := 0) rfl rfl rfl [0, 1, 2] [3, 4, 5, 6, 7, 8, 9, 10, 11, 12, 13, 14, 15, 16, 17, 18, 19, 20, 21, 22, 23, 24, 25, 26, 27, 28, 29, 30, 31, 32, 33, 34, 35, 36] [34, 35, 36, 0, 1, 2, 3, 4, 5, 6, 7, 8, 9, 10, 11, 12, 13, 14, 15, 16, 17, 18, 19, 20, 21, 22, 23, 24, 25, 26, 27, 28, 29, 30, 31, 32, 33] rfl rfl (by decide) (by decide) (by decide) rfl rfl rfl (Nat.le_of_ble_eq_true rfl) dL_law_321 ⟨(by show 37 + 2 * j ≤ 600000; omega), (by show 668 + 19 * j ≤ 7302250; omega)⟩ (fun H9 locs hP hD hS => ?_)
                        refine lv_aload_n hx hb dL_law_324 rfl (lv_at hl 2 rfl) ?_
                        refine lv_aload_n hx hb dL_law_325 rfl (lv_at hl 0 rfl) ?_
                        refine lv_iload_n hx hb dL_law_326 rfl (lv_at hl 3 rfl) ?_
                        refine lv_iconst (v := 1) hx hb dL_law_327 (by decide) ?_
                        refine lv_iadd hx hb dL_law_328 ?_
                        refine va_sld hx hb hX hbl hbA hS (i := x3 + 1) (hi1) dL_law_329 ?_
                        rw [ha1]
                        refine lv_aload_n hx hb dL_law_330 rfl (lv_at hl 0 rfl) ?_
                        refine lv_iload_n hx hb dL_law_331 rfl (lv_at hl 3 rfl) ?_
                        refine lv_iconst (v := 2) hx hb dL_law_332 (by decide) ?_
                        refine lv_iadd hx hb dL_law_333 ?_
                        refine va_sld hx hb hX hbl hbA hS (i := x3 + 2) (hi2) dL_law_334 ?_
                        rw [ha2]
                        refine vq_Vit (As := [.int p1, .int p2]) (rest := [.int (sX5_tick Z N p1 p2)]) (W2 := (wC cI cZ cO g Z N X D H S SL T r gm M)) (f := (sX6_tick M p1 p2)) hx hb hml hown hts hK hP hD hS hA hE hl.1 (cX6_tick_c l ev dC dI cI cZ cO (g 15) gm M p1 p2 qT) gL_law_X6_tick rfl hdX6_tick (Nat.le_of_ble_eq_true rfl) (Nat.le_of_ble_eq_true rfl) rfl rfl (ci := 6) (qr := 27) rfl rfl rfl [27, 28, 29, 30, 31, 32, 33, 34, 35, 36] [0, 1, 2, 3, 4, 5, 6, 7, 8, 9, 10, 11, 12, 13, 14, 15, 16, 17, 18, 19, 20, 21, 22, 23, 24, 25, 26] [0, 1, 2, 3, 4, 5, 6, 7, 8, 9, 10, 11, 12, 13, 14, 15, 16, 17, 18, 19, 20, 21, 22, 23, 24, 25, 26, 27, 28, 29, 30, 31, 32, 33, 34, 35, 36] rfl rfl (by decide) (by decide) (by decide) rfl rfl rfl (Nat.le_of_ble_eq_true rfl) dL_law_335 ⟨(by show 37 + 2 * j ≤ 600000; omega), (by show 668 + 19 * j ≤ 7302250; omega)⟩ (fun H9 locs hP hD hS => ?_)
                        refine lv_icmp_eq (tgt := 622) hx hb dL_law_338 (by decide) (fun c9 => ?_) (fun c9 => absurd (htick Z N X H (kS k0) (kS k1) M hRel  p1 p2) c9)
                        refine W.widen (k := 37 + 2 * j + 2) (n := 668 + 19 * j + 19) (by omega) (by omega) ?_
                        exact fin Z N X D H S SL T r k0 k1 M hRel hr0 hr1 _ _ ls hP hD hS hl
                      · skip
                        by_cases c32_9 : p0 &&& 31 = 9
                        · refine lv_tableIn (x := p0 &&& 31) (off := 311) (tgt := 343) hx hb dL_law_32 (by rw [c32_9]; decide) (by rw [c32_9]; decide) (by rw [c32_9]; rfl) (by decide) ?_
                          refine lv_aload_n hx hb dL_law_343 rfl (lv_at hl 1 rfl) ?_
                          refine lv_aload_n hx hb dL_law_344 rfl (lv_at hl 0 rfl) ?_
                          refine lv_iload_n hx hb dL_law_345 rfl (lv_at hl 3 rfl) ?_
                          refine lv_iconst (v := 1) hx hb dL_law_346 (by decide) ?_
                          refine lv_iadd hx hb dL_law_347 ?_
                          refine va_sld hx hb hX hbl hbA hS (i := x3 + 1) (hi1) dL_law_348 ?_
                          rw [ha1]
                          refine vq_Vit (As := [.int p1]) (rest := []) (W2 := (wC cI cZ cO g Z N X D H S SL T r gm M)) (f := (sX5_share Z N p1)) hx hb hml hown hts hK hP hD hS hA hE hl.1 (cX5_share_c l ev dC dI cI cZ cO (g 0) (g 1) (g 3) (g 7) (g 9) (g 12) (g 14) Z (g 2) N p1 pT) gL_law_X5_share rfl hdX5_share (Nat.le_of_ble_eq_true rfl) (Nat.le_of_ble_eq_true rfl) rfl rfl (ci := 5) (qr := 0) rfl rfl rfl [0, 1, 2] [3, 4, 5, 6, 7, 8, 9, 10, 11, 12, 13, 14, 15, 16, 17, 18, 19, 20, 21, 22, 23, 24, 25, 26, 27, 28, 29, 30, 31, 32, 33, 34, 35, 36] [34, 35, 36, 0, 1, 2, 3, 4, 5, 6, 7, 8, 9, 10, 11, 12, 13, 14, 15, 16, 17, 18, 19, 20, 21, 22, 23, 24, 25, 26, 27, 28, 29, 30, 31, 32, 33] rfl rfl (by decide) (by decide) (by decide) rfl rfl rfl (Nat.le_of_ble_eq_true rfl) dL_law_349 ⟨(by show 37 + 2 * j ≤ 600000; omega), (by show 668 + 19 * j ≤ 7302250; omega)⟩ (fun H9 locs hP hD hS => ?_)
                          refine lv_aload_n hx hb dL_law_352 rfl (lv_at hl 2 rfl) ?_
                          refine lv_aload_n hx hb dL_law_353 rfl (lv_at hl 0 rfl) ?_
                          refine lv_iload_n hx hb dL_law_354 rfl (lv_at hl 3 rfl) ?_
                          refine lv_iconst (v := 1) hx hb dL_law_355 (by decide) ?_
                          refine lv_iadd hx hb dL_law_356 ?_
                          refine va_sld hx hb hX hbl hbA hS (i := x3 + 1) (hi1) dL_law_357 ?_
                          rw [ha1]
                          refine vq_Vit (As := [.int p1]) (rest := [.int (sX5_share Z N p1)]) (W2 := (wC cI cZ cO g Z N X D H S SL T r gm M)) (f := (sX6_share M p1)) hx hb hml hown hts hK hP hD hS hA hE hl.1 (cX6_share_c l ev dC dI cI cZ cO (g 15) gm M p1 qT) gL_law_X6_share rfl hdX6_share (Nat.le_of_ble_eq_true rfl) (Nat.le_of_ble_eq_true rfl) rfl rfl (ci := 6) (qr := 27) rfl rfl rfl [27, 28, 29, 30, 31, 32, 33, 34, 35, 36] [0, 1, 2, 3, 4, 5, 6, 7, 8, 9, 10, 11, 12, 13, 14, 15, 16, 17, 18, 19, 20, 21, 22, 23, 24, 25, 26] [0, 1, 2, 3, 4, 5, 6, 7, 8, 9, 10, 11, 12, 13, 14, 15, 16, 17, 18, 19, 20, 21, 22, 23, 24, 25, 26, 27, 28, 29, 30, 31, 32, 33, 34, 35, 36] rfl rfl (by decide) (by decide) (by decide) rfl rfl rfl (Nat.le_of_ble_eq_true rfl) dL_law_358 ⟨(by show 37 + 2 * j ≤ 600000; omega), (by show 668 + 19 * j ≤ 7302250; omega)⟩ (fun H9 locs hP hD hS => ?_)
                          refine lv_icmp_eq (tgt := 622) hx hb dL_law_361 (by decide) (fun c9 => ?_) (fun c9 => absurd (hshare Z N X H (kS k0) (kS k1) M hRel  p1) c9)
                          refine W.widen (k := 37 + 2 * j + 2) (n := 668 + 19 * j + 19) (by omega) (by omega) ?_
                          exact fin Z N X D H S SL T r k0 k1 M hRel hr0 hr1 _ _ ls hP hD hS hl
                        · skip
                          by_cases c32_10 : p0 &&& 31 = 10
                          · refine lv_tableIn (x := p0 &&& 31) (off := 334) (tgt := 366) hx hb dL_law_32 (by rw [c32_10]; decide) (by rw [c32_10]; decide) (by rw [c32_10]; rfl) (by decide) ?_
                            refine lv_aload_n hx hb dL_law_366 rfl (lv_at hl 1 rfl) ?_
                            refine lv_aload_n hx hb dL_law_367 rfl (lv_at hl 0 rfl) ?_
                            refine lv_iload_n hx hb dL_law_368 rfl (lv_at hl 3 rfl) ?_
                            refine lv_iconst (v := 1) hx hb dL_law_369 (by decide) ?_
                            refine lv_iadd hx hb dL_law_370 ?_
                            refine va_sld hx hb hX hbl hbA hS (i := x3 + 1) (hi1) dL_law_371 ?_
                            rw [ha1]
                            refine vq_Vit (As := [.int p1]) (rest := []) (W2 := (wC cI cZ cO g Z N X D H (sX5_best Z N S SL p1).2.1 (sX5_best Z N S SL p1).2.2 T r gm M)) (f := (sX5_best Z N S SL p1).1) hx hb hml hown hts hK hP hD hS hA hE hl.1 (cX5_best_c l ev dC dI cI cZ cO (g 0) (g 1) (g 3) (g 7) (g 9) (g 12) (g 14) Z (g 2) N (g 10) S (g 11) SL p1 pT) gL_law_X5_best rfl hdX5_best (Nat.le_of_ble_eq_true rfl) (Nat.le_of_ble_eq_true rfl) rfl rfl (ci := 5) (qr := 0) rfl rfl rfl [0, 1, 2, 21, 22, 23] [3, 4, 5, 6, 7, 8, 9, 10, 11, 12, 13, 14, 15, 16, 17, 18, 19, 20, 24, 25, 26, 27, 28, 29, 30, 31, 32, 33, 34, 35, 36] [31, 32, 33, 0, 1, 2, 3, 4, 5, 6, 7, 8, 9, 10, 11, 12, 13, 14, 15, 16, 17, 34, 35, 36, 18, 19, 20, 21, 22, 23, 24, 25, 26, 27, 28, 29, 30] rfl rfl (by decide) (by decide) (by decide) rfl rfl rfl (Nat.le_of_ble_eq_true rfl) dL_law_372 ⟨(by show 37 + 2 * j ≤ 600000; omega), (by show 668 + 19 * j ≤ 7302250; omega)⟩ (fun H9 locs hP hD hS => ?_)
                            refine lv_aload_n hx hb dL_law_375 rfl (lv_at hl 2 rfl) ?_
                            refine lv_aload_n hx hb dL_law_376 rfl (lv_at hl 0 rfl) ?_
                            refine lv_iload_n hx hb dL_law_377 rfl (lv_at hl 3 rfl) ?_
                            refine lv_iconst (v := 1) hx hb dL_law_378 (by decide) ?_
                            refine lv_iadd hx hb dL_law_379 ?_
                            refine va_sld hx hb hX hbl hbA hS (i := x3 + 1) (hi1) dL_law_380 ?_
                            rw [ha1]
                            refine vq_Vit (As := [.int p1]) (rest := [.int (sX5_best Z N S SL p1).1]) (W2 := (wC cI cZ cO g Z N X D H (sX5_best Z N S SL p1).2.1 (sX5_best Z N S SL p1).2.2 T r gm M)) (f := (sX6_best M p1)) hx hb hml hown hts hK hP hD hS hA hE hl.1 (cX6_best_c l ev dC dI cI cZ cO (g 15) gm M p1 qT) gL_law_X6_best rfl hdX6_best (Nat.le_of_ble_eq_true rfl) (Nat.le_of_ble_eq_true rfl) rfl rfl (ci := 6) (qr := 27) rfl rfl rfl [27, 28, 29, 30, 31, 32, 33, 34, 35, 36] [0, 1, 2, 3, 4, 5, 6, 7, 8, 9, 10, 11, 12, 13, 14, 15, 16, 17, 18, 19, 20, 21, 22, 23, 24, 25, 26] [0, 1, 2, 3, 4, 5, 6, 7, 8, 9, 10, 11, 12, 13, 14, 15, 16, 17, 18, 19, 20, 21, 22, 23, 24, 25, 26, 27, 28, 29, 30, 31, 32, 33, 34, 35, 36] rfl rfl (by decide) (by decide) (by decide) rfl rfl rfl (Nat.le_of_ble_eq_true rfl) dL_law_381 ⟨(by show 37 + 2 * j ≤ 600000; omega), (by show 668 + 19 * j ≤ 7302250; omega)⟩ (fun H9 locs hP hD hS => ?_)
                            refine lv_icmp_eq (tgt := 622) hx hb dL_law_384 (by decide) (fun c9 => ?_) (fun c9 => absurd (hbest Z N X H (kS k0) (kS k1) M hRel S SL p1) c9)
                            refine W.widen (k := 37 + 2 * j + 2) (n := 668 + 19 * j + 19) (by omega) (by omega) ?_
                            exact fin Z N X D H (sX5_best Z N S SL p1).2.1 (sX5_best Z N S SL p1).2.2 T r k0 k1 M hRel hr0 hr1 _ _ ls hP hD hS hl
                          · skip
                            by_cases c32_11 : p0 &&& 31 = 11
                            · refine lv_tableIn (x := p0 &&& 31) (off := 357) (tgt := 389) hx hb dL_law_32 (by rw [c32_11]; decide) (by rw [c32_11]; decide) (by rw [c32_11]; rfl) (by decide) ?_
                              refine lv_aload_n hx hb dL_law_389 rfl (lv_at hl 1 rfl) ?_
                              refine vq_Vit (As := []) (rest := []) (W2 := (wC cI cZ cO g Z N X D H (sX5_slowest Z N S SL).2.1 (sX5_slowest Z N S SL).2.2 T r gm M)) (f := (sX5_slowest Z N S SL).1) hx hb hml hown hts hK hP hD hS hA hE hl.1 (cX5_slowest_c l ev dC dI cI cZ cO (g 0) (g 1) (g 3) (g 7) (g 9) (g 12) (g 14) Z (g 2) N (g 10) S (g 11) SL pT) gL_law_X5_slowest rfl hdX5_slowest (Nat.le_of_ble_eq_true rfl) (Nat.le_of_ble_eq_true rfl) rfl rfl (ci := 5) (qr := 0) rfl rfl rfl [0, 1, 2, 21, 22, 23] [3, 4, 5, 6, 7, 8, 9, 10, 11, 12, 13, 14, 15, 16, 17, 18, 19, 20, 24, 25, 26, 27, 28, 29, 30, 31, 32, 33, 34, 35, 36] [31, 32, 33, 0, 1, 2, 3, 4, 5, 6, 7, 8, 9, 10, 11, 12, 13, 14, 15, 16, 17, 34, 35, 36, 18, 19, 20, 21, 22, 23, 24, 25, 26, 27, 28, 29, 30] rfl rfl (by decide) (by decide) (by decide) rfl rfl rfl (Nat.le_of_ble_eq_true rfl) dL_law_390 ⟨(by show 37 + 2 * j ≤ 600000; omega), (by show 668 + 19 * j ≤ 7302250; omega)⟩ (fun H9 locs hP hD hS => ?_)
                              refine lv_aload_n hx hb dL_law_393 rfl (lv_at hl 2 rfl) ?_
                              refine vq_Vit (As := []) (rest := [.int (sX5_slowest Z N S SL).1]) (W2 := (wC cI cZ cO g Z N X D H (sX5_slowest Z N S SL).2.1 (sX5_slowest Z N S SL).2.2 T r gm M)) (f := (sX6_slowest M)) hx hb hml hown hts hK hP hD hS hA hE hl.1 (cX6_slowest_c l ev dC dI cI cZ cO (g 15) gm M qT) gL_law_X6_slowest rfl hdX6_slowest (Nat.le_of_ble_eq_true rfl) (Nat.le_of_ble_eq_true rfl) rfl rfl (ci := 6) (qr := 27) rfl rfl rfl [27, 28, 29, 30, 31, 32, 33, 34, 35, 36] [0, 1, 2, 3, 4, 5, 6, 7, 8, 9, 10, 11, 12, 13, 14, 15, 16, 17, 18, 19, 20, 21, 22, 23, 24, 25, 26] [0, 1, 2, 3, 4, 5, 6, 7, 8, 9, 10, 11, 12, 13, 14, 15, 16, 17, 18, 19, 20, 21, 22, 23, 24, 25, 26, 27, 28, 29, 30, 31, 32, 33, 34, 35, 36] rfl rfl (by decide) (by decide) (by decide) rfl rfl rfl (Nat.le_of_ble_eq_true rfl) dL_law_394 ⟨(by show 37 + 2 * j ≤ 600000; omega), (by show 668 + 19 * j ≤ 7302250; omega)⟩ (fun H9 locs hP hD hS => ?_)
                              refine lv_icmp_eq (tgt := 622) hx hb dL_law_397 (by decide) (fun c9 => ?_) (fun c9 => absurd (hslowest Z N X H (kS k0) (kS k1) M hRel S SL ) c9)
                              refine W.widen (k := 37 + 2 * j + 2) (n := 668 + 19 * j + 19) (by omega) (by omega) ?_
                              exact fin Z N X D H (sX5_slowest Z N S SL).2.1 (sX5_slowest Z N S SL).2.2 T r k0 k1 M hRel hr0 hr1 _ _ ls hP hD hS hl
                            · skip
                              by_cases c32_12 : p0 &&& 31 = 12
                              · refine lv_tableIn (x := p0 &&& 31) (off := 370) (tgt := 402) hx hb dL_law_32 (by rw [c32_12]; decide) (by rw [c32_12]; decide) (by rw [c32_12]; rfl) (by decide) ?_
                                refine lv_aload_n hx hb dL_law_402 rfl (lv_at hl 1 rfl) ?_
                                refine vq_Vit (As := []) (rest := []) (W2 := (wC cI cZ cO g Z N X D H (sX5_change Z N S SL).2.1 (sX5_change Z N S SL).2.2 T r gm M)) (f := (sX5_change Z N S SL).1) hx hb hml hown hts hK hP hD hS hA hE hl.1 (cX5_change_c l ev dC dI cI cZ cO (g 0) (g 1) (g 3) (g 7) (g 9) (g 12) (g 14) Z (g 2) N (g 10) S (g 11) SL pT) gL_law_X5_change rfl hdX5_change (Nat.le_of_ble_eq_true rfl) (Nat.le_of_ble_eq_true rfl) rfl rfl (ci := 5) (qr := 0) rfl rfl rfl [0, 1, 2, 21, 22, 23] [3, 4, 5, 6, 7, 8, 9, 10, 11, 12, 13, 14, 15, 16, 17, 18, 19, 20, 24, 25, 26, 27, 28, 29, 30, 31, 32, 33, 34, 35, 36] [31, 32, 33, 0, 1, 2, 3, 4, 5, 6, 7, 8, 9, 10, 11, 12, 13, 14, 15, 16, 17, 34, 35, 36, 18, 19, 20, 21, 22, 23, 24, 25, 26, 27, 28, 29, 30] rfl rfl (by decide) (by decide) (by decide) rfl rfl rfl (Nat.le_of_ble_eq_true rfl) dL_law_403 ⟨(by show 37 + 2 * j ≤ 600000; omega), (by show 668 + 19 * j ≤ 7302250; omega)⟩ (fun H9 locs hP hD hS => ?_)
                                refine lv_aload_n hx hb dL_law_406 rfl (lv_at hl 2 rfl) ?_
                                refine vq_Vit (As := []) (rest := [.int (sX5_change Z N S SL).1]) (W2 := (wC cI cZ cO g Z N X D H (sX5_change Z N S SL).2.1 (sX5_change Z N S SL).2.2 T r gm M)) (f := (sX6_change M)) hx hb hml hown hts hK hP hD hS hA hE hl.1 (cX6_change_c l ev dC dI cI cZ cO (g 15) gm M qT) gL_law_X6_change rfl hdX6_change (Nat.le_of_ble_eq_true rfl) (Nat.le_of_ble_eq_true rfl) rfl rfl (ci := 6) (qr := 27) rfl rfl rfl [27, 28, 29, 30, 31, 32, 33, 34, 35, 36] [0, 1, 2, 3, 4, 5, 6, 7, 8, 9, 10, 11, 12, 13, 14, 15, 16, 17, 18, 19, 20, 21, 22, 23, 24, 25, 26] [0, 1, 2, 3, 4, 5, 6, 7, 8, 9, 10, 11, 12, 13, 14, 15, 16, 17, 18, 19, 20, 21, 22, 23, 24, 25, 26, 27, 28, 29, 30, 31, 32, 33, 34, 35, 36] rfl rfl (by decide) (by decide) (by decide) rfl rfl rfl (Nat.le_of_ble_eq_true rfl) dL_law_407 ⟨(by show 37 + 2 * j ≤ 600000; omega), (by show 668 + 19 * j ≤ 7302250; omega)⟩ (fun H9 locs hP hD hS => ?_)
                                refine lv_icmp_eq (tgt := 622) hx hb dL_law_410 (by decide) (fun c9 => ?_) (fun c9 => absurd (hchange Z N X H (kS k0) (kS k1) M hRel S SL ) c9)
                                refine W.widen (k := 37 + 2 * j + 2) (n := 668 + 19 * j + 19) (by omega) (by omega) ?_
                                exact fin Z N X D H (sX5_change Z N S SL).2.1 (sX5_change Z N S SL).2.2 T r k0 k1 M hRel hr0 hr1 _ _ ls hP hD hS hl
                              · skip
                                by_cases c32_13 : p0 &&& 31 = 13
                                · refine lv_tableIn (x := p0 &&& 31) (off := 383) (tgt := 415) hx hb dL_law_32 (by rw [c32_13]; decide) (by rw [c32_13]; decide) (by rw [c32_13]; rfl) (by decide) ?_
                                  refine lv_aload_n hx hb dL_law_415 rfl (lv_at hl 1 rfl) ?_
                                  refine lv_aload_n hx hb dL_law_416 rfl (lv_at hl 0 rfl) ?_
                                  refine lv_iload_n hx hb dL_law_417 rfl (lv_at hl 3 rfl) ?_
                                  refine lv_iconst (v := 1) hx hb dL_law_418 (by decide) ?_
                                  refine lv_iadd hx hb dL_law_419 ?_
                                  refine va_sld hx hb hX hbl hbA hS (i := x3 + 1) (hi1) dL_law_420 ?_
                                  rw [ha1]
                                  refine lv_aload_n hx hb dL_law_421 rfl (lv_at hl 0 rfl) ?_
                                  refine lv_iload_n hx hb dL_law_422 rfl (lv_at hl 3 rfl) ?_
                                  refine lv_iconst (v := 2) hx hb dL_law_423 (by decide) ?_
                                  refine lv_iadd hx hb dL_law_424 ?_
                                  refine va_sld hx hb hX hbl hbA hS (i := x3 + 2) (hi2) dL_law_425 ?_
                                  rw [ha2]
                                  refine vq_Vit (As := [.int p1, .int p2]) (rest := []) (W2 := (wC cI cZ cO g Z N X D H S SL T r gm M)) (f := (sX5_busiest Z N p1 p2)) hx hb hml hown hts hK hP hD hS hA hE hl.1 (cX5_busiest_c l ev dC dI cI cZ cO (g 0) (g 1) (g 3) (g 7) (g 9) (g 12) (g 14) Z (g 2) N p1 p2 pT) gL_law_X5_busiest rfl hdX5_busiest (Nat.le_of_ble_eq_true rfl) (Nat.le_of_ble_eq_true rfl) rfl rfl (ci := 5) (qr := 0) rfl rfl rfl [0, 1, 2] [3, 4, 5, 6, 7, 8, 9, 10, 11, 12, 13, 14, 15, 16, 17, 18, 19, 20, 21, 22, 23, 24, 25, 26, 27, 28, 29, 30, 31, 32, 33, 34, 35, 36] [34, 35, 36, 0, 1, 2, 3, 4, 5, 6, 7, 8, 9, 10, 11, 12, 13, 14, 15, 16, 17, 18, 19, 20, 21, 22, 23, 24, 25, 26, 27, 28, 29, 30, 31, 32, 33] rfl rfl (by decide) (by decide) (by decide) rfl rfl rfl (Nat.le_of_ble_eq_true rfl) dL_law_426 ⟨(by show 37 + 2 * j ≤ 600000; omega), (by show 668 + 19 * j ≤ 7302250; omega)⟩ (fun H9 locs hP hD hS => ?_)
                                  refine lv_aload_n hx hb dL_law_429 rfl (lv_at hl 2 rfl) ?_
                                  refine lv_aload_n hx hb dL_law_430 rfl (lv_at hl 0 rfl) ?_
                                  refine lv_iload_n hx hb dL_law_431 rfl (lv_at hl 3 rfl) ?_
                                  refine lv_iconst (v := 1) hx hb dL_law_432 (by decide) ?_
                                  refine lv_iadd hx hb dL_law_433 ?_
                                  refine va_sld hx hb hX hbl hbA hS (i := x3 + 1) (hi1) dL_law_434 ?_
                                  rw [ha1]
                                  refine lv_aload_n hx hb dL_law_435 rfl (lv_at hl 0 rfl) ?_
                                  refine lv_iload_n hx hb dL_law_436 rfl (lv_at hl 3 rfl) ?_
                                  refine lv_iconst (v := 2) hx hb dL_law_437 (by decide) ?_
                                  refine lv_iadd hx hb dL_law_438 ?_
                                  refine va_sld hx hb hX hbl hbA hS (i := x3 + 2) (hi2) dL_law_439 ?_
                                  rw [ha2]
                                  refine vq_Vit (As := [.int p1, .int p2]) (rest := [.int (sX5_busiest Z N p1 p2)]) (W2 := (wC cI cZ cO g Z N X D H S SL T r gm M)) (f := (sX6_busiest M p1 p2)) hx hb hml hown hts hK hP hD hS hA hE hl.1 (cX6_busiest_c l ev dC dI cI cZ cO (g 15) gm M p1 p2 qT qB) gL_law_X6_busiest rfl hdX6_busiest (Nat.le_of_ble_eq_true rfl) (Nat.le_of_ble_eq_true rfl) rfl rfl (ci := 6) (qr := 27) rfl rfl rfl [27, 28, 29, 30, 31, 32, 33, 34, 35, 36] [0, 1, 2, 3, 4, 5, 6, 7, 8, 9, 10, 11, 12, 13, 14, 15, 16, 17, 18, 19, 20, 21, 22, 23, 24, 25, 26] [0, 1, 2, 3, 4, 5, 6, 7, 8, 9, 10, 11, 12, 13, 14, 15, 16, 17, 18, 19, 20, 21, 22, 23, 24, 25, 26, 27, 28, 29, 30, 31, 32, 33, 34, 35, 36] rfl rfl (by decide) (by decide) (by decide) rfl rfl rfl (Nat.le_of_ble_eq_true rfl) dL_law_440 ⟨(by show 37 + 2 * j ≤ 600000; omega), (by show 668 + 19 * j ≤ 7302250; omega)⟩ (fun H9 locs hP hD hS => ?_)
                                  refine lv_icmp_eq (tgt := 622) hx hb dL_law_443 (by decide) (fun c9 => ?_) (fun c9 => absurd (hbusiest Z N X H (kS k0) (kS k1) M hRel  p1 p2) c9)
                                  refine W.widen (k := 37 + 2 * j + 2) (n := 668 + 19 * j + 19) (by omega) (by omega) ?_
                                  exact fin Z N X D H S SL T r k0 k1 M hRel hr0 hr1 _ _ ls hP hD hS hl
                                · skip
                                  by_cases c32_14 : p0 &&& 31 = 14
                                  · refine lv_tableIn (x := p0 &&& 31) (off := 416) (tgt := 448) hx hb dL_law_32 (by rw [c32_14]; decide) (by rw [c32_14]; decide) (by rw [c32_14]; rfl) (by decide) ?_
                                    refine lv_aload_n hx hb dL_law_448 rfl (lv_at hl 1 rfl) ?_
                                    refine lv_aload_n hx hb dL_law_449 rfl (lv_at hl 0 rfl) ?_
                                    refine lv_iload_n hx hb dL_law_450 rfl (lv_at hl 3 rfl) ?_
                                    refine lv_iconst (v := 1) hx hb dL_law_451 (by decide) ?_
                                    refine lv_iadd hx hb dL_law_452 ?_
                                    refine va_sld hx hb hX hbl hbA hS (i := x3 + 1) (hi1) dL_law_453 ?_
                                    rw [ha1]
                                    refine vq_Vit (As := [.int p1]) (rest := []) (W2 := (wC cI cZ cO g Z N X D H S SL (sX5_tables Z N T p1).2 r gm M)) (f := (sX5_tables Z N T p1).1) hx hb hml hown hts hK hP hD hS hA hE hl.1 (cX5_tables_c l ev dC dI cI cZ cO (g 0) (g 1) (g 3) (g 7) (g 9) (g 12) (g 14) Z (g 2) N (g 13) T p1 pT) gL_law_X5_tables rfl hdX5_tables (Nat.le_of_ble_eq_true rfl) (Nat.le_of_ble_eq_true rfl) rfl rfl (ci := 5) (qr := 0) rfl rfl rfl [0, 1, 2, 24, 25] [3, 4, 5, 6, 7, 8, 9, 10, 11, 12, 13, 14, 15, 16, 17, 18, 19, 20, 21, 22, 23, 26, 27, 28, 29, 30, 31, 32, 33, 34, 35, 36] [32, 33, 34, 0, 1, 2, 3, 4, 5, 6, 7, 8, 9, 10, 11, 12, 13, 14, 15, 16, 17, 18, 19, 20, 35, 36, 21, 22, 23, 24, 25, 26, 27, 28, 29, 30, 31] rfl rfl (by decide) (by decide) (by decide) rfl rfl rfl (Nat.le_of_ble_eq_true rfl) dL_law_454 ⟨(by show 37 + 2 * j ≤ 600000; omega), (by show 668 + 19 * j ≤ 7302250; omega)⟩ (fun H9 locs hP hD hS => ?_)
                                    refine lv_aload_n hx hb dL_law_457 rfl (lv_at hl 2 rfl) ?_
                                    refine lv_aload_n hx hb dL_law_458 rfl (lv_at hl 0 rfl) ?_
                                    refine lv_iload_n hx hb dL_law_459 rfl (lv_at hl 3 rfl) ?_
                                    refine lv_iconst (v := 1) hx hb dL_law_460 (by decide) ?_
                                    refine lv_iadd hx hb dL_law_461 ?_
                                    refine va_sld hx hb hX hbl hbA hS (i := x3 + 1) (hi1) dL_law_462 ?_
                                    rw [ha1]
                                    refine vq_Vit (As := [.int p1]) (rest := [.int (sX5_tables Z N T p1).1]) (W2 := (wC cI cZ cO g Z N X D H S SL (sX5_tables Z N T p1).2 r gm M)) (f := (sX6_tables M p1)) hx hb hml hown hts hK hP hD hS hA hE hl.1 (cX6_tables_c l ev dC dI cI cZ cO (g 15) gm M p1 qT qS) gL_law_X6_tables rfl hdX6_tables (Nat.le_of_ble_eq_true rfl) (Nat.le_of_ble_eq_true rfl) rfl rfl (ci := 6) (qr := 27) rfl rfl rfl [27, 28, 29, 30, 31, 32, 33, 34, 35, 36] [0, 1, 2, 3, 4, 5, 6, 7, 8, 9, 10, 11, 12, 13, 14, 15, 16, 17, 18, 19, 20, 21, 22, 23, 24, 25, 26] [0, 1, 2, 3, 4, 5, 6, 7, 8, 9, 10, 11, 12, 13, 14, 15, 16, 17, 18, 19, 20, 21, 22, 23, 24, 25, 26, 27, 28, 29, 30, 31, 32, 33, 34, 35, 36] rfl rfl (by decide) (by decide) (by decide) rfl rfl rfl (Nat.le_of_ble_eq_true rfl) dL_law_463 ⟨(by show 37 + 2 * j ≤ 600000; omega), (by show 668 + 19 * j ≤ 7302250; omega)⟩ (fun H9 locs hP hD hS => ?_)
                                    refine lv_icmp_eq (tgt := 622) hx hb dL_law_466 (by decide) (fun c9 => ?_) (fun c9 => absurd (htables Z N X H (kS k0) (kS k1) M hRel T p1) c9)
                                    refine W.widen (k := 37 + 2 * j + 2) (n := 668 + 19 * j + 19) (by omega) (by omega) ?_
                                    exact fin Z N X D H S SL (sX5_tables Z N T p1).2 r k0 k1 M hRel hr0 hr1 _ _ ls hP hD hS hl
                                  · skip
                                    by_cases c32_15 : p0 &&& 31 = 15
                                    · refine lv_tableIn (x := p0 &&& 31) (off := 439) (tgt := 471) hx hb dL_law_32 (by rw [c32_15]; decide) (by rw [c32_15]; decide) (by rw [c32_15]; rfl) (by decide) ?_
                                      refine lv_aload_n hx hb dL_law_471 rfl (lv_at hl 1 rfl) ?_
                                      refine lv_aload_n hx hb dL_law_472 rfl (lv_at hl 0 rfl) ?_
                                      refine lv_iload_n hx hb dL_law_473 rfl (lv_at hl 3 rfl) ?_
                                      refine lv_iconst (v := 1) hx hb dL_law_474 (by decide) ?_
                                      refine lv_iadd hx hb dL_law_475 ?_
                                      refine va_sld hx hb hX hbl hbA hS (i := x3 + 1) (hi1) dL_law_476 ?_
                                      rw [ha1]
                                      refine lv_aload_n hx hb dL_law_477 rfl (lv_at hl 0 rfl) ?_
                                      refine lv_iload_n hx hb dL_law_478 rfl (lv_at hl 3 rfl) ?_
                                      refine lv_iconst (v := 2) hx hb dL_law_479 (by decide) ?_
                                      refine lv_iadd hx hb dL_law_480 ?_
                                      refine va_sld hx hb hX hbl hbA hS (i := x3 + 2) (hi2) dL_law_481 ?_
                                      rw [ha2]
                                      refine vq_Vit (As := [.int p1, .int p2]) (rest := []) (W2 := (wC cI cZ cO g (sX5_sees Z p1 p2).2 N X D H S SL T r gm M)) (f := (sX5_sees Z p1 p2).1) hx hb hml hown hts hK hP hD hS hA hE hl.1 (cX5_sees_c l ev dC dI cI cZ cO (g 0) (g 1) (g 3) (g 7) (g 9) (g 12) (g 14) Z p1 p2) gL_law_X5_sees rfl hdX5_sees (Nat.le_of_ble_eq_true rfl) (Nat.le_of_ble_eq_true rfl) rfl rfl (ci := 5) (qr := 0) rfl rfl rfl [0] [1, 2, 3, 4, 5, 6, 7, 8, 9, 10, 11, 12, 13, 14, 15, 16, 17, 18, 19, 20, 21, 22, 23, 24, 25, 26, 27, 28, 29, 30, 31, 32, 33, 34, 35, 36] [36, 0, 1, 2, 3, 4, 5, 6, 7, 8, 9, 10, 11, 12, 13, 14, 15, 16, 17, 18, 19, 20, 21, 22, 23, 24, 25, 26, 27, 28, 29, 30, 31, 32, 33, 34, 35] rfl rfl (by decide) (by decide) (by decide) rfl rfl rfl (Nat.le_of_ble_eq_true rfl) dL_law_482 ⟨(by show 37 + 2 * j ≤ 600000; omega), (by show 668 + 19 * j ≤ 7302250; omega)⟩ (fun H9 locs hP hD hS => ?_)
                                      refine lv_aload_n hx hb dL_law_485 rfl (lv_at hl 2 rfl) ?_
                                      refine lv_aload_n hx hb dL_law_486 rfl (lv_at hl 0 rfl) ?_
                                      refine lv_iload_n hx hb dL_law_487 rfl (lv_at hl 3 rfl) ?_
                                      refine lv_iconst (v := 1) hx hb dL_law_488 (by decide) ?_
                                      refine lv_iadd hx hb dL_law_489 ?_
                                      refine va_sld hx hb hX hbl hbA hS (i := x3 + 1) (hi1) dL_law_490 ?_
                                      rw [ha1]
                                      refine lv_aload_n hx hb dL_law_491 rfl (lv_at hl 0 rfl) ?_
                                      refine lv_iload_n hx hb dL_law_492 rfl (lv_at hl 3 rfl) ?_
                                      refine lv_iconst (v := 2) hx hb dL_law_493 (by decide) ?_
                                      refine lv_iadd hx hb dL_law_494 ?_
                                      refine va_sld hx hb hX hbl hbA hS (i := x3 + 2) (hi2) dL_law_495 ?_
                                      rw [ha2]
                                      refine vq_Vit (As := [.int p1, .int p2]) (rest := [.int (sX5_sees Z p1 p2).1]) (W2 := (wC cI cZ cO g (sX5_sees Z p1 p2).2 N X D H S SL T r gm (sX6_sees M p1 p2).2)) (f := (sX6_sees M p1 p2).1) hx hb hml hown hts hK hP hD hS hA hE hl.1 (cX6_sees_c l ev dC dI cI cZ cO (g 15) gm M p1 p2 qS) gL_law_X6_sees rfl hdX6_sees (Nat.le_of_ble_eq_true rfl) (Nat.le_of_ble_eq_true rfl) rfl rfl (ci := 6) (qr := 27) rfl rfl rfl [27, 28, 29, 30, 31, 32, 33, 34, 35, 36] [0, 1, 2, 3, 4, 5, 6, 7, 8, 9, 10, 11, 12, 13, 14, 15, 16, 17, 18, 19, 20, 21, 22, 23, 24, 25, 26] [0, 1, 2, 3, 4, 5, 6, 7, 8, 9, 10, 11, 12, 13, 14, 15, 16, 17, 18, 19, 20, 21, 22, 23, 24, 25, 26, 27, 28, 29, 30, 31, 32, 33, 34, 35, 36] rfl rfl (by decide) (by decide) (by decide) rfl rfl rfl (Nat.le_of_ble_eq_true rfl) dL_law_496 ⟨(by show 37 + 2 * j ≤ 600000; omega), (by show 668 + 19 * j ≤ 7302250; omega)⟩ (fun H9 locs hP hD hS => ?_)
                                      refine lv_icmp_eq (tgt := 622) hx hb dL_law_499 (by decide) (fun c9 => ?_) (fun c9 => absurd (hsees Z N X H (kS k0) (kS k1) M hRel  p1 p2).1 c9)
                                      refine W.widen (k := 37 + 2 * j + 2) (n := 668 + 19 * j + 19) (by omega) (by omega) ?_
                                      exact fin (sX5_sees Z p1 p2).2 N X D H S SL T r k0 k1 (sX6_sees M p1 p2).2 (hsees Z N X H (kS k0) (kS k1) M hRel  p1 p2).2 hr0 hr1 _ _ ls hP hD hS hl
                                    · skip
                                      by_cases c32_16 : p0 &&& 31 = 16
                                      · refine lv_tableIn (x := p0 &&& 31) (off := 472) (tgt := 504) hx hb dL_law_32 (by rw [c32_16]; decide) (by rw [c32_16]; decide) (by rw [c32_16]; rfl) (by decide) ?_
                                        refine lv_aload_n hx hb dL_law_504 rfl (lv_at hl 1 rfl) ?_
                                        refine vq_Vit (As := []) (rest := []) (W2 := (wC cI cZ cO g (sX5_forget Z).2 N X D H S SL T r gm M)) (f := (sX5_forget Z).1) hx hb hml hown hts hK hP hD hS hA hE hl.1 (cX5_forget_c l ev dC dI cI cZ cO (g 0) (g 1) (g 3) (g 7) (g 9) (g 12) (g 14) Z) gL_law_X5_forget rfl hdX5_forget (Nat.le_of_ble_eq_true rfl) (Nat.le_of_ble_eq_true rfl) rfl rfl (ci := 5) (qr := 0) rfl rfl rfl [0] [1, 2, 3, 4, 5, 6, 7, 8, 9, 10, 11, 12, 13, 14, 15, 16, 17, 18, 19, 20, 21, 22, 23, 24, 25, 26, 27, 28, 29, 30, 31, 32, 33, 34, 35, 36] [36, 0, 1, 2, 3, 4, 5, 6, 7, 8, 9, 10, 11, 12, 13, 14, 15, 16, 17, 18, 19, 20, 21, 22, 23, 24, 25, 26, 27, 28, 29, 30, 31, 32, 33, 34, 35] rfl rfl (by decide) (by decide) (by decide) rfl rfl rfl (Nat.le_of_ble_eq_true rfl) dL_law_505 ⟨(by show 37 + 2 * j ≤ 600000; omega), (by show 668 + 19 * j ≤ 7302250; omega)⟩ (fun H9 locs hP hD hS => ?_)
                                        refine lv_aload_n hx hb dL_law_508 rfl (lv_at hl 2 rfl) ?_
                                        refine vq_Vit (As := []) (rest := [.int (sX5_forget Z).1]) (W2 := (wC cI cZ cO g (sX5_forget Z).2 N X D H S SL T r gm (sX6_forget M).2)) (f := (sX6_forget M).1) hx hb hml hown hts hK hP hD hS hA hE hl.1 (cX6_forget_c l ev dC dI cI cZ cO (g 15) gm M) gL_law_X6_forget rfl hdX6_forget (Nat.le_of_ble_eq_true rfl) (Nat.le_of_ble_eq_true rfl) rfl rfl (ci := 6) (qr := 27) rfl rfl rfl [27, 28, 29, 30, 31, 32, 33, 34, 35, 36] [0, 1, 2, 3, 4, 5, 6, 7, 8, 9, 10, 11, 12, 13, 14, 15, 16, 17, 18, 19, 20, 21, 22, 23, 24, 25, 26] [0, 1, 2, 3, 4, 5, 6, 7, 8, 9, 10, 11, 12, 13, 14, 15, 16, 17, 18, 19, 20, 21, 22, 23, 24, 25, 26, 27, 28, 29, 30, 31, 32, 33, 34, 35, 36] rfl rfl (by decide) (by decide) (by decide) rfl rfl rfl (Nat.le_of_ble_eq_true rfl) dL_law_509 ⟨(by show 37 + 2 * j ≤ 600000; omega), (by show 668 + 19 * j ≤ 7302250; omega)⟩ (fun H9 locs hP hD hS => ?_)
                                        refine lv_icmp_eq (tgt := 622) hx hb dL_law_512 (by decide) (fun c9 => ?_) (fun c9 => absurd (hforget Z N X H (kS k0) (kS k1) M hRel  ).1 c9)
                                        refine W.widen (k := 37 + 2 * j + 2) (n := 668 + 19 * j + 19) (by omega) (by omega) ?_
                                        exact fin (sX5_forget Z).2 N X D H S SL T r k0 k1 (sX6_forget M).2 (hforget Z N X H (kS k0) (kS k1) M hRel  ).2 hr0 hr1 _ _ ls hP hD hS hl
                                      · skip
                                        by_cases c32_17 : p0 &&& 31 = 17
                                        · refine lv_tableIn (x := p0 &&& 31) (off := 485) (tgt := 517) hx hb dL_law_32 (by rw [c32_17]; decide) (by rw [c32_17]; decide) (by rw [c32_17]; rfl) (by decide) ?_
                                          refine lv_aload_n hx hb dL_law_517 rfl (lv_at hl 1 rfl) ?_
                                          refine lv_aload_n hx hb dL_law_518 rfl (lv_at hl 0 rfl) ?_
                                          refine lv_iload_n hx hb dL_law_519 rfl (lv_at hl 3 rfl) ?_
                                          refine lv_iconst (v := 1) hx hb dL_law_520 (by decide) ?_
                                          refine lv_iadd hx hb dL_law_521 ?_
                                          refine va_sld hx hb hX hbl hbA hS (i := x3 + 1) (hi1) dL_law_522 ?_
                                          rw [ha1]
                                          refine vq_Vit (As := [.int p1]) (rest := []) (W2 := (wC cI cZ cO g Z N X D H S SL (sX5_which Z N T p1).2 r gm M)) (f := (sX5_which Z N T p1).1) hx hb hml hown hts hK hP hD hS hA hE hl.1 (cX5_which_c l ev dC dI cI cZ cO (g 0) (g 1) (g 3) (g 7) (g 9) (g 12) (g 14) Z (g 2) N (g 13) T p1 pT) gL_law_X5_which rfl hdX5_which (Nat.le_of_ble_eq_true rfl) (Nat.le_of_ble_eq_true rfl) rfl rfl (ci := 5) (qr := 0) rfl rfl rfl [0, 1, 2, 24, 25] [3, 4, 5, 6, 7, 8, 9, 10, 11, 12, 13, 14, 15, 16, 17, 18, 19, 20, 21, 22, 23, 26, 27, 28, 29, 30, 31, 32, 33, 34, 35, 36] [32, 33, 34, 0, 1, 2, 3, 4, 5, 6, 7, 8, 9, 10, 11, 12, 13, 14, 15, 16, 17, 18, 19, 20, 35, 36, 21, 22, 23, 24, 25, 26, 27, 28, 29, 30, 31] rfl rfl (by decide) (by decide) (by decide) rfl rfl rfl (Nat.le_of_ble_eq_true rfl) dL_law_523 ⟨(by show 37 + 2 * j ≤ 600000; omega), (by show 668 + 19 * j ≤ 7302250; omega)⟩ (fun H9 locs hP hD hS => ?_)
                                          refine lv_aload_n hx hb dL_law_526 rfl (lv_at hl 2 rfl) ?_
                                          refine lv_aload_n hx hb dL_law_527 rfl (lv_at hl 0 rfl) ?_
                                          refine lv_iload_n hx hb dL_law_528 rfl (lv_at hl 3 rfl) ?_
                                          refine lv_iconst (v := 1) hx hb dL_law_529 (by decide) ?_
                                          refine lv_iadd hx hb dL_law_530 ?_
                                          refine va_sld hx hb hX hbl hbA hS (i := x3 + 1) (hi1) dL_law_531 ?_
                                          rw [ha1]
                                          refine vq_Vit (As := [.int p1]) (rest := [.int (sX5_which Z N T p1).1]) (W2 := (wC cI cZ cO g Z N X D H S SL (sX5_which Z N T p1).2 r gm M)) (f := (sX6_which M p1)) hx hb hml hown hts hK hP hD hS hA hE hl.1 (cX6_which_c l ev dC dI cI cZ cO (g 15) gm M p1 qT qS) gL_law_X6_which rfl hdX6_which (Nat.le_of_ble_eq_true rfl) (Nat.le_of_ble_eq_true rfl) rfl rfl (ci := 6) (qr := 27) rfl rfl rfl [27, 28, 29, 30, 31, 32, 33, 34, 35, 36] [0, 1, 2, 3, 4, 5, 6, 7, 8, 9, 10, 11, 12, 13, 14, 15, 16, 17, 18, 19, 20, 21, 22, 23, 24, 25, 26] [0, 1, 2, 3, 4, 5, 6, 7, 8, 9, 10, 11, 12, 13, 14, 15, 16, 17, 18, 19, 20, 21, 22, 23, 24, 25, 26, 27, 28, 29, 30, 31, 32, 33, 34, 35, 36] rfl rfl (by decide) (by decide) (by decide) rfl rfl rfl (Nat.le_of_ble_eq_true rfl) dL_law_532 ⟨(by show 37 + 2 * j ≤ 600000; omega), (by show 668 + 19 * j ≤ 7302250; omega)⟩ (fun H9 locs hP hD hS => ?_)
                                          refine lv_icmp_eq (tgt := 622) hx hb dL_law_535 (by decide) (fun c9 => ?_) (fun c9 => absurd (hwhich Z N X H (kS k0) (kS k1) M hRel T p1) c9)
                                          refine W.widen (k := 37 + 2 * j + 2) (n := 668 + 19 * j + 19) (by omega) (by omega) ?_
                                          exact fin Z N X D H S SL (sX5_which Z N T p1).2 r k0 k1 M hRel hr0 hr1 _ _ ls hP hD hS hl
                                        · skip
                                          by_cases c32_18 : p0 &&& 31 = 18
                                          · refine lv_tableIn (x := p0 &&& 31) (off := 508) (tgt := 540) hx hb dL_law_32 (by rw [c32_18]; decide) (by rw [c32_18]; decide) (by rw [c32_18]; rfl) (by decide) ?_
                                            refine lv_aload_n hx hb dL_law_540 rfl (lv_at hl 1 rfl) ?_
                                            refine vq_Vit (As := []) (rest := []) (W2 := (wC cI cZ cO g Z N X D H S SL (sX5_listen Z N T).2 r gm M)) (f := (sX5_listen Z N T).1) hx hb hml hown hts hK hP hD hS hA hE hl.1 (cX5_listen_c l ev dC dI cI cZ cO (g 0) (g 1) (g 3) (g 7) (g 9) (g 12) (g 14) Z (g 2) N (g 13) T pT) gL_law_X5_listen rfl hdX5_listen (Nat.le_of_ble_eq_true rfl) (Nat.le_of_ble_eq_true rfl) rfl rfl (ci := 5) (qr := 0) rfl rfl rfl [0, 1, 2, 24, 25] [3, 4, 5, 6, 7, 8, 9, 10, 11, 12, 13, 14, 15, 16, 17, 18, 19, 20, 21, 22, 23, 26, 27, 28, 29, 30, 31, 32, 33, 34, 35, 36] [32, 33, 34, 0, 1, 2, 3, 4, 5, 6, 7, 8, 9, 10, 11, 12, 13, 14, 15, 16, 17, 18, 19, 20, 35, 36, 21, 22, 23, 24, 25, 26, 27, 28, 29, 30, 31] rfl rfl (by decide) (by decide) (by decide) rfl rfl rfl (Nat.le_of_ble_eq_true rfl) dL_law_541 ⟨(by show 37 + 2 * j ≤ 600000; omega), (by show 668 + 19 * j ≤ 7302250; omega)⟩ (fun H9 locs hP hD hS => ?_)
                                            refine lv_aload_n hx hb dL_law_544 rfl (lv_at hl 2 rfl) ?_
                                            refine vq_Vit (As := []) (rest := [.int (sX5_listen Z N T).1]) (W2 := (wC cI cZ cO g Z N X D H S SL (sX5_listen Z N T).2 r gm (sX6_listen M).2)) (f := (sX6_listen M).1) hx hb hml hown hts hK hP hD hS hA hE hl.1 (cX6_listen_c l ev dC dI cI cZ cO (g 15) gm M qT qS) gL_law_X6_listen rfl hdX6_listen (Nat.le_of_ble_eq_true rfl) (Nat.le_of_ble_eq_true rfl) rfl rfl (ci := 6) (qr := 27) rfl rfl rfl [27, 28, 29, 30, 31, 32, 33, 34, 35, 36] [0, 1, 2, 3, 4, 5, 6, 7, 8, 9, 10, 11, 12, 13, 14, 15, 16, 17, 18, 19, 20, 21, 22, 23, 24, 25, 26] [0, 1, 2, 3, 4, 5, 6, 7, 8, 9, 10, 11, 12, 13, 14, 15, 16, 17, 18, 19, 20, 21, 22, 23, 24, 25, 26, 27, 28, 29, 30, 31, 32, 33, 34, 35, 36] rfl rfl (by decide) (by decide) (by decide) rfl rfl rfl (Nat.le_of_ble_eq_true rfl) dL_law_545 ⟨(by show 37 + 2 * j ≤ 600000; omega), (by show 668 + 19 * j ≤ 7302250; omega)⟩ (fun H9 locs hP hD hS => ?_)
                                            refine lv_icmp_eq (tgt := 622) hx hb dL_law_548 (by decide) (fun c9 => ?_) (fun c9 => absurd (hlisten Z N X H (kS k0) (kS k1) M hRel T ).1 c9)
                                            refine W.widen (k := 37 + 2 * j + 2) (n := 668 + 19 * j + 19) (by omega) (by omega) ?_
                                            exact fin Z N X D H S SL (sX5_listen Z N T).2 r k0 k1 (sX6_listen M).2 (hlisten Z N X H (kS k0) (kS k1) M hRel T ).2 hr0 hr1 _ _ ls hP hD hS hl
                                          · skip
                                            by_cases c32_19 : p0 &&& 31 = 19
                                            · refine lv_tableIn (x := p0 &&& 31) (off := 521) (tgt := 553) hx hb dL_law_32 (by rw [c32_19]; decide) (by rw [c32_19]; decide) (by rw [c32_19]; rfl) (by decide) ?_
                                              refine lv_aload_n hx hb dL_law_553 rfl (lv_at hl 1 rfl) ?_
                                              refine lv_aload_n hx hb dL_law_554 rfl (lv_at hl 0 rfl) ?_
                                              refine lv_iload_n hx hb dL_law_555 rfl (lv_at hl 3 rfl) ?_
                                              refine lv_iconst (v := 1) hx hb dL_law_556 (by decide) ?_
                                              refine lv_iadd hx hb dL_law_557 ?_
                                              refine va_sld hx hb hX hbl hbA hS (i := x3 + 1) (hi1) dL_law_558 ?_
                                              rw [ha1]
                                              by_cases d1 : p1 < 0
                                              · refine vq_Vit (As := [.int p1]) (rest := []) (im := (imC cI k0 ++ imC cI k1)) (W2 := wC cI cZ cO g Z N X D H S SL T r gm M) (f := -1) hx hb hml hown hts hK hP hD hS hA hE hl.1 (cX5_keep_lo l ev dC dI cI cZ cO (g 0) (g 1) (g 3) (g 7) (g 9) (g 12) (g 14) Z p1 d1) gL_law_X5_keep rfl hdX5_keep (Nat.le_of_ble_eq_true rfl) (Nat.le_of_ble_eq_true rfl) rfl rfl (ci := 5) (qr := 0) rfl rfl rfl [0] [1, 2, 3, 4, 5, 6, 7, 8, 9, 10, 11, 12, 13, 14, 15, 16, 17, 18, 19, 20, 21, 22, 23, 24, 25, 26, 27, 28, 29, 30, 31, 32, 33, 34, 35, 36] [36, 0, 1, 2, 3, 4, 5, 6, 7, 8, 9, 10, 11, 12, 13, 14, 15, 16, 17, 18, 19, 20, 21, 22, 23, 24, 25, 26, 27, 28, 29, 30, 31, 32, 33, 34, 35] rfl rfl (by decide) (by decide) (by decide) rfl rfl rfl (Nat.le_of_ble_eq_true rfl) dL_law_559 ⟨(by show 37 + 2 * j ≤ 600000; omega), (by show 668 + 19 * j ≤ 7302250; omega)⟩ (fun H9 locs hP hD hS => ?_)
                                                refine lv_aload_n hx hb dL_law_562 rfl (lv_at hl 2 rfl) ?_
                                                refine lv_aload_n hx hb dL_law_563 rfl (lv_at hl 0 rfl) ?_
                                                refine lv_iload_n hx hb dL_law_564 rfl (lv_at hl 3 rfl) ?_
                                                refine lv_iconst (v := 1) hx hb dL_law_565 (by decide) ?_
                                                refine lv_iadd hx hb dL_law_566 ?_
                                                refine va_sld hx hb hX hbl hbA hS (i := x3 + 1) (hi1) dL_law_567 ?_
                                                rw [ha1]
                                                refine vq_Vit (As := [.int p1]) (rest := [.int (-1)]) (im := (imC cI k0 ++ imC cI k1)) (W2 := wC cI cZ cO g Z N X D H S SL T r gm (sX6_keep M p1).2) (f := (sX6_keep M p1).1) hx hb hml hown hts hK hP hD hS hA hE hl.1 (cX6_keep_c l ev dC dI cI cZ cO (g 15) gm M p1) gL_law_X6_keep rfl hdX6_keep (Nat.le_of_ble_eq_true rfl) (Nat.le_of_ble_eq_true rfl) rfl rfl (ci := 6) (qr := 27) rfl rfl rfl [27, 28, 29, 30, 31, 32, 33, 34, 35, 36] [0, 1, 2, 3, 4, 5, 6, 7, 8, 9, 10, 11, 12, 13, 14, 15, 16, 17, 18, 19, 20, 21, 22, 23, 24, 25, 26] [0, 1, 2, 3, 4, 5, 6, 7, 8, 9, 10, 11, 12, 13, 14, 15, 16, 17, 18, 19, 20, 21, 22, 23, 24, 25, 26, 27, 28, 29, 30, 31, 32, 33, 34, 35, 36] rfl rfl (by decide) (by decide) (by decide) rfl rfl rfl (Nat.le_of_ble_eq_true rfl) dL_law_568 ⟨(by show 37 + 2 * j ≤ 600000; omega), (by show 668 + 19 * j ≤ 7302250; omega)⟩ (fun H9 locs hP hD hS => ?_)
                                                refine lv_icmp_eq (tgt := 622) hx hb dL_law_571 (by decide) (fun c9 => ?_) (fun c9 => absurd (((hkeep Z N X H (kS k0) (kS k1) M hRel).1 p1 (Or.inl d1)).1).symm c9)
                                                refine W.widen (k := 37 + 2 * j + 2) (n := 668 + 19 * j + 19) (by omega) (by omega) ?_
                                                exact fin Z N X D H S SL T r k0 k1 (sX6_keep M p1).2 ((hkeep Z N X H (kS k0) (kS k1) M hRel).1 p1 (Or.inl d1)).2 hr0 hr1 _ _ ls hP hD hS hl
                                              · by_cases d2 : p1 < 2
                                                · have d3 : p1 = 0 ∨ p1 = 1 := law_01 d1 d2
                                                  rcases d3 with d3 | d3
                                                  · rw [d3] at ha1
                                                    rw [d3]
                                                    cases k0 with
                                                    | none =>
                                                      have hP : va_P (dC, dI) vwCl (wC cI cZ cO g Z N X D H S SL T r gm M ++ imC cI k1) H9 := hP
                                                      have hD : va_D (fun q : Nat => s.heap.size ≤ q) (wC cI cZ cO g Z N X D H S SL T r gm M ++ imC cI k1) := hD
                                                      refine vq_Vjt (As := [.int 0]) (rest := []) (im := imC cI k1) (Wj := fun q => wC cI cZ cO g Z N X D H S SL T (va_up r 0 (some (q 0))) gm M ++ wL cI (q 0) (q 1) (sX0_copyFrom LS0 N)) (f := N.1 0) hx hb hml hown hts hK hP hD hS hA hE hl.1 hO (cX5_keep_N0 l ev dC dI cI cZ cO (g 0) (g 1) (g 3) (g 7) (g 9) (g 12) (g 14) Z r (g 2) N hr0) gL_law_X5_keep rfl hdX5_keep (Nat.le_of_ble_eq_true rfl) (Nat.le_of_ble_eq_true rfl) rfl rfl (ci := 5) (qr := 0) rfl rfl rfl [0, 26, 1, 2] [3, 4, 5, 6, 7, 8, 9, 10, 11, 12, 13, 14, 15, 16, 17, 18, 19, 20, 21, 22, 23, 24, 25, 27, 28, 29, 30, 31, 32, 33, 34, 35, 36] [33, 35, 36, 0, 1, 2, 3, 4, 5, 6, 7, 8, 9, 10, 11, 12, 13, 14, 15, 16, 17, 18, 19, 20, 21, 22, 34, 23, 24, 25, 26, 27, 28, 29, 30, 31, 32, 37, 38] rfl rfl (by decide) (by decide) (by decide) (fun _ => rfl) rfl rfl (Nat.le_of_ble_eq_true rfl) dL_law_559 ⟨(by show 37 + 2 * j + 2 ≤ 600000; omega), (by show 668 + 19 * j + 19 ≤ 7302250; omega)⟩ (fun q9 H9 locs hP hD hS => ?_)
                                                      have hP : va_P (dC, dI) vwCl (wC cI cZ cO g Z N X D H S SL T (va_up r 0 (some (q9 0))) gm M ++ (imC cI (some (q9 0, q9 1, sX0_copyFrom LS0 N)) ++ imC cI k1)) H9 := by rw [← List.append_assoc]; exact hP
                                                      have hD : va_D (fun q : Nat => s.heap.size ≤ q) (wC cI cZ cO g Z N X D H S SL T (va_up r 0 (some (q9 0))) gm M ++ (imC cI (some (q9 0, q9 1, sX0_copyFrom LS0 N)) ++ imC cI k1)) := by rw [← List.append_assoc]; exact hD
                                                      refine lv_aload_n hx hb dL_law_562 rfl (lv_at hl 2 rfl) ?_
                                                      refine lv_aload_n hx hb dL_law_563 rfl (lv_at hl 0 rfl) ?_
                                                      refine lv_iload_n hx hb dL_law_564 rfl (lv_at hl 3 rfl) ?_
                                                      refine lv_iconst (v := 1) hx hb dL_law_565 (by decide) ?_
                                                      refine lv_iadd hx hb dL_law_566 ?_
                                                      refine va_sld hx hb hX hbl hbA hS (i := x3 + 1) (hi1) dL_law_567 ?_
                                                      rw [ha1]
                                                      refine vq_Vit (As := [.int 0]) (rest := [.int (N.1 0)]) (im := (imC cI (some (q9 0, q9 1, sX0_copyFrom LS0 N)) ++ imC cI k1)) (W2 := wC cI cZ cO g Z N X D H S SL T (va_up r 0 (some (q9 0))) gm (sX6_keep M 0).2) (f := (sX6_keep M 0).1) hx hb hml hown hts hK hP hD hS hA hE hl.1 (cX6_keep_c l ev dC dI cI cZ cO (g 15) gm M 0) gL_law_X6_keep rfl hdX6_keep (Nat.le_of_ble_eq_true rfl) (Nat.le_of_ble_eq_true rfl) rfl rfl (ci := 6) (qr := 27) rfl rfl rfl [27, 28, 29, 30, 31, 32, 33, 34, 35, 36] [0, 1, 2, 3, 4, 5, 6, 7, 8, 9, 10, 11, 12, 13, 14, 15, 16, 17, 18, 19, 20, 21, 22, 23, 24, 25, 26] [0, 1, 2, 3, 4, 5, 6, 7, 8, 9, 10, 11, 12, 13, 14, 15, 16, 17, 18, 19, 20, 21, 22, 23, 24, 25, 26, 27, 28, 29, 30, 31, 32, 33, 34, 35, 36] rfl rfl (by decide) (by decide) (by decide) rfl rfl rfl (Nat.le_of_ble_eq_true rfl) dL_law_568 ⟨(by show 37 + 2 * j + 2 ≤ 600000; omega), (by show 668 + 19 * j + 19 ≤ 7302250; omega)⟩ (fun H9 locs hP hD hS => ?_)
                                                      refine lv_icmp_eq (tgt := 622) hx hb dL_law_571 (by decide) (fun c9 => ?_) (fun c9 => absurd (((hkeep Z N X H (kS none) (kS k1) M hRel).2.1 LS0).1).symm c9)
                                                      exact fin Z N X D H S SL T (va_up r 0 (some (q9 0))) (some (q9 0, q9 1, sX0_copyFrom LS0 N)) k1 (sX6_keep M 0).2 ((hkeep Z N X H (kS none) (kS k1) M hRel).2.1 LS0).2 rfl hr1 _ _ ls hP hD hS hl
                                                    | some kq =>
                                                      obtain ⟨hk, kp, K⟩ := kq
                                                      have hP : va_P (dC, dI) vwCl ((wC cI cZ cO g Z N X D H S SL T r gm M ++ wL cI hk kp K) ++ imC cI k1) H9 := by rw [List.append_assoc]; exact hP
                                                      have hD : va_D (fun q : Nat => s.heap.size ≤ q) ((wC cI cZ cO g Z N X D H S SL T r gm M ++ wL cI hk kp K) ++ imC cI k1) := by rw [List.append_assoc]; exact hD
                                                      refine vq_Vit (As := [.int 0]) (rest := []) (im := imC cI k1) (W2 := (wC cI cZ cO g Z N X D H S SL T r gm M ++ wL cI hk kp (sX0_copyFrom K N))) (f := N.1 0) hx hb hml hown hts hK hP hD hS hA hE hl.1 (cX5_keep_S0 l ev dC dI cI cZ cO (g 0) (g 1) (g 3) (g 7) (g 9) (g 12) (g 14) Z r (g 2) N hk kp K hr0) gL_law_X5_keep rfl hdX5_keep (Nat.le_of_ble_eq_true rfl) (Nat.le_of_ble_eq_true rfl) rfl rfl (ci := 5) (qr := 0) rfl rfl rfl [0, 26, 1, 2, 37, 38] [3, 4, 5, 6, 7, 8, 9, 10, 11, 12, 13, 14, 15, 16, 17, 18, 19, 20, 21, 22, 23, 24, 25, 27, 28, 29, 30, 31, 32, 33, 34, 35, 36] [33, 35, 36, 0, 1, 2, 3, 4, 5, 6, 7, 8, 9, 10, 11, 12, 13, 14, 15, 16, 17, 18, 19, 20, 21, 22, 34, 23, 24, 25, 26, 27, 28, 29, 30, 31, 32, 37, 38] rfl rfl (by decide) (by decide) (by decide) rfl rfl rfl (Nat.le_of_ble_eq_true rfl) dL_law_559 ⟨(by show 37 + 2 * j ≤ 600000; omega), (by show 668 + 19 * j ≤ 7302250; omega)⟩ (fun H9 locs hP hD hS => ?_)
                                                      have hP : va_P (dC, dI) vwCl (wC cI cZ cO g Z N X D H S SL T r gm M ++ (imC cI (some (hk, kp, sX0_copyFrom K N)) ++ imC cI k1)) H9 := by rw [← List.append_assoc]; exact hP
                                                      have hD : va_D (fun q : Nat => s.heap.size ≤ q) (wC cI cZ cO g Z N X D H S SL T r gm M ++ (imC cI (some (hk, kp, sX0_copyFrom K N)) ++ imC cI k1)) := by rw [← List.append_assoc]; exact hD
                                                      refine lv_aload_n hx hb dL_law_562 rfl (lv_at hl 2 rfl) ?_
                                                      refine lv_aload_n hx hb dL_law_563 rfl (lv_at hl 0 rfl) ?_
                                                      refine lv_iload_n hx hb dL_law_564 rfl (lv_at hl 3 rfl) ?_
                                                      refine lv_iconst (v := 1) hx hb dL_law_565 (by decide) ?_
                                                      refine lv_iadd hx hb dL_law_566 ?_
                                                      refine va_sld hx hb hX hbl hbA hS (i := x3 + 1) (hi1) dL_law_567 ?_
                                                      rw [ha1]
                                                      refine vq_Vit (As := [.int 0]) (rest := [.int (N.1 0)]) (im := (imC cI (some (hk, kp, sX0_copyFrom K N)) ++ imC cI k1)) (W2 := wC cI cZ cO g Z N X D H S SL T r gm (sX6_keep M 0).2) (f := (sX6_keep M 0).1) hx hb hml hown hts hK hP hD hS hA hE hl.1 (cX6_keep_c l ev dC dI cI cZ cO (g 15) gm M 0) gL_law_X6_keep rfl hdX6_keep (Nat.le_of_ble_eq_true rfl) (Nat.le_of_ble_eq_true rfl) rfl rfl (ci := 6) (qr := 27) rfl rfl rfl [27, 28, 29, 30, 31, 32, 33, 34, 35, 36] [0, 1, 2, 3, 4, 5, 6, 7, 8, 9, 10, 11, 12, 13, 14, 15, 16, 17, 18, 19, 20, 21, 22, 23, 24, 25, 26] [0, 1, 2, 3, 4, 5, 6, 7, 8, 9, 10, 11, 12, 13, 14, 15, 16, 17, 18, 19, 20, 21, 22, 23, 24, 25, 26, 27, 28, 29, 30, 31, 32, 33, 34, 35, 36] rfl rfl (by decide) (by decide) (by decide) rfl rfl rfl (Nat.le_of_ble_eq_true rfl) dL_law_568 ⟨(by show 37 + 2 * j ≤ 600000; omega), (by show 668 + 19 * j ≤ 7302250; omega)⟩ (fun H9 locs hP hD hS => ?_)
                                                      refine lv_icmp_eq (tgt := 622) hx hb dL_law_571 (by decide) (fun c9 => ?_) (fun c9 => absurd (((hkeep Z N X H (kS (some (hk, kp, K))) (kS k1) M hRel).2.1 K).1).symm c9)
                                                      refine W.widen (k := 37 + 2 * j + 2) (n := 668 + 19 * j + 19) (by omega) (by omega) ?_
                                                      exact fin Z N X D H S SL T r (some (hk, kp, sX0_copyFrom K N)) k1 (sX6_keep M 0).2 ((hkeep Z N X H (kS (some (hk, kp, K))) (kS k1) M hRel).2.1 K).2 hr0 hr1 _ _ ls hP hD hS hl
                                                  · rw [d3] at ha1
                                                    rw [d3]
                                                    cases k1 with
                                                    | none =>
                                                      rw [show imC cI k0 ++ imC cI none = imC cI k0 from List.append_nil _] at hP hD
                                                      refine vq_Vjt (As := [.int 1]) (rest := []) (im := imC cI k0) (Wj := fun q => wC cI cZ cO g Z N X D H S SL T (va_up r 1 (some (q 0))) gm M ++ wL cI (q 0) (q 1) (sX0_copyFrom LS0 N)) (f := N.1 0) hx hb hml hown hts hK hP hD hS hA hE hl.1 hO (cX5_keep_N1 l ev dC dI cI cZ cO (g 0) (g 1) (g 3) (g 7) (g 9) (g 12) (g 14) Z r (g 2) N hr1) gL_law_X5_keep rfl hdX5_keep (Nat.le_of_ble_eq_true rfl) (Nat.le_of_ble_eq_true rfl) rfl rfl (ci := 5) (qr := 0) rfl rfl rfl [0, 26, 1, 2] [3, 4, 5, 6, 7, 8, 9, 10, 11, 12, 13, 14, 15, 16, 17, 18, 19, 20, 21, 22, 23, 24, 25, 27, 28, 29, 30, 31, 32, 33, 34, 35, 36] [33, 35, 36, 0, 1, 2, 3, 4, 5, 6, 7, 8, 9, 10, 11, 12, 13, 14, 15, 16, 17, 18, 19, 20, 21, 22, 34, 23, 24, 25, 26, 27, 28, 29, 30, 31, 32, 37, 38] rfl rfl (by decide) (by decide) (by decide) (fun _ => rfl) rfl rfl (Nat.le_of_ble_eq_true rfl) dL_law_559 ⟨(by show 37 + 2 * j + 2 ≤ 600000; omega), (by show 668 + 19 * j + 19 ≤ 7302250; omega)⟩ (fun q9 H9 locs hP hD hS => ?_)
                                                      have hP : va_P (dC, dI) vwCl (wC cI cZ cO g Z N X D H S SL T (va_up r 1 (some (q9 0))) gm M ++ (imC cI k0 ++ imC cI (some (q9 0, q9 1, sX0_copyFrom LS0 N)))) H9 := va_P.swp (by rw [← List.append_assoc]; exact hP)
                                                      have hD : va_D (fun q : Nat => s.heap.size ≤ q) (wC cI cZ cO g Z N X D H S SL T (va_up r 1 (some (q9 0))) gm M ++ (imC cI k0 ++ imC cI (some (q9 0, q9 1, sX0_copyFrom LS0 N)))) := va_D.swp (by rw [← List.append_assoc]; exact hD)
                                                      refine lv_aload_n hx hb dL_law_562 rfl (lv_at hl 2 rfl) ?_
                                                      refine lv_aload_n hx hb dL_law_563 rfl (lv_at hl 0 rfl) ?_
                                                      refine lv_iload_n hx hb dL_law_564 rfl (lv_at hl 3 rfl) ?_
                                                      refine lv_iconst (v := 1) hx hb dL_law_565 (by decide) ?_
                                                      refine lv_iadd hx hb dL_law_566 ?_
                                                      refine va_sld hx hb hX hbl hbA hS (i := x3 + 1) (hi1) dL_law_567 ?_
                                                      rw [ha1]
                                                      refine vq_Vit (As := [.int 1]) (rest := [.int (N.1 0)]) (im := (imC cI k0 ++ imC cI (some (q9 0, q9 1, sX0_copyFrom LS0 N)))) (W2 := wC cI cZ cO g Z N X D H S SL T (va_up r 1 (some (q9 0))) gm (sX6_keep M 1).2) (f := (sX6_keep M 1).1) hx hb hml hown hts hK hP hD hS hA hE hl.1 (cX6_keep_c l ev dC dI cI cZ cO (g 15) gm M 1) gL_law_X6_keep rfl hdX6_keep (Nat.le_of_ble_eq_true rfl) (Nat.le_of_ble_eq_true rfl) rfl rfl (ci := 6) (qr := 27) rfl rfl rfl [27, 28, 29, 30, 31, 32, 33, 34, 35, 36] [0, 1, 2, 3, 4, 5, 6, 7, 8, 9, 10, 11, 12, 13, 14, 15, 16, 17, 18, 19, 20, 21, 22, 23, 24, 25, 26] [0, 1, 2, 3, 4, 5, 6, 7, 8, 9, 10, 11, 12, 13, 14, 15, 16, 17, 18, 19, 20, 21, 22, 23, 24, 25, 26, 27, 28, 29, 30, 31, 32, 33, 34, 35, 36] rfl rfl (by decide) (by decide) (by decide) rfl rfl rfl (Nat.le_of_ble_eq_true rfl) dL_law_568 ⟨(by show 37 + 2 * j + 2 ≤ 600000; omega), (by show 668 + 19 * j + 19 ≤ 7302250; omega)⟩ (fun H9 locs hP hD hS => ?_)
                                                      refine lv_icmp_eq (tgt := 622) hx hb dL_law_571 (by decide) (fun c9 => ?_) (fun c9 => absurd (((hkeep Z N X H (kS k0) (kS none) M hRel).2.2 LS0).1).symm c9)
                                                      exact fin Z N X D H S SL T (va_up r 1 (some (q9 0))) k0 (some (q9 0, q9 1, sX0_copyFrom LS0 N)) (sX6_keep M 1).2 ((hkeep Z N X H (kS k0) (kS none) M hRel).2.2 LS0).2 hr0 rfl _ _ ls hP hD hS hl
                                                    | some kq =>
                                                      obtain ⟨hk, kp, K⟩ := kq
                                                      have hP : va_P (dC, dI) vwCl ((wC cI cZ cO g Z N X D H S SL T r gm M ++ wL cI hk kp K) ++ imC cI k0) H9 := by rw [List.append_assoc]; exact va_P.swp hP
                                                      have hD : va_D (fun q : Nat => s.heap.size ≤ q) ((wC cI cZ cO g Z N X D H S SL T r gm M ++ wL cI hk kp K) ++ imC cI k0) := by rw [List.append_assoc]; exact va_D.swp hD
                                                      refine vq_Vit (As := [.int 1]) (rest := []) (im := imC cI k0) (W2 := (wC cI cZ cO g Z N X D H S SL T r gm M ++ wL cI hk kp (sX0_copyFrom K N))) (f := N.1 0) hx hb hml hown hts hK hP hD hS hA hE hl.1 (cX5_keep_S1 l ev dC dI cI cZ cO (g 0) (g 1) (g 3) (g 7) (g 9) (g 12) (g 14) Z r (g 2) N hk kp K hr1) gL_law_X5_keep rfl hdX5_keep (Nat.le_of_ble_eq_true rfl) (Nat.le_of_ble_eq_true rfl) rfl rfl (ci := 5) (qr := 0) rfl rfl rfl [0, 26, 1, 2, 37, 38] [3, 4, 5, 6, 7, 8, 9, 10, 11, 12, 13, 14, 15, 16, 17, 18, 19, 20, 21, 22, 23, 24, 25, 27, 28, 29, 30, 31, 32, 33, 34, 35, 36] [33, 35, 36, 0, 1, 2, 3, 4, 5, 6, 7, 8, 9, 10, 11, 12, 13, 14, 15, 16, 17, 18, 19, 20, 21, 22, 34, 23, 24, 25, 26, 27, 28, 29, 30, 31, 32, 37, 38] rfl rfl (by decide) (by decide) (by decide) rfl rfl rfl (Nat.le_of_ble_eq_true rfl) dL_law_559 ⟨(by show 37 + 2 * j ≤ 600000; omega), (by show 668 + 19 * j ≤ 7302250; omega)⟩ (fun H9 locs hP hD hS => ?_)
                                                      have hP : va_P (dC, dI) vwCl (wC cI cZ cO g Z N X D H S SL T r gm M ++ (imC cI k0 ++ imC cI (some (hk, kp, sX0_copyFrom K N)))) H9 := va_P.swp (by rw [← List.append_assoc]; exact hP)
                                                      have hD : va_D (fun q : Nat => s.heap.size ≤ q) (wC cI cZ cO g Z N X D H S SL T r gm M ++ (imC cI k0 ++ imC cI (some (hk, kp, sX0_copyFrom K N)))) := va_D.swp (by rw [← List.append_assoc]; exact hD)
                                                      refine lv_aload_n hx hb dL_law_562 rfl (lv_at hl 2 rfl) ?_
                                                      refine lv_aload_n hx hb dL_law_563 rfl (lv_at hl 0 rfl) ?_
                                                      refine lv_iload_n hx hb dL_law_564 rfl (lv_at hl 3 rfl) ?_
                                                      refine lv_iconst (v := 1) hx hb dL_law_565 (by decide) ?_
                                                      refine lv_iadd hx hb dL_law_566 ?_
                                                      refine va_sld hx hb hX hbl hbA hS (i := x3 + 1) (hi1) dL_law_567 ?_
                                                      rw [ha1]
                                                      refine vq_Vit (As := [.int 1]) (rest := [.int (N.1 0)]) (im := (imC cI k0 ++ imC cI (some (hk, kp, sX0_copyFrom K N)))) (W2 := wC cI cZ cO g Z N X D H S SL T r gm (sX6_keep M 1).2) (f := (sX6_keep M 1).1) hx hb hml hown hts hK hP hD hS hA hE hl.1 (cX6_keep_c l ev dC dI cI cZ cO (g 15) gm M 1) gL_law_X6_keep rfl hdX6_keep (Nat.le_of_ble_eq_true rfl) (Nat.le_of_ble_eq_true rfl) rfl rfl (ci := 6) (qr := 27) rfl rfl rfl [27, 28, 29, 30, 31, 32, 33, 34, 35, 36] [0, 1, 2, 3, 4, 5, 6, 7, 8, 9, 10, 11, 12, 13, 14, 15, 16, 17, 18, 19, 20, 21, 22, 23, 24, 25, 26] [0, 1, 2, 3, 4, 5, 6, 7, 8, 9, 10, 11, 12, 13, 14, 15, 16, 17, 18, 19, 20, 21, 22, 23, 24, 25, 26, 27, 28, 29, 30, 31, 32, 33, 34, 35, 36] rfl rfl (by decide) (by decide) (by decide) rfl rfl rfl (Nat.le_of_ble_eq_true rfl) dL_law_568 ⟨(by show 37 + 2 * j ≤ 600000; omega), (by show 668 + 19 * j ≤ 7302250; omega)⟩ (fun H9 locs hP hD hS => ?_)
                                                      refine lv_icmp_eq (tgt := 622) hx hb dL_law_571 (by decide) (fun c9 => ?_) (fun c9 => absurd (((hkeep Z N X H (kS k0) (kS (some (hk, kp, K))) M hRel).2.2 K).1).symm c9)
                                                      refine W.widen (k := 37 + 2 * j + 2) (n := 668 + 19 * j + 19) (by omega) (by omega) ?_
                                                      exact fin Z N X D H S SL T r k0 (some (hk, kp, sX0_copyFrom K N)) (sX6_keep M 1).2 ((hkeep Z N X H (kS k0) (kS (some (hk, kp, K))) M hRel).2.2 K).2 hr0 hr1 _ _ ls hP hD hS hl
                                                · refine vq_Vit (As := [.int p1]) (rest := []) (im := (imC cI k0 ++ imC cI k1)) (W2 := wC cI cZ cO g Z N X D H S SL T r gm M) (f := -1) hx hb hml hown hts hK hP hD hS hA hE hl.1 (cX5_keep_hi l ev dC dI cI cZ cO (g 0) (g 1) (g 3) (g 7) (g 9) (g 12) (g 14) Z p1 d1 d2) gL_law_X5_keep rfl hdX5_keep (Nat.le_of_ble_eq_true rfl) (Nat.le_of_ble_eq_true rfl) rfl rfl (ci := 5) (qr := 0) rfl rfl rfl [0] [1, 2, 3, 4, 5, 6, 7, 8, 9, 10, 11, 12, 13, 14, 15, 16, 17, 18, 19, 20, 21, 22, 23, 24, 25, 26, 27, 28, 29, 30, 31, 32, 33, 34, 35, 36] [36, 0, 1, 2, 3, 4, 5, 6, 7, 8, 9, 10, 11, 12, 13, 14, 15, 16, 17, 18, 19, 20, 21, 22, 23, 24, 25, 26, 27, 28, 29, 30, 31, 32, 33, 34, 35] rfl rfl (by decide) (by decide) (by decide) rfl rfl rfl (Nat.le_of_ble_eq_true rfl) dL_law_559 ⟨(by show 37 + 2 * j ≤ 600000; omega), (by show 668 + 19 * j ≤ 7302250; omega)⟩ (fun H9 locs hP hD hS => ?_)
                                                  refine lv_aload_n hx hb dL_law_562 rfl (lv_at hl 2 rfl) ?_
                                                  refine lv_aload_n hx hb dL_law_563 rfl (lv_at hl 0 rfl) ?_
                                                  refine lv_iload_n hx hb dL_law_564 rfl (lv_at hl 3 rfl) ?_
                                                  refine lv_iconst (v := 1) hx hb dL_law_565 (by decide) ?_
                                                  refine lv_iadd hx hb dL_law_566 ?_
                                                  refine va_sld hx hb hX hbl hbA hS (i := x3 + 1) (hi1) dL_law_567 ?_
                                                  rw [ha1]
                                                  refine vq_Vit (As := [.int p1]) (rest := [.int (-1)]) (im := (imC cI k0 ++ imC cI k1)) (W2 := wC cI cZ cO g Z N X D H S SL T r gm (sX6_keep M p1).2) (f := (sX6_keep M p1).1) hx hb hml hown hts hK hP hD hS hA hE hl.1 (cX6_keep_c l ev dC dI cI cZ cO (g 15) gm M p1) gL_law_X6_keep rfl hdX6_keep (Nat.le_of_ble_eq_true rfl) (Nat.le_of_ble_eq_true rfl) rfl rfl (ci := 6) (qr := 27) rfl rfl rfl [27, 28, 29, 30, 31, 32, 33, 34, 35, 36] [0, 1, 2, 3, 4, 5, 6, 7, 8, 9, 10, 11, 12, 13, 14, 15, 16, 17, 18, 19, 20, 21, 22, 23, 24, 25, 26] [0, 1, 2, 3, 4, 5, 6, 7, 8, 9, 10, 11, 12, 13, 14, 15, 16, 17, 18, 19, 20, 21, 22, 23, 24, 25, 26, 27, 28, 29, 30, 31, 32, 33, 34, 35, 36] rfl rfl (by decide) (by decide) (by decide) rfl rfl rfl (Nat.le_of_ble_eq_true rfl) dL_law_568 ⟨(by show 37 + 2 * j ≤ 600000; omega), (by show 668 + 19 * j ≤ 7302250; omega)⟩ (fun H9 locs hP hD hS => ?_)
                                                  refine lv_icmp_eq (tgt := 622) hx hb dL_law_571 (by decide) (fun c9 => ?_) (fun c9 => absurd (((hkeep Z N X H (kS k0) (kS k1) M hRel).1 p1 (Or.inr d2)).1).symm c9)
                                                  refine W.widen (k := 37 + 2 * j + 2) (n := 668 + 19 * j + 19) (by omega) (by omega) ?_
                                                  exact fin Z N X D H S SL T r k0 k1 (sX6_keep M p1).2 ((hkeep Z N X H (kS k0) (kS k1) M hRel).1 p1 (Or.inr d2)).2 hr0 hr1 _ _ ls hP hD hS hl
                                            · skip
                                              by_cases c32_20 : p0 &&& 31 = 20
                                              · refine lv_tableIn (x := p0 &&& 31) (off := 544) (tgt := 576) hx hb dL_law_32 (by rw [c32_20]; decide) (by rw [c32_20]; decide) (by rw [c32_20]; rfl) (by decide) ?_
                                                refine lv_aload_n hx hb dL_law_576 rfl (lv_at hl 1 rfl) ?_
                                                refine lv_aload_n hx hb dL_law_577 rfl (lv_at hl 0 rfl) ?_
                                                refine lv_iload_n hx hb dL_law_578 rfl (lv_at hl 3 rfl) ?_
                                                refine lv_iconst (v := 1) hx hb dL_law_579 (by decide) ?_
                                                refine lv_iadd hx hb dL_law_580 ?_
                                                refine va_sld hx hb hX hbl hbA hS (i := x3 + 1) (hi1) dL_law_581 ?_
                                                rw [ha1]
                                                by_cases d1 : p1 < 0
                                                · refine vq_Vit (As := [.int p1]) (rest := []) (im := (imC cI k0 ++ imC cI k1)) (W2 := wC cI cZ cO g Z N X D H S SL T r gm M) (f := -1) hx hb hml hown hts hK hP hD hS hA hE hl.1 (cX5_back_lo l ev dC dI cI cZ cO (g 0) (g 1) (g 3) (g 7) (g 9) (g 12) (g 14) Z p1 d1) gL_law_X5_back rfl hdX5_back (Nat.le_of_ble_eq_true rfl) (Nat.le_of_ble_eq_true rfl) rfl rfl (ci := 5) (qr := 0) rfl rfl rfl [0] [1, 2, 3, 4, 5, 6, 7, 8, 9, 10, 11, 12, 13, 14, 15, 16, 17, 18, 19, 20, 21, 22, 23, 24, 25, 26, 27, 28, 29, 30, 31, 32, 33, 34, 35, 36] [36, 0, 1, 2, 3, 4, 5, 6, 7, 8, 9, 10, 11, 12, 13, 14, 15, 16, 17, 18, 19, 20, 21, 22, 23, 24, 25, 26, 27, 28, 29, 30, 31, 32, 33, 34, 35] rfl rfl (by decide) (by decide) (by decide) rfl rfl rfl (Nat.le_of_ble_eq_true rfl) dL_law_582 ⟨(by show 37 + 2 * j ≤ 600000; omega), (by show 668 + 19 * j ≤ 7302250; omega)⟩ (fun H9 locs hP hD hS => ?_)
                                                  refine lv_aload_n hx hb dL_law_585 rfl (lv_at hl 2 rfl) ?_
                                                  refine lv_aload_n hx hb dL_law_586 rfl (lv_at hl 0 rfl) ?_
                                                  refine lv_iload_n hx hb dL_law_587 rfl (lv_at hl 3 rfl) ?_
                                                  refine lv_iconst (v := 1) hx hb dL_law_588 (by decide) ?_
                                                  refine lv_iadd hx hb dL_law_589 ?_
                                                  refine va_sld hx hb hX hbl hbA hS (i := x3 + 1) (hi1) dL_law_590 ?_
                                                  rw [ha1]
                                                  refine vq_Vit (As := [.int p1]) (rest := [.int (-1)]) (im := (imC cI k0 ++ imC cI k1)) (W2 := wC cI cZ cO g Z N X D H S SL T r gm (sX6_back M p1).2) (f := (sX6_back M p1).1) hx hb hml hown hts hK hP hD hS hA hE hl.1 (cX6_back_c l ev dC dI cI cZ cO (g 15) gm M p1) gL_law_X6_back rfl hdX6_back (Nat.le_of_ble_eq_true rfl) (Nat.le_of_ble_eq_true rfl) rfl rfl (ci := 6) (qr := 27) rfl rfl rfl [27, 28, 29, 30, 31, 32, 33, 34, 35, 36] [0, 1, 2, 3, 4, 5, 6, 7, 8, 9, 10, 11, 12, 13, 14, 15, 16, 17, 18, 19, 20, 21, 22, 23, 24, 25, 26] [0, 1, 2, 3, 4, 5, 6, 7, 8, 9, 10, 11, 12, 13, 14, 15, 16, 17, 18, 19, 20, 21, 22, 23, 24, 25, 26, 27, 28, 29, 30, 31, 32, 33, 34, 35, 36] rfl rfl (by decide) (by decide) (by decide) rfl rfl rfl (Nat.le_of_ble_eq_true rfl) dL_law_591 ⟨(by show 37 + 2 * j ≤ 600000; omega), (by show 668 + 19 * j ≤ 7302250; omega)⟩ (fun H9 locs hP hD hS => ?_)
                                                  refine lv_icmp_eq (tgt := 622) hx hb dL_law_594 (by decide) (fun c9 => ?_) (fun c9 => absurd (((hback Z N X H (kS k0) (kS k1) M hRel).1 p1 (Or.inl d1)).1).symm c9)
                                                  refine W.widen (k := 37 + 2 * j + 2) (n := 668 + 19 * j + 19) (by omega) (by omega) ?_
                                                  exact fin Z N X D H S SL T r k0 k1 (sX6_back M p1).2 ((hback Z N X H (kS k0) (kS k1) M hRel).1 p1 (Or.inl d1)).2 hr0 hr1 _ _ ls hP hD hS hl
                                                · by_cases d2 : p1 < 2
                                                  · have d3 : p1 = 0 ∨ p1 = 1 := law_01 d1 d2
                                                    rcases d3 with d3 | d3
                                                    · rw [d3] at ha1
                                                      rw [d3]
                                                      cases k0 with
                                                      | none =>
                                                        refine vq_Vit (As := [.int 0]) (rest := []) (im := (imC cI none ++ imC cI k1)) (W2 := wC cI cZ cO g Z N X D H S SL T r gm M) (f := -2) hx hb hml hown hts hK hP hD hS hA hE hl.1 (cX5_back_N0 l ev dC dI cI cZ cO (g 0) (g 1) (g 3) (g 7) (g 9) (g 12) (g 14) Z r hr0) gL_law_X5_back rfl hdX5_back (Nat.le_of_ble_eq_true rfl) (Nat.le_of_ble_eq_true rfl) rfl rfl (ci := 5) (qr := 0) rfl rfl rfl [0, 26] [1, 2, 3, 4, 5, 6, 7, 8, 9, 10, 11, 12, 13, 14, 15, 16, 17, 18, 19, 20, 21, 22, 23, 24, 25, 27, 28, 29, 30, 31, 32, 33, 34, 35, 36] [35, 0, 1, 2, 3, 4, 5, 6, 7, 8, 9, 10, 11, 12, 13, 14, 15, 16, 17, 18, 19, 20, 21, 22, 23, 24, 36, 25, 26, 27, 28, 29, 30, 31, 32, 33, 34] rfl rfl (by decide) (by decide) (by decide) rfl rfl rfl (Nat.le_of_ble_eq_true rfl) dL_law_582 ⟨(by show 37 + 2 * j ≤ 600000; omega), (by show 668 + 19 * j ≤ 7302250; omega)⟩ (fun H9 locs hP hD hS => ?_)
                                                        refine lv_aload_n hx hb dL_law_585 rfl (lv_at hl 2 rfl) ?_
                                                        refine lv_aload_n hx hb dL_law_586 rfl (lv_at hl 0 rfl) ?_
                                                        refine lv_iload_n hx hb dL_law_587 rfl (lv_at hl 3 rfl) ?_
                                                        refine lv_iconst (v := 1) hx hb dL_law_588 (by decide) ?_
                                                        refine lv_iadd hx hb dL_law_589 ?_
                                                        refine va_sld hx hb hX hbl hbA hS (i := x3 + 1) (hi1) dL_law_590 ?_
                                                        rw [ha1]
                                                        refine vq_Vit (As := [.int 0]) (rest := [.int (-2)]) (im := (imC cI none ++ imC cI k1)) (W2 := wC cI cZ cO g Z N X D H S SL T r gm (sX6_back M 0).2) (f := (sX6_back M 0).1) hx hb hml hown hts hK hP hD hS hA hE hl.1 (cX6_back_c l ev dC dI cI cZ cO (g 15) gm M 0) gL_law_X6_back rfl hdX6_back (Nat.le_of_ble_eq_true rfl) (Nat.le_of_ble_eq_true rfl) rfl rfl (ci := 6) (qr := 27) rfl rfl rfl [27, 28, 29, 30, 31, 32, 33, 34, 35, 36] [0, 1, 2, 3, 4, 5, 6, 7, 8, 9, 10, 11, 12, 13, 14, 15, 16, 17, 18, 19, 20, 21, 22, 23, 24, 25, 26] [0, 1, 2, 3, 4, 5, 6, 7, 8, 9, 10, 11, 12, 13, 14, 15, 16, 17, 18, 19, 20, 21, 22, 23, 24, 25, 26, 27, 28, 29, 30, 31, 32, 33, 34, 35, 36] rfl rfl (by decide) (by decide) (by decide) rfl rfl rfl (Nat.le_of_ble_eq_true rfl) dL_law_591 ⟨(by show 37 + 2 * j ≤ 600000; omega), (by show 668 + 19 * j ≤ 7302250; omega)⟩ (fun H9 locs hP hD hS => ?_)
                                                        refine lv_icmp_eq (tgt := 622) hx hb dL_law_594 (by decide) (fun c9 => ?_) (fun c9 => absurd (((hback Z N X H (kS none) (kS k1) M hRel).2.1 rfl).1).symm c9)
                                                        refine W.widen (k := 37 + 2 * j + 2) (n := 668 + 19 * j + 19) (by omega) (by omega) ?_
                                                        exact fin Z N X D H S SL T r none k1 (sX6_back M 0).2 ((hback Z N X H (kS none) (kS k1) M hRel).2.1 rfl).2 hr0 hr1 _ _ ls hP hD hS hl
                                                      | some kq =>
                                                        obtain ⟨hk, kp, K⟩ := kq
                                                        have hP : va_P (dC, dI) vwCl ((wC cI cZ cO g Z N X D H S SL T r gm M ++ wL cI hk kp K) ++ imC cI k1) H9 := by rw [List.append_assoc]; exact hP
                                                        have hD : va_D (fun q : Nat => s.heap.size ≤ q) ((wC cI cZ cO g Z N X D H S SL T r gm M ++ wL cI hk kp K) ++ imC cI k1) := by rw [List.append_assoc]; exact hD
                                                        refine vq_Vit (As := [.int 0]) (rest := []) (im := imC cI k1) (W2 := (wC cI cZ cO g Z (sX0_copyFrom N K) X D (0, H.2) S SL T r gm M ++ wL cI hk kp K)) (f := (sX0_copyFrom N K).1 0) hx hb hml hown hts hK hP hD hS hA hE hl.1 (cX5_back_S0 l ev dC dI cI cZ cO (g 0) (g 1) (g 3) (g 7) (g 9) (g 12) (g 14) Z r (g 2) N (g 8) H.1 hk kp K hr0) gL_law_X5_back rfl hdX5_back (Nat.le_of_ble_eq_true rfl) (Nat.le_of_ble_eq_true rfl) rfl rfl (ci := 5) (qr := 0) rfl rfl rfl [0, 26, 1, 2, 7, 37, 38] [3, 4, 5, 6, 8, 9, 10, 11, 12, 13, 14, 15, 16, 17, 18, 19, 20, 21, 22, 23, 24, 25, 27, 28, 29, 30, 31, 32, 33, 34, 35, 36] [32, 34, 35, 0, 1, 2, 3, 36, 4, 5, 6, 7, 8, 9, 10, 11, 12, 13, 14, 15, 16, 17, 18, 19, 20, 21, 33, 22, 23, 24, 25, 26, 27, 28, 29, 30, 31, 37, 38] rfl rfl (by decide) (by decide) (by decide) rfl rfl rfl (Nat.le_of_ble_eq_true rfl) dL_law_582 ⟨(by show 37 + 2 * j ≤ 600000; omega), (by show 668 + 19 * j ≤ 7302250; omega)⟩ (fun H9 locs hP hD hS => ?_)
                                                        have hP : va_P (dC, dI) vwCl (wC cI cZ cO g Z (sX0_copyFrom N K) X D (0, H.2) S SL T r gm M ++ (imC cI (some (hk, kp, K)) ++ imC cI k1)) H9 := by rw [← List.append_assoc]; exact hP
                                                        have hD : va_D (fun q : Nat => s.heap.size ≤ q) (wC cI cZ cO g Z (sX0_copyFrom N K) X D (0, H.2) S SL T r gm M ++ (imC cI (some (hk, kp, K)) ++ imC cI k1)) := by rw [← List.append_assoc]; exact hD
                                                        refine lv_aload_n hx hb dL_law_585 rfl (lv_at hl 2 rfl) ?_
                                                        refine lv_aload_n hx hb dL_law_586 rfl (lv_at hl 0 rfl) ?_
                                                        refine lv_iload_n hx hb dL_law_587 rfl (lv_at hl 3 rfl) ?_
                                                        refine lv_iconst (v := 1) hx hb dL_law_588 (by decide) ?_
                                                        refine lv_iadd hx hb dL_law_589 ?_
                                                        refine va_sld hx hb hX hbl hbA hS (i := x3 + 1) (hi1) dL_law_590 ?_
                                                        rw [ha1]
                                                        refine vq_Vit (As := [.int 0]) (rest := [.int ((sX0_copyFrom N K).1 0)]) (im := (imC cI (some (hk, kp, K)) ++ imC cI k1)) (W2 := wC cI cZ cO g Z (sX0_copyFrom N K) X D (0, H.2) S SL T r gm (sX6_back M 0).2) (f := (sX6_back M 0).1) hx hb hml hown hts hK hP hD hS hA hE hl.1 (cX6_back_c l ev dC dI cI cZ cO (g 15) gm M 0) gL_law_X6_back rfl hdX6_back (Nat.le_of_ble_eq_true rfl) (Nat.le_of_ble_eq_true rfl) rfl rfl (ci := 6) (qr := 27) rfl rfl rfl [27, 28, 29, 30, 31, 32, 33, 34, 35, 36] [0, 1, 2, 3, 4, 5, 6, 7, 8, 9, 10, 11, 12, 13, 14, 15, 16, 17, 18, 19, 20, 21, 22, 23, 24, 25, 26] [0, 1, 2, 3, 4, 5, 6, 7, 8, 9, 10, 11, 12, 13, 14, 15, 16, 17, 18, 19, 20, 21, 22, 23, 24, 25, 26, 27, 28, 29, 30, 31, 32, 33, 34, 35, 36] rfl rfl (by decide) (by decide) (by decide) rfl rfl rfl (Nat.le_of_ble_eq_true rfl) dL_law_591 ⟨(by show 37 + 2 * j ≤ 600000; omega), (by show 668 + 19 * j ≤ 7302250; omega)⟩ (fun H9 locs hP hD hS => ?_)
                                                        refine lv_icmp_eq (tgt := 622) hx hb dL_law_594 (by decide) (fun c9 => ?_) (fun c9 => absurd (((hback Z N X H (kS (some (hk, kp, K))) (kS k1) M hRel).2.2.1 K rfl).1).symm c9)
                                                        refine W.widen (k := 37 + 2 * j + 2) (n := 668 + 19 * j + 19) (by omega) (by omega) ?_
                                                        exact fin Z (sX0_copyFrom N K) X D (0, H.2) S SL T r (some (hk, kp, K)) k1 (sX6_back M 0).2 ((hback Z N X H (kS (some (hk, kp, K))) (kS k1) M hRel).2.2.1 K rfl).2 hr0 hr1 _ _ ls hP hD hS hl
                                                    · rw [d3] at ha1
                                                      rw [d3]
                                                      cases k1 with
                                                      | none =>
                                                        refine vq_Vit (As := [.int 1]) (rest := []) (im := (imC cI k0 ++ imC cI none)) (W2 := wC cI cZ cO g Z N X D H S SL T r gm M) (f := -2) hx hb hml hown hts hK hP hD hS hA hE hl.1 (cX5_back_N1 l ev dC dI cI cZ cO (g 0) (g 1) (g 3) (g 7) (g 9) (g 12) (g 14) Z r hr1) gL_law_X5_back rfl hdX5_back (Nat.le_of_ble_eq_true rfl) (Nat.le_of_ble_eq_true rfl) rfl rfl (ci := 5) (qr := 0) rfl rfl rfl [0, 26] [1, 2, 3, 4, 5, 6, 7, 8, 9, 10, 11, 12, 13, 14, 15, 16, 17, 18, 19, 20, 21, 22, 23, 24, 25, 27, 28, 29, 30, 31, 32, 33, 34, 35, 36] [35, 0, 1, 2, 3, 4, 5, 6, 7, 8, 9, 10, 11, 12, 13, 14, 15, 16, 17, 18, 19, 20, 21, 22, 23, 24, 36, 25, 26, 27, 28, 29, 30, 31, 32, 33, 34] rfl rfl (by decide) (by decide) (by decide) rfl rfl rfl (Nat.le_of_ble_eq_true rfl) dL_law_582 ⟨(by show 37 + 2 * j ≤ 600000; omega), (by show 668 + 19 * j ≤ 7302250; omega)⟩ (fun H9 locs hP hD hS => ?_)
                                                        refine lv_aload_n hx hb dL_law_585 rfl (lv_at hl 2 rfl) ?_
                                                        refine lv_aload_n hx hb dL_law_586 rfl (lv_at hl 0 rfl) ?_
                                                        refine lv_iload_n hx hb dL_law_587 rfl (lv_at hl 3 rfl) ?_
                                                        refine lv_iconst (v := 1) hx hb dL_law_588 (by decide) ?_
                                                        refine lv_iadd hx hb dL_law_589 ?_
                                                        refine va_sld hx hb hX hbl hbA hS (i := x3 + 1) (hi1) dL_law_590 ?_
                                                        rw [ha1]
                                                        refine vq_Vit (As := [.int 1]) (rest := [.int (-2)]) (im := (imC cI k0 ++ imC cI none)) (W2 := wC cI cZ cO g Z N X D H S SL T r gm (sX6_back M 1).2) (f := (sX6_back M 1).1) hx hb hml hown hts hK hP hD hS hA hE hl.1 (cX6_back_c l ev dC dI cI cZ cO (g 15) gm M 1) gL_law_X6_back rfl hdX6_back (Nat.le_of_ble_eq_true rfl) (Nat.le_of_ble_eq_true rfl) rfl rfl (ci := 6) (qr := 27) rfl rfl rfl [27, 28, 29, 30, 31, 32, 33, 34, 35, 36] [0, 1, 2, 3, 4, 5, 6, 7, 8, 9, 10, 11, 12, 13, 14, 15, 16, 17, 18, 19, 20, 21, 22, 23, 24, 25, 26] [0, 1, 2, 3, 4, 5, 6, 7, 8, 9, 10, 11, 12, 13, 14, 15, 16, 17, 18, 19, 20, 21, 22, 23, 24, 25, 26, 27, 28, 29, 30, 31, 32, 33, 34, 35, 36] rfl rfl (by decide) (by decide) (by decide) rfl rfl rfl (Nat.le_of_ble_eq_true rfl) dL_law_591 ⟨(by show 37 + 2 * j ≤ 600000; omega), (by show 668 + 19 * j ≤ 7302250; omega)⟩ (fun H9 locs hP hD hS => ?_)
                                                        refine lv_icmp_eq (tgt := 622) hx hb dL_law_594 (by decide) (fun c9 => ?_) (fun c9 => absurd (((hback Z N X H (kS k0) (kS none) M hRel).2.2.2.1 rfl).1).symm c9)
                                                        refine W.widen (k := 37 + 2 * j + 2) (n := 668 + 19 * j + 19) (by omega) (by omega) ?_
                                                        exact fin Z N X D H S SL T r k0 none (sX6_back M 1).2 ((hback Z N X H (kS k0) (kS none) M hRel).2.2.2.1 rfl).2 hr0 hr1 _ _ ls hP hD hS hl
                                                      | some kq =>
                                                        obtain ⟨hk, kp, K⟩ := kq
                                                        have hP : va_P (dC, dI) vwCl ((wC cI cZ cO g Z N X D H S SL T r gm M ++ wL cI hk kp K) ++ imC cI k0) H9 := by rw [List.append_assoc]; exact va_P.swp hP
                                                        have hD : va_D (fun q : Nat => s.heap.size ≤ q) ((wC cI cZ cO g Z N X D H S SL T r gm M ++ wL cI hk kp K) ++ imC cI k0) := by rw [List.append_assoc]; exact va_D.swp hD
                                                        refine vq_Vit (As := [.int 1]) (rest := []) (im := imC cI k0) (W2 := (wC cI cZ cO g Z (sX0_copyFrom N K) X D (0, H.2) S SL T r gm M ++ wL cI hk kp K)) (f := (sX0_copyFrom N K).1 0) hx hb hml hown hts hK hP hD hS hA hE hl.1 (cX5_back_S1 l ev dC dI cI cZ cO (g 0) (g 1) (g 3) (g 7) (g 9) (g 12) (g 14) Z r (g 2) N (g 8) H.1 hk kp K hr1) gL_law_X5_back rfl hdX5_back (Nat.le_of_ble_eq_true rfl) (Nat.le_of_ble_eq_true rfl) rfl rfl (ci := 5) (qr := 0) rfl rfl rfl [0, 26, 1, 2, 7, 37, 38] [3, 4, 5, 6, 8, 9, 10, 11, 12, 13, 14, 15, 16, 17, 18, 19, 20, 21, 22, 23, 24, 25, 27, 28, 29, 30, 31, 32, 33, 34, 35, 36] [32, 34, 35, 0, 1, 2, 3, 36, 4, 5, 6, 7, 8, 9, 10, 11, 12, 13, 14, 15, 16, 17, 18, 19, 20, 21, 33, 22, 23, 24, 25, 26, 27, 28, 29, 30, 31, 37, 38] rfl rfl (by decide) (by decide) (by decide) rfl rfl rfl (Nat.le_of_ble_eq_true rfl) dL_law_582 ⟨(by show 37 + 2 * j ≤ 600000; omega), (by show 668 + 19 * j ≤ 7302250; omega)⟩ (fun H9 locs hP hD hS => ?_)
                                                        have hP : va_P (dC, dI) vwCl (wC cI cZ cO g Z (sX0_copyFrom N K) X D (0, H.2) S SL T r gm M ++ (imC cI k0 ++ imC cI (some (hk, kp, K)))) H9 := va_P.swp (by rw [← List.append_assoc]; exact hP)
                                                        have hD : va_D (fun q : Nat => s.heap.size ≤ q) (wC cI cZ cO g Z (sX0_copyFrom N K) X D (0, H.2) S SL T r gm M ++ (imC cI k0 ++ imC cI (some (hk, kp, K)))) := va_D.swp (by rw [← List.append_assoc]; exact hD)
                                                        refine lv_aload_n hx hb dL_law_585 rfl (lv_at hl 2 rfl) ?_
                                                        refine lv_aload_n hx hb dL_law_586 rfl (lv_at hl 0 rfl) ?_
                                                        refine lv_iload_n hx hb dL_law_587 rfl (lv_at hl 3 rfl) ?_
                                                        refine lv_iconst (v := 1) hx hb dL_law_588 (by decide) ?_
                                                        refine lv_iadd hx hb dL_law_589 ?_
                                                        refine va_sld hx hb hX hbl hbA hS (i := x3 + 1) (hi1) dL_law_590 ?_
                                                        rw [ha1]
                                                        refine vq_Vit (As := [.int 1]) (rest := [.int ((sX0_copyFrom N K).1 0)]) (im := (imC cI k0 ++ imC cI (some (hk, kp, K)))) (W2 := wC cI cZ cO g Z (sX0_copyFrom N K) X D (0, H.2) S SL T r gm (sX6_back M 1).2) (f := (sX6_back M 1).1) hx hb hml hown hts hK hP hD hS hA hE hl.1 (cX6_back_c l ev dC dI cI cZ cO (g 15) gm M 1) gL_law_X6_back rfl hdX6_back (Nat.le_of_ble_eq_true rfl) (Nat.le_of_ble_eq_true rfl) rfl rfl (ci := 6) (qr := 27) rfl rfl rfl [27, 28, 29, 30, 31, 32, 33, 34, 35, 36] [0, 1, 2, 3, 4, 5, 6, 7, 8, 9, 10, 11, 12, 13, 14, 15, 16, 17, 18, 19, 20, 21, 22, 23, 24, 25, 26] [0, 1, 2, 3, 4, 5, 6, 7, 8, 9, 10, 11, 12, 13, 14, 15, 16, 17, 18, 19, 20, 21, 22, 23, 24, 25, 26, 27, 28, 29, 30, 31, 32, 33, 34, 35, 36] rfl rfl (by decide) (by decide) (by decide) rfl rfl rfl (Nat.le_of_ble_eq_true rfl) dL_law_591 ⟨(by show 37 + 2 * j ≤ 600000; omega), (by show 668 + 19 * j ≤ 7302250; omega)⟩ (fun H9 locs hP hD hS => ?_)
                                                        refine lv_icmp_eq (tgt := 622) hx hb dL_law_594 (by decide) (fun c9 => ?_) (fun c9 => absurd (((hback Z N X H (kS k0) (kS (some (hk, kp, K))) M hRel).2.2.2.2 K rfl).1).symm c9)
                                                        refine W.widen (k := 37 + 2 * j + 2) (n := 668 + 19 * j + 19) (by omega) (by omega) ?_
                                                        exact fin Z (sX0_copyFrom N K) X D (0, H.2) S SL T r k0 (some (hk, kp, K)) (sX6_back M 1).2 ((hback Z N X H (kS k0) (kS (some (hk, kp, K))) M hRel).2.2.2.2 K rfl).2 hr0 hr1 _ _ ls hP hD hS hl
                                                  · refine vq_Vit (As := [.int p1]) (rest := []) (im := (imC cI k0 ++ imC cI k1)) (W2 := wC cI cZ cO g Z N X D H S SL T r gm M) (f := -1) hx hb hml hown hts hK hP hD hS hA hE hl.1 (cX5_back_hi l ev dC dI cI cZ cO (g 0) (g 1) (g 3) (g 7) (g 9) (g 12) (g 14) Z p1 d1 d2) gL_law_X5_back rfl hdX5_back (Nat.le_of_ble_eq_true rfl) (Nat.le_of_ble_eq_true rfl) rfl rfl (ci := 5) (qr := 0) rfl rfl rfl [0] [1, 2, 3, 4, 5, 6, 7, 8, 9, 10, 11, 12, 13, 14, 15, 16, 17, 18, 19, 20, 21, 22, 23, 24, 25, 26, 27, 28, 29, 30, 31, 32, 33, 34, 35, 36] [36, 0, 1, 2, 3, 4, 5, 6, 7, 8, 9, 10, 11, 12, 13, 14, 15, 16, 17, 18, 19, 20, 21, 22, 23, 24, 25, 26, 27, 28, 29, 30, 31, 32, 33, 34, 35] rfl rfl (by decide) (by decide) (by decide) rfl rfl rfl (Nat.le_of_ble_eq_true rfl) dL_law_582 ⟨(by show 37 + 2 * j ≤ 600000; omega), (by show 668 + 19 * j ≤ 7302250; omega)⟩ (fun H9 locs hP hD hS => ?_)
                                                    refine lv_aload_n hx hb dL_law_585 rfl (lv_at hl 2 rfl) ?_
                                                    refine lv_aload_n hx hb dL_law_586 rfl (lv_at hl 0 rfl) ?_
                                                    refine lv_iload_n hx hb dL_law_587 rfl (lv_at hl 3 rfl) ?_
                                                    refine lv_iconst (v := 1) hx hb dL_law_588 (by decide) ?_
                                                    refine lv_iadd hx hb dL_law_589 ?_
                                                    refine va_sld hx hb hX hbl hbA hS (i := x3 + 1) (hi1) dL_law_590 ?_
                                                    rw [ha1]
                                                    refine vq_Vit (As := [.int p1]) (rest := [.int (-1)]) (im := (imC cI k0 ++ imC cI k1)) (W2 := wC cI cZ cO g Z N X D H S SL T r gm (sX6_back M p1).2) (f := (sX6_back M p1).1) hx hb hml hown hts hK hP hD hS hA hE hl.1 (cX6_back_c l ev dC dI cI cZ cO (g 15) gm M p1) gL_law_X6_back rfl hdX6_back (Nat.le_of_ble_eq_true rfl) (Nat.le_of_ble_eq_true rfl) rfl rfl (ci := 6) (qr := 27) rfl rfl rfl [27, 28, 29, 30, 31, 32, 33, 34, 35, 36] [0, 1, 2, 3, 4, 5, 6, 7, 8, 9, 10, 11, 12, 13, 14, 15, 16, 17, 18, 19, 20, 21, 22, 23, 24, 25, 26] [0, 1, 2, 3, 4, 5, 6, 7, 8, 9, 10, 11, 12, 13, 14, 15, 16, 17, 18, 19, 20, 21, 22, 23, 24, 25, 26, 27, 28, 29, 30, 31, 32, 33, 34, 35, 36] rfl rfl (by decide) (by decide) (by decide) rfl rfl rfl (Nat.le_of_ble_eq_true rfl) dL_law_591 ⟨(by show 37 + 2 * j ≤ 600000; omega), (by show 668 + 19 * j ≤ 7302250; omega)⟩ (fun H9 locs hP hD hS => ?_)
                                                    refine lv_icmp_eq (tgt := 622) hx hb dL_law_594 (by decide) (fun c9 => ?_) (fun c9 => absurd (((hback Z N X H (kS k0) (kS k1) M hRel).1 p1 (Or.inr d2)).1).symm c9)
                                                    refine W.widen (k := 37 + 2 * j + 2) (n := 668 + 19 * j + 19) (by omega) (by omega) ?_
                                                    exact fin Z N X D H S SL T r k0 k1 (sX6_back M p1).2 ((hback Z N X H (kS k0) (kS k1) M hRel).1 p1 (Or.inr d2)).2 hr0 hr1 _ _ ls hP hD hS hl
                                              · skip
                                                by_cases c32_21 : p0 &&& 31 = 21
                                                · refine lv_tableIn (x := p0 &&& 31) (off := 567) (tgt := 599) hx hb dL_law_32 (by rw [c32_21]; decide) (by rw [c32_21]; decide) (by rw [c32_21]; rfl) (by decide) ?_
                                                  refine lv_aload_n hx hb dL_law_599 rfl (lv_at hl 1 rfl) ?_
                                                  refine lv_aload_n hx hb dL_law_600 rfl (lv_at hl 0 rfl) ?_
                                                  refine lv_iload_n hx hb dL_law_601 rfl (lv_at hl 3 rfl) ?_
                                                  refine lv_iconst (v := 1) hx hb dL_law_602 (by decide) ?_
                                                  refine lv_iadd hx hb dL_law_603 ?_
                                                  refine va_sld hx hb hX hbl hbA hS (i := x3 + 1) (hi1) dL_law_604 ?_
                                                  rw [ha1]
                                                  refine vq_Vit (As := [.int p1]) (rest := []) (W2 := (wC cI cZ cO g Z N X D H S SL T r gm M)) (f := sX5_count Z N X (fun _ => H.1) p1) hx hb hml hown hts hK hP hD hS hA hE hl.1 (cX5_count_c l ev dC dI cI cZ cO (g 0) (g 1) (g 3) (g 7) (g 9) (g 12) (g 14) Z (g 2) N (g 4) (g 5) X (g 8) (fun _ => H.1) p1) gL_law_X5_count rfl hdX5_count (Nat.le_of_ble_eq_true rfl) (Nat.le_of_ble_eq_true rfl) rfl rfl (ci := 5) (qr := 0) rfl rfl rfl [0, 1, 2, 3, 4, 7] [5, 6, 8, 9, 10, 11, 12, 13, 14, 15, 16, 17, 18, 19, 20, 21, 22, 23, 24, 25, 26, 27, 28, 29, 30, 31, 32, 33, 34, 35, 36] [31, 32, 33, 34, 35, 0, 1, 36, 2, 3, 4, 5, 6, 7, 8, 9, 10, 11, 12, 13, 14, 15, 16, 17, 18, 19, 20, 21, 22, 23, 24, 25, 26, 27, 28, 29, 30] rfl rfl (by decide) (by decide) (by decide) rfl rfl rfl (Nat.le_of_ble_eq_true rfl) dL_law_605 ⟨(by show 37 + 2 * j ≤ 600000; omega), (by show 668 + 19 * j ≤ 7302250; omega)⟩ (fun H9 locs hP hD hS => ?_)
                                                  refine lv_aload_n hx hb dL_law_608 rfl (lv_at hl 2 rfl) ?_
                                                  refine lv_aload_n hx hb dL_law_609 rfl (lv_at hl 0 rfl) ?_
                                                  refine lv_iload_n hx hb dL_law_610 rfl (lv_at hl 3 rfl) ?_
                                                  refine lv_iconst (v := 1) hx hb dL_law_611 (by decide) ?_
                                                  refine lv_iadd hx hb dL_law_612 ?_
                                                  refine va_sld hx hb hX hbl hbA hS (i := x3 + 1) (hi1) dL_law_613 ?_
                                                  rw [ha1]
                                                  refine vq_Vit (As := [.int p1]) (rest := [.int (sX5_count Z N X (fun _ => H.1) p1)]) (W2 := (wC cI cZ cO g Z N X D H S SL T r gm M)) (f := (sX6_count M p1)) hx hb hml hown hts hK hP hD hS hA hE hl.1 (cX6_count_c l ev dC dI cI cZ cO (g 15) gm M p1 qT) gL_law_X6_count rfl hdX6_count (Nat.le_of_ble_eq_true rfl) (Nat.le_of_ble_eq_true rfl) rfl rfl (ci := 6) (qr := 27) rfl rfl rfl [27, 28, 29, 30, 31, 32, 33, 34, 35, 36] [0, 1, 2, 3, 4, 5, 6, 7, 8, 9, 10, 11, 12, 13, 14, 15, 16, 17, 18, 19, 20, 21, 22, 23, 24, 25, 26] [0, 1, 2, 3, 4, 5, 6, 7, 8, 9, 10, 11, 12, 13, 14, 15, 16, 17, 18, 19, 20, 21, 22, 23, 24, 25, 26, 27, 28, 29, 30, 31, 32, 33, 34, 35, 36] rfl rfl (by decide) (by decide) (by decide) rfl rfl rfl (Nat.le_of_ble_eq_true rfl) dL_law_614 ⟨(by show 37 + 2 * j ≤ 600000; omega), (by show 668 + 19 * j ≤ 7302250; omega)⟩ (fun H9 locs hP hD hS => ?_)
                                                  refine lv_icmp_eq (tgt := 622) hx hb dL_law_617 (by decide) (fun c9 => ?_) (fun c9 => absurd (hcount Z N X H (kS k0) (kS k1) M hRel  p1) c9)
                                                  refine W.widen (k := 37 + 2 * j + 2) (n := 668 + 19 * j + 19) (by omega) (by omega) ?_
                                                  exact fin Z N X D H S SL T r k0 k1 M hRel hr0 hr1 _ _ ls hP hD hS hl
                                                · skip
                                                  refine lv_tableOut (x := p0 &&& 31) (tgt := 622) hx hb dL_law_32 (by have := lv_neT c32_0 (a := 0) (by decide); have := lv_neT c32_1 (a := 1) (by decide); have := lv_neT c32_2 (a := 2) (by decide); have := lv_neT c32_3 (a := 3) (by decide); have := lv_neT c32_4 (a := 4) (by decide); have := lv_neT c32_5 (a := 5) (by decide); have := lv_neT c32_6 (a := 6) (by decide); have := lv_neT c32_7 (a := 7) (by decide); have := lv_neT c32_8 (a := 8) (by decide); have := lv_neT c32_9 (a := 9) (by decide); have := lv_neT c32_10 (a := 10) (by decide); have := lv_neT c32_11 (a := 11) (by decide); have := lv_neT c32_12 (a := 12) (by decide); have := lv_neT c32_13 (a := 13) (by decide); have := lv_neT c32_14 (a := 14) (by decide); have := lv_neT c32_15 (a := 15) (by decide); have := lv_neT c32_16 (a := 16) (by decide); have := lv_neT c32_17 (a := 17) (by decide); have := lv_neT c32_18 (a := 18) (by decide); have := lv_neT c32_19 (a := 19) (by decide); have := lv_neT c32_20 (a := 20) (by decide); have := lv_neT c32_21 (a := 21) (by decide); omega) (by decide) ?_
                                                  refine W.widen (k := 37 + 2 * j + 2) (n := 668 + 19 * j + 19) (by omega) (by omega) ?_
                                                  exact fin Z N X D H S SL T r k0 k1 M hRel hr0 hr1 _ _ ls hP hD hS hl
