section
-- ===== PART A: goes FIRST, ahead of the names: the tables' words, and 'selects' of the private methods out of them =====
/-- a private method of a class that the tables say can be made, by its rows of tables_1 -/
def lw_okq (q : MethodName × Nat) : Prop := (q.1.cls ≠ "java/lang/invoke/MethodHandle" ∧ q.1.cls ≠ "java/lang/invoke/VarHandle") ∧ Cond.instantiable q.1.cls q.2 ∈ tables_1 ∧ Cond.privateMethod q.1 ∈ tables_1 ∧ Cond.instanceMethod q.1 ∈ tables_1
theorem lw_p0 : lw_okq (⟨"SharedLine$Text", "nextToken", "()V"⟩, 8) := ⟨⟨by decide +kernel, by decide +kernel⟩, List.mem_of_getElem? (i := 76) (by decide +kernel), List.mem_of_getElem? (i := 218) (by decide +kernel), List.mem_of_getElem? (i := 219) (by decide +kernel)⟩
theorem lw_p1 : lw_okq (⟨"SharedLine$Text", "kindAt", "(I)I"⟩, 8) := ⟨⟨by decide +kernel, by decide +kernel⟩, List.mem_of_getElem? (i := 76) (by decide +kernel), List.mem_of_getElem? (i := 222) (by decide +kernel), List.mem_of_getElem? (i := 223) (by decide +kernel)⟩
theorem lw_p2 : lw_okq (⟨"SharedLine$Text", "letterAt", "(I)I"⟩, 8) := ⟨⟨by decide +kernel, by decide +kernel⟩, List.mem_of_getElem? (i := 76) (by decide +kernel), List.mem_of_getElem? (i := 226) (by decide +kernel), List.mem_of_getElem? (i := 227) (by decide +kernel)⟩
theorem lw_p3 : lw_okq (⟨"SharedLine$Text", "readItem", "()Z"⟩, 8) := ⟨⟨by decide +kernel, by decide +kernel⟩, List.mem_of_getElem? (i := 76) (by decide +kernel), List.mem_of_getElem? (i := 230) (by decide +kernel), List.mem_of_getElem? (i := 231) (by decide +kernel)⟩
theorem lw_p4 : lw_okq (⟨"SharedLine$Text", "itemOfWord", "()I"⟩, 8) := ⟨⟨by decide +kernel, by decide +kernel⟩, List.mem_of_getElem? (i := 76) (by decide +kernel), List.mem_of_getElem? (i := 234) (by decide +kernel), List.mem_of_getElem? (i := 235) (by decide +kernel)⟩
theorem lw_p5 : lw_okq (⟨"SharedLine$Text", "isWord", "(Ljava/lang/String;)Z"⟩, 8) := ⟨⟨by decide +kernel, by decide +kernel⟩, List.mem_of_getElem? (i := 76) (by decide +kernel), List.mem_of_getElem? (i := 239) (by decide +kernel), List.mem_of_getElem? (i := 240) (by decide +kernel)⟩
theorem lw_p6 : lw_okq (⟨"SharedLine$Text", "mayBegin", "(I)Z"⟩, 8) := ⟨⟨by decide +kernel, by decide +kernel⟩, List.mem_of_getElem? (i := 76) (by decide +kernel), List.mem_of_getElem? (i := 295) (by decide +kernel), List.mem_of_getElem? (i := 296) (by decide +kernel)⟩
theorem lw_p7 : lw_okq (⟨"SharedLine$Text", "takeFigures", "(I)Z"⟩, 8) := ⟨⟨by decide +kernel, by decide +kernel⟩, List.mem_of_getElem? (i := 76) (by decide +kernel), List.mem_of_getElem? (i := 299) (by decide +kernel), List.mem_of_getElem? (i := 300) (by decide +kernel)⟩
theorem lw_p8 : lw_okq (⟨"SharedLine$Text", "takeLine", "()Z"⟩, 8) := ⟨⟨by decide +kernel, by decide +kernel⟩, List.mem_of_getElem? (i := 76) (by decide +kernel), List.mem_of_getElem? (i := 303) (by decide +kernel), List.mem_of_getElem? (i := 304) (by decide +kernel)⟩
theorem lw_p9 : lw_okq (⟨"SharedLine$Text", "figureAt", "(I)I"⟩, 8) := ⟨⟨by decide +kernel, by decide +kernel⟩, List.mem_of_getElem? (i := 76) (by decide +kernel), List.mem_of_getElem? (i := 307) (by decide +kernel), List.mem_of_getElem? (i := 308) (by decide +kernel)⟩
theorem lw_p10 : lw_okq (⟨"SharedLine$Text", "takeHands", "()Z"⟩, 8) := ⟨⟨by decide +kernel, by decide +kernel⟩, List.mem_of_getElem? (i := 76) (by decide +kernel), List.mem_of_getElem? (i := 315) (by decide +kernel), List.mem_of_getElem? (i := 316) (by decide +kernel)⟩
theorem lw_p11 : lw_okq (⟨"SharedLine$Text", "takeNumber", "(I)Z"⟩, 8) := ⟨⟨by decide +kernel, by decide +kernel⟩, List.mem_of_getElem? (i := 76) (by decide +kernel), List.mem_of_getElem? (i := 322) (by decide +kernel), List.mem_of_getElem? (i := 323) (by decide +kernel)⟩
theorem lw_p12 : lw_okq (⟨"SharedLine$Past", "loseOldest", "()V"⟩, 2) := ⟨⟨by decide +kernel, by decide +kernel⟩, List.mem_of_getElem? (i := 111) (by decide +kernel), List.mem_of_getElem? (i := 341) (by decide +kernel), List.mem_of_getElem? (i := 342) (by decide +kernel)⟩
theorem lw_p13 : lw_okq (⟨"SharedLine", "mendingChanges", "()I"⟩, 9) := ⟨⟨by decide +kernel, by decide +kernel⟩, List.mem_of_getElem? (i := 17) (by decide +kernel), List.mem_of_getElem? (i := 392) (by decide +kernel), List.mem_of_getElem? (i := 393) (by decide +kernel)⟩
theorem lw_p14 : lw_okq (⟨"SharedLine$Search", "goOn", "(IIIII)V"⟩, 4) := ⟨⟨by decide +kernel, by decide +kernel⟩, List.mem_of_getElem? (i := 128) (by decide +kernel), List.mem_of_getElem? (i := 406) (by decide +kernel), List.mem_of_getElem? (i := 407) (by decide +kernel)⟩
theorem lw_p15 : lw_okq (⟨"SharedLine$Search", "weigh", "(II)V"⟩, 4) := ⟨⟨by decide +kernel, by decide +kernel⟩, List.mem_of_getElem? (i := 128) (by decide +kernel), List.mem_of_getElem? (i := 410) (by decide +kernel), List.mem_of_getElem? (i := 411) (by decide +kernel)⟩
def lw_privs_1 : List (MethodName × Nat) := [(⟨"SharedLine$Text", "nextToken", "()V"⟩, 8), (⟨"SharedLine$Text", "kindAt", "(I)I"⟩, 8), (⟨"SharedLine$Text", "letterAt", "(I)I"⟩, 8), (⟨"SharedLine$Text", "readItem", "()Z"⟩, 8), (⟨"SharedLine$Text", "itemOfWord", "()I"⟩, 8), (⟨"SharedLine$Text", "isWord", "(Ljava/lang/String;)Z"⟩, 8), (⟨"SharedLine$Text", "mayBegin", "(I)Z"⟩, 8), (⟨"SharedLine$Text", "takeFigures", "(I)Z"⟩, 8), (⟨"SharedLine$Text", "takeLine", "()Z"⟩, 8), (⟨"SharedLine$Text", "figureAt", "(I)I"⟩, 8), (⟨"SharedLine$Text", "takeHands", "()Z"⟩, 8), (⟨"SharedLine$Text", "takeNumber", "(I)Z"⟩, 8), (⟨"SharedLine$Past", "loseOldest", "()V"⟩, 2), (⟨"SharedLine", "mendingChanges", "()I"⟩, 9), (⟨"SharedLine$Search", "goOn", "(IIIII)V"⟩, 4), (⟨"SharedLine$Search", "weigh", "(II)V"⟩, 4)]
theorem lw_r1 : ∀ q ∈ lw_privs_1, lw_okq q := List.forall_mem_cons.mpr ⟨lw_p0, List.forall_mem_cons.mpr ⟨lw_p1, List.forall_mem_cons.mpr ⟨lw_p2, List.forall_mem_cons.mpr ⟨lw_p3, List.forall_mem_cons.mpr ⟨lw_p4, List.forall_mem_cons.mpr ⟨lw_p5, List.forall_mem_cons.mpr ⟨lw_p6, List.forall_mem_cons.mpr ⟨lw_p7, List.forall_mem_cons.mpr ⟨lw_p8, List.forall_mem_cons.mpr ⟨lw_p9, List.forall_mem_cons.mpr ⟨lw_p10, List.forall_mem_cons.mpr ⟨lw_p11, List.forall_mem_cons.mpr ⟨lw_p12, List.forall_mem_cons.mpr ⟨lw_p13, List.forall_mem_cons.mpr ⟨lw_p14, List.forall_mem_cons.mpr ⟨lw_p15, fun _ h => absurd h List.not_mem_nil⟩⟩⟩⟩⟩⟩⟩⟩⟩⟩⟩⟩⟩⟩⟩⟩
theorem lw_p16 : lw_okq (⟨"SharedLine$Search", "costAt", "(II)I"⟩, 4) := ⟨⟨by decide +kernel, by decide +kernel⟩, List.mem_of_getElem? (i := 128) (by decide +kernel), List.mem_of_getElem? (i := 440) (by decide +kernel), List.mem_of_getElem? (i := 441) (by decide +kernel)⟩
theorem lw_p17 : lw_okq (⟨"SharedLine$Search", "isUnlike", "(II)Z"⟩, 4) := ⟨⟨by decide +kernel, by decide +kernel⟩, List.mem_of_getElem? (i := 128) (by decide +kernel), List.mem_of_getElem? (i := 444) (by decide +kernel), List.mem_of_getElem? (i := 445) (by decide +kernel)⟩
theorem lw_p18 : lw_okq (⟨"SharedLine$Line", "nextOfHand", "(I)I"⟩, 7) := ⟨⟨by decide +kernel, by decide +kernel⟩, List.mem_of_getElem? (i := 25) (by decide +kernel), List.mem_of_getElem? (i := 475) (by decide +kernel), List.mem_of_getElem? (i := 476) (by decide +kernel)⟩
theorem lw_p19 : lw_okq (⟨"SharedLine", "askTables", "(III)I"⟩, 9) := ⟨⟨by decide +kernel, by decide +kernel⟩, List.mem_of_getElem? (i := 17) (by decide +kernel), List.mem_of_getElem? (i := 531) (by decide +kernel), List.mem_of_getElem? (i := 532) (by decide +kernel)⟩
theorem lw_p20 : lw_okq (⟨"SharedLine$TableSet", "include", "(II)V"⟩, 3) := ⟨⟨by decide +kernel, by decide +kernel⟩, List.mem_of_getElem? (i := 151) (by decide +kernel), List.mem_of_getElem? (i := 549) (by decide +kernel), List.mem_of_getElem? (i := 550) (by decide +kernel)⟩
theorem lw_p21 : lw_okq (⟨"SharedLineModel", "reads", "()I"⟩, 15) := ⟨⟨by decide +kernel, by decide +kernel⟩, List.mem_of_getElem? (i := 589) (by decide +kernel), List.mem_of_getElem? (i := 660) (by decide +kernel), List.mem_of_getElem? (i := 661) (by decide +kernel)⟩
theorem lw_p22 : lw_okq (⟨"SharedLineModel", "skips", "()V"⟩, 15) := ⟨⟨by decide +kernel, by decide +kernel⟩, List.mem_of_getElem? (i := 589) (by decide +kernel), List.mem_of_getElem? (i := 664) (by decide +kernel), List.mem_of_getElem? (i := 665) (by decide +kernel)⟩
theorem lw_p23 : lw_okq (⟨"SharedLineModel", "readsItem", "()Z"⟩, 15) := ⟨⟨by decide +kernel, by decide +kernel⟩, List.mem_of_getElem? (i := 589) (by decide +kernel), List.mem_of_getElem? (i := 668) (by decide +kernel), List.mem_of_getElem? (i := 669) (by decide +kernel)⟩
theorem lw_p24 : lw_okq (⟨"SharedLineModel", "wordPassed", "()I"⟩, 15) := ⟨⟨by decide +kernel, by decide +kernel⟩, List.mem_of_getElem? (i := 589) (by decide +kernel), List.mem_of_getElem? (i := 672) (by decide +kernel), List.mem_of_getElem? (i := 673) (by decide +kernel)⟩
theorem lw_p25 : lw_okq (⟨"SharedLineModel", "isAt", "(II)Z"⟩, 15) := ⟨⟨by decide +kernel, by decide +kernel⟩, List.mem_of_getElem? (i := 589) (by decide +kernel), List.mem_of_getElem? (i := 676) (by decide +kernel), List.mem_of_getElem? (i := 677) (by decide +kernel)⟩
theorem lw_p26 : lw_okq (⟨"SharedLineModel", "readsLine", "()Z"⟩, 15) := ⟨⟨by decide +kernel, by decide +kernel⟩, List.mem_of_getElem? (i := 589) (by decide +kernel), List.mem_of_getElem? (i := 680) (by decide +kernel), List.mem_of_getElem? (i := 681) (by decide +kernel)⟩
theorem lw_p27 : lw_okq (⟨"SharedLineModel", "figures", "(I)I"⟩, 15) := ⟨⟨by decide +kernel, by decide +kernel⟩, List.mem_of_getElem? (i := 589) (by decide +kernel), List.mem_of_getElem? (i := 684) (by decide +kernel), List.mem_of_getElem? (i := 685) (by decide +kernel)⟩
theorem lw_p28 : lw_okq (⟨"SharedLineModel", "readsHands", "()Z"⟩, 15) := ⟨⟨by decide +kernel, by decide +kernel⟩, List.mem_of_getElem? (i := 589) (by decide +kernel), List.mem_of_getElem? (i := 688) (by decide +kernel), List.mem_of_getElem? (i := 689) (by decide +kernel)⟩
theorem lw_p29 : lw_okq (⟨"SharedLineModel", "readsNumber", "(I)Z"⟩, 15) := ⟨⟨by decide +kernel, by decide +kernel⟩, List.mem_of_getElem? (i := 589) (by decide +kernel), List.mem_of_getElem? (i := 692) (by decide +kernel), List.mem_of_getElem? (i := 693) (by decide +kernel)⟩
theorem lw_p30 : lw_okq (⟨"SharedLineModel", "passesEnd", "()Z"⟩, 15) := ⟨⟨by decide +kernel, by decide +kernel⟩, List.mem_of_getElem? (i := 589) (by decide +kernel), List.mem_of_getElem? (i := 702) (by decide +kernel), List.mem_of_getElem? (i := 703) (by decide +kernel)⟩
theorem lw_p31 : lw_okq (⟨"SharedLineModel", "keeps", "()V"⟩, 15) := ⟨⟨by decide +kernel, by decide +kernel⟩, List.mem_of_getElem? (i := 589) (by decide +kernel), List.mem_of_getElem? (i := 706) (by decide +kernel), List.mem_of_getElem? (i := 707) (by decide +kernel)⟩
def lw_privs_2 : List (MethodName × Nat) := [(⟨"SharedLine$Search", "costAt", "(II)I"⟩, 4), (⟨"SharedLine$Search", "isUnlike", "(II)Z"⟩, 4), (⟨"SharedLine$Line", "nextOfHand", "(I)I"⟩, 7), (⟨"SharedLine", "askTables", "(III)I"⟩, 9), (⟨"SharedLine$TableSet", "include", "(II)V"⟩, 3), (⟨"SharedLineModel", "reads", "()I"⟩, 15), (⟨"SharedLineModel", "skips", "()V"⟩, 15), (⟨"SharedLineModel", "readsItem", "()Z"⟩, 15), (⟨"SharedLineModel", "wordPassed", "()I"⟩, 15), (⟨"SharedLineModel", "isAt", "(II)Z"⟩, 15), (⟨"SharedLineModel", "readsLine", "()Z"⟩, 15), (⟨"SharedLineModel", "figures", "(I)I"⟩, 15), (⟨"SharedLineModel", "readsHands", "()Z"⟩, 15), (⟨"SharedLineModel", "readsNumber", "(I)Z"⟩, 15), (⟨"SharedLineModel", "passesEnd", "()Z"⟩, 15), (⟨"SharedLineModel", "keeps", "()V"⟩, 15)]
theorem lw_r2 : ∀ q ∈ lw_privs_2, lw_okq q := List.forall_mem_cons.mpr ⟨lw_p16, List.forall_mem_cons.mpr ⟨lw_p17, List.forall_mem_cons.mpr ⟨lw_p18, List.forall_mem_cons.mpr ⟨lw_p19, List.forall_mem_cons.mpr ⟨lw_p20, List.forall_mem_cons.mpr ⟨lw_p21, List.forall_mem_cons.mpr ⟨lw_p22, List.forall_mem_cons.mpr ⟨lw_p23, List.forall_mem_cons.mpr ⟨lw_p24, List.forall_mem_cons.mpr ⟨lw_p25, List.forall_mem_cons.mpr ⟨lw_p26, List.forall_mem_cons.mpr ⟨lw_p27, List.forall_mem_cons.mpr ⟨lw_p28, List.forall_mem_cons.mpr ⟨lw_p29, List.forall_mem_cons.mpr ⟨lw_p30, List.forall_mem_cons.mpr ⟨lw_p31, fun _ h => absurd h List.not_mem_nil⟩⟩⟩⟩⟩⟩⟩⟩⟩⟩⟩⟩⟩⟩⟩⟩
theorem lw_p32 : lw_okq (⟨"SharedLineModel", "isNote", "(I)Z"⟩, 15) := ⟨⟨by decide +kernel, by decide +kernel⟩, List.mem_of_getElem? (i := 589) (by decide +kernel), List.mem_of_getElem? (i := 714) (by decide +kernel), List.mem_of_getElem? (i := 715) (by decide +kernel)⟩
theorem lw_p33 : lw_okq (⟨"SharedLineModel", "isTick", "(I)Z"⟩, 15) := ⟨⟨by decide +kernel, by decide +kernel⟩, List.mem_of_getElem? (i := 589) (by decide +kernel), List.mem_of_getElem? (i := 718) (by decide +kernel), List.mem_of_getElem? (i := 719) (by decide +kernel)⟩
theorem lw_p34 : lw_okq (⟨"SharedLineModel", "ofHand", "(I)I"⟩, 15) := ⟨⟨by decide +kernel, by decide +kernel⟩, List.mem_of_getElem? (i := 589) (by decide +kernel), List.mem_of_getElem? (i := 725) (by decide +kernel), List.mem_of_getElem? (i := 726) (by decide +kernel)⟩
theorem lw_p35 : lw_okq (⟨"SharedLineModel", "isLawfulNow", "(I)Z"⟩, 15) := ⟨⟨by decide +kernel, by decide +kernel⟩, List.mem_of_getElem? (i := 589) (by decide +kernel), List.mem_of_getElem? (i := 737) (by decide +kernel), List.mem_of_getElem? (i := 738) (by decide +kernel)⟩
theorem lw_p36 : lw_okq (⟨"SharedLineModel", "isLawful", "(II)Z"⟩, 15) := ⟨⟨by decide +kernel, by decide +kernel⟩, List.mem_of_getElem? (i := 589) (by decide +kernel), List.mem_of_getElem? (i := 741) (by decide +kernel), List.mem_of_getElem? (i := 742) (by decide +kernel)⟩
theorem lw_p37 : lw_okq (⟨"SharedLineModel", "isSoon", "(III)Z"⟩, 15) := ⟨⟨by decide +kernel, by decide +kernel⟩, List.mem_of_getElem? (i := 589) (by decide +kernel), List.mem_of_getElem? (i := 745) (by decide +kernel), List.mem_of_getElem? (i := 746) (by decide +kernel)⟩
theorem lw_p38 : lw_okq (⟨"SharedLineModel", "nextOf", "(II)I"⟩, 15) := ⟨⟨by decide +kernel, by decide +kernel⟩, List.mem_of_getElem? (i := 589) (by decide +kernel), List.mem_of_getElem? (i := 749) (by decide +kernel), List.mem_of_getElem? (i := 750) (by decide +kernel)⟩
theorem lw_p39 : lw_okq (⟨"SharedLineModel", "isFar", "(II)Z"⟩, 15) := ⟨⟨by decide +kernel, by decide +kernel⟩, List.mem_of_getElem? (i := 589) (by decide +kernel), List.mem_of_getElem? (i := 756) (by decide +kernel), List.mem_of_getElem? (i := 757) (by decide +kernel)⟩
theorem lw_p40 : lw_okq (⟨"SharedLineModel", "nearest", "()I"⟩, 15) := ⟨⟨by decide +kernel, by decide +kernel⟩, List.mem_of_getElem? (i := 589) (by decide +kernel), List.mem_of_getElem? (i := 760) (by decide +kernel), List.mem_of_getElem? (i := 761) (by decide +kernel)⟩
theorem lw_p41 : lw_okq (⟨"SharedLineModel", "notes", "()I"⟩, 15) := ⟨⟨by decide +kernel, by decide +kernel⟩, List.mem_of_getElem? (i := 589) (by decide +kernel), List.mem_of_getElem? (i := 764) (by decide +kernel), List.mem_of_getElem? (i := 765) (by decide +kernel)⟩
theorem lw_p42 : lw_okq (⟨"SharedLineModel", "shareOf", "(I)I"⟩, 15) := ⟨⟨by decide +kernel, by decide +kernel⟩, List.mem_of_getElem? (i := 589) (by decide +kernel), List.mem_of_getElem? (i := 768) (by decide +kernel), List.mem_of_getElem? (i := 769) (by decide +kernel)⟩
theorem lw_p43 : lw_okq (⟨"SharedLineModel", "pairs", "(Z)I"⟩, 15) := ⟨⟨by decide +kernel, by decide +kernel⟩, List.mem_of_getElem? (i := 589) (by decide +kernel), List.mem_of_getElem? (i := 791) (by decide +kernel), List.mem_of_getElem? (i := 792) (by decide +kernel)⟩
theorem lw_p44 : lw_okq (⟨"SharedLineModel", "likeness", "(I)I"⟩, 15) := ⟨⟨by decide +kernel, by decide +kernel⟩, List.mem_of_getElem? (i := 589) (by decide +kernel), List.mem_of_getElem? (i := 795) (by decide +kernel), List.mem_of_getElem? (i := 796) (by decide +kernel)⟩
theorem lw_p45 : lw_okq (⟨"SharedLineModel", "tilt", "(I)I"⟩, 15) := ⟨⟨by decide +kernel, by decide +kernel⟩, List.mem_of_getElem? (i := 589) (by decide +kernel), List.mem_of_getElem? (i := 799) (by decide +kernel), List.mem_of_getElem? (i := 800) (by decide +kernel)⟩
theorem lw_p46 : lw_okq (⟨"SharedLineModel", "isBetter", "(II)Z"⟩, 15) := ⟨⟨by decide +kernel, by decide +kernel⟩, List.mem_of_getElem? (i := 589) (by decide +kernel), List.mem_of_getElem? (i := 808) (by decide +kernel), List.mem_of_getElem? (i := 809) (by decide +kernel)⟩
theorem lw_p47 : lw_okq (⟨"SharedLineModel", "busyAt", "(II)I"⟩, 15) := ⟨⟨by decide +kernel, by decide +kernel⟩, List.mem_of_getElem? (i := 589) (by decide +kernel), List.mem_of_getElem? (i := 828) (by decide +kernel), List.mem_of_getElem? (i := 829) (by decide +kernel)⟩
def lw_privs_3 : List (MethodName × Nat) := [(⟨"SharedLineModel", "isNote", "(I)Z"⟩, 15), (⟨"SharedLineModel", "isTick", "(I)Z"⟩, 15), (⟨"SharedLineModel", "ofHand", "(I)I"⟩, 15), (⟨"SharedLineModel", "isLawfulNow", "(I)Z"⟩, 15), (⟨"SharedLineModel", "isLawful", "(II)Z"⟩, 15), (⟨"SharedLineModel", "isSoon", "(III)Z"⟩, 15), (⟨"SharedLineModel", "nextOf", "(II)I"⟩, 15), (⟨"SharedLineModel", "isFar", "(II)Z"⟩, 15), (⟨"SharedLineModel", "nearest", "()I"⟩, 15), (⟨"SharedLineModel", "notes", "()I"⟩, 15), (⟨"SharedLineModel", "shareOf", "(I)I"⟩, 15), (⟨"SharedLineModel", "pairs", "(Z)I"⟩, 15), (⟨"SharedLineModel", "likeness", "(I)I"⟩, 15), (⟨"SharedLineModel", "tilt", "(I)I"⟩, 15), (⟨"SharedLineModel", "isBetter", "(II)Z"⟩, 15), (⟨"SharedLineModel", "busyAt", "(II)I"⟩, 15)]
theorem lw_r3 : ∀ q ∈ lw_privs_3, lw_okq q := List.forall_mem_cons.mpr ⟨lw_p32, List.forall_mem_cons.mpr ⟨lw_p33, List.forall_mem_cons.mpr ⟨lw_p34, List.forall_mem_cons.mpr ⟨lw_p35, List.forall_mem_cons.mpr ⟨lw_p36, List.forall_mem_cons.mpr ⟨lw_p37, List.forall_mem_cons.mpr ⟨lw_p38, List.forall_mem_cons.mpr ⟨lw_p39, List.forall_mem_cons.mpr ⟨lw_p40, List.forall_mem_cons.mpr ⟨lw_p41, List.forall_mem_cons.mpr ⟨lw_p42, List.forall_mem_cons.mpr ⟨lw_p43, List.forall_mem_cons.mpr ⟨lw_p44, List.forall_mem_cons.mpr ⟨lw_p45, List.forall_mem_cons.mpr ⟨lw_p46, List.forall_mem_cons.mpr ⟨lw_p47, fun _ h => absurd h List.not_mem_nil⟩⟩⟩⟩⟩⟩⟩⟩⟩⟩⟩⟩⟩⟩⟩⟩
theorem lw_p48 : lw_okq (⟨"SharedLineModel", "tellTables", "(IZ)I"⟩, 15) := ⟨⟨by decide +kernel, by decide +kernel⟩, List.mem_of_getElem? (i := 589) (by decide +kernel), List.mem_of_getElem? (i := 836) (by decide +kernel), List.mem_of_getElem? (i := 837) (by decide +kernel)⟩
theorem lw_p49 : lw_okq (⟨"SharedLineModel", "isHeard", "(I)Z"⟩, 15) := ⟨⟨by decide +kernel, by decide +kernel⟩, List.mem_of_getElem? (i := 589) (by decide +kernel), List.mem_of_getElem? (i := 840) (by decide +kernel), List.mem_of_getElem? (i := 841) (by decide +kernel)⟩
theorem lw_p50 : lw_okq (⟨"SharedLineModel", "shareBy", "(I)I"⟩, 15) := ⟨⟨by decide +kernel, by decide +kernel⟩, List.mem_of_getElem? (i := 589) (by decide +kernel), List.mem_of_getElem? (i := 844) (by decide +kernel), List.mem_of_getElem? (i := 845) (by decide +kernel)⟩
theorem lw_p51 : lw_okq (⟨"SharedLineModel", "isTable", "(I)Z"⟩, 15) := ⟨⟨by decide +kernel, by decide +kernel⟩, List.mem_of_getElem? (i := 589) (by decide +kernel), List.mem_of_getElem? (i := 848) (by decide +kernel), List.mem_of_getElem? (i := 849) (by decide +kernel)⟩
theorem lw_p52 : lw_okq (⟨"SharedLineModel", "pitches", "()I"⟩, 15) := ⟨⟨by decide +kernel, by decide +kernel⟩, List.mem_of_getElem? (i := 589) (by decide +kernel), List.mem_of_getElem? (i := 852) (by decide +kernel), List.mem_of_getElem? (i := 853) (by decide +kernel)⟩
def lw_privs_4 : List (MethodName × Nat) := [(⟨"SharedLineModel", "tellTables", "(IZ)I"⟩, 15), (⟨"SharedLineModel", "isHeard", "(I)Z"⟩, 15), (⟨"SharedLineModel", "shareBy", "(I)I"⟩, 15), (⟨"SharedLineModel", "isTable", "(I)Z"⟩, 15), (⟨"SharedLineModel", "pitches", "()I"⟩, 15)]
theorem lw_r4 : ∀ q ∈ lw_privs_4, lw_okq q := List.forall_mem_cons.mpr ⟨lw_p48, List.forall_mem_cons.mpr ⟨lw_p49, List.forall_mem_cons.mpr ⟨lw_p50, List.forall_mem_cons.mpr ⟨lw_p51, List.forall_mem_cons.mpr ⟨lw_p52, fun _ h => absurd h List.not_mem_nil⟩⟩⟩⟩⟩
def lw_privs : List (MethodName × Nat) := lw_privs_1 ++ (lw_privs_2 ++ (lw_privs_3 ++ (lw_privs_4)))
def lw_tbl : List Cond := k2_sels lw_privs ++ tables_1
theorem lw_privs_ok : ∀ q ∈ lw_privs, lw_okq q := by
  show ∀ q ∈ lw_privs_1 ++ (lw_privs_2 ++ (lw_privs_3 ++ (lw_privs_4))), lw_okq q
  exact List.forall_mem_append.mpr ⟨lw_r1, List.forall_mem_append.mpr ⟨lw_r2, List.forall_mem_append.mpr ⟨lw_r3, lw_r4⟩⟩⟩
end
section
/-! ===== BEGIN words of one list among another's, by their places ===== -/
theorem goodIn_r {big : List Cond} (ws : List Cond) (ps : List Nat) (hp : ws = ps.filterMap (fun i => big[i]?)) (h : ws.all goodWord = true) : GoodIn big ws := by
  intro w hw
  have h1 := List.all_eq_true.mp h w hw
  rw [hp] at hw
  obtain ⟨i, -, hi⟩ := List.mem_filterMap.mp hw
  have hm : w ∈ big := by first | exact List.mem_of_getElem? hi | exact List.getElem?_mem hi
  exact ⟨hm, good_of_word h1⟩
theorem goodIn_app {big a b : List Cond} (ha : GoodIn big a) (hb : GoodIn big b) : GoodIn big (a ++ b) := fun w h => (List.mem_append.mp h).elim (ha w) (hb w)
theorem goodIn_ca {big a b : List Cond} {c : Cond} (ha : GoodIn big (c :: a)) (hb : GoodIn big b) : GoodIn big (c :: (a ++ b)) := fun w h => (List.mem_cons.mp h).elim (fun e => ha w (List.mem_cons.mpr (Or.inl e))) (fun h => (List.mem_append.mp h).elim (fun h => ha w (List.mem_cons.mpr (Or.inr h))) (hb w))
theorem goodIn_sub {big ws : List Cond} (hm : ∀ w ∈ ws, w ∈ big) (h : ws.all goodWord = true) : GoodIn big ws := fun w hw => ⟨hm w hw, good_of_word (List.all_eq_true.mp h w hw)⟩
/-! ===== END ===== -/

/-! ===== BEGIN printed: names, fields, word lists, decode rows ===== -/
def RX0 : String := "SharedLine$Line"
def TX0 : u_T := fun k => match k with
  | 0 => ("SharedLine$Line", "pitches", "[I", true)
  | 1 => ("SharedLine$Line", "ticks", "I", false)
  | 2 => ("SharedLine$Line", "notes", "I", false)
  | 3 => ("SharedLine$Line", "hands", "I", false)
  | 4 => ("SharedLine$Line", "wait", "I", false)
  | 5 => ("SharedLine$Line", "reach", "I", false)
  | _ => ("SharedLine$Line", "bar", "I", false)
def tyX0 : Nat → FieldType := fun k => match k with
  | 0 => .array .int
  | 1 => .int
  | 2 => .int
  | 3 => .int
  | 4 => .int
  | 5 => .int
  | _ => .int
abbrev wsX00 : List Cond := u_ws RX0 TX0 7
theorem nmX0 : ∀ a, a < 7 → ∀ b, b < 7 → a ≠ b → (TX0 a).2.1 ≠ (TX0 b).2.1 := by decide +kernel
theorem tyX0_ok : ∀ k, k < 7 → parseFieldDescriptor (TX0 k).2.2.1 = some (tyX0 k) := by decide +kernel
abbrev cX0_init : ByteArray := prog_2_method_1_code
def yX0_init : MethodName := ⟨RX0, "<init>", "()V"⟩
abbrev cX0_makeNew : ByteArray := prog_2_method_2_code
def yX0_makeNew : MethodName := ⟨RX0, "makeNew", "()V"⟩
abbrev cX0_copyFrom : ByteArray := prog_2_method_3_code
def yX0_copyFrom : MethodName := ⟨RX0, "copyFrom", "(LSharedLine$Line;)V"⟩
abbrev cX0_setPitch : ByteArray := prog_2_method_4_code
def yX0_setPitch : MethodName := ⟨RX0, "setPitch", "(II)V"⟩
abbrev cX0_number : ByteArray := prog_2_method_5_code
def yX0_number : MethodName := ⟨RX0, "number", "(I)I"⟩
abbrev cX0_setNumber : ByteArray := prog_2_method_6_code
def yX0_setNumber : MethodName := ⟨RX0, "setNumber", "(II)V"⟩
abbrev cX0_hasTick : ByteArray := prog_2_method_7_code
def yX0_hasTick : MethodName := ⟨RX0, "hasTick", "(I)Z"⟩
abbrev cX0_hasNote : ByteArray := prog_2_method_8_code
def yX0_hasNote : MethodName := ⟨RX0, "hasNote", "(I)Z"⟩
abbrev cX0_pitchAt : ByteArray := prog_2_method_9_code
def yX0_pitchAt : MethodName := ⟨RX0, "pitchAt", "(I)I"⟩
abbrev cX0_handAt : ByteArray := prog_2_method_10_code
def yX0_handAt : MethodName := ⟨RX0, "handAt", "(I)I"⟩
abbrev cX0_notesOf : ByteArray := prog_2_method_11_code
def yX0_notesOf : MethodName := ⟨RX0, "notesOf", "(I)I"⟩
abbrev cX0_isTooSoon : ByteArray := prog_2_method_12_code
def yX0_isTooSoon : MethodName := ⟨RX0, "isTooSoon", "(II)Z"⟩
abbrev cX0_isTooFar : ByteArray := prog_2_method_13_code
def yX0_isTooFar : MethodName := ⟨RX0, "isTooFar", "(II)Z"⟩
abbrev cX0_mayStrike : ByteArray := prog_2_method_14_code
def yX0_mayStrike : MethodName := ⟨RX0, "mayStrike", "(II)Z"⟩
abbrev cX0_isSoonBehind : ByteArray := prog_2_method_15_code
def yX0_isSoonBehind : MethodName := ⟨RX0, "isSoonBehind", "(I)Z"⟩
abbrev cX0_isFarBehind : ByteArray := prog_2_method_16_code
def yX0_isFarBehind : MethodName := ⟨RX0, "isFarBehind", "(I)Z"⟩
abbrev cX0_nextOfHand : ByteArray := prog_2_method_17_code
def yX0_nextOfHand : MethodName := ⟨RX0, "nextOfHand", "(I)I"⟩
abbrev cX0_countTooSoon : ByteArray := prog_2_method_18_code
def yX0_countTooSoon : MethodName := ⟨RX0, "countTooSoon", "()I"⟩
abbrev cX0_countTooFar : ByteArray := prog_2_method_19_code
def yX0_countTooFar : MethodName := ⟨RX0, "countTooFar", "()I"⟩
abbrev cX0_isLawful : ByteArray := prog_2_method_20_code
def yX0_isLawful : MethodName := ⟨RX0, "isLawful", "(I)Z"⟩
abbrev cX0_likeness : ByteArray := prog_2_method_21_code
def yX0_likeness : MethodName := ⟨RX0, "likeness", "(I)I"⟩
abbrev cX0_tilt : ByteArray := prog_2_method_22_code
def yX0_tilt : MethodName := ⟨RX0, "tilt", "(I)I"⟩
abbrev cX0_pitchesUsed : ByteArray := prog_2_method_23_code
def yX0_pitchesUsed : MethodName := ⟨RX0, "pitchesUsed", "()I"⟩
abbrev cX0_shareByTable : ByteArray := prog_2_method_24_code
def yX0_shareByTable : MethodName := ⟨RX0, "shareByTable", "(I)I"⟩
def RX1 : String := "SharedLine$Past"
def TX1 : u_T := fun k => match k with
  | 0 => ("SharedLine$Past", "lines", "[LSharedLine$Line;", true)
  | _ => ("SharedLine$Past", "size", "I", false)
def tyX1 : Nat → FieldType := fun k => match k with
  | 0 => .array (.object "SharedLine$Line")
  | _ => .int
abbrev wsX10 : List Cond := u_ws RX1 TX1 2
theorem nmX1 : ∀ a, a < 2 → ∀ b, b < 2 → a ≠ b → (TX1 a).2.1 ≠ (TX1 b).2.1 := by decide +kernel
theorem tyX1_ok : ∀ k, k < 2 → parseFieldDescriptor (TX1 k).2.2.1 = some (tyX1 k) := by decide +kernel
abbrev cX1_init : ByteArray := prog_3_method_1_code
def yX1_init : MethodName := ⟨RX1, "<init>", "()V"⟩
abbrev cX1_remember : ByteArray := prog_3_method_2_code
def yX1_remember : MethodName := ⟨RX1, "remember", "(LSharedLine$Line;)V"⟩
abbrev cX1_loseOldest : ByteArray := prog_3_method_3_code
def yX1_loseOldest : MethodName := ⟨RX1, "loseOldest", "()V"⟩
abbrev cX1_recall : ByteArray := prog_3_method_4_code
def yX1_recall : MethodName := ⟨RX1, "recall", "(LSharedLine$Line;)Z"⟩
def RX2 : String := "SharedLine$Search"
def TX2 : u_T := fun k => match k with
  | 0 => ("SharedLine$Search", "line", "LSharedLine$Line;", true)
  | 1 => ("SharedLine$Search", "found", "I", false)
  | 2 => ("SharedLine$Search", "goal", "I", false)
  | _ => ("SharedLine$Search", "leastCost", "I", false)
def tyX2 : Nat → FieldType := fun k => match k with
  | 0 => .object "SharedLine$Line"
  | 1 => .int
  | 2 => .int
  | _ => .int
abbrev wsX20 : List Cond := u_ws RX2 TX2 4
theorem nmX2 : ∀ a, a < 4 → ∀ b, b < 4 → a ≠ b → (TX2 a).2.1 ≠ (TX2 b).2.1 := by decide +kernel
theorem tyX2_ok : ∀ k, k < 4 → parseFieldDescriptor (TX2 k).2.2.1 = some (tyX2 k) := by decide +kernel
abbrev cX2_init : ByteArray := prog_4_method_1_code
def yX2_init : MethodName := ⟨RX2, "<init>", "()V"⟩
abbrev cX2_lookAt : ByteArray := prog_4_method_2_code
def yX2_lookAt : MethodName := ⟨RX2, "lookAt", "(LSharedLine$Line;)V"⟩
abbrev cX2_find : ByteArray := prog_4_method_3_code
def yX2_find : MethodName := ⟨RX2, "find", "(I)Z"⟩
abbrev cX2_goOn : ByteArray := prog_4_method_4_code
def yX2_goOn : MethodName := ⟨RX2, "goOn", "(IIIII)V"⟩
abbrev cX2_costAt : ByteArray := prog_4_method_5_code
def yX2_costAt : MethodName := ⟨RX2, "costAt", "(II)I"⟩
abbrev cX2_isUnlike : ByteArray := prog_4_method_6_code
def yX2_isUnlike : MethodName := ⟨RX2, "isUnlike", "(II)Z"⟩
abbrev cX2_weigh : ByteArray := prog_4_method_7_code
def yX2_weigh : MethodName := ⟨RX2, "weigh", "(II)V"⟩
def RX3 : String := "SharedLine$TableSet"
def TX3 : u_T := fun k => match k with
  | 0 => ("SharedLine$TableSet", "size", "I", false)
  | 1 => ("SharedLine$TableSet", "least", "I", false)
  | _ => ("SharedLine$TableSet", "manyOfHand1", "[I", true)
def tyX3 : Nat → FieldType := fun k => match k with
  | 0 => .int
  | 1 => .int
  | _ => .array .int
abbrev wsX30 : List Cond := u_ws RX3 TX3 3
theorem nmX3 : ∀ a, a < 3 → ∀ b, b < 3 → a ≠ b → (TX3 a).2.1 ≠ (TX3 b).2.1 := by decide +kernel
theorem tyX3_ok : ∀ k, k < 3 → parseFieldDescriptor (TX3 k).2.2.1 = some (tyX3 k) := by decide +kernel
abbrev cX3_init : ByteArray := prog_5_method_1_code
def yX3_init : MethodName := ⟨RX3, "<init>", "()V"⟩
abbrev cX3_gather : ByteArray := prog_5_method_2_code
def yX3_gather : MethodName := ⟨RX3, "gather", "(LSharedLine$Line;II)V"⟩
abbrev cX3_include : ByteArray := prog_5_method_3_code
def yX3_include : MethodName := ⟨RX3, "include", "(II)V"⟩
abbrev cX3_tickThatHalvesBest : ByteArray := prog_5_method_4_code
def yX3_tickThatHalvesBest : MethodName := ⟨RX3, "tickThatHalvesBest", "(LSharedLine$Line;)I"⟩
def RX4 : String := "SharedLine$Text"
def TX4 : u_T := fun k => match k with
  | 0 => ("SharedLine$Text", "draft", "LSharedLine$Line;", true)
  | 1 => ("SharedLine$Text", "length", "I", false)
  | 2 => ("SharedLine$Text", "letters", "[I", true)
  | 3 => ("SharedLine$Text", "lineTold", "Z", false)
  | 4 => ("SharedLine$Text", "handsTold", "Z", false)
  | 5 => ("SharedLine$Text", "kind", "I", false)
  | 6 => ("SharedLine$Text", "start", "I", false)
  | _ => ("SharedLine$Text", "end", "I", false)
def tyX4 : Nat → FieldType := fun k => match k with
  | 0 => .object "SharedLine$Line"
  | 1 => .int
  | 2 => .array .int
  | 3 => .boolean
  | 4 => .boolean
  | 5 => .int
  | 6 => .int
  | _ => .int
abbrev wsX40 : List Cond := u_ws RX4 TX4 8
theorem nmX4 : ∀ a, a < 8 → ∀ b, b < 8 → a ≠ b → (TX4 a).2.1 ≠ (TX4 b).2.1 := by decide +kernel
theorem tyX4_ok : ∀ k, k < 8 → parseFieldDescriptor (TX4 k).2.2.1 = some (tyX4 k) := by decide +kernel
abbrev cX4_init : ByteArray := prog_6_method_1_code
def yX4_init : MethodName := ⟨RX4, "<init>", "()V"⟩
abbrev cX4_add : ByteArray := prog_6_method_2_code
def yX4_add : MethodName := ⟨RX4, "add", "(I)Z"⟩
abbrev cX4_read : ByteArray := prog_6_method_3_code
def yX4_read : MethodName := ⟨RX4, "read", "()I"⟩
abbrev cX4_readItem : ByteArray := prog_6_method_4_code
def yX4_readItem : MethodName := ⟨RX4, "readItem", "()Z"⟩
abbrev cX4_nextToken : ByteArray := prog_6_method_5_code
def yX4_nextToken : MethodName := ⟨RX4, "nextToken", "()V"⟩
abbrev cX4_kindAt : ByteArray := prog_6_method_6_code
def yX4_kindAt : MethodName := ⟨RX4, "kindAt", "(I)I"⟩
abbrev cX4_itemOfWord : ByteArray := prog_6_method_7_code
def yX4_itemOfWord : MethodName := ⟨RX4, "itemOfWord", "()I"⟩
abbrev cX4_isWord : ByteArray := prog_6_method_8_code
def yX4_isWord : MethodName := ⟨RX4, "isWord", "(Ljava/lang/String;)Z"⟩
abbrev cX4_mayBegin : ByteArray := prog_6_method_9_code
def yX4_mayBegin : MethodName := ⟨RX4, "mayBegin", "(I)Z"⟩
abbrev cX4_takeFigures : ByteArray := prog_6_method_10_code
def yX4_takeFigures : MethodName := ⟨RX4, "takeFigures", "(I)Z"⟩
abbrev cX4_takeLine : ByteArray := prog_6_method_11_code
def yX4_takeLine : MethodName := ⟨RX4, "takeLine", "()Z"⟩
abbrev cX4_takeHands : ByteArray := prog_6_method_12_code
def yX4_takeHands : MethodName := ⟨RX4, "takeHands", "()Z"⟩
abbrev cX4_takeNumber : ByteArray := prog_6_method_13_code
def yX4_takeNumber : MethodName := ⟨RX4, "takeNumber", "(I)Z"⟩
abbrev cX4_figureAt : ByteArray := prog_6_method_14_code
def yX4_figureAt : MethodName := ⟨RX4, "figureAt", "(I)I"⟩
abbrev cX4_letterAt : ByteArray := prog_6_method_15_code
def yX4_letterAt : MethodName := ⟨RX4, "letterAt", "(I)I"⟩
def RX5 : String := "SharedLine"
def TX5 : u_T := fun k => match k with
  | 0 => ("SharedLine", "now", "LSharedLine$Line;", true)
  | 1 => ("SharedLine", "text", "LSharedLine$Text;", true)
  | 2 => ("SharedLine", "past", "LSharedLine$Past;", true)
  | 3 => ("SharedLine", "search", "LSharedLine$Search;", true)
  | 4 => ("SharedLine", "tableSet", "LSharedLine$TableSet;", true)
  | 5 => ("SharedLine", "images", "[LSharedLine$Line;", true)
  | 6 => ("SharedLine", "seenCount", "I", false)
  | 7 => ("SharedLine", "seenOfHand0", "I", false)
  | _ => ("SharedLine", "seenOfHand1", "I", false)
def tyX5 : Nat → FieldType := fun k => match k with
  | 0 => .object "SharedLine$Line"
  | 1 => .object "SharedLine$Text"
  | 2 => .object "SharedLine$Past"
  | 3 => .object "SharedLine$Search"
  | 4 => .object "SharedLine$TableSet"
  | 5 => .array (.object "SharedLine$Line")
  | 6 => .int
  | 7 => .int
  | _ => .int
abbrev wsX50 : List Cond := u_ws RX5 TX5 9
theorem nmX5 : ∀ a, a < 9 → ∀ b, b < 9 → a ≠ b → (TX5 a).2.1 ≠ (TX5 b).2.1 := by decide +kernel
theorem tyX5_ok : ∀ k, k < 9 → parseFieldDescriptor (TX5 k).2.2.1 = some (tyX5 k) := by decide +kernel
abbrev cX5_init : ByteArray := prog_1_method_1_code
def yX5_init : MethodName := ⟨RX5, "<init>", "()V"⟩
abbrev cX5_type : ByteArray := prog_1_method_2_code
def yX5_type : MethodName := ⟨RX5, "type", "(I)I"⟩
abbrev cX5_clear : ByteArray := prog_1_method_3_code
def yX5_clear : MethodName := ⟨RX5, "clear", "()I"⟩
abbrev cX5_tells : ByteArray := prog_1_method_4_code
def yX5_tells : MethodName := ⟨RX5, "tells", "()I"⟩
abbrev cX5_gives : ByteArray := prog_1_method_5_code
def yX5_gives : MethodName := ⟨RX5, "gives", "(II)I"⟩
abbrev cX5_flips : ByteArray := prog_1_method_6_code
def yX5_flips : MethodName := ⟨RX5, "flips", "(II)I"⟩
abbrev cX5_mends : ByteArray := prog_1_method_7_code
def yX5_mends : MethodName := ⟨RX5, "mends", "()I"⟩
abbrev cX5_sets : ByteArray := prog_1_method_8_code
def yX5_sets : MethodName := ⟨RX5, "sets", "(II)I"⟩
abbrev cX5_undo : ByteArray := prog_1_method_9_code
def yX5_undo : MethodName := ⟨RX5, "undo", "()I"⟩
abbrev cX5_tick : ByteArray := prog_1_method_10_code
def yX5_tick : MethodName := ⟨RX5, "tick", "(II)I"⟩
abbrev cX5_share : ByteArray := prog_1_method_11_code
def yX5_share : MethodName := ⟨RX5, "share", "(I)I"⟩
abbrev cX5_best : ByteArray := prog_1_method_12_code
def yX5_best : MethodName := ⟨RX5, "best", "(I)I"⟩
abbrev cX5_slowest : ByteArray := prog_1_method_13_code
def yX5_slowest : MethodName := ⟨RX5, "slowest", "()I"⟩
abbrev cX5_change : ByteArray := prog_1_method_14_code
def yX5_change : MethodName := ⟨RX5, "change", "()I"⟩
abbrev cX5_busiest : ByteArray := prog_1_method_15_code
def yX5_busiest : MethodName := ⟨RX5, "busiest", "(II)I"⟩
abbrev cX5_tables : ByteArray := prog_1_method_16_code
def yX5_tables : MethodName := ⟨RX5, "tables", "(I)I"⟩
abbrev cX5_sees : ByteArray := prog_1_method_17_code
def yX5_sees : MethodName := ⟨RX5, "sees", "(II)I"⟩
abbrev cX5_forget : ByteArray := prog_1_method_18_code
def yX5_forget : MethodName := ⟨RX5, "forget", "()I"⟩
abbrev cX5_which : ByteArray := prog_1_method_19_code
def yX5_which : MethodName := ⟨RX5, "which", "(I)I"⟩
abbrev cX5_listen : ByteArray := prog_1_method_20_code
def yX5_listen : MethodName := ⟨RX5, "listen", "()I"⟩
abbrev cX5_keep : ByteArray := prog_1_method_21_code
def yX5_keep : MethodName := ⟨RX5, "keep", "(I)I"⟩
abbrev cX5_back : ByteArray := prog_1_method_22_code
def yX5_back : MethodName := ⟨RX5, "back", "(I)I"⟩
abbrev cX5_count : ByteArray := prog_1_method_23_code
def yX5_count : MethodName := ⟨RX5, "count", "(I)I"⟩
abbrev cX5_mendingChanges : ByteArray := prog_1_method_24_code
def yX5_mendingChanges : MethodName := ⟨RX5, "mendingChanges", "()I"⟩
abbrev cX5_askTables : ByteArray := prog_1_method_25_code
def yX5_askTables : MethodName := ⟨RX5, "askTables", "(III)I"⟩
abbrev cX5_isHand : ByteArray := prog_1_method_26_code
def yX5_isHand : MethodName := ⟨RX5, "isHand", "(I)Z"⟩
abbrev cX5_isNumber : ByteArray := prog_1_method_27_code
def yX5_isNumber : MethodName := ⟨RX5, "isNumber", "(II)Z"⟩
abbrev cX5_ticksFrom : ByteArray := prog_1_method_28_code
def yX5_ticksFrom : MethodName := ⟨RX5, "ticksFrom", "(II)I"⟩
def RX6 : String := "SharedLineModel"
def TX6 : u_T := fun k => match k with
  | 0 => ("SharedLineModel", "now", "[I", true)
  | 1 => ("SharedLineModel", "fresh", "[I", true)
  | 2 => ("SharedLineModel", "past", "[I", true)
  | 3 => ("SharedLineModel", "undos", "I", false)
  | 4 => ("SharedLineModel", "images", "[I", true)
  | 5 => ("SharedLineModel", "isKept", "[Z", true)
  | 6 => ("SharedLineModel", "seen", "I", false)
  | 7 => ("SharedLineModel", "seenTick", "[I", true)
  | 8 => ("SharedLineModel", "seenHand", "[I", true)
  | 9 => ("SharedLineModel", "text", "[I", true)
  | 10 => ("SharedLineModel", "letters", "I", false)
  | 11 => ("SharedLineModel", "at", "I", false)
  | 12 => ("SharedLineModel", "mark", "I", false)
  | 13 => ("SharedLineModel", "hasHands", "Z", false)
  | _ => ("SharedLineModel", "second", "[I", true)
def tyX6 : Nat → FieldType := fun k => match k with
  | 0 => .array .int
  | 1 => .array .int
  | 2 => .array .int
  | 3 => .int
  | 4 => .array .int
  | 5 => .array .boolean
  | 6 => .int
  | 7 => .array .int
  | 8 => .array .int
  | 9 => .array .int
  | 10 => .int
  | 11 => .int
  | 12 => .int
  | 13 => .boolean
  | _ => .array .int
abbrev wsX60 : List Cond := u_ws RX6 TX6 15
theorem nmX6 : ∀ a, a < 15 → ∀ b, b < 15 → a ≠ b → (TX6 a).2.1 ≠ (TX6 b).2.1 := by decide +kernel
theorem tyX6_ok : ∀ k, k < 15 → parseFieldDescriptor (TX6 k).2.2.1 = some (tyX6 k) := by decide +kernel
abbrev cX6_init : ByteArray := prog_8_method_1_code
def yX6_init : MethodName := ⟨RX6, "<init>", "()V"⟩
abbrev cX6_within : ByteArray := prog_8_method_3_code
def yX6_within : MethodName := ⟨RX6, "within", "(III)Z"⟩
abbrev cX6_has : ByteArray := prog_8_method_4_code
def yX6_has : MethodName := ⟨RX6, "has", "(II)Z"⟩
abbrev cX6_bares : ByteArray := prog_8_method_5_code
def yX6_bares : MethodName := ⟨RX6, "bares", "([I)V"⟩
abbrev cX6_least : ByteArray := prog_8_method_6_code
def yX6_least : MethodName := ⟨RX6, "least", "(I)I"⟩
abbrev cX6_greatest : ByteArray := prog_8_method_7_code
def yX6_greatest : MethodName := ⟨RX6, "greatest", "(I)I"⟩
abbrev cX6_skips : ByteArray := prog_8_method_8_code
def yX6_skips : MethodName := ⟨RX6, "skips", "()V"⟩
abbrev cX6_isAt : ByteArray := prog_8_method_9_code
def yX6_isAt : MethodName := ⟨RX6, "isAt", "(II)Z"⟩
abbrev cX6_passesEnd : ByteArray := prog_8_method_10_code
def yX6_passesEnd : MethodName := ⟨RX6, "passesEnd", "()Z"⟩
abbrev cX6_figures : ByteArray := prog_8_method_11_code
def yX6_figures : MethodName := ⟨RX6, "figures", "(I)I"⟩
abbrev cX6_wordPassed : ByteArray := prog_8_method_12_code
def yX6_wordPassed : MethodName := ⟨RX6, "wordPassed", "()I"⟩
abbrev cX6_readsLine : ByteArray := prog_8_method_13_code
def yX6_readsLine : MethodName := ⟨RX6, "readsLine", "()Z"⟩
abbrev cX6_readsHands : ByteArray := prog_8_method_14_code
def yX6_readsHands : MethodName := ⟨RX6, "readsHands", "()Z"⟩
abbrev cX6_readsNumber : ByteArray := prog_8_method_15_code
def yX6_readsNumber : MethodName := ⟨RX6, "readsNumber", "(I)Z"⟩
abbrev cX6_readsItem : ByteArray := prog_8_method_16_code
def yX6_readsItem : MethodName := ⟨RX6, "readsItem", "()Z"⟩
abbrev cX6_reads : ByteArray := prog_8_method_17_code
def yX6_reads : MethodName := ⟨RX6, "reads", "()I"⟩
abbrev cX6_type : ByteArray := prog_8_method_18_code
def yX6_type : MethodName := ⟨RX6, "type", "(I)I"⟩
abbrev cX6_clear : ByteArray := prog_8_method_19_code
def yX6_clear : MethodName := ⟨RX6, "clear", "()I"⟩
abbrev cX6_keeps : ByteArray := prog_8_method_20_code
def yX6_keeps : MethodName := ⟨RX6, "keeps", "()V"⟩
abbrev cX6_tells : ByteArray := prog_8_method_21_code
def yX6_tells : MethodName := ⟨RX6, "tells", "()I"⟩
abbrev cX6_isTick : ByteArray := prog_8_method_22_code
def yX6_isTick : MethodName := ⟨RX6, "isTick", "(I)Z"⟩
abbrev cX6_isNote : ByteArray := prog_8_method_23_code
def yX6_isNote : MethodName := ⟨RX6, "isNote", "(I)Z"⟩
abbrev cX6_isHand : ByteArray := prog_8_method_24_code
def yX6_isHand : MethodName := ⟨RX6, "isHand", "(I)Z"⟩
abbrev cX6_notes : ByteArray := prog_8_method_25_code
def yX6_notes : MethodName := ⟨RX6, "notes", "()I"⟩
abbrev cX6_nextOf : ByteArray := prog_8_method_26_code
def yX6_nextOf : MethodName := ⟨RX6, "nextOf", "(II)I"⟩
abbrev cX6_isSoon : ByteArray := prog_8_method_27_code
def yX6_isSoon : MethodName := ⟨RX6, "isSoon", "(III)Z"⟩
abbrev cX6_isFar : ByteArray := prog_8_method_28_code
def yX6_isFar : MethodName := ⟨RX6, "isFar", "(II)Z"⟩
abbrev cX6_isLawful : ByteArray := prog_8_method_29_code
def yX6_isLawful : MethodName := ⟨RX6, "isLawful", "(II)Z"⟩
abbrev cX6_isLawfulNow : ByteArray := prog_8_method_30_code
def yX6_isLawfulNow : MethodName := ⟨RX6, "isLawfulNow", "(I)Z"⟩
abbrev cX6_likeness : ByteArray := prog_8_method_31_code
def yX6_likeness : MethodName := ⟨RX6, "likeness", "(I)I"⟩
abbrev cX6_tilt : ByteArray := prog_8_method_32_code
def yX6_tilt : MethodName := ⟨RX6, "tilt", "(I)I"⟩
abbrev cX6_ofHand : ByteArray := prog_8_method_33_code
def yX6_ofHand : MethodName := ⟨RX6, "ofHand", "(I)I"⟩
abbrev cX6_shareOf : ByteArray := prog_8_method_34_code
def yX6_shareOf : MethodName := ⟨RX6, "shareOf", "(I)I"⟩
abbrev cX6_gives : ByteArray := prog_8_method_35_code
def yX6_gives : MethodName := ⟨RX6, "gives", "(II)I"⟩
abbrev cX6_flips : ByteArray := prog_8_method_36_code
def yX6_flips : MethodName := ⟨RX6, "flips", "(II)I"⟩
abbrev cX6_ones : ByteArray := prog_8_method_37_code
def yX6_ones : MethodName := ⟨RX6, "ones", "(I)I"⟩
abbrev cX6_nearest : ByteArray := prog_8_method_38_code
def yX6_nearest : MethodName := ⟨RX6, "nearest", "()I"⟩
abbrev cX6_mends : ByteArray := prog_8_method_39_code
def yX6_mends : MethodName := ⟨RX6, "mends", "()I"⟩
abbrev cX6_sets : ByteArray := prog_8_method_40_code
def yX6_sets : MethodName := ⟨RX6, "sets", "(II)I"⟩
abbrev cX6_undo : ByteArray := prog_8_method_41_code
def yX6_undo : MethodName := ⟨RX6, "undo", "()I"⟩
abbrev cX6_tick : ByteArray := prog_8_method_42_code
def yX6_tick : MethodName := ⟨RX6, "tick", "(II)I"⟩
abbrev cX6_pairs : ByteArray := prog_8_method_43_code
def yX6_pairs : MethodName := ⟨RX6, "pairs", "(Z)I"⟩
abbrev cX6_share : ByteArray := prog_8_method_44_code
def yX6_share : MethodName := ⟨RX6, "share", "(I)I"⟩
abbrev cX6_off : ByteArray := prog_8_method_45_code
def yX6_off : MethodName := ⟨RX6, "off", "(I)I"⟩
abbrev cX6_isBetter : ByteArray := prog_8_method_46_code
def yX6_isBetter : MethodName := ⟨RX6, "isBetter", "(II)Z"⟩
abbrev cX6_best : ByteArray := prog_8_method_47_code
def yX6_best : MethodName := ⟨RX6, "best", "(I)I"⟩
abbrev cX6_slowest : ByteArray := prog_8_method_48_code
def yX6_slowest : MethodName := ⟨RX6, "slowest", "()I"⟩
abbrev cX6_change : ByteArray := prog_8_method_49_code
def yX6_change : MethodName := ⟨RX6, "change", "()I"⟩
abbrev cX6_busyAt : ByteArray := prog_8_method_50_code
def yX6_busyAt : MethodName := ⟨RX6, "busyAt", "(II)I"⟩
abbrev cX6_busiest : ByteArray := prog_8_method_51_code
def yX6_busiest : MethodName := ⟨RX6, "busiest", "(II)I"⟩
abbrev cX6_shareBy : ByteArray := prog_8_method_52_code
def yX6_shareBy : MethodName := ⟨RX6, "shareBy", "(I)I"⟩
abbrev cX6_pitches : ByteArray := prog_8_method_53_code
def yX6_pitches : MethodName := ⟨RX6, "pitches", "()I"⟩
abbrev cX6_isTable : ByteArray := prog_8_method_54_code
def yX6_isTable : MethodName := ⟨RX6, "isTable", "(I)Z"⟩
abbrev cX6_isHeard : ByteArray := prog_8_method_55_code
def yX6_isHeard : MethodName := ⟨RX6, "isHeard", "(I)Z"⟩
abbrev cX6_tellTables : ByteArray := prog_8_method_56_code
def yX6_tellTables : MethodName := ⟨RX6, "tellTables", "(IZ)I"⟩
abbrev cX6_tables : ByteArray := prog_8_method_57_code
def yX6_tables : MethodName := ⟨RX6, "tables", "(I)I"⟩
abbrev cX6_sees : ByteArray := prog_8_method_58_code
def yX6_sees : MethodName := ⟨RX6, "sees", "(II)I"⟩
abbrev cX6_forget : ByteArray := prog_8_method_59_code
def yX6_forget : MethodName := ⟨RX6, "forget", "()I"⟩
abbrev cX6_which : ByteArray := prog_8_method_60_code
def yX6_which : MethodName := ⟨RX6, "which", "(I)I"⟩
abbrev cX6_listen : ByteArray := prog_8_method_61_code
def yX6_listen : MethodName := ⟨RX6, "listen", "()I"⟩
abbrev cX6_keep : ByteArray := prog_8_method_62_code
def yX6_keep : MethodName := ⟨RX6, "keep", "(I)I"⟩
abbrev cX6_back : ByteArray := prog_8_method_63_code
def yX6_back : MethodName := ⟨RX6, "back", "(I)I"⟩
abbrev cX6_count : ByteArray := prog_8_method_64_code
def yX6_count : MethodName := ⟨RX6, "count", "(I)I"⟩
def RJx145de : String := "java/io/Serializable"
def TJx145de : u_T := fun k => match k with
  | _ => ("", "", "", false)
def tyJx145de : Nat → FieldType := fun k => match k with
  | _ => .int
abbrev wsJx145de0 : List Cond := u_ws RJx145de TJx145de 0
theorem nmJx145de : ∀ a, a < 0 → ∀ b, b < 0 → a ≠ b → (TJx145de a).2.1 ≠ (TJx145de b).2.1 := by decide +kernel
theorem tyJx145de_ok : ∀ k, k < 0 → parseFieldDescriptor (TJx145de k).2.2.1 = some (tyJx145de k) := by decide +kernel
def RJx9f9b0 : String := "java/lang/CharSequence"
def TJx9f9b0 : u_T := fun k => match k with
  | _ => ("", "", "", false)
def tyJx9f9b0 : Nat → FieldType := fun k => match k with
  | _ => .int
abbrev wsJx9f9b00 : List Cond := u_ws RJx9f9b0 TJx9f9b0 0
theorem nmJx9f9b0 : ∀ a, a < 0 → ∀ b, b < 0 → a ≠ b → (TJx9f9b0 a).2.1 ≠ (TJx9f9b0 b).2.1 := by decide +kernel
theorem tyJx9f9b0_ok : ∀ k, k < 0 → parseFieldDescriptor (TJx9f9b0 k).2.2.1 = some (tyJx9f9b0 k) := by decide +kernel
def RJxb160c : String := "java/lang/Comparable"
def TJxb160c : u_T := fun k => match k with
  | _ => ("", "", "", false)
def tyJxb160c : Nat → FieldType := fun k => match k with
  | _ => .int
abbrev wsJxb160c0 : List Cond := u_ws RJxb160c TJxb160c 0
theorem nmJxb160c : ∀ a, a < 0 → ∀ b, b < 0 → a ≠ b → (TJxb160c a).2.1 ≠ (TJxb160c b).2.1 := by decide +kernel
theorem tyJxb160c_ok : ∀ k, k < 0 → parseFieldDescriptor (TJxb160c k).2.2.1 = some (tyJxb160c k) := by decide +kernel
def RJ6 : String := "java/lang/Integer"
def TJ6 : u_T := fun k => match k with
  | _ => ("", "", "", false)
def tyJ6 : Nat → FieldType := fun k => match k with
  | _ => .int
abbrev wsJ60 : List Cond := u_ws RJ6 TJ6 0
theorem nmJ6 : ∀ a, a < 0 → ∀ b, b < 0 → a ≠ b → (TJ6 a).2.1 ≠ (TJ6 b).2.1 := by decide +kernel
theorem tyJ6_ok : ∀ k, k < 0 → parseFieldDescriptor (TJ6 k).2.2.1 = some (tyJ6 k) := by decide +kernel
abbrev cJ6_bitCount_0f7a4 : ByteArray := prog_9_method_49_code
def yJ6_bitCount_0f7a4 : MethodName := ⟨RJ6, "bitCount", "(I)I"⟩
def RJ9 : String := "java/lang/Math"
def TJ9 : u_T := fun k => match k with
  | _ => ("", "", "", false)
def tyJ9 : Nat → FieldType := fun k => match k with
  | _ => .int
abbrev wsJ90 : List Cond := u_ws RJ9 TJ9 0
theorem nmJ9 : ∀ a, a < 0 → ∀ b, b < 0 → a ≠ b → (TJ9 a).2.1 ≠ (TJ9 b).2.1 := by decide +kernel
theorem tyJ9_ok : ∀ k, k < 0 → parseFieldDescriptor (TJ9 k).2.2.1 = some (tyJ9 k) := by decide +kernel
abbrev cJ9_abs_0f7a4 : ByteArray := prog_10_method_59_code
def yJ9_abs_0f7a4 : MethodName := ⟨RJ9, "abs", "(I)I"⟩
abbrev cJ9_max_7cf53 : ByteArray := prog_10_method_65_code
def yJ9_max_7cf53 : MethodName := ⟨RJ9, "max", "(II)I"⟩
def RJ0 : String := "java/lang/String"
def TJ0 : u_T := fun k => match k with
  | _ => ("", "", "", false)
def tyJ0 : Nat → FieldType := fun k => match k with
  | _ => .int
abbrev wsJ00 : List Cond := u_ws RJ0 TJ0 0
theorem nmJ0 : ∀ a, a < 0 → ∀ b, b < 0 → a ≠ b → (TJ0 a).2.1 ≠ (TJ0 b).2.1 := by decide +kernel
theorem tyJ0_ok : ∀ k, k < 0 → parseFieldDescriptor (TJ0 k).2.2.1 = some (tyJ0 k) := by decide +kernel
abbrev cJ0_length_8abf5 : ByteArray := prog_11_method_54_code
def yJ0_length_8abf5 : MethodName := ⟨RJ0, "length", "()I"⟩
abbrev cJ0_charAt_5068e : ByteArray := prog_11_method_56_code
def yJ0_charAt_5068e : MethodName := ⟨RJ0, "charAt", "(I)C"⟩
abbrev cJ0_coder_7d493 : ByteArray := prog_11_method_152_code
def yJ0_coder_7d493 : MethodName := ⟨RJ0, "coder", "()B"⟩
abbrev cJ0_isLatin1_aae02 : ByteArray := prog_11_method_154_code
def yJ0_isLatin1_aae02 : MethodName := ⟨RJ0, "isLatin1", "()Z"⟩
abbrev cJ0_checkIndex_df160 : ByteArray := prog_11_method_155_code
def yJ0_checkIndex_df160 : MethodName := ⟨RJ0, "checkIndex", "(II)V"⟩
def RJ1 : String := "java/lang/StringLatin1"
def TJ1 : u_T := fun k => match k with
  | _ => ("", "", "", false)
def tyJ1 : Nat → FieldType := fun k => match k with
  | _ => .int
abbrev wsJ10 : List Cond := u_ws RJ1 TJ1 0
theorem nmJ1 : ∀ a, a < 0 → ∀ b, b < 0 → a ≠ b → (TJ1 a).2.1 ≠ (TJ1 b).2.1 := by decide +kernel
theorem tyJ1_ok : ∀ k, k < 0 → parseFieldDescriptor (TJ1 k).2.2.1 = some (tyJ1 k) := by decide +kernel
abbrev cJ1_charAt_3b067 : ByteArray := prog_12_method_2_code
def yJ1_charAt_3b067 : MethodName := ⟨RJ1, "charAt", "([BI)C"⟩
def RJ2 : String := "java/lang/StringUTF16"
def TJ2 : u_T := fun k => match k with
  | _ => ("", "", "", false)
def tyJ2 : Nat → FieldType := fun k => match k with
  | _ => .int
abbrev wsJ20 : List Cond := u_ws RJ2 TJ2 0
theorem nmJ2 : ∀ a, a < 0 → ∀ b, b < 0 → a ≠ b → (TJ2 a).2.1 ≠ (TJ2 b).2.1 := by decide +kernel
theorem tyJ2_ok : ∀ k, k < 0 → parseFieldDescriptor (TJ2 k).2.2.1 = some (tyJ2 k) := by decide +kernel
abbrev cJ2_getChar_3b067 : ByteArray := prog_13_method_5_code
def yJ2_getChar_3b067 : MethodName := ⟨RJ2, "getChar", "([BI)C"⟩
abbrev cJ2_length_9d52b : ByteArray := prog_13_method_6_code
def yJ2_length_9d52b : MethodName := ⟨RJ2, "length", "([B)I"⟩
abbrev cJ2_charAt_3b067 : ByteArray := prog_13_method_83_code
def yJ2_charAt_3b067 : MethodName := ⟨RJ2, "charAt", "([BI)C"⟩
abbrev cJ2_checkIndex_2214a : ByteArray := prog_13_method_91_code
def yJ2_checkIndex_2214a : MethodName := ⟨RJ2, "checkIndex", "(I[B)V"⟩
def RJ10 : String := "java/lang/System"
def TJ10 : u_T := fun k => match k with
  | _ => ("", "", "", false)
def tyJ10 : Nat → FieldType := fun k => match k with
  | _ => .int
abbrev wsJ100 : List Cond := u_ws RJ10 TJ10 0
theorem nmJ10 : ∀ a, a < 0 → ∀ b, b < 0 → a ≠ b → (TJ10 a).2.1 ≠ (TJ10 b).2.1 := by decide +kernel
theorem tyJ10_ok : ∀ k, k < 0 → parseFieldDescriptor (TJ10 k).2.2.1 = some (tyJ10 k) := by decide +kernel
def RJxfd54e : String := "java/lang/constant/Constable"
def TJxfd54e : u_T := fun k => match k with
  | _ => ("", "", "", false)
def tyJxfd54e : Nat → FieldType := fun k => match k with
  | _ => .int
abbrev wsJxfd54e0 : List Cond := u_ws RJxfd54e TJxfd54e 0
theorem nmJxfd54e : ∀ a, a < 0 → ∀ b, b < 0 → a ≠ b → (TJxfd54e a).2.1 ≠ (TJxfd54e b).2.1 := by decide +kernel
theorem tyJxfd54e_ok : ∀ k, k < 0 → parseFieldDescriptor (TJxfd54e k).2.2.1 = some (tyJxfd54e k) := by decide +kernel
def RJx3cf43 : String := "java/lang/constant/ConstantDesc"
def TJx3cf43 : u_T := fun k => match k with
  | _ => ("", "", "", false)
def tyJx3cf43 : Nat → FieldType := fun k => match k with
  | _ => .int
abbrev wsJx3cf430 : List Cond := u_ws RJx3cf43 TJx3cf43 0
theorem nmJx3cf43 : ∀ a, a < 0 → ∀ b, b < 0 → a ≠ b → (TJx3cf43 a).2.1 ≠ (TJx3cf43 b).2.1 := by decide +kernel
theorem tyJx3cf43_ok : ∀ k, k < 0 → parseFieldDescriptor (TJx3cf43 k).2.2.1 = some (tyJx3cf43 k) := by decide +kernel
def RJ7 : String := "java/util/Arrays"
def TJ7 : u_T := fun k => match k with
  | _ => ("", "", "", false)
def tyJ7 : Nat → FieldType := fun k => match k with
  | _ => .int
abbrev wsJ70 : List Cond := u_ws RJ7 TJ7 0
theorem nmJ7 : ∀ a, a < 0 → ∀ b, b < 0 → a ≠ b → (TJ7 a).2.1 ≠ (TJ7 b).2.1 := by decide +kernel
theorem tyJ7_ok : ∀ k, k < 0 → parseFieldDescriptor (TJ7 k).2.2.1 = some (tyJ7 k) := by decide +kernel
abbrev cJ7_fill_53178 : ByteArray := prog_15_method_103_code
def yJ7_fill_53178 : MethodName := ⟨RJ7, "fill", "([II)V"⟩
def RJ3 : String := "jdk/internal/util/Preconditions"
def TJ3 : u_T := fun k => match k with
  | _ => ("", "", "", false)
def tyJ3 : Nat → FieldType := fun k => match k with
  | _ => .int
abbrev wsJ30 : List Cond := u_ws RJ3 TJ3 0
theorem nmJ3 : ∀ a, a < 0 → ∀ b, b < 0 → a ≠ b → (TJ3 a).2.1 ≠ (TJ3 b).2.1 := by decide +kernel
theorem tyJ3_ok : ∀ k, k < 0 → parseFieldDescriptor (TJ3 k).2.2.1 = some (tyJ3 k) := by decide +kernel
abbrev cJ3_checkIndex_8e157 : ByteArray := prog_16_method_11_code
def yJ3_checkIndex_8e157 : MethodName := ⟨RJ3, "checkIndex", "(IILjava/util/function/BiFunction;)I"⟩
def RL : String := "SharedLineLaw"
abbrev cL_law : ByteArray := code
def yL_law : MethodName := ⟨RL, "law", "([I)Z"⟩
def wsJ7_fill_53178 : List Cond := .code yJ7_fill_53178 cJ7_fill_53178 4 none :: ([])
def wsX0_makeNew : List Cond := .code yX0_makeNew cX0_makeNew 1 none :: ([.fieldLink RX0 9 "SharedLine$Line" "pitches" "[I", .fieldLink RX0 24 "SharedLine$Line" "ticks" "I", .fieldLink RX0 28 "SharedLine$Line" "notes" "I", .fieldLink RX0 31 "SharedLine$Line" "hands" "I", .fieldLink RX0 37 "SharedLine$Line" "wait" "I", .fieldLink RX0 40 "SharedLine$Line" "reach" "I", .fieldLink RX0 43 "SharedLine$Line" "bar" "I", .methodLink RX0 18 yJ7_fill_53178, .static yJ7_fill_53178, .initialized RJ7, .code yJ7_fill_53178 cJ7_fill_53178 4 none] ++ wsX00)
def wsX0_init : List Cond := .code yX0_init cX0_init 1 none :: ([.methodLink RX0 3 objectInit, .instanceMethod objectInit, .code objectInit ⟨#[0xb1]⟩ 1 none, .arrayClass .int, .fieldLink RX0 9 "SharedLine$Line" "pitches" "[I", .methodLink RX0 15 yX0_makeNew, .instanceMethod yX0_makeNew, .selects RX0 yX0_makeNew yX0_makeNew, .initialized RX0, .code yX0_makeNew cX0_makeNew 1 none, .fieldLink RX0 24 "SharedLine$Line" "ticks" "I", .fieldLink RX0 28 "SharedLine$Line" "notes" "I", .fieldLink RX0 31 "SharedLine$Line" "hands" "I", .fieldLink RX0 37 "SharedLine$Line" "wait" "I", .fieldLink RX0 40 "SharedLine$Line" "reach" "I", .fieldLink RX0 43 "SharedLine$Line" "bar" "I", .methodLink RX0 18 yJ7_fill_53178, .static yJ7_fill_53178, .initialized RJ7, .code yJ7_fill_53178 cJ7_fill_53178 4 none] ++ wsX00)
def wsX0_copyFrom : List Cond := .code yX0_copyFrom cX0_copyFrom 2 none :: ([.fieldLink RX0 9 "SharedLine$Line" "pitches" "[I", .methodLink RX0 46 arraycopyName, .native arraycopyName, .static arraycopyName, .initialized "java/lang/System", .fieldLink RX0 24 "SharedLine$Line" "ticks" "I", .fieldLink RX0 28 "SharedLine$Line" "notes" "I", .fieldLink RX0 31 "SharedLine$Line" "hands" "I", .fieldLink RX0 37 "SharedLine$Line" "wait" "I", .fieldLink RX0 40 "SharedLine$Line" "reach" "I", .fieldLink RX0 43 "SharedLine$Line" "bar" "I"] ++ wsX00)
def wsX0_setPitch : List Cond := .code yX0_setPitch cX0_setPitch 3 none :: ([.fieldLink RX0 9 "SharedLine$Line" "pitches" "[I", .fieldLink RX0 28 "SharedLine$Line" "notes" "I"] ++ wsX00)
def wsX0_number : List Cond := .code yX0_number cX0_number 2 (some .int) :: ([.fieldLink RX0 37 "SharedLine$Line" "wait" "I", .fieldLink RX0 40 "SharedLine$Line" "reach" "I", .fieldLink RX0 43 "SharedLine$Line" "bar" "I"] ++ wsX00)
def wsX0_setNumber : List Cond := .code yX0_setNumber cX0_setNumber 3 none :: ([.fieldLink RX0 37 "SharedLine$Line" "wait" "I", .fieldLink RX0 40 "SharedLine$Line" "reach" "I", .fieldLink RX0 43 "SharedLine$Line" "bar" "I"] ++ wsX00)
def wsX0_hasTick : List Cond := .code yX0_hasTick cX0_hasTick 2 (some .boolean) :: ([.fieldLink RX0 24 "SharedLine$Line" "ticks" "I"] ++ wsX00)
def wsX0_hasNote : List Cond := .code yX0_hasNote cX0_hasNote 2 (some .boolean) :: ([.fieldLink RX0 24 "SharedLine$Line" "ticks" "I", .fieldLink RX0 28 "SharedLine$Line" "notes" "I"] ++ wsX00)
def wsX0_pitchAt : List Cond := .code yX0_pitchAt cX0_pitchAt 2 (some .int) :: ([.fieldLink RX0 9 "SharedLine$Line" "pitches" "[I"] ++ wsX00)
def wsX0_handAt : List Cond := .code yX0_handAt cX0_handAt 2 (some .int) :: ([.fieldLink RX0 31 "SharedLine$Line" "hands" "I"] ++ wsX00)
def wsX0_notesOf : List Cond := .code yX0_notesOf cX0_notesOf 2 (some .int) :: ([.fieldLink RX0 28 "SharedLine$Line" "notes" "I", .fieldLink RX0 31 "SharedLine$Line" "hands" "I"] ++ wsX00)
def wsX0_isTooSoon : List Cond := .code yX0_isTooSoon cX0_isTooSoon 3 (some .boolean) :: ([.fieldLink RX0 37 "SharedLine$Line" "wait" "I"] ++ wsX00)
def wsX0_isTooFar : List Cond := .code yX0_isTooFar cX0_isTooFar 3 (some .boolean) :: ([.methodLink RX0 56 Lib.Math.abs.name, .static Lib.Math.abs.name, .initialized "java/lang/Math", .code Lib.Math.abs.name Lib.Math.abs.code 1 (some .int), .fieldLink RX0 40 "SharedLine$Line" "reach" "I", .methodLink RX0 52 yX0_pitchAt, .instanceMethod yX0_pitchAt, .selects RX0 yX0_pitchAt yX0_pitchAt, .initialized RX0, .code yX0_pitchAt cX0_pitchAt 2 (some .int), .fieldLink RX0 9 "SharedLine$Line" "pitches" "[I"] ++ wsX00)
def wsX0_mayStrike : List Cond := .code yX0_mayStrike cX0_mayStrike 3 (some .boolean) :: ([.methodLink RX0 61 yX0_isTooSoon, .instanceMethod yX0_isTooSoon, .selects RX0 yX0_isTooSoon yX0_isTooSoon, .initialized RX0, .code yX0_isTooSoon cX0_isTooSoon 3 (some .boolean), .fieldLink RX0 37 "SharedLine$Line" "wait" "I", .methodLink RX0 65 yX0_isTooFar, .instanceMethod yX0_isTooFar, .selects RX0 yX0_isTooFar yX0_isTooFar, .code yX0_isTooFar cX0_isTooFar 3 (some .boolean), .methodLink RX0 56 Lib.Math.abs.name, .static Lib.Math.abs.name, .initialized "java/lang/Math", .code Lib.Math.abs.name Lib.Math.abs.code 1 (some .int), .fieldLink RX0 40 "SharedLine$Line" "reach" "I", .methodLink RX0 52 yX0_pitchAt, .instanceMethod yX0_pitchAt, .selects RX0 yX0_pitchAt yX0_pitchAt, .code yX0_pitchAt cX0_pitchAt 2 (some .int), .fieldLink RX0 9 "SharedLine$Line" "pitches" "[I"] ++ wsX00)
def wsX0_nextOfHand : List Cond := .code yX0_nextOfHand cX0_nextOfHand 3 (some .int) :: ([.fieldLink RX0 24 "SharedLine$Line" "ticks" "I", .methodLink RX0 71 yX0_hasNote, .instanceMethod yX0_hasNote, .selects RX0 yX0_hasNote yX0_hasNote, .initialized RX0, .code yX0_hasNote cX0_hasNote 2 (some .boolean), .fieldLink RX0 28 "SharedLine$Line" "notes" "I", .methodLink RX0 75 yX0_handAt, .instanceMethod yX0_handAt, .selects RX0 yX0_handAt yX0_handAt, .code yX0_handAt cX0_handAt 2 (some .int), .fieldLink RX0 31 "SharedLine$Line" "hands" "I"] ++ wsX00)
def wsX0_isSoonBehind : List Cond := .code yX0_isSoonBehind cX0_isSoonBehind 3 (some .boolean) :: ([.methodLink RX0 68 yX0_nextOfHand, .instanceMethod yX0_nextOfHand, .selects RX0 yX0_nextOfHand yX0_nextOfHand, .initialized RX0, .code yX0_nextOfHand cX0_nextOfHand 3 (some .int), .fieldLink RX0 24 "SharedLine$Line" "ticks" "I", .methodLink RX0 71 yX0_hasNote, .instanceMethod yX0_hasNote, .selects RX0 yX0_hasNote yX0_hasNote, .code yX0_hasNote cX0_hasNote 2 (some .boolean), .fieldLink RX0 28 "SharedLine$Line" "notes" "I", .methodLink RX0 75 yX0_handAt, .instanceMethod yX0_handAt, .selects RX0 yX0_handAt yX0_handAt, .code yX0_handAt cX0_handAt 2 (some .int), .fieldLink RX0 31 "SharedLine$Line" "hands" "I", .methodLink RX0 61 yX0_isTooSoon, .instanceMethod yX0_isTooSoon, .selects RX0 yX0_isTooSoon yX0_isTooSoon, .code yX0_isTooSoon cX0_isTooSoon 3 (some .boolean), .fieldLink RX0 37 "SharedLine$Line" "wait" "I"] ++ wsX00)
def wsX0_isFarBehind_r1 : List Cond := [Cond.methodLink RX0 68 yX0_nextOfHand, Cond.instanceMethod yX0_nextOfHand, Cond.selects RX0 yX0_nextOfHand yX0_nextOfHand, Cond.initialized RX0, Cond.code yX0_nextOfHand cX0_nextOfHand 3 (some .int), Cond.fieldLink RX0 24 "SharedLine$Line" "ticks" "I", Cond.methodLink RX0 71 yX0_hasNote, Cond.instanceMethod yX0_hasNote, Cond.selects RX0 yX0_hasNote yX0_hasNote, Cond.code yX0_hasNote cX0_hasNote 2 (some .boolean), Cond.fieldLink RX0 28 "SharedLine$Line" "notes" "I", Cond.methodLink RX0 75 yX0_handAt, Cond.instanceMethod yX0_handAt, Cond.selects RX0 yX0_handAt yX0_handAt, Cond.code yX0_handAt cX0_handAt 2 (some .int), Cond.fieldLink RX0 31 "SharedLine$Line" "hands" "I", Cond.methodLink RX0 65 yX0_isTooFar, Cond.instanceMethod yX0_isTooFar, Cond.selects RX0 yX0_isTooFar yX0_isTooFar, Cond.code yX0_isTooFar cX0_isTooFar 3 (some .boolean), Cond.methodLink RX0 56 Lib.Math.abs.name, Cond.static Lib.Math.abs.name, Cond.initialized "java/lang/Math", Cond.code Lib.Math.abs.name Lib.Math.abs.code 1 (some .int)]
def wsX0_isFarBehind_r2 : List Cond := [Cond.fieldLink RX0 40 "SharedLine$Line" "reach" "I", Cond.methodLink RX0 52 yX0_pitchAt, Cond.instanceMethod yX0_pitchAt, Cond.selects RX0 yX0_pitchAt yX0_pitchAt, Cond.code yX0_pitchAt cX0_pitchAt 2 (some .int), Cond.fieldLink RX0 9 "SharedLine$Line" "pitches" "[I"]
def wsX0_isFarBehind : List Cond := .code yX0_isFarBehind cX0_isFarBehind 3 (some .boolean) :: ((wsX0_isFarBehind_r1 ++ wsX0_isFarBehind_r2) ++ wsX00)
def wsX0_countTooSoon_r1 : List Cond := [Cond.fieldLink RX0 24 "SharedLine$Line" "ticks" "I", Cond.methodLink RX0 78 yX0_isSoonBehind, Cond.instanceMethod yX0_isSoonBehind, Cond.selects RX0 yX0_isSoonBehind yX0_isSoonBehind, Cond.initialized RX0, Cond.code yX0_isSoonBehind cX0_isSoonBehind 3 (some .boolean), Cond.methodLink RX0 68 yX0_nextOfHand, Cond.instanceMethod yX0_nextOfHand, Cond.selects RX0 yX0_nextOfHand yX0_nextOfHand, Cond.code yX0_nextOfHand cX0_nextOfHand 3 (some .int), Cond.methodLink RX0 71 yX0_hasNote, Cond.instanceMethod yX0_hasNote, Cond.selects RX0 yX0_hasNote yX0_hasNote, Cond.code yX0_hasNote cX0_hasNote 2 (some .boolean), Cond.fieldLink RX0 28 "SharedLine$Line" "notes" "I", Cond.methodLink RX0 75 yX0_handAt, Cond.instanceMethod yX0_handAt, Cond.selects RX0 yX0_handAt yX0_handAt, Cond.code yX0_handAt cX0_handAt 2 (some .int), Cond.fieldLink RX0 31 "SharedLine$Line" "hands" "I", Cond.methodLink RX0 61 yX0_isTooSoon, Cond.instanceMethod yX0_isTooSoon, Cond.selects RX0 yX0_isTooSoon yX0_isTooSoon, Cond.code yX0_isTooSoon cX0_isTooSoon 3 (some .boolean)]
def wsX0_countTooSoon_r2 : List Cond := [Cond.fieldLink RX0 37 "SharedLine$Line" "wait" "I"]
def wsX0_countTooSoon : List Cond := .code yX0_countTooSoon cX0_countTooSoon 3 (some .int) :: ((wsX0_countTooSoon_r1 ++ wsX0_countTooSoon_r2) ++ wsX00)
def wsX0_countTooFar_r1 : List Cond := [Cond.fieldLink RX0 24 "SharedLine$Line" "ticks" "I", Cond.methodLink RX0 81 yX0_isFarBehind, Cond.instanceMethod yX0_isFarBehind, Cond.selects RX0 yX0_isFarBehind yX0_isFarBehind, Cond.initialized RX0, Cond.code yX0_isFarBehind cX0_isFarBehind 3 (some .boolean), Cond.methodLink RX0 68 yX0_nextOfHand, Cond.instanceMethod yX0_nextOfHand, Cond.selects RX0 yX0_nextOfHand yX0_nextOfHand, Cond.code yX0_nextOfHand cX0_nextOfHand 3 (some .int), Cond.methodLink RX0 71 yX0_hasNote, Cond.instanceMethod yX0_hasNote, Cond.selects RX0 yX0_hasNote yX0_hasNote, Cond.code yX0_hasNote cX0_hasNote 2 (some .boolean), Cond.fieldLink RX0 28 "SharedLine$Line" "notes" "I", Cond.methodLink RX0 75 yX0_handAt, Cond.instanceMethod yX0_handAt, Cond.selects RX0 yX0_handAt yX0_handAt, Cond.code yX0_handAt cX0_handAt 2 (some .int), Cond.fieldLink RX0 31 "SharedLine$Line" "hands" "I", Cond.methodLink RX0 65 yX0_isTooFar, Cond.instanceMethod yX0_isTooFar, Cond.selects RX0 yX0_isTooFar yX0_isTooFar, Cond.code yX0_isTooFar cX0_isTooFar 3 (some .boolean)]
def wsX0_countTooFar_r2 : List Cond := [Cond.methodLink RX0 56 Lib.Math.abs.name, Cond.static Lib.Math.abs.name, Cond.initialized "java/lang/Math", Cond.code Lib.Math.abs.name Lib.Math.abs.code 1 (some .int), Cond.fieldLink RX0 40 "SharedLine$Line" "reach" "I", Cond.methodLink RX0 52 yX0_pitchAt, Cond.instanceMethod yX0_pitchAt, Cond.selects RX0 yX0_pitchAt yX0_pitchAt, Cond.code yX0_pitchAt cX0_pitchAt 2 (some .int), Cond.fieldLink RX0 9 "SharedLine$Line" "pitches" "[I"]
def wsX0_countTooFar : List Cond := .code yX0_countTooFar cX0_countTooFar 3 (some .int) :: ((wsX0_countTooFar_r1 ++ wsX0_countTooFar_r2) ++ wsX00)
def wsX0_isLawful_r1 : List Cond := [Cond.fieldLink RX0 24 "SharedLine$Line" "ticks" "I", Cond.methodLink RX0 71 yX0_hasNote, Cond.instanceMethod yX0_hasNote, Cond.selects RX0 yX0_hasNote yX0_hasNote, Cond.initialized RX0, Cond.code yX0_hasNote cX0_hasNote 2 (some .boolean), Cond.fieldLink RX0 28 "SharedLine$Line" "notes" "I", Cond.methodLink RX0 84 yX0_mayStrike, Cond.instanceMethod yX0_mayStrike, Cond.selects RX0 yX0_mayStrike yX0_mayStrike, Cond.code yX0_mayStrike cX0_mayStrike 3 (some .boolean), Cond.methodLink RX0 61 yX0_isTooSoon, Cond.instanceMethod yX0_isTooSoon, Cond.selects RX0 yX0_isTooSoon yX0_isTooSoon, Cond.code yX0_isTooSoon cX0_isTooSoon 3 (some .boolean), Cond.fieldLink RX0 37 "SharedLine$Line" "wait" "I", Cond.methodLink RX0 65 yX0_isTooFar, Cond.instanceMethod yX0_isTooFar, Cond.selects RX0 yX0_isTooFar yX0_isTooFar, Cond.code yX0_isTooFar cX0_isTooFar 3 (some .boolean), Cond.methodLink RX0 56 Lib.Math.abs.name, Cond.static Lib.Math.abs.name, Cond.initialized "java/lang/Math", Cond.code Lib.Math.abs.name Lib.Math.abs.code 1 (some .int)]
def wsX0_isLawful_r2 : List Cond := [Cond.fieldLink RX0 40 "SharedLine$Line" "reach" "I", Cond.methodLink RX0 52 yX0_pitchAt, Cond.instanceMethod yX0_pitchAt, Cond.selects RX0 yX0_pitchAt yX0_pitchAt, Cond.code yX0_pitchAt cX0_pitchAt 2 (some .int), Cond.fieldLink RX0 9 "SharedLine$Line" "pitches" "[I"]
def wsX0_isLawful : List Cond := .code yX0_isLawful cX0_isLawful 6 (some .boolean) :: ((wsX0_isLawful_r1 ++ wsX0_isLawful_r2) ++ wsX00)
def wsJ6_bitCount_0f7a4 : List Cond := .code yJ6_bitCount_0f7a4 cJ6_bitCount_0f7a4 1 (some .int) :: ([.constant RJ6 265 (1431655765), .constant RJ6 266 (858993459), .constant RJ6 267 (252645135)])
def wsX0_likeness : List Cond := .code yX0_likeness cX0_likeness 3 (some .int) :: ([.fieldLink RX0 28 "SharedLine$Line" "notes" "I", .fieldLink RX0 43 "SharedLine$Line" "bar" "I", .methodLink RX0 87 yJ6_bitCount_0f7a4, .static yJ6_bitCount_0f7a4, .initialized RJ6, .code yJ6_bitCount_0f7a4 cJ6_bitCount_0f7a4 1 (some .int), .constant RJ6 265 (1431655765), .constant RJ6 266 (858993459), .constant RJ6 267 (252645135)] ++ wsX00)
def wsX0_tilt : List Cond := .code yX0_tilt cX0_tilt 2 (some .int) :: ([.fieldLink RX0 28 "SharedLine$Line" "notes" "I", .methodLink RX0 87 yJ6_bitCount_0f7a4, .static yJ6_bitCount_0f7a4, .initialized RJ6, .code yJ6_bitCount_0f7a4 cJ6_bitCount_0f7a4 1 (some .int), .constant RJ6 265 (1431655765), .constant RJ6 266 (858993459), .constant RJ6 267 (252645135)] ++ wsX00)
def wsX0_pitchesUsed : List Cond := .code yX0_pitchesUsed cX0_pitchesUsed 3 (some .int) :: ([.fieldLink RX0 24 "SharedLine$Line" "ticks" "I", .methodLink RX0 71 yX0_hasNote, .instanceMethod yX0_hasNote, .selects RX0 yX0_hasNote yX0_hasNote, .initialized RX0, .code yX0_hasNote cX0_hasNote 2 (some .boolean), .fieldLink RX0 28 "SharedLine$Line" "notes" "I", .methodLink RX0 52 yX0_pitchAt, .instanceMethod yX0_pitchAt, .selects RX0 yX0_pitchAt yX0_pitchAt, .code yX0_pitchAt cX0_pitchAt 2 (some .int), .fieldLink RX0 9 "SharedLine$Line" "pitches" "[I"] ++ wsX00)
def wsX0_shareByTable : List Cond := .code yX0_shareByTable cX0_shareByTable 4 (some .int) :: ([.fieldLink RX0 24 "SharedLine$Line" "ticks" "I", .methodLink RX0 71 yX0_hasNote, .instanceMethod yX0_hasNote, .selects RX0 yX0_hasNote yX0_hasNote, .initialized RX0, .code yX0_hasNote cX0_hasNote 2 (some .boolean), .fieldLink RX0 28 "SharedLine$Line" "notes" "I", .methodLink RX0 52 yX0_pitchAt, .instanceMethod yX0_pitchAt, .selects RX0 yX0_pitchAt yX0_pitchAt, .code yX0_pitchAt cX0_pitchAt 2 (some .int), .fieldLink RX0 9 "SharedLine$Line" "pitches" "[I"] ++ wsX00)
def wsX1_init_r1 : List Cond := [Cond.methodLink RX1 3 objectInit, Cond.instanceMethod objectInit, Cond.code objectInit ⟨#[0xb1]⟩ 1 none, Cond.classLink RX1 9 RX0, Cond.fieldLink RX1 11 "SharedLine$Past" "lines" "[LSharedLine$Line;", Cond.instantiable RX0 7, Cond.initialized RX0, Cond.methodLink RX1 17 yX0_init, Cond.instanceMethod yX0_init, Cond.code yX0_init cX0_init 1 none, Cond.methodLink RX0 3 objectInit, Cond.arrayClass .int, Cond.fieldLink RX0 9 "SharedLine$Line" "pitches" "[I", Cond.methodLink RX0 15 yX0_makeNew, Cond.instanceMethod yX0_makeNew, Cond.selects RX0 yX0_makeNew yX0_makeNew, Cond.code yX0_makeNew cX0_makeNew 1 none, Cond.fieldLink RX0 24 "SharedLine$Line" "ticks" "I", Cond.fieldLink RX0 28 "SharedLine$Line" "notes" "I", Cond.fieldLink RX0 31 "SharedLine$Line" "hands" "I", Cond.fieldLink RX0 37 "SharedLine$Line" "wait" "I", Cond.fieldLink RX0 40 "SharedLine$Line" "reach" "I", Cond.fieldLink RX0 43 "SharedLine$Line" "bar" "I", Cond.methodLink RX0 18 yJ7_fill_53178]
def wsX1_init_r2 : List Cond := [Cond.static yJ7_fill_53178, Cond.initialized RJ7, Cond.code yJ7_fill_53178 cJ7_fill_53178 4 none]
def wsX1_init : List Cond := .code yX1_init cX1_init 2 none :: ((wsX1_init_r1 ++ wsX1_init_r2) ++ wsX10 ++ wsX00)
def wsX1_loseOldest : List Cond := .code yX1_loseOldest cX1_loseOldest 3 none :: ([.fieldLink RX1 11 "SharedLine$Past" "lines" "[LSharedLine$Line;", .fieldLink RX1 18 "SharedLine$Past" "size" "I"] ++ wsX10)
def wsX1_remember : List Cond := .code yX1_remember cX1_remember 2 none :: ([.fieldLink RX1 18 "SharedLine$Past" "size" "I", .fieldLink RX1 11 "SharedLine$Past" "lines" "[LSharedLine$Line;", .methodLink RX1 22 yX1_loseOldest, .instanceMethod yX1_loseOldest, .selects RX1 yX1_loseOldest yX1_loseOldest, .initialized RX1, .code yX1_loseOldest cX1_loseOldest 3 none, .methodLink RX1 25 yX0_copyFrom, .instanceMethod yX0_copyFrom, .selects RX0 yX0_copyFrom yX0_copyFrom, .initialized RX0, .code yX0_copyFrom cX0_copyFrom 2 none, .fieldLink RX0 9 "SharedLine$Line" "pitches" "[I", .methodLink RX0 46 arraycopyName, .native arraycopyName, .static arraycopyName, .initialized "java/lang/System", .fieldLink RX0 24 "SharedLine$Line" "ticks" "I", .fieldLink RX0 28 "SharedLine$Line" "notes" "I", .fieldLink RX0 31 "SharedLine$Line" "hands" "I", .fieldLink RX0 37 "SharedLine$Line" "wait" "I", .fieldLink RX0 40 "SharedLine$Line" "reach" "I", .fieldLink RX0 43 "SharedLine$Line" "bar" "I"] ++ wsX10 ++ wsX00)
def wsX1_recall : List Cond := .code yX1_recall cX1_recall 2 (some .boolean) :: ([.fieldLink RX1 18 "SharedLine$Past" "size" "I", .fieldLink RX1 11 "SharedLine$Past" "lines" "[LSharedLine$Line;", .methodLink RX1 25 yX0_copyFrom, .instanceMethod yX0_copyFrom, .selects RX0 yX0_copyFrom yX0_copyFrom, .initialized RX0, .code yX0_copyFrom cX0_copyFrom 2 none, .fieldLink RX0 9 "SharedLine$Line" "pitches" "[I", .methodLink RX0 46 arraycopyName, .native arraycopyName, .static arraycopyName, .initialized "java/lang/System", .fieldLink RX0 24 "SharedLine$Line" "ticks" "I", .fieldLink RX0 28 "SharedLine$Line" "notes" "I", .fieldLink RX0 31 "SharedLine$Line" "hands" "I", .fieldLink RX0 37 "SharedLine$Line" "wait" "I", .fieldLink RX0 40 "SharedLine$Line" "reach" "I", .fieldLink RX0 43 "SharedLine$Line" "bar" "I"] ++ wsX10 ++ wsX00)
def wsX2_init_r1 : List Cond := [Cond.methodLink RX2 3 objectInit, Cond.instanceMethod objectInit, Cond.code objectInit ⟨#[0xb1]⟩ 1 none, Cond.classLink RX2 9 RX0, Cond.instantiable RX0 7, Cond.initialized RX0, Cond.fieldLink RX2 12 "SharedLine$Search" "line" "LSharedLine$Line;", Cond.methodLink RX2 11 yX0_init, Cond.instanceMethod yX0_init, Cond.code yX0_init cX0_init 1 none, Cond.methodLink RX0 3 objectInit, Cond.arrayClass .int, Cond.fieldLink RX0 9 "SharedLine$Line" "pitches" "[I", Cond.methodLink RX0 15 yX0_makeNew, Cond.instanceMethod yX0_makeNew, Cond.selects RX0 yX0_makeNew yX0_makeNew, Cond.code yX0_makeNew cX0_makeNew 1 none, Cond.fieldLink RX0 24 "SharedLine$Line" "ticks" "I", Cond.fieldLink RX0 28 "SharedLine$Line" "notes" "I", Cond.fieldLink RX0 31 "SharedLine$Line" "hands" "I", Cond.fieldLink RX0 37 "SharedLine$Line" "wait" "I", Cond.fieldLink RX0 40 "SharedLine$Line" "reach" "I", Cond.fieldLink RX0 43 "SharedLine$Line" "bar" "I", Cond.methodLink RX0 18 yJ7_fill_53178]
def wsX2_init_r2 : List Cond := [Cond.static yJ7_fill_53178, Cond.initialized RJ7, Cond.code yJ7_fill_53178 cJ7_fill_53178 4 none]
def wsX2_init : List Cond := .code yX2_init cX2_init 1 none :: ((wsX2_init_r1 ++ wsX2_init_r2) ++ wsX00 ++ wsX20)
def wsX2_lookAt : List Cond := .code yX2_lookAt cX2_lookAt 2 none :: ([.fieldLink RX2 12 "SharedLine$Search" "line" "LSharedLine$Line;", .methodLink RX2 18 yX0_copyFrom, .instanceMethod yX0_copyFrom, .selects RX0 yX0_copyFrom yX0_copyFrom, .initialized RX0, .code yX0_copyFrom cX0_copyFrom 2 none, .fieldLink RX0 9 "SharedLine$Line" "pitches" "[I", .methodLink RX0 46 arraycopyName, .native arraycopyName, .static arraycopyName, .initialized "java/lang/System", .fieldLink RX0 24 "SharedLine$Line" "ticks" "I", .fieldLink RX0 28 "SharedLine$Line" "notes" "I", .fieldLink RX0 31 "SharedLine$Line" "hands" "I", .fieldLink RX0 37 "SharedLine$Line" "wait" "I", .fieldLink RX0 40 "SharedLine$Line" "reach" "I", .fieldLink RX0 43 "SharedLine$Line" "bar" "I"] ++ wsX20 ++ wsX00)
def wsX2_weigh : List Cond := .code yX2_weigh cX2_weigh 4 none :: ([.fieldLink RX2 22 "SharedLine$Search" "goal" "I", .fieldLink RX2 12 "SharedLine$Search" "line" "LSharedLine$Line;", .methodLink RX2 69 Lib.Math.abs.name, .static Lib.Math.abs.name, .initialized "java/lang/Math", .code Lib.Math.abs.name Lib.Math.abs.code 1 (some .int), .fieldLink RX2 30 "SharedLine$Search" "leastCost" "I", .fieldLink RX2 26 "SharedLine$Search" "found" "I", .methodLink RX2 65 yX0_tilt, .instanceMethod yX0_tilt, .selects RX0 yX0_tilt yX0_tilt, .initialized RX0, .code yX0_tilt cX0_tilt 2 (some .int), .fieldLink RX0 28 "SharedLine$Line" "notes" "I", .methodLink RX0 87 yJ6_bitCount_0f7a4, .static yJ6_bitCount_0f7a4, .initialized RJ6, .code yJ6_bitCount_0f7a4 cJ6_bitCount_0f7a4 1 (some .int), .constant RJ6 265 (1431655765), .constant RJ6 266 (858993459), .constant RJ6 267 (252645135)] ++ wsX20 ++ wsX00)
def wsX2_isUnlike : List Cond := .code yX2_isUnlike cX2_isUnlike 4 (some .boolean) :: ([.fieldLink RX2 12 "SharedLine$Search" "line" "LSharedLine$Line;", .fieldLink RX2 62 "SharedLine$Line" "bar" "I", .methodLink RX2 44 yX0_hasNote, .instanceMethod yX0_hasNote, .selects RX0 yX0_hasNote yX0_hasNote, .initialized RX0, .code yX0_hasNote cX0_hasNote 2 (some .boolean), .fieldLink RX0 24 "SharedLine$Line" "ticks" "I", .fieldLink RX0 28 "SharedLine$Line" "notes" "I"] ++ wsX20 ++ wsX00)
def wsX2_costAt : List Cond := .code yX2_costAt cX2_costAt 3 (some .int) :: ([.fieldLink RX2 22 "SharedLine$Search" "goal" "I", .fieldLink RX2 12 "SharedLine$Search" "line" "LSharedLine$Line;", .fieldLink RX2 59 "SharedLine$Line" "hands" "I", .methodLink RX2 56 yX2_isUnlike, .instanceMethod yX2_isUnlike, .selects RX2 yX2_isUnlike yX2_isUnlike, .initialized RX2, .code yX2_isUnlike cX2_isUnlike 4 (some .boolean), .fieldLink RX2 62 "SharedLine$Line" "bar" "I", .methodLink RX2 44 yX0_hasNote, .instanceMethod yX0_hasNote, .selects RX0 yX0_hasNote yX0_hasNote, .initialized RX0, .code yX0_hasNote cX0_hasNote 2 (some .boolean), .fieldLink RX0 24 "SharedLine$Line" "ticks" "I", .fieldLink RX0 28 "SharedLine$Line" "notes" "I"] ++ wsX20 ++ wsX00)
def wsX2_goOn_r1 : List Cond := [Cond.fieldLink RX2 30 "SharedLine$Search" "leastCost" "I", Cond.fieldLink RX2 12 "SharedLine$Search" "line" "LSharedLine$Line;", Cond.fieldLink RX2 37 "SharedLine$Line" "ticks" "I", Cond.methodLink RX2 40 yX2_weigh, Cond.instanceMethod yX2_weigh, Cond.selects RX2 yX2_weigh yX2_weigh, Cond.initialized RX2, Cond.code yX2_weigh cX2_weigh 4 none, Cond.fieldLink RX2 22 "SharedLine$Search" "goal" "I", Cond.methodLink RX2 69 Lib.Math.abs.name, Cond.static Lib.Math.abs.name, Cond.initialized "java/lang/Math", Cond.code Lib.Math.abs.name Lib.Math.abs.code 1 (some .int), Cond.fieldLink RX2 26 "SharedLine$Search" "found" "I", Cond.methodLink RX2 65 yX0_tilt, Cond.instanceMethod yX0_tilt, Cond.selects RX0 yX0_tilt yX0_tilt, Cond.initialized RX0, Cond.code yX0_tilt cX0_tilt 2 (some .int), Cond.fieldLink RX0 28 "SharedLine$Line" "notes" "I", Cond.methodLink RX0 87 yJ6_bitCount_0f7a4, Cond.static yJ6_bitCount_0f7a4, Cond.initialized RJ6, Cond.code yJ6_bitCount_0f7a4 cJ6_bitCount_0f7a4 1 (some .int)]
def wsX2_goOn_r2 : List Cond := [Cond.constant RJ6 265 (1431655765), Cond.constant RJ6 266 (858993459), Cond.constant RJ6 267 (252645135), Cond.methodLink RX2 44 yX0_hasNote, Cond.instanceMethod yX0_hasNote, Cond.selects RX0 yX0_hasNote yX0_hasNote, Cond.code yX0_hasNote cX0_hasNote 2 (some .boolean), Cond.fieldLink RX0 24 "SharedLine$Line" "ticks" "I", Cond.methodLink RX2 33 yX2_goOn, Cond.instanceMethod yX2_goOn, Cond.selects RX2 yX2_goOn yX2_goOn, Cond.methodLink RX2 48 yX0_mayStrike, Cond.instanceMethod yX0_mayStrike, Cond.selects RX0 yX0_mayStrike yX0_mayStrike, Cond.code yX0_mayStrike cX0_mayStrike 3 (some .boolean), Cond.methodLink RX0 61 yX0_isTooSoon, Cond.instanceMethod yX0_isTooSoon, Cond.selects RX0 yX0_isTooSoon yX0_isTooSoon, Cond.code yX0_isTooSoon cX0_isTooSoon 3 (some .boolean), Cond.fieldLink RX0 37 "SharedLine$Line" "wait" "I", Cond.methodLink RX0 65 yX0_isTooFar, Cond.instanceMethod yX0_isTooFar, Cond.selects RX0 yX0_isTooFar yX0_isTooFar, Cond.code yX0_isTooFar cX0_isTooFar 3 (some .boolean)]
def wsX2_goOn_r3 : List Cond := [Cond.methodLink RX0 56 Lib.Math.abs.name, Cond.fieldLink RX0 40 "SharedLine$Line" "reach" "I", Cond.methodLink RX0 52 yX0_pitchAt, Cond.instanceMethod yX0_pitchAt, Cond.selects RX0 yX0_pitchAt yX0_pitchAt, Cond.code yX0_pitchAt cX0_pitchAt 2 (some .int), Cond.fieldLink RX0 9 "SharedLine$Line" "pitches" "[I", Cond.methodLink RX2 52 yX2_costAt, Cond.instanceMethod yX2_costAt, Cond.selects RX2 yX2_costAt yX2_costAt, Cond.code yX2_costAt cX2_costAt 3 (some .int), Cond.fieldLink RX2 59 "SharedLine$Line" "hands" "I", Cond.methodLink RX2 56 yX2_isUnlike, Cond.instanceMethod yX2_isUnlike, Cond.selects RX2 yX2_isUnlike yX2_isUnlike, Cond.code yX2_isUnlike cX2_isUnlike 4 (some .boolean), Cond.fieldLink RX2 62 "SharedLine$Line" "bar" "I"]
def wsX2_goOn : List Cond := .code yX2_goOn cX2_goOn 7 none :: ((wsX2_goOn_r1 ++ (wsX2_goOn_r2 ++ wsX2_goOn_r3)) ++ wsX20 ++ wsX00)
def wsX2_find_r1 : List Cond := [Cond.fieldLink RX2 22 "SharedLine$Search" "goal" "I", Cond.fieldLink RX2 26 "SharedLine$Search" "found" "I", Cond.constant RX2 29 (1000000), Cond.fieldLink RX2 30 "SharedLine$Search" "leastCost" "I", Cond.methodLink RX2 33 yX2_goOn, Cond.instanceMethod yX2_goOn, Cond.selects RX2 yX2_goOn yX2_goOn, Cond.initialized RX2, Cond.code yX2_goOn cX2_goOn 7 none, Cond.fieldLink RX2 12 "SharedLine$Search" "line" "LSharedLine$Line;", Cond.fieldLink RX2 37 "SharedLine$Line" "ticks" "I", Cond.methodLink RX2 40 yX2_weigh, Cond.instanceMethod yX2_weigh, Cond.selects RX2 yX2_weigh yX2_weigh, Cond.code yX2_weigh cX2_weigh 4 none, Cond.methodLink RX2 69 Lib.Math.abs.name, Cond.static Lib.Math.abs.name, Cond.initialized "java/lang/Math", Cond.code Lib.Math.abs.name Lib.Math.abs.code 1 (some .int), Cond.methodLink RX2 65 yX0_tilt, Cond.instanceMethod yX0_tilt, Cond.selects RX0 yX0_tilt yX0_tilt, Cond.initialized RX0, Cond.code yX0_tilt cX0_tilt 2 (some .int)]
def wsX2_find_r2 : List Cond := [Cond.fieldLink RX0 28 "SharedLine$Line" "notes" "I", Cond.methodLink RX0 87 yJ6_bitCount_0f7a4, Cond.static yJ6_bitCount_0f7a4, Cond.initialized RJ6, Cond.code yJ6_bitCount_0f7a4 cJ6_bitCount_0f7a4 1 (some .int), Cond.constant RJ6 265 (1431655765), Cond.constant RJ6 266 (858993459), Cond.constant RJ6 267 (252645135), Cond.methodLink RX2 44 yX0_hasNote, Cond.instanceMethod yX0_hasNote, Cond.selects RX0 yX0_hasNote yX0_hasNote, Cond.code yX0_hasNote cX0_hasNote 2 (some .boolean), Cond.fieldLink RX0 24 "SharedLine$Line" "ticks" "I", Cond.methodLink RX2 48 yX0_mayStrike, Cond.instanceMethod yX0_mayStrike, Cond.selects RX0 yX0_mayStrike yX0_mayStrike, Cond.code yX0_mayStrike cX0_mayStrike 3 (some .boolean), Cond.methodLink RX0 61 yX0_isTooSoon, Cond.instanceMethod yX0_isTooSoon, Cond.selects RX0 yX0_isTooSoon yX0_isTooSoon, Cond.code yX0_isTooSoon cX0_isTooSoon 3 (some .boolean), Cond.fieldLink RX0 37 "SharedLine$Line" "wait" "I", Cond.methodLink RX0 65 yX0_isTooFar, Cond.instanceMethod yX0_isTooFar]
def wsX2_find_r3 : List Cond := [Cond.selects RX0 yX0_isTooFar yX0_isTooFar, Cond.code yX0_isTooFar cX0_isTooFar 3 (some .boolean), Cond.methodLink RX0 56 Lib.Math.abs.name, Cond.fieldLink RX0 40 "SharedLine$Line" "reach" "I", Cond.methodLink RX0 52 yX0_pitchAt, Cond.instanceMethod yX0_pitchAt, Cond.selects RX0 yX0_pitchAt yX0_pitchAt, Cond.code yX0_pitchAt cX0_pitchAt 2 (some .int), Cond.fieldLink RX0 9 "SharedLine$Line" "pitches" "[I", Cond.methodLink RX2 52 yX2_costAt, Cond.instanceMethod yX2_costAt, Cond.selects RX2 yX2_costAt yX2_costAt, Cond.code yX2_costAt cX2_costAt 3 (some .int), Cond.fieldLink RX2 59 "SharedLine$Line" "hands" "I", Cond.methodLink RX2 56 yX2_isUnlike, Cond.instanceMethod yX2_isUnlike, Cond.selects RX2 yX2_isUnlike yX2_isUnlike, Cond.code yX2_isUnlike cX2_isUnlike 4 (some .boolean), Cond.fieldLink RX2 62 "SharedLine$Line" "bar" "I"]
def wsX2_find : List Cond := .code yX2_find cX2_find 2 (some .boolean) :: ((wsX2_find_r1 ++ (wsX2_find_r2 ++ wsX2_find_r3)) ++ wsX20 ++ wsX00)
def wsX3_init : List Cond := .code yX3_init cX3_init 1 none :: ([.methodLink RX3 3 objectInit, .instanceMethod objectInit, .code objectInit ⟨#[0xb1]⟩ 1 none, .arrayClass .int, .fieldLink RX3 9 "SharedLine$TableSet" "manyOfHand1" "[I"] ++ wsX30)
def wsX3_include : List Cond := .code yX3_include cX3_include 4 none :: ([.fieldLink RX3 15 "SharedLine$TableSet" "size" "I", .fieldLink RX3 19 "SharedLine$TableSet" "least" "I", .fieldLink RX3 9 "SharedLine$TableSet" "manyOfHand1" "[I"] ++ wsX30)
def wsX3_gather_r1 : List Cond := [Cond.fieldLink RX3 15 "SharedLine$TableSet" "size" "I", Cond.fieldLink RX3 19 "SharedLine$TableSet" "least" "I", Cond.fieldLink RX3 9 "SharedLine$TableSet" "manyOfHand1" "[I", Cond.fieldLink RX3 38 "SharedLine$Line" "notes" "I", Cond.methodLink RX3 22 yJ7_fill_53178, Cond.static yJ7_fill_53178, Cond.initialized RJ7, Cond.code yJ7_fill_53178 cJ7_fill_53178 4 none, Cond.methodLink RX3 28 yX0_pitchesUsed, Cond.instanceMethod yX0_pitchesUsed, Cond.selects RX0 yX0_pitchesUsed yX0_pitchesUsed, Cond.initialized RX0, Cond.code yX0_pitchesUsed cX0_pitchesUsed 3 (some .int), Cond.fieldLink RX0 24 "SharedLine$Line" "ticks" "I", Cond.methodLink RX0 71 yX0_hasNote, Cond.instanceMethod yX0_hasNote, Cond.selects RX0 yX0_hasNote yX0_hasNote, Cond.code yX0_hasNote cX0_hasNote 2 (some .boolean), Cond.fieldLink RX0 28 "SharedLine$Line" "notes" "I", Cond.methodLink RX0 52 yX0_pitchAt, Cond.instanceMethod yX0_pitchAt, Cond.selects RX0 yX0_pitchAt yX0_pitchAt, Cond.code yX0_pitchAt cX0_pitchAt 2 (some .int), Cond.fieldLink RX0 9 "SharedLine$Line" "pitches" "[I"]
def wsX3_gather_r2 : List Cond := [Cond.methodLink RX3 34 yX0_shareByTable, Cond.instanceMethod yX0_shareByTable, Cond.selects RX0 yX0_shareByTable yX0_shareByTable, Cond.code yX0_shareByTable cX0_shareByTable 4 (some .int), Cond.methodLink RX3 41 yX0_isLawful, Cond.instanceMethod yX0_isLawful, Cond.selects RX0 yX0_isLawful yX0_isLawful, Cond.code yX0_isLawful cX0_isLawful 6 (some .boolean), Cond.methodLink RX0 84 yX0_mayStrike, Cond.instanceMethod yX0_mayStrike, Cond.selects RX0 yX0_mayStrike yX0_mayStrike, Cond.code yX0_mayStrike cX0_mayStrike 3 (some .boolean), Cond.methodLink RX0 61 yX0_isTooSoon, Cond.instanceMethod yX0_isTooSoon, Cond.selects RX0 yX0_isTooSoon yX0_isTooSoon, Cond.code yX0_isTooSoon cX0_isTooSoon 3 (some .boolean), Cond.fieldLink RX0 37 "SharedLine$Line" "wait" "I", Cond.methodLink RX0 65 yX0_isTooFar, Cond.instanceMethod yX0_isTooFar, Cond.selects RX0 yX0_isTooFar yX0_isTooFar, Cond.code yX0_isTooFar cX0_isTooFar 3 (some .boolean), Cond.methodLink RX0 56 Lib.Math.abs.name, Cond.static Lib.Math.abs.name, Cond.initialized "java/lang/Math"]
def wsX3_gather_r3 : List Cond := [Cond.code Lib.Math.abs.name Lib.Math.abs.code 1 (some .int), Cond.fieldLink RX0 40 "SharedLine$Line" "reach" "I", Cond.methodLink RX3 45 yX3_include, Cond.instanceMethod yX3_include, Cond.selects RX3 yX3_include yX3_include, Cond.initialized RX3, Cond.code yX3_include cX3_include 4 none]
def wsX3_gather : List Cond := .code yX3_gather cX3_gather 8 none :: ((wsX3_gather_r1 ++ (wsX3_gather_r2 ++ wsX3_gather_r3)) ++ wsX30 ++ wsX00)
def wsX3_tickThatHalvesBest : List Cond := .code yX3_tickThatHalvesBest cX3_tickThatHalvesBest 6 (some .int) :: ([.fieldLink RX3 15 "SharedLine$TableSet" "size" "I", .fieldLink RX3 9 "SharedLine$TableSet" "manyOfHand1" "[I", .methodLink RX3 49 Lib.Math.max.name, .static Lib.Math.max.name, .initialized "java/lang/Math", .code Lib.Math.max.name Lib.Math.max.code 2 (some .int), .methodLink RX3 55 yX0_hasNote, .instanceMethod yX0_hasNote, .selects RX0 yX0_hasNote yX0_hasNote, .initialized RX0, .code yX0_hasNote cX0_hasNote 2 (some .boolean), .fieldLink RX0 24 "SharedLine$Line" "ticks" "I", .fieldLink RX0 28 "SharedLine$Line" "notes" "I"] ++ wsX30 ++ wsX00)
def wsX4_init_r1 : List Cond := [Cond.methodLink RX4 3 objectInit, Cond.instanceMethod objectInit, Cond.code objectInit ⟨#[0xb1]⟩ 1 none, Cond.classLink RX4 9 RX0, Cond.instantiable RX0 7, Cond.initialized RX0, Cond.fieldLink RX4 12 "SharedLine$Text" "draft" "LSharedLine$Line;", Cond.arrayClass .int, Cond.fieldLink RX4 18 "SharedLine$Text" "letters" "[I", Cond.methodLink RX4 11 yX0_init, Cond.instanceMethod yX0_init, Cond.code yX0_init cX0_init 1 none, Cond.methodLink RX0 3 objectInit, Cond.fieldLink RX0 9 "SharedLine$Line" "pitches" "[I", Cond.methodLink RX0 15 yX0_makeNew, Cond.instanceMethod yX0_makeNew, Cond.selects RX0 yX0_makeNew yX0_makeNew, Cond.code yX0_makeNew cX0_makeNew 1 none, Cond.fieldLink RX0 24 "SharedLine$Line" "ticks" "I", Cond.fieldLink RX0 28 "SharedLine$Line" "notes" "I", Cond.fieldLink RX0 31 "SharedLine$Line" "hands" "I", Cond.fieldLink RX0 37 "SharedLine$Line" "wait" "I", Cond.fieldLink RX0 40 "SharedLine$Line" "reach" "I", Cond.fieldLink RX0 43 "SharedLine$Line" "bar" "I"]
def wsX4_init_r2 : List Cond := [Cond.methodLink RX0 18 yJ7_fill_53178, Cond.static yJ7_fill_53178, Cond.initialized RJ7, Cond.code yJ7_fill_53178 cJ7_fill_53178 4 none]
def wsX4_init : List Cond := .code yX4_init cX4_init 1 none :: ((wsX4_init_r1 ++ wsX4_init_r2) ++ wsX00 ++ wsX40)
def wsX4_add : List Cond := .code yX4_add cX4_add 2 (some .boolean) :: ([.fieldLink RX4 22 "SharedLine$Text" "length" "I", .fieldLink RX4 18 "SharedLine$Text" "letters" "[I"] ++ wsX40)
def wsX4_letterAt : List Cond := .code yX4_letterAt cX4_letterAt 2 (some .int) :: ([.fieldLink RX4 22 "SharedLine$Text" "length" "I", .fieldLink RX4 18 "SharedLine$Text" "letters" "[I"] ++ wsX40)
def wsX4_kindAt : List Cond := .code yX4_kindAt cX4_kindAt 3 (some .int) :: ([.methodLink RX4 67 yX4_letterAt, .instanceMethod yX4_letterAt, .selects RX4 yX4_letterAt yX4_letterAt, .initialized RX4, .code yX4_letterAt cX4_letterAt 2 (some .int), .fieldLink RX4 22 "SharedLine$Text" "length" "I", .fieldLink RX4 18 "SharedLine$Text" "letters" "[I"] ++ wsX40)
def wsX4_nextToken : List Cond := .code yX4_nextToken cX4_nextToken 2 none :: ([.fieldLink RX4 36 "SharedLine$Text" "end" "I", .fieldLink RX4 49 "SharedLine$Text" "start" "I", .fieldLink RX4 22 "SharedLine$Text" "length" "I", .fieldLink RX4 42 "SharedLine$Text" "kind" "I", .methodLink RX4 63 yX4_kindAt, .instanceMethod yX4_kindAt, .selects RX4 yX4_kindAt yX4_kindAt, .initialized RX4, .code yX4_kindAt cX4_kindAt 3 (some .int), .methodLink RX4 67 yX4_letterAt, .instanceMethod yX4_letterAt, .selects RX4 yX4_letterAt yX4_letterAt, .code yX4_letterAt cX4_letterAt 2 (some .int), .fieldLink RX4 18 "SharedLine$Text" "letters" "[I"] ++ wsX40)
def wsJ0_coder_7d493 : List Cond := .code yJ0_coder_7d493 cJ0_coder_7d493 1 (some .byte) :: ([.fieldLink RJ0 38 "java/lang/String" "COMPACT_STRINGS" "Z", .fieldLink RJ0 15 "java/lang/String" "coder" "B"])
def wsJ0_length_8abf5 : List Cond := .code yJ0_length_8abf5 cJ0_length_8abf5 1 (some .int) :: ([.fieldLink RJ0 9 "java/lang/String" "value" "[B", .methodLink RJ0 335 yJ0_coder_7d493, .instanceMethod yJ0_coder_7d493, .selects RJ0 yJ0_coder_7d493 yJ0_coder_7d493, .initialized RJ0, .code yJ0_coder_7d493 cJ0_coder_7d493 1 (some .byte), .fieldLink RJ0 38 "java/lang/String" "COMPACT_STRINGS" "Z", .fieldLink RJ0 15 "java/lang/String" "coder" "B"])
def wsJ0_isLatin1_aae02 : List Cond := .code yJ0_isLatin1_aae02 cJ0_isLatin1_aae02 1 (some .boolean) :: ([.fieldLink RJ0 38 "java/lang/String" "COMPACT_STRINGS" "Z", .fieldLink RJ0 15 "java/lang/String" "coder" "B"])
def wsJ3_checkIndex_8e157 : List Cond := .code yJ3_checkIndex_8e157 cJ3_checkIndex_8e157 3 (some .int) :: ([])
def wsJ0_checkIndex_df160 : List Cond := .code yJ0_checkIndex_df160 cJ0_checkIndex_df160 2 none :: ([.fieldLink RJ0 1053 "jdk/internal/util/Preconditions" "SIOOBE_FORMATTER" "Ljava/util/function/BiFunction;", .methodLink RJ0 1059 yJ3_checkIndex_8e157, .static yJ3_checkIndex_8e157, .initialized RJ3, .code yJ3_checkIndex_8e157 cJ3_checkIndex_8e157 3 (some .int)])
def wsJ1_charAt_3b067 : List Cond := .code yJ1_charAt_3b067 cJ1_charAt_3b067 2 (some .char) :: ([.methodLink RJ1 9 yJ0_checkIndex_df160, .static yJ0_checkIndex_df160, .initialized RJ0, .code yJ0_checkIndex_df160 cJ0_checkIndex_df160 2 none, .fieldLink RJ0 1053 "jdk/internal/util/Preconditions" "SIOOBE_FORMATTER" "Ljava/util/function/BiFunction;", .methodLink RJ0 1059 yJ3_checkIndex_8e157, .static yJ3_checkIndex_8e157, .initialized RJ3, .code yJ3_checkIndex_8e157 cJ3_checkIndex_8e157 3 (some .int)])
def wsJ2_length_9d52b : List Cond := .code yJ2_length_9d52b cJ2_length_9d52b 1 (some .int) :: ([])
def wsJ2_checkIndex_2214a : List Cond := .code yJ2_checkIndex_2214a cJ2_checkIndex_2214a 2 none :: ([.methodLink RJ2 48 yJ2_length_9d52b, .static yJ2_length_9d52b, .initialized RJ2, .code yJ2_length_9d52b cJ2_length_9d52b 1 (some .int), .methodLink RJ2 414 yJ0_checkIndex_df160, .static yJ0_checkIndex_df160, .initialized RJ0, .code yJ0_checkIndex_df160 cJ0_checkIndex_df160 2 none, .fieldLink RJ0 1053 "jdk/internal/util/Preconditions" "SIOOBE_FORMATTER" "Ljava/util/function/BiFunction;", .methodLink RJ0 1059 yJ3_checkIndex_8e157, .static yJ3_checkIndex_8e157, .initialized RJ3, .code yJ3_checkIndex_8e157 cJ3_checkIndex_8e157 3 (some .int)])
def wsJ2_getChar_3b067 : List Cond := .code yJ2_getChar_3b067 cJ2_getChar_3b067 2 (some .char) :: ([.fieldLink RJ2 44 "java/lang/StringUTF16" "$assertionsDisabled" "Z", .fieldLink RJ2 59 "java/lang/StringUTF16" "HI_BYTE_SHIFT" "I", .fieldLink RJ2 63 "java/lang/StringUTF16" "LO_BYTE_SHIFT" "I", .methodLink RJ2 48 yJ2_length_9d52b, .static yJ2_length_9d52b, .initialized RJ2, .code yJ2_length_9d52b cJ2_length_9d52b 1 (some .int)])
def wsJ2_charAt_3b067 : List Cond := .code yJ2_charAt_3b067 cJ2_charAt_3b067 2 (some .char) :: ([.methodLink RJ2 67 yJ2_checkIndex_2214a, .static yJ2_checkIndex_2214a, .initialized RJ2, .code yJ2_checkIndex_2214a cJ2_checkIndex_2214a 2 none, .methodLink RJ2 48 yJ2_length_9d52b, .static yJ2_length_9d52b, .code yJ2_length_9d52b cJ2_length_9d52b 1 (some .int), .methodLink RJ2 414 yJ0_checkIndex_df160, .static yJ0_checkIndex_df160, .initialized RJ0, .code yJ0_checkIndex_df160 cJ0_checkIndex_df160 2 none, .fieldLink RJ0 1053 "jdk/internal/util/Preconditions" "SIOOBE_FORMATTER" "Ljava/util/function/BiFunction;", .methodLink RJ0 1059 yJ3_checkIndex_8e157, .static yJ3_checkIndex_8e157, .initialized RJ3, .code yJ3_checkIndex_8e157 cJ3_checkIndex_8e157 3 (some .int), .methodLink RJ2 71 yJ2_getChar_3b067, .static yJ2_getChar_3b067, .code yJ2_getChar_3b067 cJ2_getChar_3b067 2 (some .char), .fieldLink RJ2 44 "java/lang/StringUTF16" "$assertionsDisabled" "Z", .fieldLink RJ2 59 "java/lang/StringUTF16" "HI_BYTE_SHIFT" "I", .fieldLink RJ2 63 "java/lang/StringUTF16" "LO_BYTE_SHIFT" "I"])
def wsJ0_charAt_5068e_r1 : List Cond := [Cond.fieldLink RJ0 9 "java/lang/String" "value" "[B", Cond.methodLink RJ0 492 yJ0_isLatin1_aae02, Cond.instanceMethod yJ0_isLatin1_aae02, Cond.selects RJ0 yJ0_isLatin1_aae02 yJ0_isLatin1_aae02, Cond.initialized RJ0, Cond.code yJ0_isLatin1_aae02 cJ0_isLatin1_aae02 1 (some .boolean), Cond.fieldLink RJ0 38 "java/lang/String" "COMPACT_STRINGS" "Z", Cond.fieldLink RJ0 15 "java/lang/String" "coder" "B", Cond.methodLink RJ0 495 yJ1_charAt_3b067, Cond.static yJ1_charAt_3b067, Cond.initialized RJ1, Cond.code yJ1_charAt_3b067 cJ1_charAt_3b067 2 (some .char), Cond.methodLink RJ1 9 yJ0_checkIndex_df160, Cond.static yJ0_checkIndex_df160, Cond.code yJ0_checkIndex_df160 cJ0_checkIndex_df160 2 none, Cond.fieldLink RJ0 1053 "jdk/internal/util/Preconditions" "SIOOBE_FORMATTER" "Ljava/util/function/BiFunction;", Cond.methodLink RJ0 1059 yJ3_checkIndex_8e157, Cond.static yJ3_checkIndex_8e157, Cond.initialized RJ3, Cond.code yJ3_checkIndex_8e157 cJ3_checkIndex_8e157 3 (some .int), Cond.methodLink RJ0 498 yJ2_charAt_3b067, Cond.static yJ2_charAt_3b067, Cond.initialized RJ2, Cond.code yJ2_charAt_3b067 cJ2_charAt_3b067 2 (some .char)]
def wsJ0_charAt_5068e_r2 : List Cond := [Cond.methodLink RJ2 67 yJ2_checkIndex_2214a, Cond.static yJ2_checkIndex_2214a, Cond.code yJ2_checkIndex_2214a cJ2_checkIndex_2214a 2 none, Cond.methodLink RJ2 48 yJ2_length_9d52b, Cond.static yJ2_length_9d52b, Cond.code yJ2_length_9d52b cJ2_length_9d52b 1 (some .int), Cond.methodLink RJ2 414 yJ0_checkIndex_df160, Cond.methodLink RJ2 71 yJ2_getChar_3b067, Cond.static yJ2_getChar_3b067, Cond.code yJ2_getChar_3b067 cJ2_getChar_3b067 2 (some .char), Cond.fieldLink RJ2 44 "java/lang/StringUTF16" "$assertionsDisabled" "Z", Cond.fieldLink RJ2 59 "java/lang/StringUTF16" "HI_BYTE_SHIFT" "I", Cond.fieldLink RJ2 63 "java/lang/StringUTF16" "LO_BYTE_SHIFT" "I"]
def wsJ0_charAt_5068e : List Cond := .code yJ0_charAt_5068e cJ0_charAt_5068e 2 (some .char) :: ((wsJ0_charAt_5068e_r1 ++ wsJ0_charAt_5068e_r2))
def wsX4_isWord_r1 : List Cond := [Cond.fieldLink RX4 36 "SharedLine$Text" "end" "I", Cond.fieldLink RX4 49 "SharedLine$Text" "start" "I", Cond.methodLink RX4 84 yJ0_length_8abf5, Cond.instanceMethod yJ0_length_8abf5, Cond.selects RJ0 yJ0_length_8abf5 yJ0_length_8abf5, Cond.initialized RJ0, Cond.code yJ0_length_8abf5 cJ0_length_8abf5 1 (some .int), Cond.fieldLink RJ0 9 "java/lang/String" "value" "[B", Cond.methodLink RJ0 335 yJ0_coder_7d493, Cond.instanceMethod yJ0_coder_7d493, Cond.selects RJ0 yJ0_coder_7d493 yJ0_coder_7d493, Cond.code yJ0_coder_7d493 cJ0_coder_7d493 1 (some .byte), Cond.fieldLink RJ0 38 "java/lang/String" "COMPACT_STRINGS" "Z", Cond.fieldLink RJ0 15 "java/lang/String" "coder" "B", Cond.methodLink RX4 67 yX4_letterAt, Cond.instanceMethod yX4_letterAt, Cond.selects RX4 yX4_letterAt yX4_letterAt, Cond.initialized RX4, Cond.code yX4_letterAt cX4_letterAt 2 (some .int), Cond.fieldLink RX4 22 "SharedLine$Text" "length" "I", Cond.fieldLink RX4 18 "SharedLine$Text" "letters" "[I", Cond.methodLink RX4 88 yJ0_charAt_5068e, Cond.instanceMethod yJ0_charAt_5068e, Cond.selects RJ0 yJ0_charAt_5068e yJ0_charAt_5068e]
def wsX4_isWord_r2 : List Cond := [Cond.code yJ0_charAt_5068e cJ0_charAt_5068e 2 (some .char), Cond.methodLink RJ0 492 yJ0_isLatin1_aae02, Cond.instanceMethod yJ0_isLatin1_aae02, Cond.selects RJ0 yJ0_isLatin1_aae02 yJ0_isLatin1_aae02, Cond.code yJ0_isLatin1_aae02 cJ0_isLatin1_aae02 1 (some .boolean), Cond.methodLink RJ0 495 yJ1_charAt_3b067, Cond.static yJ1_charAt_3b067, Cond.initialized RJ1, Cond.code yJ1_charAt_3b067 cJ1_charAt_3b067 2 (some .char), Cond.methodLink RJ1 9 yJ0_checkIndex_df160, Cond.static yJ0_checkIndex_df160, Cond.code yJ0_checkIndex_df160 cJ0_checkIndex_df160 2 none, Cond.fieldLink RJ0 1053 "jdk/internal/util/Preconditions" "SIOOBE_FORMATTER" "Ljava/util/function/BiFunction;", Cond.methodLink RJ0 1059 yJ3_checkIndex_8e157, Cond.static yJ3_checkIndex_8e157, Cond.initialized RJ3, Cond.code yJ3_checkIndex_8e157 cJ3_checkIndex_8e157 3 (some .int), Cond.methodLink RJ0 498 yJ2_charAt_3b067, Cond.static yJ2_charAt_3b067, Cond.initialized RJ2, Cond.code yJ2_charAt_3b067 cJ2_charAt_3b067 2 (some .char), Cond.methodLink RJ2 67 yJ2_checkIndex_2214a, Cond.static yJ2_checkIndex_2214a, Cond.code yJ2_checkIndex_2214a cJ2_checkIndex_2214a 2 none]
def wsX4_isWord_r3 : List Cond := [Cond.methodLink RJ2 48 yJ2_length_9d52b, Cond.static yJ2_length_9d52b, Cond.code yJ2_length_9d52b cJ2_length_9d52b 1 (some .int), Cond.methodLink RJ2 414 yJ0_checkIndex_df160, Cond.methodLink RJ2 71 yJ2_getChar_3b067, Cond.static yJ2_getChar_3b067, Cond.code yJ2_getChar_3b067 cJ2_getChar_3b067 2 (some .char), Cond.fieldLink RJ2 44 "java/lang/StringUTF16" "$assertionsDisabled" "Z", Cond.fieldLink RJ2 59 "java/lang/StringUTF16" "HI_BYTE_SHIFT" "I", Cond.fieldLink RJ2 63 "java/lang/StringUTF16" "LO_BYTE_SHIFT" "I"]
def wsX4_isWord : List Cond := .code yX4_isWord cX4_isWord 3 (some .boolean) :: ((wsX4_isWord_r1 ++ (wsX4_isWord_r2 ++ wsX4_isWord_r3)) ++ wsX40)
def wsX4_itemOfWord_r1 : List Cond := [Cond.methodLink RX4 72 yX4_isWord, Cond.instanceMethod yX4_isWord, Cond.selects RX4 yX4_isWord yX4_isWord, Cond.initialized RX4, Cond.code yX4_isWord cX4_isWord 3 (some .boolean), Cond.fieldLink RX4 36 "SharedLine$Text" "end" "I", Cond.fieldLink RX4 49 "SharedLine$Text" "start" "I", Cond.methodLink RX4 84 yJ0_length_8abf5, Cond.instanceMethod yJ0_length_8abf5, Cond.selects RJ0 yJ0_length_8abf5 yJ0_length_8abf5, Cond.initialized RJ0, Cond.code yJ0_length_8abf5 cJ0_length_8abf5 1 (some .int), Cond.fieldLink RJ0 9 "java/lang/String" "value" "[B", Cond.methodLink RJ0 335 yJ0_coder_7d493, Cond.instanceMethod yJ0_coder_7d493, Cond.selects RJ0 yJ0_coder_7d493 yJ0_coder_7d493, Cond.code yJ0_coder_7d493 cJ0_coder_7d493 1 (some .byte), Cond.fieldLink RJ0 38 "java/lang/String" "COMPACT_STRINGS" "Z", Cond.fieldLink RJ0 15 "java/lang/String" "coder" "B", Cond.methodLink RX4 67 yX4_letterAt, Cond.instanceMethod yX4_letterAt, Cond.selects RX4 yX4_letterAt yX4_letterAt, Cond.code yX4_letterAt cX4_letterAt 2 (some .int), Cond.fieldLink RX4 22 "SharedLine$Text" "length" "I"]
def wsX4_itemOfWord_r2 : List Cond := [Cond.fieldLink RX4 18 "SharedLine$Text" "letters" "[I", Cond.methodLink RX4 88 yJ0_charAt_5068e, Cond.instanceMethod yJ0_charAt_5068e, Cond.selects RJ0 yJ0_charAt_5068e yJ0_charAt_5068e, Cond.code yJ0_charAt_5068e cJ0_charAt_5068e 2 (some .char), Cond.methodLink RJ0 492 yJ0_isLatin1_aae02, Cond.instanceMethod yJ0_isLatin1_aae02, Cond.selects RJ0 yJ0_isLatin1_aae02 yJ0_isLatin1_aae02, Cond.code yJ0_isLatin1_aae02 cJ0_isLatin1_aae02 1 (some .boolean), Cond.methodLink RJ0 495 yJ1_charAt_3b067, Cond.static yJ1_charAt_3b067, Cond.initialized RJ1, Cond.code yJ1_charAt_3b067 cJ1_charAt_3b067 2 (some .char), Cond.methodLink RJ1 9 yJ0_checkIndex_df160, Cond.static yJ0_checkIndex_df160, Cond.code yJ0_checkIndex_df160 cJ0_checkIndex_df160 2 none, Cond.fieldLink RJ0 1053 "jdk/internal/util/Preconditions" "SIOOBE_FORMATTER" "Ljava/util/function/BiFunction;", Cond.methodLink RJ0 1059 yJ3_checkIndex_8e157, Cond.static yJ3_checkIndex_8e157, Cond.initialized RJ3, Cond.code yJ3_checkIndex_8e157 cJ3_checkIndex_8e157 3 (some .int), Cond.methodLink RJ0 498 yJ2_charAt_3b067, Cond.static yJ2_charAt_3b067, Cond.initialized RJ2]
def wsX4_itemOfWord_r3 : List Cond := [Cond.code yJ2_charAt_3b067 cJ2_charAt_3b067 2 (some .char), Cond.methodLink RJ2 67 yJ2_checkIndex_2214a, Cond.static yJ2_checkIndex_2214a, Cond.code yJ2_checkIndex_2214a cJ2_checkIndex_2214a 2 none, Cond.methodLink RJ2 48 yJ2_length_9d52b, Cond.static yJ2_length_9d52b, Cond.code yJ2_length_9d52b cJ2_length_9d52b 1 (some .int), Cond.methodLink RJ2 414 yJ0_checkIndex_df160, Cond.methodLink RJ2 71 yJ2_getChar_3b067, Cond.static yJ2_getChar_3b067, Cond.code yJ2_getChar_3b067 cJ2_getChar_3b067 2 (some .char), Cond.fieldLink RJ2 44 "java/lang/StringUTF16" "$assertionsDisabled" "Z", Cond.fieldLink RJ2 59 "java/lang/StringUTF16" "HI_BYTE_SHIFT" "I", Cond.fieldLink RJ2 63 "java/lang/StringUTF16" "LO_BYTE_SHIFT" "I"]
def wsX4_itemOfWord : List Cond := .code yX4_itemOfWord cX4_itemOfWord 1 (some .int) :: ((wsX4_itemOfWord_r1 ++ (wsX4_itemOfWord_r2 ++ wsX4_itemOfWord_r3)) ++ wsX40)
def wsX4_mayBegin : List Cond := .code yX4_mayBegin cX4_mayBegin 2 (some .boolean) :: ([.fieldLink RX4 29 "SharedLine$Text" "lineTold" "Z", .fieldLink RX4 33 "SharedLine$Text" "handsTold" "Z"] ++ wsX40)
def wsX4_figureAt : List Cond := .code yX4_figureAt cX4_figureAt 2 (some .int) :: ([.methodLink RX4 67 yX4_letterAt, .instanceMethod yX4_letterAt, .selects RX4 yX4_letterAt yX4_letterAt, .initialized RX4, .code yX4_letterAt cX4_letterAt 2 (some .int), .fieldLink RX4 22 "SharedLine$Text" "length" "I", .fieldLink RX4 18 "SharedLine$Text" "letters" "[I"] ++ wsX40)
def wsX4_takeLine : List Cond := .code yX4_takeLine cX4_takeLine 3 (some .boolean) :: ([.fieldLink RX4 36 "SharedLine$Text" "end" "I", .fieldLink RX4 49 "SharedLine$Text" "start" "I", .fieldLink RX4 12 "SharedLine$Text" "draft" "LSharedLine$Line;", .fieldLink RX4 101 "SharedLine$Line" "ticks" "I", .fieldLink RX4 29 "SharedLine$Text" "lineTold" "Z", .methodLink RX4 104 yX4_figureAt, .instanceMethod yX4_figureAt, .selects RX4 yX4_figureAt yX4_figureAt, .initialized RX4, .code yX4_figureAt cX4_figureAt 2 (some .int), .methodLink RX4 67 yX4_letterAt, .instanceMethod yX4_letterAt, .selects RX4 yX4_letterAt yX4_letterAt, .code yX4_letterAt cX4_letterAt 2 (some .int), .fieldLink RX4 22 "SharedLine$Text" "length" "I", .fieldLink RX4 18 "SharedLine$Text" "letters" "[I", .methodLink RX4 107 yX0_setPitch, .instanceMethod yX0_setPitch, .selects RX0 yX0_setPitch yX0_setPitch, .initialized RX0, .code yX0_setPitch cX0_setPitch 3 none, .fieldLink RX0 9 "SharedLine$Line" "pitches" "[I", .fieldLink RX0 28 "SharedLine$Line" "notes" "I"] ++ wsX40 ++ wsX00)
def wsX5_isHand : List Cond := .code yX5_isHand cX5_isHand 1 (some .boolean) :: ([])
def wsX4_takeHands : List Cond := .code yX4_takeHands cX4_takeHands 3 (some .boolean) :: ([.fieldLink RX4 36 "SharedLine$Text" "end" "I", .fieldLink RX4 49 "SharedLine$Text" "start" "I", .fieldLink RX4 12 "SharedLine$Text" "draft" "LSharedLine$Line;", .fieldLink RX4 101 "SharedLine$Line" "ticks" "I", .fieldLink RX4 114 "SharedLine$Line" "hands" "I", .fieldLink RX4 116 "SharedLine$Line" "notes" "I", .fieldLink RX4 33 "SharedLine$Text" "handsTold" "Z", .methodLink RX4 104 yX4_figureAt, .instanceMethod yX4_figureAt, .selects RX4 yX4_figureAt yX4_figureAt, .initialized RX4, .code yX4_figureAt cX4_figureAt 2 (some .int), .methodLink RX4 67 yX4_letterAt, .instanceMethod yX4_letterAt, .selects RX4 yX4_letterAt yX4_letterAt, .code yX4_letterAt cX4_letterAt 2 (some .int), .fieldLink RX4 22 "SharedLine$Text" "length" "I", .fieldLink RX4 18 "SharedLine$Text" "letters" "[I", .static yX5_isHand, .initialized RX5, .code yX5_isHand cX5_isHand 1 (some .boolean)] ++ wsX40 ++ wsX00)
def wsX5_isNumber : List Cond := .code yX5_isNumber cX5_isNumber 2 (some .boolean) :: ([.fieldLink RX5 161 "SharedLine" "NUMBER_LEAST" "[I", .fieldLink RX5 157 "SharedLine" "NUMBER_MOST" "[I"])
def wsX4_takeNumber_r1 : List Cond := [Cond.fieldLink RX4 49 "SharedLine$Text" "start" "I", Cond.fieldLink RX4 36 "SharedLine$Text" "end" "I", Cond.fieldLink RX4 12 "SharedLine$Text" "draft" "LSharedLine$Line;", Cond.methodLink RX4 104 yX4_figureAt, Cond.instanceMethod yX4_figureAt, Cond.selects RX4 yX4_figureAt yX4_figureAt, Cond.initialized RX4, Cond.code yX4_figureAt cX4_figureAt 2 (some .int), Cond.methodLink RX4 67 yX4_letterAt, Cond.instanceMethod yX4_letterAt, Cond.selects RX4 yX4_letterAt yX4_letterAt, Cond.code yX4_letterAt cX4_letterAt 2 (some .int), Cond.fieldLink RX4 22 "SharedLine$Text" "length" "I", Cond.fieldLink RX4 18 "SharedLine$Text" "letters" "[I", Cond.static yX5_isNumber, Cond.initialized RX5, Cond.code yX5_isNumber cX5_isNumber 2 (some .boolean), Cond.fieldLink RX5 161 "SharedLine" "NUMBER_LEAST" "[I", Cond.fieldLink RX5 157 "SharedLine" "NUMBER_MOST" "[I", Cond.methodLink RX4 123 yX0_setNumber, Cond.instanceMethod yX0_setNumber, Cond.selects RX0 yX0_setNumber yX0_setNumber, Cond.initialized RX0, Cond.code yX0_setNumber cX0_setNumber 3 none]
def wsX4_takeNumber_r2 : List Cond := [Cond.fieldLink RX0 37 "SharedLine$Line" "wait" "I", Cond.fieldLink RX0 40 "SharedLine$Line" "reach" "I", Cond.fieldLink RX0 43 "SharedLine$Line" "bar" "I"]
def wsX4_takeNumber : List Cond := .code yX4_takeNumber cX4_takeNumber 3 (some .boolean) :: ((wsX4_takeNumber_r1 ++ wsX4_takeNumber_r2) ++ wsX40 ++ wsX00)
def wsX4_takeFigures_r1 : List Cond := [Cond.methodLink RX4 92 yX4_takeLine, Cond.instanceMethod yX4_takeLine, Cond.selects RX4 yX4_takeLine yX4_takeLine, Cond.initialized RX4, Cond.code yX4_takeLine cX4_takeLine 3 (some .boolean), Cond.fieldLink RX4 36 "SharedLine$Text" "end" "I", Cond.fieldLink RX4 49 "SharedLine$Text" "start" "I", Cond.fieldLink RX4 12 "SharedLine$Text" "draft" "LSharedLine$Line;", Cond.fieldLink RX4 101 "SharedLine$Line" "ticks" "I", Cond.fieldLink RX4 29 "SharedLine$Text" "lineTold" "Z", Cond.methodLink RX4 104 yX4_figureAt, Cond.instanceMethod yX4_figureAt, Cond.selects RX4 yX4_figureAt yX4_figureAt, Cond.code yX4_figureAt cX4_figureAt 2 (some .int), Cond.methodLink RX4 67 yX4_letterAt, Cond.instanceMethod yX4_letterAt, Cond.selects RX4 yX4_letterAt yX4_letterAt, Cond.code yX4_letterAt cX4_letterAt 2 (some .int), Cond.fieldLink RX4 22 "SharedLine$Text" "length" "I", Cond.fieldLink RX4 18 "SharedLine$Text" "letters" "[I", Cond.methodLink RX4 107 yX0_setPitch, Cond.instanceMethod yX0_setPitch, Cond.selects RX0 yX0_setPitch yX0_setPitch, Cond.initialized RX0]
def wsX4_takeFigures_r2 : List Cond := [Cond.code yX0_setPitch cX0_setPitch 3 none, Cond.fieldLink RX0 9 "SharedLine$Line" "pitches" "[I", Cond.fieldLink RX0 28 "SharedLine$Line" "notes" "I", Cond.methodLink RX4 95 yX4_takeHands, Cond.instanceMethod yX4_takeHands, Cond.selects RX4 yX4_takeHands yX4_takeHands, Cond.code yX4_takeHands cX4_takeHands 3 (some .boolean), Cond.fieldLink RX4 114 "SharedLine$Line" "hands" "I", Cond.fieldLink RX4 116 "SharedLine$Line" "notes" "I", Cond.fieldLink RX4 33 "SharedLine$Text" "handsTold" "Z", Cond.static yX5_isHand, Cond.initialized RX5, Cond.code yX5_isHand cX5_isHand 1 (some .boolean), Cond.methodLink RX4 98 yX4_takeNumber, Cond.instanceMethod yX4_takeNumber, Cond.selects RX4 yX4_takeNumber yX4_takeNumber, Cond.code yX4_takeNumber cX4_takeNumber 3 (some .boolean), Cond.static yX5_isNumber, Cond.code yX5_isNumber cX5_isNumber 2 (some .boolean), Cond.fieldLink RX5 161 "SharedLine" "NUMBER_LEAST" "[I", Cond.fieldLink RX5 157 "SharedLine" "NUMBER_MOST" "[I", Cond.methodLink RX4 123 yX0_setNumber, Cond.instanceMethod yX0_setNumber, Cond.selects RX0 yX0_setNumber yX0_setNumber]
def wsX4_takeFigures_r3 : List Cond := [Cond.code yX0_setNumber cX0_setNumber 3 none, Cond.fieldLink RX0 37 "SharedLine$Line" "wait" "I", Cond.fieldLink RX0 40 "SharedLine$Line" "reach" "I", Cond.fieldLink RX0 43 "SharedLine$Line" "bar" "I"]
def wsX4_takeFigures : List Cond := .code yX4_takeFigures cX4_takeFigures 2 (some .boolean) :: ((wsX4_takeFigures_r1 ++ (wsX4_takeFigures_r2 ++ wsX4_takeFigures_r3)) ++ wsX40 ++ wsX00)
def wsX4_readItem_r1 : List Cond := [Cond.fieldLink RX4 42 "SharedLine$Text" "kind" "I", Cond.methodLink RX4 52 yX4_itemOfWord, Cond.instanceMethod yX4_itemOfWord, Cond.selects RX4 yX4_itemOfWord yX4_itemOfWord, Cond.initialized RX4, Cond.code yX4_itemOfWord cX4_itemOfWord 1 (some .int), Cond.methodLink RX4 72 yX4_isWord, Cond.instanceMethod yX4_isWord, Cond.selects RX4 yX4_isWord yX4_isWord, Cond.code yX4_isWord cX4_isWord 3 (some .boolean), Cond.fieldLink RX4 36 "SharedLine$Text" "end" "I", Cond.fieldLink RX4 49 "SharedLine$Text" "start" "I", Cond.methodLink RX4 84 yJ0_length_8abf5, Cond.instanceMethod yJ0_length_8abf5, Cond.selects RJ0 yJ0_length_8abf5 yJ0_length_8abf5, Cond.initialized RJ0, Cond.code yJ0_length_8abf5 cJ0_length_8abf5 1 (some .int), Cond.fieldLink RJ0 9 "java/lang/String" "value" "[B", Cond.methodLink RJ0 335 yJ0_coder_7d493, Cond.instanceMethod yJ0_coder_7d493, Cond.selects RJ0 yJ0_coder_7d493 yJ0_coder_7d493, Cond.code yJ0_coder_7d493 cJ0_coder_7d493 1 (some .byte), Cond.fieldLink RJ0 38 "java/lang/String" "COMPACT_STRINGS" "Z", Cond.fieldLink RJ0 15 "java/lang/String" "coder" "B"]
def wsX4_readItem_r2 : List Cond := [Cond.methodLink RX4 67 yX4_letterAt, Cond.instanceMethod yX4_letterAt, Cond.selects RX4 yX4_letterAt yX4_letterAt, Cond.code yX4_letterAt cX4_letterAt 2 (some .int), Cond.fieldLink RX4 22 "SharedLine$Text" "length" "I", Cond.fieldLink RX4 18 "SharedLine$Text" "letters" "[I", Cond.methodLink RX4 88 yJ0_charAt_5068e, Cond.instanceMethod yJ0_charAt_5068e, Cond.selects RJ0 yJ0_charAt_5068e yJ0_charAt_5068e, Cond.code yJ0_charAt_5068e cJ0_charAt_5068e 2 (some .char), Cond.methodLink RJ0 492 yJ0_isLatin1_aae02, Cond.instanceMethod yJ0_isLatin1_aae02, Cond.selects RJ0 yJ0_isLatin1_aae02 yJ0_isLatin1_aae02, Cond.code yJ0_isLatin1_aae02 cJ0_isLatin1_aae02 1 (some .boolean), Cond.methodLink RJ0 495 yJ1_charAt_3b067, Cond.static yJ1_charAt_3b067, Cond.initialized RJ1, Cond.code yJ1_charAt_3b067 cJ1_charAt_3b067 2 (some .char), Cond.methodLink RJ1 9 yJ0_checkIndex_df160, Cond.static yJ0_checkIndex_df160, Cond.code yJ0_checkIndex_df160 cJ0_checkIndex_df160 2 none, Cond.fieldLink RJ0 1053 "jdk/internal/util/Preconditions" "SIOOBE_FORMATTER" "Ljava/util/function/BiFunction;", Cond.methodLink RJ0 1059 yJ3_checkIndex_8e157, Cond.static yJ3_checkIndex_8e157]
def wsX4_readItem_r3 : List Cond := [Cond.initialized RJ3, Cond.code yJ3_checkIndex_8e157 cJ3_checkIndex_8e157 3 (some .int), Cond.methodLink RJ0 498 yJ2_charAt_3b067, Cond.static yJ2_charAt_3b067, Cond.initialized RJ2, Cond.code yJ2_charAt_3b067 cJ2_charAt_3b067 2 (some .char), Cond.methodLink RJ2 67 yJ2_checkIndex_2214a, Cond.static yJ2_checkIndex_2214a, Cond.code yJ2_checkIndex_2214a cJ2_checkIndex_2214a 2 none, Cond.methodLink RJ2 48 yJ2_length_9d52b, Cond.static yJ2_length_9d52b, Cond.code yJ2_length_9d52b cJ2_length_9d52b 1 (some .int), Cond.methodLink RJ2 414 yJ0_checkIndex_df160, Cond.methodLink RJ2 71 yJ2_getChar_3b067, Cond.static yJ2_getChar_3b067, Cond.code yJ2_getChar_3b067 cJ2_getChar_3b067 2 (some .char), Cond.fieldLink RJ2 44 "java/lang/StringUTF16" "$assertionsDisabled" "Z", Cond.fieldLink RJ2 59 "java/lang/StringUTF16" "HI_BYTE_SHIFT" "I", Cond.fieldLink RJ2 63 "java/lang/StringUTF16" "LO_BYTE_SHIFT" "I", Cond.methodLink RX4 56 yX4_mayBegin, Cond.instanceMethod yX4_mayBegin, Cond.selects RX4 yX4_mayBegin yX4_mayBegin, Cond.code yX4_mayBegin cX4_mayBegin 2 (some .boolean), Cond.fieldLink RX4 29 "SharedLine$Text" "lineTold" "Z"]
def wsX4_readItem_r4 : List Cond := [Cond.fieldLink RX4 33 "SharedLine$Text" "handsTold" "Z", Cond.methodLink RX4 39 yX4_nextToken, Cond.instanceMethod yX4_nextToken, Cond.selects RX4 yX4_nextToken yX4_nextToken, Cond.code yX4_nextToken cX4_nextToken 2 none, Cond.methodLink RX4 63 yX4_kindAt, Cond.instanceMethod yX4_kindAt, Cond.selects RX4 yX4_kindAt yX4_kindAt, Cond.code yX4_kindAt cX4_kindAt 3 (some .int), Cond.methodLink RX4 60 yX4_takeFigures, Cond.instanceMethod yX4_takeFigures, Cond.selects RX4 yX4_takeFigures yX4_takeFigures, Cond.code yX4_takeFigures cX4_takeFigures 2 (some .boolean), Cond.methodLink RX4 92 yX4_takeLine, Cond.instanceMethod yX4_takeLine, Cond.selects RX4 yX4_takeLine yX4_takeLine, Cond.code yX4_takeLine cX4_takeLine 3 (some .boolean), Cond.fieldLink RX4 12 "SharedLine$Text" "draft" "LSharedLine$Line;", Cond.fieldLink RX4 101 "SharedLine$Line" "ticks" "I", Cond.methodLink RX4 104 yX4_figureAt, Cond.instanceMethod yX4_figureAt, Cond.selects RX4 yX4_figureAt yX4_figureAt, Cond.code yX4_figureAt cX4_figureAt 2 (some .int), Cond.methodLink RX4 107 yX0_setPitch]
def wsX4_readItem_r5 : List Cond := [Cond.instanceMethod yX0_setPitch, Cond.selects RX0 yX0_setPitch yX0_setPitch, Cond.initialized RX0, Cond.code yX0_setPitch cX0_setPitch 3 none, Cond.fieldLink RX0 9 "SharedLine$Line" "pitches" "[I", Cond.fieldLink RX0 28 "SharedLine$Line" "notes" "I", Cond.methodLink RX4 95 yX4_takeHands, Cond.instanceMethod yX4_takeHands, Cond.selects RX4 yX4_takeHands yX4_takeHands, Cond.code yX4_takeHands cX4_takeHands 3 (some .boolean), Cond.fieldLink RX4 114 "SharedLine$Line" "hands" "I", Cond.fieldLink RX4 116 "SharedLine$Line" "notes" "I", Cond.static yX5_isHand, Cond.initialized RX5, Cond.code yX5_isHand cX5_isHand 1 (some .boolean), Cond.methodLink RX4 98 yX4_takeNumber, Cond.instanceMethod yX4_takeNumber, Cond.selects RX4 yX4_takeNumber yX4_takeNumber, Cond.code yX4_takeNumber cX4_takeNumber 3 (some .boolean), Cond.static yX5_isNumber, Cond.code yX5_isNumber cX5_isNumber 2 (some .boolean), Cond.fieldLink RX5 161 "SharedLine" "NUMBER_LEAST" "[I", Cond.fieldLink RX5 157 "SharedLine" "NUMBER_MOST" "[I", Cond.methodLink RX4 123 yX0_setNumber]
def wsX4_readItem_r6 : List Cond := [Cond.instanceMethod yX0_setNumber, Cond.selects RX0 yX0_setNumber yX0_setNumber, Cond.code yX0_setNumber cX0_setNumber 3 none, Cond.fieldLink RX0 37 "SharedLine$Line" "wait" "I", Cond.fieldLink RX0 40 "SharedLine$Line" "reach" "I", Cond.fieldLink RX0 43 "SharedLine$Line" "bar" "I"]
def wsX4_readItem : List Cond := .code yX4_readItem cX4_readItem 2 (some .boolean) :: ((wsX4_readItem_r1 ++ (wsX4_readItem_r2 ++ (wsX4_readItem_r3 ++ (wsX4_readItem_r4 ++ (wsX4_readItem_r5 ++ wsX4_readItem_r6))))) ++ wsX40 ++ wsX00)
def wsX4_read_r1 : List Cond := [Cond.fieldLink RX4 12 "SharedLine$Text" "draft" "LSharedLine$Line;", Cond.fieldLink RX4 29 "SharedLine$Text" "lineTold" "Z", Cond.fieldLink RX4 33 "SharedLine$Text" "handsTold" "Z", Cond.fieldLink RX4 36 "SharedLine$Text" "end" "I", Cond.fieldLink RX4 42 "SharedLine$Text" "kind" "I", Cond.fieldLink RX4 49 "SharedLine$Text" "start" "I", Cond.methodLink RX4 26 yX0_makeNew, Cond.instanceMethod yX0_makeNew, Cond.selects RX0 yX0_makeNew yX0_makeNew, Cond.initialized RX0, Cond.code yX0_makeNew cX0_makeNew 1 none, Cond.fieldLink RX0 9 "SharedLine$Line" "pitches" "[I", Cond.fieldLink RX0 24 "SharedLine$Line" "ticks" "I", Cond.fieldLink RX0 28 "SharedLine$Line" "notes" "I", Cond.fieldLink RX0 31 "SharedLine$Line" "hands" "I", Cond.fieldLink RX0 37 "SharedLine$Line" "wait" "I", Cond.fieldLink RX0 40 "SharedLine$Line" "reach" "I", Cond.fieldLink RX0 43 "SharedLine$Line" "bar" "I", Cond.methodLink RX0 18 yJ7_fill_53178, Cond.static yJ7_fill_53178, Cond.initialized RJ7, Cond.code yJ7_fill_53178 cJ7_fill_53178 4 none, Cond.methodLink RX4 39 yX4_nextToken, Cond.instanceMethod yX4_nextToken]
def wsX4_read_r2 : List Cond := [Cond.selects RX4 yX4_nextToken yX4_nextToken, Cond.initialized RX4, Cond.code yX4_nextToken cX4_nextToken 2 none, Cond.fieldLink RX4 22 "SharedLine$Text" "length" "I", Cond.methodLink RX4 63 yX4_kindAt, Cond.instanceMethod yX4_kindAt, Cond.selects RX4 yX4_kindAt yX4_kindAt, Cond.code yX4_kindAt cX4_kindAt 3 (some .int), Cond.methodLink RX4 67 yX4_letterAt, Cond.instanceMethod yX4_letterAt, Cond.selects RX4 yX4_letterAt yX4_letterAt, Cond.code yX4_letterAt cX4_letterAt 2 (some .int), Cond.fieldLink RX4 18 "SharedLine$Text" "letters" "[I", Cond.methodLink RX4 45 yX4_readItem, Cond.instanceMethod yX4_readItem, Cond.selects RX4 yX4_readItem yX4_readItem, Cond.code yX4_readItem cX4_readItem 2 (some .boolean), Cond.methodLink RX4 52 yX4_itemOfWord, Cond.instanceMethod yX4_itemOfWord, Cond.selects RX4 yX4_itemOfWord yX4_itemOfWord, Cond.code yX4_itemOfWord cX4_itemOfWord 1 (some .int), Cond.methodLink RX4 72 yX4_isWord, Cond.instanceMethod yX4_isWord, Cond.selects RX4 yX4_isWord yX4_isWord]
def wsX4_read_r3 : List Cond := [Cond.code yX4_isWord cX4_isWord 3 (some .boolean), Cond.methodLink RX4 84 yJ0_length_8abf5, Cond.instanceMethod yJ0_length_8abf5, Cond.selects RJ0 yJ0_length_8abf5 yJ0_length_8abf5, Cond.initialized RJ0, Cond.code yJ0_length_8abf5 cJ0_length_8abf5 1 (some .int), Cond.fieldLink RJ0 9 "java/lang/String" "value" "[B", Cond.methodLink RJ0 335 yJ0_coder_7d493, Cond.instanceMethod yJ0_coder_7d493, Cond.selects RJ0 yJ0_coder_7d493 yJ0_coder_7d493, Cond.code yJ0_coder_7d493 cJ0_coder_7d493 1 (some .byte), Cond.fieldLink RJ0 38 "java/lang/String" "COMPACT_STRINGS" "Z", Cond.fieldLink RJ0 15 "java/lang/String" "coder" "B", Cond.methodLink RX4 88 yJ0_charAt_5068e, Cond.instanceMethod yJ0_charAt_5068e, Cond.selects RJ0 yJ0_charAt_5068e yJ0_charAt_5068e, Cond.code yJ0_charAt_5068e cJ0_charAt_5068e 2 (some .char), Cond.methodLink RJ0 492 yJ0_isLatin1_aae02, Cond.instanceMethod yJ0_isLatin1_aae02, Cond.selects RJ0 yJ0_isLatin1_aae02 yJ0_isLatin1_aae02, Cond.code yJ0_isLatin1_aae02 cJ0_isLatin1_aae02 1 (some .boolean), Cond.methodLink RJ0 495 yJ1_charAt_3b067, Cond.static yJ1_charAt_3b067, Cond.initialized RJ1]
def wsX4_read_r4 : List Cond := [Cond.code yJ1_charAt_3b067 cJ1_charAt_3b067 2 (some .char), Cond.methodLink RJ1 9 yJ0_checkIndex_df160, Cond.static yJ0_checkIndex_df160, Cond.code yJ0_checkIndex_df160 cJ0_checkIndex_df160 2 none, Cond.fieldLink RJ0 1053 "jdk/internal/util/Preconditions" "SIOOBE_FORMATTER" "Ljava/util/function/BiFunction;", Cond.methodLink RJ0 1059 yJ3_checkIndex_8e157, Cond.static yJ3_checkIndex_8e157, Cond.initialized RJ3, Cond.code yJ3_checkIndex_8e157 cJ3_checkIndex_8e157 3 (some .int), Cond.methodLink RJ0 498 yJ2_charAt_3b067, Cond.static yJ2_charAt_3b067, Cond.initialized RJ2, Cond.code yJ2_charAt_3b067 cJ2_charAt_3b067 2 (some .char), Cond.methodLink RJ2 67 yJ2_checkIndex_2214a, Cond.static yJ2_checkIndex_2214a, Cond.code yJ2_checkIndex_2214a cJ2_checkIndex_2214a 2 none, Cond.methodLink RJ2 48 yJ2_length_9d52b, Cond.static yJ2_length_9d52b, Cond.code yJ2_length_9d52b cJ2_length_9d52b 1 (some .int), Cond.methodLink RJ2 414 yJ0_checkIndex_df160, Cond.methodLink RJ2 71 yJ2_getChar_3b067, Cond.static yJ2_getChar_3b067, Cond.code yJ2_getChar_3b067 cJ2_getChar_3b067 2 (some .char), Cond.fieldLink RJ2 44 "java/lang/StringUTF16" "$assertionsDisabled" "Z"]
def wsX4_read_r5 : List Cond := [Cond.fieldLink RJ2 59 "java/lang/StringUTF16" "HI_BYTE_SHIFT" "I", Cond.fieldLink RJ2 63 "java/lang/StringUTF16" "LO_BYTE_SHIFT" "I", Cond.methodLink RX4 56 yX4_mayBegin, Cond.instanceMethod yX4_mayBegin, Cond.selects RX4 yX4_mayBegin yX4_mayBegin, Cond.code yX4_mayBegin cX4_mayBegin 2 (some .boolean), Cond.methodLink RX4 60 yX4_takeFigures, Cond.instanceMethod yX4_takeFigures, Cond.selects RX4 yX4_takeFigures yX4_takeFigures, Cond.code yX4_takeFigures cX4_takeFigures 2 (some .boolean), Cond.methodLink RX4 92 yX4_takeLine, Cond.instanceMethod yX4_takeLine, Cond.selects RX4 yX4_takeLine yX4_takeLine, Cond.code yX4_takeLine cX4_takeLine 3 (some .boolean), Cond.fieldLink RX4 101 "SharedLine$Line" "ticks" "I", Cond.methodLink RX4 104 yX4_figureAt, Cond.instanceMethod yX4_figureAt, Cond.selects RX4 yX4_figureAt yX4_figureAt, Cond.code yX4_figureAt cX4_figureAt 2 (some .int), Cond.methodLink RX4 107 yX0_setPitch, Cond.instanceMethod yX0_setPitch, Cond.selects RX0 yX0_setPitch yX0_setPitch, Cond.code yX0_setPitch cX0_setPitch 3 none, Cond.methodLink RX4 95 yX4_takeHands]
def wsX4_read_r6 : List Cond := [Cond.instanceMethod yX4_takeHands, Cond.selects RX4 yX4_takeHands yX4_takeHands, Cond.code yX4_takeHands cX4_takeHands 3 (some .boolean), Cond.fieldLink RX4 114 "SharedLine$Line" "hands" "I", Cond.fieldLink RX4 116 "SharedLine$Line" "notes" "I", Cond.static yX5_isHand, Cond.initialized RX5, Cond.code yX5_isHand cX5_isHand 1 (some .boolean), Cond.methodLink RX4 98 yX4_takeNumber, Cond.instanceMethod yX4_takeNumber, Cond.selects RX4 yX4_takeNumber yX4_takeNumber, Cond.code yX4_takeNumber cX4_takeNumber 3 (some .boolean), Cond.static yX5_isNumber, Cond.code yX5_isNumber cX5_isNumber 2 (some .boolean), Cond.fieldLink RX5 161 "SharedLine" "NUMBER_LEAST" "[I", Cond.fieldLink RX5 157 "SharedLine" "NUMBER_MOST" "[I", Cond.methodLink RX4 123 yX0_setNumber, Cond.instanceMethod yX0_setNumber, Cond.selects RX0 yX0_setNumber yX0_setNumber, Cond.code yX0_setNumber cX0_setNumber 3 none]
def wsX4_read : List Cond := .code yX4_read cX4_read 2 (some .int) :: ((wsX4_read_r1 ++ (wsX4_read_r2 ++ (wsX4_read_r3 ++ (wsX4_read_r4 ++ (wsX4_read_r5 ++ wsX4_read_r6))))) ++ wsX40 ++ wsX00)
def wsX5_init_r1 : List Cond := [Cond.methodLink RX5 1 objectInit, Cond.instanceMethod objectInit, Cond.code objectInit ⟨#[0xb1]⟩ 1 none, Cond.classLink RX5 7 RX0, Cond.instantiable RX0 7, Cond.initialized RX0, Cond.fieldLink RX5 10 "SharedLine" "now" "LSharedLine$Line;", Cond.classLink RX5 16 RX4, Cond.instantiable RX4 8, Cond.initialized RX4, Cond.fieldLink RX5 19 "SharedLine" "text" "LSharedLine$Text;", Cond.classLink RX5 23 RX1, Cond.instantiable RX1 2, Cond.initialized RX1, Cond.fieldLink RX5 26 "SharedLine" "past" "LSharedLine$Past;", Cond.classLink RX5 30 RX2, Cond.instantiable RX2 4, Cond.initialized RX2, Cond.fieldLink RX5 33 "SharedLine" "search" "LSharedLine$Search;", Cond.classLink RX5 37 RX3, Cond.instantiable RX3 3, Cond.initialized RX3, Cond.fieldLink RX5 40 "SharedLine" "tableSet" "LSharedLine$TableSet;", Cond.fieldLink RX5 44 "SharedLine" "images" "[LSharedLine$Line;"]
def wsX5_init_r2 : List Cond := [Cond.methodLink RX5 9 yX0_init, Cond.instanceMethod yX0_init, Cond.code yX0_init cX0_init 1 none, Cond.methodLink RX0 3 objectInit, Cond.arrayClass .int, Cond.fieldLink RX0 9 "SharedLine$Line" "pitches" "[I", Cond.methodLink RX0 15 yX0_makeNew, Cond.instanceMethod yX0_makeNew, Cond.selects RX0 yX0_makeNew yX0_makeNew, Cond.code yX0_makeNew cX0_makeNew 1 none, Cond.fieldLink RX0 24 "SharedLine$Line" "ticks" "I", Cond.fieldLink RX0 28 "SharedLine$Line" "notes" "I", Cond.fieldLink RX0 31 "SharedLine$Line" "hands" "I", Cond.fieldLink RX0 37 "SharedLine$Line" "wait" "I", Cond.fieldLink RX0 40 "SharedLine$Line" "reach" "I", Cond.fieldLink RX0 43 "SharedLine$Line" "bar" "I", Cond.methodLink RX0 18 yJ7_fill_53178, Cond.static yJ7_fill_53178, Cond.initialized RJ7, Cond.code yJ7_fill_53178 cJ7_fill_53178 4 none, Cond.instanceMethod yX4_init, Cond.code yX4_init cX4_init 1 none, Cond.methodLink RX4 3 objectInit, Cond.classLink RX4 9 RX0]
def wsX5_init_r3 : List Cond := [Cond.fieldLink RX4 12 "SharedLine$Text" "draft" "LSharedLine$Line;", Cond.fieldLink RX4 18 "SharedLine$Text" "letters" "[I", Cond.methodLink RX4 11 yX0_init, Cond.methodLink RX5 25 yX1_init, Cond.instanceMethod yX1_init, Cond.code yX1_init cX1_init 2 none, Cond.methodLink RX1 3 objectInit, Cond.classLink RX1 9 RX0, Cond.fieldLink RX1 11 "SharedLine$Past" "lines" "[LSharedLine$Line;", Cond.methodLink RX1 17 yX0_init, Cond.instanceMethod yX2_init, Cond.code yX2_init cX2_init 1 none, Cond.methodLink RX2 3 objectInit, Cond.classLink RX2 9 RX0, Cond.fieldLink RX2 12 "SharedLine$Search" "line" "LSharedLine$Line;", Cond.methodLink RX2 11 yX0_init, Cond.instanceMethod yX3_init, Cond.code yX3_init cX3_init 1 none, Cond.methodLink RX3 3 objectInit, Cond.fieldLink RX3 9 "SharedLine$TableSet" "manyOfHand1" "[I"]
def wsX5_init : List Cond := .code yX5_init cX5_init 1 none :: ((wsX5_init_r1 ++ (wsX5_init_r2 ++ wsX5_init_r3)) ++ wsX00 ++ wsX50 ++ wsX40 ++ wsX10 ++ wsX20 ++ wsX30)
def wsX5_type : List Cond := .code yX5_type cX5_type 2 (some .int) :: ([.fieldLink RX5 19 "SharedLine" "text" "LSharedLine$Text;", .fieldLink RX5 52 "SharedLine$Text" "length" "I", .methodLink RX5 48 yX4_add, .instanceMethod yX4_add, .selects RX4 yX4_add yX4_add, .initialized RX4, .code yX4_add cX4_add 2 (some .boolean), .fieldLink RX4 22 "SharedLine$Text" "length" "I", .fieldLink RX4 18 "SharedLine$Text" "letters" "[I"] ++ wsX50 ++ wsX40)
def wsX5_clear : List Cond := .code yX5_clear cX5_clear 2 (some .int) :: ([.fieldLink RX5 19 "SharedLine" "text" "LSharedLine$Text;", .fieldLink RX5 52 "SharedLine$Text" "length" "I"] ++ wsX50 ++ wsX40)
def wsX5_tells_r1 : List Cond := [Cond.fieldLink RX5 19 "SharedLine" "text" "LSharedLine$Text;", Cond.fieldLink RX5 26 "SharedLine" "past" "LSharedLine$Past;", Cond.fieldLink RX5 10 "SharedLine" "now" "LSharedLine$Line;", Cond.fieldLink RX5 64 "SharedLine$Text" "draft" "LSharedLine$Line;", Cond.fieldLink RX5 52 "SharedLine$Text" "length" "I", Cond.methodLink RX5 56 yX4_read, Cond.instanceMethod yX4_read, Cond.selects RX4 yX4_read yX4_read, Cond.initialized RX4, Cond.code yX4_read cX4_read 2 (some .int), Cond.fieldLink RX4 12 "SharedLine$Text" "draft" "LSharedLine$Line;", Cond.fieldLink RX4 29 "SharedLine$Text" "lineTold" "Z", Cond.fieldLink RX4 33 "SharedLine$Text" "handsTold" "Z", Cond.fieldLink RX4 36 "SharedLine$Text" "end" "I", Cond.fieldLink RX4 42 "SharedLine$Text" "kind" "I", Cond.fieldLink RX4 49 "SharedLine$Text" "start" "I", Cond.methodLink RX4 26 yX0_makeNew, Cond.instanceMethod yX0_makeNew, Cond.selects RX0 yX0_makeNew yX0_makeNew, Cond.initialized RX0, Cond.code yX0_makeNew cX0_makeNew 1 none, Cond.fieldLink RX0 9 "SharedLine$Line" "pitches" "[I", Cond.fieldLink RX0 24 "SharedLine$Line" "ticks" "I", Cond.fieldLink RX0 28 "SharedLine$Line" "notes" "I"]
def wsX5_tells_r2 : List Cond := [Cond.fieldLink RX0 31 "SharedLine$Line" "hands" "I", Cond.fieldLink RX0 37 "SharedLine$Line" "wait" "I", Cond.fieldLink RX0 40 "SharedLine$Line" "reach" "I", Cond.fieldLink RX0 43 "SharedLine$Line" "bar" "I", Cond.methodLink RX0 18 yJ7_fill_53178, Cond.static yJ7_fill_53178, Cond.initialized RJ7, Cond.code yJ7_fill_53178 cJ7_fill_53178 4 none, Cond.methodLink RX4 39 yX4_nextToken, Cond.instanceMethod yX4_nextToken, Cond.selects RX4 yX4_nextToken yX4_nextToken, Cond.code yX4_nextToken cX4_nextToken 2 none, Cond.fieldLink RX4 22 "SharedLine$Text" "length" "I", Cond.methodLink RX4 63 yX4_kindAt, Cond.instanceMethod yX4_kindAt, Cond.selects RX4 yX4_kindAt yX4_kindAt, Cond.code yX4_kindAt cX4_kindAt 3 (some .int), Cond.methodLink RX4 67 yX4_letterAt, Cond.instanceMethod yX4_letterAt, Cond.selects RX4 yX4_letterAt yX4_letterAt, Cond.code yX4_letterAt cX4_letterAt 2 (some .int), Cond.fieldLink RX4 18 "SharedLine$Text" "letters" "[I", Cond.methodLink RX4 45 yX4_readItem, Cond.instanceMethod yX4_readItem]
def wsX5_tells_r3 : List Cond := [Cond.selects RX4 yX4_readItem yX4_readItem, Cond.code yX4_readItem cX4_readItem 2 (some .boolean), Cond.methodLink RX4 52 yX4_itemOfWord, Cond.instanceMethod yX4_itemOfWord, Cond.selects RX4 yX4_itemOfWord yX4_itemOfWord, Cond.code yX4_itemOfWord cX4_itemOfWord 1 (some .int), Cond.methodLink RX4 72 yX4_isWord, Cond.instanceMethod yX4_isWord, Cond.selects RX4 yX4_isWord yX4_isWord, Cond.code yX4_isWord cX4_isWord 3 (some .boolean), Cond.methodLink RX4 84 yJ0_length_8abf5, Cond.instanceMethod yJ0_length_8abf5, Cond.selects RJ0 yJ0_length_8abf5 yJ0_length_8abf5, Cond.initialized RJ0, Cond.code yJ0_length_8abf5 cJ0_length_8abf5 1 (some .int), Cond.fieldLink RJ0 9 "java/lang/String" "value" "[B", Cond.methodLink RJ0 335 yJ0_coder_7d493, Cond.instanceMethod yJ0_coder_7d493, Cond.selects RJ0 yJ0_coder_7d493 yJ0_coder_7d493, Cond.code yJ0_coder_7d493 cJ0_coder_7d493 1 (some .byte), Cond.fieldLink RJ0 38 "java/lang/String" "COMPACT_STRINGS" "Z", Cond.fieldLink RJ0 15 "java/lang/String" "coder" "B", Cond.methodLink RX4 88 yJ0_charAt_5068e, Cond.instanceMethod yJ0_charAt_5068e]
def wsX5_tells_r4 : List Cond := [Cond.selects RJ0 yJ0_charAt_5068e yJ0_charAt_5068e, Cond.code yJ0_charAt_5068e cJ0_charAt_5068e 2 (some .char), Cond.methodLink RJ0 492 yJ0_isLatin1_aae02, Cond.instanceMethod yJ0_isLatin1_aae02, Cond.selects RJ0 yJ0_isLatin1_aae02 yJ0_isLatin1_aae02, Cond.code yJ0_isLatin1_aae02 cJ0_isLatin1_aae02 1 (some .boolean), Cond.methodLink RJ0 495 yJ1_charAt_3b067, Cond.static yJ1_charAt_3b067, Cond.initialized RJ1, Cond.code yJ1_charAt_3b067 cJ1_charAt_3b067 2 (some .char), Cond.methodLink RJ1 9 yJ0_checkIndex_df160, Cond.static yJ0_checkIndex_df160, Cond.code yJ0_checkIndex_df160 cJ0_checkIndex_df160 2 none, Cond.fieldLink RJ0 1053 "jdk/internal/util/Preconditions" "SIOOBE_FORMATTER" "Ljava/util/function/BiFunction;", Cond.methodLink RJ0 1059 yJ3_checkIndex_8e157, Cond.static yJ3_checkIndex_8e157, Cond.initialized RJ3, Cond.code yJ3_checkIndex_8e157 cJ3_checkIndex_8e157 3 (some .int), Cond.methodLink RJ0 498 yJ2_charAt_3b067, Cond.static yJ2_charAt_3b067, Cond.initialized RJ2, Cond.code yJ2_charAt_3b067 cJ2_charAt_3b067 2 (some .char), Cond.methodLink RJ2 67 yJ2_checkIndex_2214a, Cond.static yJ2_checkIndex_2214a]
def wsX5_tells_r5 : List Cond := [Cond.code yJ2_checkIndex_2214a cJ2_checkIndex_2214a 2 none, Cond.methodLink RJ2 48 yJ2_length_9d52b, Cond.static yJ2_length_9d52b, Cond.code yJ2_length_9d52b cJ2_length_9d52b 1 (some .int), Cond.methodLink RJ2 414 yJ0_checkIndex_df160, Cond.methodLink RJ2 71 yJ2_getChar_3b067, Cond.static yJ2_getChar_3b067, Cond.code yJ2_getChar_3b067 cJ2_getChar_3b067 2 (some .char), Cond.fieldLink RJ2 44 "java/lang/StringUTF16" "$assertionsDisabled" "Z", Cond.fieldLink RJ2 59 "java/lang/StringUTF16" "HI_BYTE_SHIFT" "I", Cond.fieldLink RJ2 63 "java/lang/StringUTF16" "LO_BYTE_SHIFT" "I", Cond.methodLink RX4 56 yX4_mayBegin, Cond.instanceMethod yX4_mayBegin, Cond.selects RX4 yX4_mayBegin yX4_mayBegin, Cond.code yX4_mayBegin cX4_mayBegin 2 (some .boolean), Cond.methodLink RX4 60 yX4_takeFigures, Cond.instanceMethod yX4_takeFigures, Cond.selects RX4 yX4_takeFigures yX4_takeFigures, Cond.code yX4_takeFigures cX4_takeFigures 2 (some .boolean), Cond.methodLink RX4 92 yX4_takeLine, Cond.instanceMethod yX4_takeLine, Cond.selects RX4 yX4_takeLine yX4_takeLine, Cond.code yX4_takeLine cX4_takeLine 3 (some .boolean), Cond.fieldLink RX4 101 "SharedLine$Line" "ticks" "I"]
def wsX5_tells_r6 : List Cond := [Cond.methodLink RX4 104 yX4_figureAt, Cond.instanceMethod yX4_figureAt, Cond.selects RX4 yX4_figureAt yX4_figureAt, Cond.code yX4_figureAt cX4_figureAt 2 (some .int), Cond.methodLink RX4 107 yX0_setPitch, Cond.instanceMethod yX0_setPitch, Cond.selects RX0 yX0_setPitch yX0_setPitch, Cond.code yX0_setPitch cX0_setPitch 3 none, Cond.methodLink RX4 95 yX4_takeHands, Cond.instanceMethod yX4_takeHands, Cond.selects RX4 yX4_takeHands yX4_takeHands, Cond.code yX4_takeHands cX4_takeHands 3 (some .boolean), Cond.fieldLink RX4 114 "SharedLine$Line" "hands" "I", Cond.fieldLink RX4 116 "SharedLine$Line" "notes" "I", Cond.static yX5_isHand, Cond.initialized RX5, Cond.code yX5_isHand cX5_isHand 1 (some .boolean), Cond.methodLink RX4 98 yX4_takeNumber, Cond.instanceMethod yX4_takeNumber, Cond.selects RX4 yX4_takeNumber yX4_takeNumber, Cond.code yX4_takeNumber cX4_takeNumber 3 (some .boolean), Cond.static yX5_isNumber, Cond.code yX5_isNumber cX5_isNumber 2 (some .boolean), Cond.fieldLink RX5 161 "SharedLine" "NUMBER_LEAST" "[I"]
def wsX5_tells_r7 : List Cond := [Cond.fieldLink RX5 157 "SharedLine" "NUMBER_MOST" "[I", Cond.methodLink RX4 123 yX0_setNumber, Cond.instanceMethod yX0_setNumber, Cond.selects RX0 yX0_setNumber yX0_setNumber, Cond.code yX0_setNumber cX0_setNumber 3 none, Cond.methodLink RX5 60 yX1_remember, Cond.instanceMethod yX1_remember, Cond.selects RX1 yX1_remember yX1_remember, Cond.initialized RX1, Cond.code yX1_remember cX1_remember 2 none, Cond.fieldLink RX1 18 "SharedLine$Past" "size" "I", Cond.fieldLink RX1 11 "SharedLine$Past" "lines" "[LSharedLine$Line;", Cond.methodLink RX1 22 yX1_loseOldest, Cond.instanceMethod yX1_loseOldest, Cond.selects RX1 yX1_loseOldest yX1_loseOldest, Cond.code yX1_loseOldest cX1_loseOldest 3 none, Cond.methodLink RX1 25 yX0_copyFrom, Cond.instanceMethod yX0_copyFrom, Cond.selects RX0 yX0_copyFrom yX0_copyFrom, Cond.code yX0_copyFrom cX0_copyFrom 2 none, Cond.methodLink RX0 46 arraycopyName, Cond.native arraycopyName, Cond.static arraycopyName, Cond.initialized "java/lang/System"]
def wsX5_tells_r8 : List Cond := [Cond.methodLink RX5 67 yX0_copyFrom]
def wsX5_tells : List Cond := .code yX5_tells cX5_tells 2 (some .int) :: ((wsX5_tells_r1 ++ (wsX5_tells_r2 ++ (wsX5_tells_r3 ++ (wsX5_tells_r4 ++ (wsX5_tells_r5 ++ (wsX5_tells_r6 ++ (wsX5_tells_r7 ++ wsX5_tells_r8))))))) ++ wsX50 ++ wsX40 ++ wsX00 ++ wsX10)
def wsX5_gives_r1 : List Cond := [Cond.fieldLink RX5 10 "SharedLine" "now" "LSharedLine$Line;", Cond.fieldLink RX5 26 "SharedLine" "past" "LSharedLine$Past;", Cond.fieldLink RX5 80 "SharedLine$Line" "hands" "I", Cond.methodLink RX5 70 yX0_hasNote, Cond.instanceMethod yX0_hasNote, Cond.selects RX0 yX0_hasNote yX0_hasNote, Cond.initialized RX0, Cond.code yX0_hasNote cX0_hasNote 2 (some .boolean), Cond.fieldLink RX0 24 "SharedLine$Line" "ticks" "I", Cond.fieldLink RX0 28 "SharedLine$Line" "notes" "I", Cond.methodLink RX5 73 yX5_isHand, Cond.static yX5_isHand, Cond.initialized RX5, Cond.code yX5_isHand cX5_isHand 1 (some .boolean), Cond.methodLink RX5 76 yX0_handAt, Cond.instanceMethod yX0_handAt, Cond.selects RX0 yX0_handAt yX0_handAt, Cond.code yX0_handAt cX0_handAt 2 (some .int), Cond.fieldLink RX0 31 "SharedLine$Line" "hands" "I", Cond.methodLink RX5 60 yX1_remember, Cond.instanceMethod yX1_remember, Cond.selects RX1 yX1_remember yX1_remember, Cond.initialized RX1, Cond.code yX1_remember cX1_remember 2 none]
def wsX5_gives_r2 : List Cond := [Cond.fieldLink RX1 18 "SharedLine$Past" "size" "I", Cond.fieldLink RX1 11 "SharedLine$Past" "lines" "[LSharedLine$Line;", Cond.methodLink RX1 22 yX1_loseOldest, Cond.instanceMethod yX1_loseOldest, Cond.selects RX1 yX1_loseOldest yX1_loseOldest, Cond.code yX1_loseOldest cX1_loseOldest 3 none, Cond.methodLink RX1 25 yX0_copyFrom, Cond.instanceMethod yX0_copyFrom, Cond.selects RX0 yX0_copyFrom yX0_copyFrom, Cond.code yX0_copyFrom cX0_copyFrom 2 none, Cond.fieldLink RX0 9 "SharedLine$Line" "pitches" "[I", Cond.methodLink RX0 46 arraycopyName, Cond.native arraycopyName, Cond.static arraycopyName, Cond.initialized "java/lang/System", Cond.fieldLink RX0 37 "SharedLine$Line" "wait" "I", Cond.fieldLink RX0 40 "SharedLine$Line" "reach" "I", Cond.fieldLink RX0 43 "SharedLine$Line" "bar" "I", Cond.methodLink RX5 83 yX0_notesOf, Cond.instanceMethod yX0_notesOf, Cond.selects RX0 yX0_notesOf yX0_notesOf, Cond.code yX0_notesOf cX0_notesOf 2 (some .int), Cond.methodLink RX5 86 yJ6_bitCount_0f7a4, Cond.static yJ6_bitCount_0f7a4]
def wsX5_gives_r3 : List Cond := [Cond.initialized RJ6, Cond.code yJ6_bitCount_0f7a4 cJ6_bitCount_0f7a4 1 (some .int), Cond.constant RJ6 265 (1431655765), Cond.constant RJ6 266 (858993459), Cond.constant RJ6 267 (252645135)]
def wsX5_gives : List Cond := .code yX5_gives cX5_gives 3 (some .int) :: ((wsX5_gives_r1 ++ (wsX5_gives_r2 ++ wsX5_gives_r3)) ++ wsX50 ++ wsX00 ++ wsX10)
def wsX5_ticksFrom : List Cond := .code yX5_ticksFrom cX5_ticksFrom 2 (some .int) :: ([])
def wsX5_flips_r1 : List Cond := [Cond.fieldLink RX5 10 "SharedLine" "now" "LSharedLine$Line;", Cond.fieldLink RX5 94 "SharedLine$Line" "notes" "I", Cond.fieldLink RX5 26 "SharedLine" "past" "LSharedLine$Past;", Cond.fieldLink RX5 80 "SharedLine$Line" "hands" "I", Cond.methodLink RX5 91 yX0_hasTick, Cond.instanceMethod yX0_hasTick, Cond.selects RX0 yX0_hasTick yX0_hasTick, Cond.initialized RX0, Cond.code yX0_hasTick cX0_hasTick 2 (some .boolean), Cond.fieldLink RX0 24 "SharedLine$Line" "ticks" "I", Cond.methodLink RX5 97 yX5_ticksFrom, Cond.static yX5_ticksFrom, Cond.initialized RX5, Cond.code yX5_ticksFrom cX5_ticksFrom 2 (some .int), Cond.methodLink RX5 60 yX1_remember, Cond.instanceMethod yX1_remember, Cond.selects RX1 yX1_remember yX1_remember, Cond.initialized RX1, Cond.code yX1_remember cX1_remember 2 none, Cond.fieldLink RX1 18 "SharedLine$Past" "size" "I", Cond.fieldLink RX1 11 "SharedLine$Past" "lines" "[LSharedLine$Line;", Cond.methodLink RX1 22 yX1_loseOldest, Cond.instanceMethod yX1_loseOldest, Cond.selects RX1 yX1_loseOldest yX1_loseOldest]
def wsX5_flips_r2 : List Cond := [Cond.code yX1_loseOldest cX1_loseOldest 3 none, Cond.methodLink RX1 25 yX0_copyFrom, Cond.instanceMethod yX0_copyFrom, Cond.selects RX0 yX0_copyFrom yX0_copyFrom, Cond.code yX0_copyFrom cX0_copyFrom 2 none, Cond.fieldLink RX0 9 "SharedLine$Line" "pitches" "[I", Cond.methodLink RX0 46 arraycopyName, Cond.native arraycopyName, Cond.static arraycopyName, Cond.initialized "java/lang/System", Cond.fieldLink RX0 28 "SharedLine$Line" "notes" "I", Cond.fieldLink RX0 31 "SharedLine$Line" "hands" "I", Cond.fieldLink RX0 37 "SharedLine$Line" "wait" "I", Cond.fieldLink RX0 40 "SharedLine$Line" "reach" "I", Cond.fieldLink RX0 43 "SharedLine$Line" "bar" "I", Cond.methodLink RX5 86 yJ6_bitCount_0f7a4, Cond.static yJ6_bitCount_0f7a4, Cond.initialized RJ6, Cond.code yJ6_bitCount_0f7a4 cJ6_bitCount_0f7a4 1 (some .int), Cond.constant RJ6 265 (1431655765), Cond.constant RJ6 266 (858993459), Cond.constant RJ6 267 (252645135)]
def wsX5_flips : List Cond := .code yX5_flips cX5_flips 4 (some .int) :: ((wsX5_flips_r1 ++ wsX5_flips_r2) ++ wsX50 ++ wsX00 ++ wsX10)
def wsX5_mendingChanges_r1 : List Cond := [Cond.fieldLink RX5 33 "SharedLine" "search" "LSharedLine$Search;", Cond.fieldLink RX5 10 "SharedLine" "now" "LSharedLine$Line;", Cond.fieldLink RX5 104 "SharedLine$Search" "found" "I", Cond.fieldLink RX5 80 "SharedLine$Line" "hands" "I", Cond.methodLink RX5 150 yX2_lookAt, Cond.instanceMethod yX2_lookAt, Cond.selects RX2 yX2_lookAt yX2_lookAt, Cond.initialized RX2, Cond.code yX2_lookAt cX2_lookAt 2 none, Cond.fieldLink RX2 12 "SharedLine$Search" "line" "LSharedLine$Line;", Cond.methodLink RX2 18 yX0_copyFrom, Cond.instanceMethod yX0_copyFrom, Cond.selects RX0 yX0_copyFrom yX0_copyFrom, Cond.initialized RX0, Cond.code yX0_copyFrom cX0_copyFrom 2 none, Cond.fieldLink RX0 9 "SharedLine$Line" "pitches" "[I", Cond.methodLink RX0 46 arraycopyName, Cond.native arraycopyName, Cond.static arraycopyName, Cond.initialized "java/lang/System", Cond.fieldLink RX0 24 "SharedLine$Line" "ticks" "I", Cond.fieldLink RX0 28 "SharedLine$Line" "notes" "I", Cond.fieldLink RX0 31 "SharedLine$Line" "hands" "I", Cond.fieldLink RX0 37 "SharedLine$Line" "wait" "I"]
def wsX5_mendingChanges_r2 : List Cond := [Cond.fieldLink RX0 40 "SharedLine$Line" "reach" "I", Cond.fieldLink RX0 43 "SharedLine$Line" "bar" "I", Cond.methodLink RX5 153 yX2_find, Cond.instanceMethod yX2_find, Cond.selects RX2 yX2_find yX2_find, Cond.code yX2_find cX2_find 2 (some .boolean), Cond.fieldLink RX2 22 "SharedLine$Search" "goal" "I", Cond.fieldLink RX2 26 "SharedLine$Search" "found" "I", Cond.constant RX2 29 (1000000), Cond.fieldLink RX2 30 "SharedLine$Search" "leastCost" "I", Cond.methodLink RX2 33 yX2_goOn, Cond.instanceMethod yX2_goOn, Cond.selects RX2 yX2_goOn yX2_goOn, Cond.code yX2_goOn cX2_goOn 7 none, Cond.fieldLink RX2 37 "SharedLine$Line" "ticks" "I", Cond.methodLink RX2 40 yX2_weigh, Cond.instanceMethod yX2_weigh, Cond.selects RX2 yX2_weigh yX2_weigh, Cond.code yX2_weigh cX2_weigh 4 none, Cond.methodLink RX2 69 Lib.Math.abs.name, Cond.static Lib.Math.abs.name, Cond.initialized "java/lang/Math", Cond.code Lib.Math.abs.name Lib.Math.abs.code 1 (some .int), Cond.methodLink RX2 65 yX0_tilt]
def wsX5_mendingChanges_r3 : List Cond := [Cond.instanceMethod yX0_tilt, Cond.selects RX0 yX0_tilt yX0_tilt, Cond.code yX0_tilt cX0_tilt 2 (some .int), Cond.methodLink RX0 87 yJ6_bitCount_0f7a4, Cond.static yJ6_bitCount_0f7a4, Cond.initialized RJ6, Cond.code yJ6_bitCount_0f7a4 cJ6_bitCount_0f7a4 1 (some .int), Cond.constant RJ6 265 (1431655765), Cond.constant RJ6 266 (858993459), Cond.constant RJ6 267 (252645135), Cond.methodLink RX2 44 yX0_hasNote, Cond.instanceMethod yX0_hasNote, Cond.selects RX0 yX0_hasNote yX0_hasNote, Cond.code yX0_hasNote cX0_hasNote 2 (some .boolean), Cond.methodLink RX2 48 yX0_mayStrike, Cond.instanceMethod yX0_mayStrike, Cond.selects RX0 yX0_mayStrike yX0_mayStrike, Cond.code yX0_mayStrike cX0_mayStrike 3 (some .boolean), Cond.methodLink RX0 61 yX0_isTooSoon, Cond.instanceMethod yX0_isTooSoon, Cond.selects RX0 yX0_isTooSoon yX0_isTooSoon, Cond.code yX0_isTooSoon cX0_isTooSoon 3 (some .boolean), Cond.methodLink RX0 65 yX0_isTooFar, Cond.instanceMethod yX0_isTooFar]
def wsX5_mendingChanges_r4 : List Cond := [Cond.selects RX0 yX0_isTooFar yX0_isTooFar, Cond.code yX0_isTooFar cX0_isTooFar 3 (some .boolean), Cond.methodLink RX0 56 Lib.Math.abs.name, Cond.methodLink RX0 52 yX0_pitchAt, Cond.instanceMethod yX0_pitchAt, Cond.selects RX0 yX0_pitchAt yX0_pitchAt, Cond.code yX0_pitchAt cX0_pitchAt 2 (some .int), Cond.methodLink RX2 52 yX2_costAt, Cond.instanceMethod yX2_costAt, Cond.selects RX2 yX2_costAt yX2_costAt, Cond.code yX2_costAt cX2_costAt 3 (some .int), Cond.fieldLink RX2 59 "SharedLine$Line" "hands" "I", Cond.methodLink RX2 56 yX2_isUnlike, Cond.instanceMethod yX2_isUnlike, Cond.selects RX2 yX2_isUnlike yX2_isUnlike, Cond.code yX2_isUnlike cX2_isUnlike 4 (some .boolean), Cond.fieldLink RX2 62 "SharedLine$Line" "bar" "I", Cond.methodLink RX5 86 yJ6_bitCount_0f7a4]
def wsX5_mendingChanges : List Cond := .code yX5_mendingChanges cX5_mendingChanges 1 (some .int) :: ((wsX5_mendingChanges_r1 ++ (wsX5_mendingChanges_r2 ++ (wsX5_mendingChanges_r3 ++ wsX5_mendingChanges_r4))) ++ wsX50 ++ wsX20 ++ wsX00)
def wsX5_mends_r1 : List Cond := [Cond.fieldLink RX5 26 "SharedLine" "past" "LSharedLine$Past;", Cond.fieldLink RX5 10 "SharedLine" "now" "LSharedLine$Line;", Cond.fieldLink RX5 33 "SharedLine" "search" "LSharedLine$Search;", Cond.fieldLink RX5 104 "SharedLine$Search" "found" "I", Cond.fieldLink RX5 80 "SharedLine$Line" "hands" "I", Cond.methodLink RX5 101 yX5_mendingChanges, Cond.instanceMethod yX5_mendingChanges, Cond.selects RX5 yX5_mendingChanges yX5_mendingChanges, Cond.initialized RX5, Cond.code yX5_mendingChanges cX5_mendingChanges 1 (some .int), Cond.methodLink RX5 150 yX2_lookAt, Cond.instanceMethod yX2_lookAt, Cond.selects RX2 yX2_lookAt yX2_lookAt, Cond.initialized RX2, Cond.code yX2_lookAt cX2_lookAt 2 none, Cond.fieldLink RX2 12 "SharedLine$Search" "line" "LSharedLine$Line;", Cond.methodLink RX2 18 yX0_copyFrom, Cond.instanceMethod yX0_copyFrom, Cond.selects RX0 yX0_copyFrom yX0_copyFrom, Cond.initialized RX0, Cond.code yX0_copyFrom cX0_copyFrom 2 none, Cond.fieldLink RX0 9 "SharedLine$Line" "pitches" "[I", Cond.methodLink RX0 46 arraycopyName, Cond.native arraycopyName]
def wsX5_mends_r2 : List Cond := [Cond.static arraycopyName, Cond.initialized "java/lang/System", Cond.fieldLink RX0 24 "SharedLine$Line" "ticks" "I", Cond.fieldLink RX0 28 "SharedLine$Line" "notes" "I", Cond.fieldLink RX0 31 "SharedLine$Line" "hands" "I", Cond.fieldLink RX0 37 "SharedLine$Line" "wait" "I", Cond.fieldLink RX0 40 "SharedLine$Line" "reach" "I", Cond.fieldLink RX0 43 "SharedLine$Line" "bar" "I", Cond.methodLink RX5 153 yX2_find, Cond.instanceMethod yX2_find, Cond.selects RX2 yX2_find yX2_find, Cond.code yX2_find cX2_find 2 (some .boolean), Cond.fieldLink RX2 22 "SharedLine$Search" "goal" "I", Cond.fieldLink RX2 26 "SharedLine$Search" "found" "I", Cond.constant RX2 29 (1000000), Cond.fieldLink RX2 30 "SharedLine$Search" "leastCost" "I", Cond.methodLink RX2 33 yX2_goOn, Cond.instanceMethod yX2_goOn, Cond.selects RX2 yX2_goOn yX2_goOn, Cond.code yX2_goOn cX2_goOn 7 none, Cond.fieldLink RX2 37 "SharedLine$Line" "ticks" "I", Cond.methodLink RX2 40 yX2_weigh, Cond.instanceMethod yX2_weigh, Cond.selects RX2 yX2_weigh yX2_weigh]
def wsX5_mends_r3 : List Cond := [Cond.code yX2_weigh cX2_weigh 4 none, Cond.methodLink RX2 69 Lib.Math.abs.name, Cond.static Lib.Math.abs.name, Cond.initialized "java/lang/Math", Cond.code Lib.Math.abs.name Lib.Math.abs.code 1 (some .int), Cond.methodLink RX2 65 yX0_tilt, Cond.instanceMethod yX0_tilt, Cond.selects RX0 yX0_tilt yX0_tilt, Cond.code yX0_tilt cX0_tilt 2 (some .int), Cond.methodLink RX0 87 yJ6_bitCount_0f7a4, Cond.static yJ6_bitCount_0f7a4, Cond.initialized RJ6, Cond.code yJ6_bitCount_0f7a4 cJ6_bitCount_0f7a4 1 (some .int), Cond.constant RJ6 265 (1431655765), Cond.constant RJ6 266 (858993459), Cond.constant RJ6 267 (252645135), Cond.methodLink RX2 44 yX0_hasNote, Cond.instanceMethod yX0_hasNote, Cond.selects RX0 yX0_hasNote yX0_hasNote, Cond.code yX0_hasNote cX0_hasNote 2 (some .boolean), Cond.methodLink RX2 48 yX0_mayStrike, Cond.instanceMethod yX0_mayStrike, Cond.selects RX0 yX0_mayStrike yX0_mayStrike, Cond.code yX0_mayStrike cX0_mayStrike 3 (some .boolean)]
def wsX5_mends_r4 : List Cond := [Cond.methodLink RX0 61 yX0_isTooSoon, Cond.instanceMethod yX0_isTooSoon, Cond.selects RX0 yX0_isTooSoon yX0_isTooSoon, Cond.code yX0_isTooSoon cX0_isTooSoon 3 (some .boolean), Cond.methodLink RX0 65 yX0_isTooFar, Cond.instanceMethod yX0_isTooFar, Cond.selects RX0 yX0_isTooFar yX0_isTooFar, Cond.code yX0_isTooFar cX0_isTooFar 3 (some .boolean), Cond.methodLink RX0 56 Lib.Math.abs.name, Cond.methodLink RX0 52 yX0_pitchAt, Cond.instanceMethod yX0_pitchAt, Cond.selects RX0 yX0_pitchAt yX0_pitchAt, Cond.code yX0_pitchAt cX0_pitchAt 2 (some .int), Cond.methodLink RX2 52 yX2_costAt, Cond.instanceMethod yX2_costAt, Cond.selects RX2 yX2_costAt yX2_costAt, Cond.code yX2_costAt cX2_costAt 3 (some .int), Cond.fieldLink RX2 59 "SharedLine$Line" "hands" "I", Cond.methodLink RX2 56 yX2_isUnlike, Cond.instanceMethod yX2_isUnlike, Cond.selects RX2 yX2_isUnlike yX2_isUnlike, Cond.code yX2_isUnlike cX2_isUnlike 4 (some .boolean), Cond.fieldLink RX2 62 "SharedLine$Line" "bar" "I", Cond.methodLink RX5 86 yJ6_bitCount_0f7a4]
def wsX5_mends_r5 : List Cond := [Cond.methodLink RX5 60 yX1_remember, Cond.instanceMethod yX1_remember, Cond.selects RX1 yX1_remember yX1_remember, Cond.initialized RX1, Cond.code yX1_remember cX1_remember 2 none, Cond.fieldLink RX1 18 "SharedLine$Past" "size" "I", Cond.fieldLink RX1 11 "SharedLine$Past" "lines" "[LSharedLine$Line;", Cond.methodLink RX1 22 yX1_loseOldest, Cond.instanceMethod yX1_loseOldest, Cond.selects RX1 yX1_loseOldest yX1_loseOldest, Cond.code yX1_loseOldest cX1_loseOldest 3 none, Cond.methodLink RX1 25 yX0_copyFrom]
def wsX5_mends : List Cond := .code yX5_mends cX5_mends 2 (some .int) :: ((wsX5_mends_r1 ++ (wsX5_mends_r2 ++ (wsX5_mends_r3 ++ (wsX5_mends_r4 ++ wsX5_mends_r5)))) ++ wsX50 ++ wsX20 ++ wsX00 ++ wsX10)
def wsX5_sets_r1 : List Cond := [Cond.fieldLink RX5 10 "SharedLine" "now" "LSharedLine$Line;", Cond.fieldLink RX5 26 "SharedLine" "past" "LSharedLine$Past;", Cond.methodLink RX5 107 yX5_isNumber, Cond.static yX5_isNumber, Cond.initialized RX5, Cond.code yX5_isNumber cX5_isNumber 2 (some .boolean), Cond.fieldLink RX5 161 "SharedLine" "NUMBER_LEAST" "[I", Cond.fieldLink RX5 157 "SharedLine" "NUMBER_MOST" "[I", Cond.methodLink RX5 111 yX0_number, Cond.instanceMethod yX0_number, Cond.selects RX0 yX0_number yX0_number, Cond.initialized RX0, Cond.code yX0_number cX0_number 2 (some .int), Cond.fieldLink RX0 37 "SharedLine$Line" "wait" "I", Cond.fieldLink RX0 40 "SharedLine$Line" "reach" "I", Cond.fieldLink RX0 43 "SharedLine$Line" "bar" "I", Cond.methodLink RX5 60 yX1_remember, Cond.instanceMethod yX1_remember, Cond.selects RX1 yX1_remember yX1_remember, Cond.initialized RX1, Cond.code yX1_remember cX1_remember 2 none, Cond.fieldLink RX1 18 "SharedLine$Past" "size" "I", Cond.fieldLink RX1 11 "SharedLine$Past" "lines" "[LSharedLine$Line;", Cond.methodLink RX1 22 yX1_loseOldest]
def wsX5_sets_r2 : List Cond := [Cond.instanceMethod yX1_loseOldest, Cond.selects RX1 yX1_loseOldest yX1_loseOldest, Cond.code yX1_loseOldest cX1_loseOldest 3 none, Cond.methodLink RX1 25 yX0_copyFrom, Cond.instanceMethod yX0_copyFrom, Cond.selects RX0 yX0_copyFrom yX0_copyFrom, Cond.code yX0_copyFrom cX0_copyFrom 2 none, Cond.fieldLink RX0 9 "SharedLine$Line" "pitches" "[I", Cond.methodLink RX0 46 arraycopyName, Cond.native arraycopyName, Cond.static arraycopyName, Cond.initialized "java/lang/System", Cond.fieldLink RX0 24 "SharedLine$Line" "ticks" "I", Cond.fieldLink RX0 28 "SharedLine$Line" "notes" "I", Cond.fieldLink RX0 31 "SharedLine$Line" "hands" "I", Cond.methodLink RX5 114 yX0_setNumber, Cond.instanceMethod yX0_setNumber, Cond.selects RX0 yX0_setNumber yX0_setNumber, Cond.code yX0_setNumber cX0_setNumber 3 none]
def wsX5_sets : List Cond := .code yX5_sets cX5_sets 4 (some .int) :: ((wsX5_sets_r1 ++ wsX5_sets_r2) ++ wsX50 ++ wsX00 ++ wsX10)
def wsX5_undo_r1 : List Cond := [Cond.fieldLink RX5 26 "SharedLine" "past" "LSharedLine$Past;", Cond.fieldLink RX5 10 "SharedLine" "now" "LSharedLine$Line;", Cond.fieldLink RX5 122 "SharedLine$Past" "size" "I", Cond.methodLink RX5 118 yX1_recall, Cond.instanceMethod yX1_recall, Cond.selects RX1 yX1_recall yX1_recall, Cond.initialized RX1, Cond.code yX1_recall cX1_recall 2 (some .boolean), Cond.fieldLink RX1 18 "SharedLine$Past" "size" "I", Cond.fieldLink RX1 11 "SharedLine$Past" "lines" "[LSharedLine$Line;", Cond.methodLink RX1 25 yX0_copyFrom, Cond.instanceMethod yX0_copyFrom, Cond.selects RX0 yX0_copyFrom yX0_copyFrom, Cond.initialized RX0, Cond.code yX0_copyFrom cX0_copyFrom 2 none, Cond.fieldLink RX0 9 "SharedLine$Line" "pitches" "[I", Cond.methodLink RX0 46 arraycopyName, Cond.native arraycopyName, Cond.static arraycopyName, Cond.initialized "java/lang/System", Cond.fieldLink RX0 24 "SharedLine$Line" "ticks" "I", Cond.fieldLink RX0 28 "SharedLine$Line" "notes" "I", Cond.fieldLink RX0 31 "SharedLine$Line" "hands" "I", Cond.fieldLink RX0 37 "SharedLine$Line" "wait" "I"]
def wsX5_undo_r2 : List Cond := [Cond.fieldLink RX0 40 "SharedLine$Line" "reach" "I", Cond.fieldLink RX0 43 "SharedLine$Line" "bar" "I"]
def wsX5_undo : List Cond := .code yX5_undo cX5_undo 1 (some .int) :: ((wsX5_undo_r1 ++ wsX5_undo_r2) ++ wsX50 ++ wsX10 ++ wsX00)
def wsX5_tick_r1 : List Cond := [Cond.fieldLink RX5 10 "SharedLine" "now" "LSharedLine$Line;", Cond.methodLink RX5 91 yX0_hasTick, Cond.instanceMethod yX0_hasTick, Cond.selects RX0 yX0_hasTick yX0_hasTick, Cond.initialized RX0, Cond.code yX0_hasTick cX0_hasTick 2 (some .boolean), Cond.fieldLink RX0 24 "SharedLine$Line" "ticks" "I", Cond.methodLink RX5 125 yX0_pitchAt, Cond.instanceMethod yX0_pitchAt, Cond.selects RX0 yX0_pitchAt yX0_pitchAt, Cond.code yX0_pitchAt cX0_pitchAt 2 (some .int), Cond.fieldLink RX0 9 "SharedLine$Line" "pitches" "[I", Cond.methodLink RX5 70 yX0_hasNote, Cond.instanceMethod yX0_hasNote, Cond.selects RX0 yX0_hasNote yX0_hasNote, Cond.code yX0_hasNote cX0_hasNote 2 (some .boolean), Cond.fieldLink RX0 28 "SharedLine$Line" "notes" "I", Cond.methodLink RX5 76 yX0_handAt, Cond.instanceMethod yX0_handAt, Cond.selects RX0 yX0_handAt yX0_handAt, Cond.code yX0_handAt cX0_handAt 2 (some .int), Cond.fieldLink RX0 31 "SharedLine$Line" "hands" "I", Cond.methodLink RX5 128 yX0_isSoonBehind, Cond.instanceMethod yX0_isSoonBehind]
def wsX5_tick_r2 : List Cond := [Cond.selects RX0 yX0_isSoonBehind yX0_isSoonBehind, Cond.code yX0_isSoonBehind cX0_isSoonBehind 3 (some .boolean), Cond.methodLink RX0 68 yX0_nextOfHand, Cond.instanceMethod yX0_nextOfHand, Cond.selects RX0 yX0_nextOfHand yX0_nextOfHand, Cond.code yX0_nextOfHand cX0_nextOfHand 3 (some .int), Cond.methodLink RX0 71 yX0_hasNote, Cond.methodLink RX0 75 yX0_handAt, Cond.methodLink RX0 61 yX0_isTooSoon, Cond.instanceMethod yX0_isTooSoon, Cond.selects RX0 yX0_isTooSoon yX0_isTooSoon, Cond.code yX0_isTooSoon cX0_isTooSoon 3 (some .boolean), Cond.fieldLink RX0 37 "SharedLine$Line" "wait" "I", Cond.methodLink RX5 131 yX0_isFarBehind, Cond.instanceMethod yX0_isFarBehind, Cond.selects RX0 yX0_isFarBehind yX0_isFarBehind, Cond.code yX0_isFarBehind cX0_isFarBehind 3 (some .boolean), Cond.methodLink RX0 65 yX0_isTooFar, Cond.instanceMethod yX0_isTooFar, Cond.selects RX0 yX0_isTooFar yX0_isTooFar, Cond.code yX0_isTooFar cX0_isTooFar 3 (some .boolean), Cond.methodLink RX0 56 Lib.Math.abs.name, Cond.static Lib.Math.abs.name, Cond.initialized "java/lang/Math"]
def wsX5_tick_r3 : List Cond := [Cond.code Lib.Math.abs.name Lib.Math.abs.code 1 (some .int), Cond.fieldLink RX0 40 "SharedLine$Line" "reach" "I", Cond.methodLink RX0 52 yX0_pitchAt]
def wsX5_tick : List Cond := .code yX5_tick cX5_tick 3 (some .int) :: ((wsX5_tick_r1 ++ (wsX5_tick_r2 ++ wsX5_tick_r3)) ++ wsX50 ++ wsX00)
def wsX5_share_r1 : List Cond := [Cond.fieldLink RX5 10 "SharedLine" "now" "LSharedLine$Line;", Cond.fieldLink RX5 80 "SharedLine$Line" "hands" "I", Cond.constant RX5 149 (-1000000), Cond.methodLink RX5 134 yX0_countTooSoon, Cond.instanceMethod yX0_countTooSoon, Cond.selects RX0 yX0_countTooSoon yX0_countTooSoon, Cond.initialized RX0, Cond.code yX0_countTooSoon cX0_countTooSoon 3 (some .int), Cond.fieldLink RX0 24 "SharedLine$Line" "ticks" "I", Cond.methodLink RX0 78 yX0_isSoonBehind, Cond.instanceMethod yX0_isSoonBehind, Cond.selects RX0 yX0_isSoonBehind yX0_isSoonBehind, Cond.code yX0_isSoonBehind cX0_isSoonBehind 3 (some .boolean), Cond.methodLink RX0 68 yX0_nextOfHand, Cond.instanceMethod yX0_nextOfHand, Cond.selects RX0 yX0_nextOfHand yX0_nextOfHand, Cond.code yX0_nextOfHand cX0_nextOfHand 3 (some .int), Cond.methodLink RX0 71 yX0_hasNote, Cond.instanceMethod yX0_hasNote, Cond.selects RX0 yX0_hasNote yX0_hasNote, Cond.code yX0_hasNote cX0_hasNote 2 (some .boolean), Cond.fieldLink RX0 28 "SharedLine$Line" "notes" "I", Cond.methodLink RX0 75 yX0_handAt, Cond.instanceMethod yX0_handAt]
def wsX5_share_r2 : List Cond := [Cond.selects RX0 yX0_handAt yX0_handAt, Cond.code yX0_handAt cX0_handAt 2 (some .int), Cond.fieldLink RX0 31 "SharedLine$Line" "hands" "I", Cond.methodLink RX0 61 yX0_isTooSoon, Cond.instanceMethod yX0_isTooSoon, Cond.selects RX0 yX0_isTooSoon yX0_isTooSoon, Cond.code yX0_isTooSoon cX0_isTooSoon 3 (some .boolean), Cond.fieldLink RX0 37 "SharedLine$Line" "wait" "I", Cond.methodLink RX5 137 yX0_countTooFar, Cond.instanceMethod yX0_countTooFar, Cond.selects RX0 yX0_countTooFar yX0_countTooFar, Cond.code yX0_countTooFar cX0_countTooFar 3 (some .int), Cond.methodLink RX0 81 yX0_isFarBehind, Cond.instanceMethod yX0_isFarBehind, Cond.selects RX0 yX0_isFarBehind yX0_isFarBehind, Cond.code yX0_isFarBehind cX0_isFarBehind 3 (some .boolean), Cond.methodLink RX0 65 yX0_isTooFar, Cond.instanceMethod yX0_isTooFar, Cond.selects RX0 yX0_isTooFar yX0_isTooFar, Cond.code yX0_isTooFar cX0_isTooFar 3 (some .boolean), Cond.methodLink RX0 56 Lib.Math.abs.name, Cond.static Lib.Math.abs.name, Cond.initialized "java/lang/Math", Cond.code Lib.Math.abs.name Lib.Math.abs.code 1 (some .int)]
def wsX5_share_r3 : List Cond := [Cond.fieldLink RX0 40 "SharedLine$Line" "reach" "I", Cond.methodLink RX0 52 yX0_pitchAt, Cond.instanceMethod yX0_pitchAt, Cond.selects RX0 yX0_pitchAt yX0_pitchAt, Cond.code yX0_pitchAt cX0_pitchAt 2 (some .int), Cond.fieldLink RX0 9 "SharedLine$Line" "pitches" "[I", Cond.methodLink RX5 140 yX0_likeness, Cond.instanceMethod yX0_likeness, Cond.selects RX0 yX0_likeness yX0_likeness, Cond.code yX0_likeness cX0_likeness 3 (some .int), Cond.fieldLink RX0 43 "SharedLine$Line" "bar" "I", Cond.methodLink RX0 87 yJ6_bitCount_0f7a4, Cond.static yJ6_bitCount_0f7a4, Cond.initialized RJ6, Cond.code yJ6_bitCount_0f7a4 cJ6_bitCount_0f7a4 1 (some .int), Cond.constant RJ6 265 (1431655765), Cond.constant RJ6 266 (858993459), Cond.constant RJ6 267 (252645135), Cond.methodLink RX5 143 yX0_tilt, Cond.instanceMethod yX0_tilt, Cond.selects RX0 yX0_tilt yX0_tilt, Cond.code yX0_tilt cX0_tilt 2 (some .int), Cond.methodLink RX5 146 yX0_isLawful, Cond.instanceMethod yX0_isLawful]
def wsX5_share_r4 : List Cond := [Cond.selects RX0 yX0_isLawful yX0_isLawful, Cond.code yX0_isLawful cX0_isLawful 6 (some .boolean), Cond.methodLink RX0 84 yX0_mayStrike, Cond.instanceMethod yX0_mayStrike, Cond.selects RX0 yX0_mayStrike yX0_mayStrike, Cond.code yX0_mayStrike cX0_mayStrike 3 (some .boolean)]
def wsX5_share : List Cond := .code yX5_share cX5_share 2 (some .int) :: ((wsX5_share_r1 ++ (wsX5_share_r2 ++ (wsX5_share_r3 ++ wsX5_share_r4))) ++ wsX50 ++ wsX00)
def wsX5_best_r1 : List Cond := [Cond.constant RX5 149 (-1000000), Cond.fieldLink RX5 33 "SharedLine" "search" "LSharedLine$Search;", Cond.fieldLink RX5 10 "SharedLine" "now" "LSharedLine$Line;", Cond.constant RX5 156 (-2000000), Cond.fieldLink RX5 104 "SharedLine$Search" "found" "I", Cond.methodLink RX5 150 yX2_lookAt, Cond.instanceMethod yX2_lookAt, Cond.selects RX2 yX2_lookAt yX2_lookAt, Cond.initialized RX2, Cond.code yX2_lookAt cX2_lookAt 2 none, Cond.fieldLink RX2 12 "SharedLine$Search" "line" "LSharedLine$Line;", Cond.methodLink RX2 18 yX0_copyFrom, Cond.instanceMethod yX0_copyFrom, Cond.selects RX0 yX0_copyFrom yX0_copyFrom, Cond.initialized RX0, Cond.code yX0_copyFrom cX0_copyFrom 2 none, Cond.fieldLink RX0 9 "SharedLine$Line" "pitches" "[I", Cond.methodLink RX0 46 arraycopyName, Cond.native arraycopyName, Cond.static arraycopyName, Cond.initialized "java/lang/System", Cond.fieldLink RX0 24 "SharedLine$Line" "ticks" "I", Cond.fieldLink RX0 28 "SharedLine$Line" "notes" "I", Cond.fieldLink RX0 31 "SharedLine$Line" "hands" "I"]
def wsX5_best_r2 : List Cond := [Cond.fieldLink RX0 37 "SharedLine$Line" "wait" "I", Cond.fieldLink RX0 40 "SharedLine$Line" "reach" "I", Cond.fieldLink RX0 43 "SharedLine$Line" "bar" "I", Cond.methodLink RX5 153 yX2_find, Cond.instanceMethod yX2_find, Cond.selects RX2 yX2_find yX2_find, Cond.code yX2_find cX2_find 2 (some .boolean), Cond.fieldLink RX2 22 "SharedLine$Search" "goal" "I", Cond.fieldLink RX2 26 "SharedLine$Search" "found" "I", Cond.constant RX2 29 (1000000), Cond.fieldLink RX2 30 "SharedLine$Search" "leastCost" "I", Cond.methodLink RX2 33 yX2_goOn, Cond.instanceMethod yX2_goOn, Cond.selects RX2 yX2_goOn yX2_goOn, Cond.code yX2_goOn cX2_goOn 7 none, Cond.fieldLink RX2 37 "SharedLine$Line" "ticks" "I", Cond.methodLink RX2 40 yX2_weigh, Cond.instanceMethod yX2_weigh, Cond.selects RX2 yX2_weigh yX2_weigh, Cond.code yX2_weigh cX2_weigh 4 none, Cond.methodLink RX2 69 Lib.Math.abs.name, Cond.static Lib.Math.abs.name, Cond.initialized "java/lang/Math", Cond.code Lib.Math.abs.name Lib.Math.abs.code 1 (some .int)]
def wsX5_best_r3 : List Cond := [Cond.methodLink RX2 65 yX0_tilt, Cond.instanceMethod yX0_tilt, Cond.selects RX0 yX0_tilt yX0_tilt, Cond.code yX0_tilt cX0_tilt 2 (some .int), Cond.methodLink RX0 87 yJ6_bitCount_0f7a4, Cond.static yJ6_bitCount_0f7a4, Cond.initialized RJ6, Cond.code yJ6_bitCount_0f7a4 cJ6_bitCount_0f7a4 1 (some .int), Cond.constant RJ6 265 (1431655765), Cond.constant RJ6 266 (858993459), Cond.constant RJ6 267 (252645135), Cond.methodLink RX2 44 yX0_hasNote, Cond.instanceMethod yX0_hasNote, Cond.selects RX0 yX0_hasNote yX0_hasNote, Cond.code yX0_hasNote cX0_hasNote 2 (some .boolean), Cond.methodLink RX2 48 yX0_mayStrike, Cond.instanceMethod yX0_mayStrike, Cond.selects RX0 yX0_mayStrike yX0_mayStrike, Cond.code yX0_mayStrike cX0_mayStrike 3 (some .boolean), Cond.methodLink RX0 61 yX0_isTooSoon, Cond.instanceMethod yX0_isTooSoon, Cond.selects RX0 yX0_isTooSoon yX0_isTooSoon, Cond.code yX0_isTooSoon cX0_isTooSoon 3 (some .boolean), Cond.methodLink RX0 65 yX0_isTooFar]
def wsX5_best_r4 : List Cond := [Cond.instanceMethod yX0_isTooFar, Cond.selects RX0 yX0_isTooFar yX0_isTooFar, Cond.code yX0_isTooFar cX0_isTooFar 3 (some .boolean), Cond.methodLink RX0 56 Lib.Math.abs.name, Cond.methodLink RX0 52 yX0_pitchAt, Cond.instanceMethod yX0_pitchAt, Cond.selects RX0 yX0_pitchAt yX0_pitchAt, Cond.code yX0_pitchAt cX0_pitchAt 2 (some .int), Cond.methodLink RX2 52 yX2_costAt, Cond.instanceMethod yX2_costAt, Cond.selects RX2 yX2_costAt yX2_costAt, Cond.code yX2_costAt cX2_costAt 3 (some .int), Cond.fieldLink RX2 59 "SharedLine$Line" "hands" "I", Cond.methodLink RX2 56 yX2_isUnlike, Cond.instanceMethod yX2_isUnlike, Cond.selects RX2 yX2_isUnlike yX2_isUnlike, Cond.code yX2_isUnlike cX2_isUnlike 4 (some .boolean), Cond.fieldLink RX2 62 "SharedLine$Line" "bar" "I", Cond.methodLink RX5 140 yX0_likeness, Cond.instanceMethod yX0_likeness, Cond.selects RX0 yX0_likeness yX0_likeness, Cond.code yX0_likeness cX0_likeness 3 (some .int), Cond.methodLink RX5 143 yX0_tilt]
def wsX5_best : List Cond := .code yX5_best cX5_best 2 (some .int) :: ((wsX5_best_r1 ++ (wsX5_best_r2 ++ (wsX5_best_r3 ++ wsX5_best_r4))) ++ wsX50 ++ wsX20 ++ wsX00)
def wsX5_slowest_r1 : List Cond := [Cond.fieldLink RX5 33 "SharedLine" "search" "LSharedLine$Search;", Cond.fieldLink RX5 10 "SharedLine" "now" "LSharedLine$Line;", Cond.fieldLink RX5 157 "SharedLine" "NUMBER_MOST" "[I", Cond.fieldLink RX5 161 "SharedLine" "NUMBER_LEAST" "[I", Cond.fieldLink RX5 164 "SharedLine$Search" "line" "LSharedLine$Line;", Cond.fieldLink RX5 167 "SharedLine$Line" "wait" "I", Cond.methodLink RX5 150 yX2_lookAt, Cond.instanceMethod yX2_lookAt, Cond.selects RX2 yX2_lookAt yX2_lookAt, Cond.initialized RX2, Cond.code yX2_lookAt cX2_lookAt 2 none, Cond.fieldLink RX2 12 "SharedLine$Search" "line" "LSharedLine$Line;", Cond.methodLink RX2 18 yX0_copyFrom, Cond.instanceMethod yX0_copyFrom, Cond.selects RX0 yX0_copyFrom yX0_copyFrom, Cond.initialized RX0, Cond.code yX0_copyFrom cX0_copyFrom 2 none, Cond.fieldLink RX0 9 "SharedLine$Line" "pitches" "[I", Cond.methodLink RX0 46 arraycopyName, Cond.native arraycopyName, Cond.static arraycopyName, Cond.initialized "java/lang/System", Cond.fieldLink RX0 24 "SharedLine$Line" "ticks" "I", Cond.fieldLink RX0 28 "SharedLine$Line" "notes" "I"]
def wsX5_slowest_r2 : List Cond := [Cond.fieldLink RX0 31 "SharedLine$Line" "hands" "I", Cond.fieldLink RX0 37 "SharedLine$Line" "wait" "I", Cond.fieldLink RX0 40 "SharedLine$Line" "reach" "I", Cond.fieldLink RX0 43 "SharedLine$Line" "bar" "I", Cond.methodLink RX5 153 yX2_find, Cond.instanceMethod yX2_find, Cond.selects RX2 yX2_find yX2_find, Cond.code yX2_find cX2_find 2 (some .boolean), Cond.fieldLink RX2 22 "SharedLine$Search" "goal" "I", Cond.fieldLink RX2 26 "SharedLine$Search" "found" "I", Cond.constant RX2 29 (1000000), Cond.fieldLink RX2 30 "SharedLine$Search" "leastCost" "I", Cond.methodLink RX2 33 yX2_goOn, Cond.instanceMethod yX2_goOn, Cond.selects RX2 yX2_goOn yX2_goOn, Cond.code yX2_goOn cX2_goOn 7 none, Cond.fieldLink RX2 37 "SharedLine$Line" "ticks" "I", Cond.methodLink RX2 40 yX2_weigh, Cond.instanceMethod yX2_weigh, Cond.selects RX2 yX2_weigh yX2_weigh, Cond.code yX2_weigh cX2_weigh 4 none, Cond.methodLink RX2 69 Lib.Math.abs.name, Cond.static Lib.Math.abs.name, Cond.initialized "java/lang/Math"]
def wsX5_slowest_r3 : List Cond := [Cond.code Lib.Math.abs.name Lib.Math.abs.code 1 (some .int), Cond.methodLink RX2 65 yX0_tilt, Cond.instanceMethod yX0_tilt, Cond.selects RX0 yX0_tilt yX0_tilt, Cond.code yX0_tilt cX0_tilt 2 (some .int), Cond.methodLink RX0 87 yJ6_bitCount_0f7a4, Cond.static yJ6_bitCount_0f7a4, Cond.initialized RJ6, Cond.code yJ6_bitCount_0f7a4 cJ6_bitCount_0f7a4 1 (some .int), Cond.constant RJ6 265 (1431655765), Cond.constant RJ6 266 (858993459), Cond.constant RJ6 267 (252645135), Cond.methodLink RX2 44 yX0_hasNote, Cond.instanceMethod yX0_hasNote, Cond.selects RX0 yX0_hasNote yX0_hasNote, Cond.code yX0_hasNote cX0_hasNote 2 (some .boolean), Cond.methodLink RX2 48 yX0_mayStrike, Cond.instanceMethod yX0_mayStrike, Cond.selects RX0 yX0_mayStrike yX0_mayStrike, Cond.code yX0_mayStrike cX0_mayStrike 3 (some .boolean), Cond.methodLink RX0 61 yX0_isTooSoon, Cond.instanceMethod yX0_isTooSoon, Cond.selects RX0 yX0_isTooSoon yX0_isTooSoon, Cond.code yX0_isTooSoon cX0_isTooSoon 3 (some .boolean)]
def wsX5_slowest_r4 : List Cond := [Cond.methodLink RX0 65 yX0_isTooFar, Cond.instanceMethod yX0_isTooFar, Cond.selects RX0 yX0_isTooFar yX0_isTooFar, Cond.code yX0_isTooFar cX0_isTooFar 3 (some .boolean), Cond.methodLink RX0 56 Lib.Math.abs.name, Cond.methodLink RX0 52 yX0_pitchAt, Cond.instanceMethod yX0_pitchAt, Cond.selects RX0 yX0_pitchAt yX0_pitchAt, Cond.code yX0_pitchAt cX0_pitchAt 2 (some .int), Cond.methodLink RX2 52 yX2_costAt, Cond.instanceMethod yX2_costAt, Cond.selects RX2 yX2_costAt yX2_costAt, Cond.code yX2_costAt cX2_costAt 3 (some .int), Cond.fieldLink RX2 59 "SharedLine$Line" "hands" "I", Cond.methodLink RX2 56 yX2_isUnlike, Cond.instanceMethod yX2_isUnlike, Cond.selects RX2 yX2_isUnlike yX2_isUnlike, Cond.code yX2_isUnlike cX2_isUnlike 4 (some .boolean), Cond.fieldLink RX2 62 "SharedLine$Line" "bar" "I"]
def wsX5_slowest : List Cond := .code yX5_slowest cX5_slowest 2 (some .int) :: ((wsX5_slowest_r1 ++ (wsX5_slowest_r2 ++ (wsX5_slowest_r3 ++ wsX5_slowest_r4))) ++ wsX50 ++ wsX20 ++ wsX00)
def wsX5_change_r1 : List Cond := [Cond.methodLink RX5 101 yX5_mendingChanges, Cond.instanceMethod yX5_mendingChanges, Cond.selects RX5 yX5_mendingChanges yX5_mendingChanges, Cond.initialized RX5, Cond.code yX5_mendingChanges cX5_mendingChanges 1 (some .int), Cond.fieldLink RX5 33 "SharedLine" "search" "LSharedLine$Search;", Cond.fieldLink RX5 10 "SharedLine" "now" "LSharedLine$Line;", Cond.fieldLink RX5 104 "SharedLine$Search" "found" "I", Cond.fieldLink RX5 80 "SharedLine$Line" "hands" "I", Cond.methodLink RX5 150 yX2_lookAt, Cond.instanceMethod yX2_lookAt, Cond.selects RX2 yX2_lookAt yX2_lookAt, Cond.initialized RX2, Cond.code yX2_lookAt cX2_lookAt 2 none, Cond.fieldLink RX2 12 "SharedLine$Search" "line" "LSharedLine$Line;", Cond.methodLink RX2 18 yX0_copyFrom, Cond.instanceMethod yX0_copyFrom, Cond.selects RX0 yX0_copyFrom yX0_copyFrom, Cond.initialized RX0, Cond.code yX0_copyFrom cX0_copyFrom 2 none, Cond.fieldLink RX0 9 "SharedLine$Line" "pitches" "[I", Cond.methodLink RX0 46 arraycopyName, Cond.native arraycopyName, Cond.static arraycopyName]
def wsX5_change_r2 : List Cond := [Cond.initialized "java/lang/System", Cond.fieldLink RX0 24 "SharedLine$Line" "ticks" "I", Cond.fieldLink RX0 28 "SharedLine$Line" "notes" "I", Cond.fieldLink RX0 31 "SharedLine$Line" "hands" "I", Cond.fieldLink RX0 37 "SharedLine$Line" "wait" "I", Cond.fieldLink RX0 40 "SharedLine$Line" "reach" "I", Cond.fieldLink RX0 43 "SharedLine$Line" "bar" "I", Cond.methodLink RX5 153 yX2_find, Cond.instanceMethod yX2_find, Cond.selects RX2 yX2_find yX2_find, Cond.code yX2_find cX2_find 2 (some .boolean), Cond.fieldLink RX2 22 "SharedLine$Search" "goal" "I", Cond.fieldLink RX2 26 "SharedLine$Search" "found" "I", Cond.constant RX2 29 (1000000), Cond.fieldLink RX2 30 "SharedLine$Search" "leastCost" "I", Cond.methodLink RX2 33 yX2_goOn, Cond.instanceMethod yX2_goOn, Cond.selects RX2 yX2_goOn yX2_goOn, Cond.code yX2_goOn cX2_goOn 7 none, Cond.fieldLink RX2 37 "SharedLine$Line" "ticks" "I", Cond.methodLink RX2 40 yX2_weigh, Cond.instanceMethod yX2_weigh, Cond.selects RX2 yX2_weigh yX2_weigh, Cond.code yX2_weigh cX2_weigh 4 none]
def wsX5_change_r3 : List Cond := [Cond.methodLink RX2 69 Lib.Math.abs.name, Cond.static Lib.Math.abs.name, Cond.initialized "java/lang/Math", Cond.code Lib.Math.abs.name Lib.Math.abs.code 1 (some .int), Cond.methodLink RX2 65 yX0_tilt, Cond.instanceMethod yX0_tilt, Cond.selects RX0 yX0_tilt yX0_tilt, Cond.code yX0_tilt cX0_tilt 2 (some .int), Cond.methodLink RX0 87 yJ6_bitCount_0f7a4, Cond.static yJ6_bitCount_0f7a4, Cond.initialized RJ6, Cond.code yJ6_bitCount_0f7a4 cJ6_bitCount_0f7a4 1 (some .int), Cond.constant RJ6 265 (1431655765), Cond.constant RJ6 266 (858993459), Cond.constant RJ6 267 (252645135), Cond.methodLink RX2 44 yX0_hasNote, Cond.instanceMethod yX0_hasNote, Cond.selects RX0 yX0_hasNote yX0_hasNote, Cond.code yX0_hasNote cX0_hasNote 2 (some .boolean), Cond.methodLink RX2 48 yX0_mayStrike, Cond.instanceMethod yX0_mayStrike, Cond.selects RX0 yX0_mayStrike yX0_mayStrike, Cond.code yX0_mayStrike cX0_mayStrike 3 (some .boolean), Cond.methodLink RX0 61 yX0_isTooSoon]
def wsX5_change_r4 : List Cond := [Cond.instanceMethod yX0_isTooSoon, Cond.selects RX0 yX0_isTooSoon yX0_isTooSoon, Cond.code yX0_isTooSoon cX0_isTooSoon 3 (some .boolean), Cond.methodLink RX0 65 yX0_isTooFar, Cond.instanceMethod yX0_isTooFar, Cond.selects RX0 yX0_isTooFar yX0_isTooFar, Cond.code yX0_isTooFar cX0_isTooFar 3 (some .boolean), Cond.methodLink RX0 56 Lib.Math.abs.name, Cond.methodLink RX0 52 yX0_pitchAt, Cond.instanceMethod yX0_pitchAt, Cond.selects RX0 yX0_pitchAt yX0_pitchAt, Cond.code yX0_pitchAt cX0_pitchAt 2 (some .int), Cond.methodLink RX2 52 yX2_costAt, Cond.instanceMethod yX2_costAt, Cond.selects RX2 yX2_costAt yX2_costAt, Cond.code yX2_costAt cX2_costAt 3 (some .int), Cond.fieldLink RX2 59 "SharedLine$Line" "hands" "I", Cond.methodLink RX2 56 yX2_isUnlike, Cond.instanceMethod yX2_isUnlike, Cond.selects RX2 yX2_isUnlike yX2_isUnlike, Cond.code yX2_isUnlike cX2_isUnlike 4 (some .boolean), Cond.fieldLink RX2 62 "SharedLine$Line" "bar" "I", Cond.methodLink RX5 86 yJ6_bitCount_0f7a4]
def wsX5_change : List Cond := .code yX5_change cX5_change 1 (some .int) :: ((wsX5_change_r1 ++ (wsX5_change_r2 ++ (wsX5_change_r3 ++ wsX5_change_r4))) ++ wsX50 ++ wsX20 ++ wsX00)
def wsX5_busiest : List Cond := .code yX5_busiest cX5_busiest 8 (some .int) :: ([.fieldLink RX5 10 "SharedLine" "now" "LSharedLine$Line;", .fieldLink RX5 170 "SharedLine$Line" "ticks" "I", .fieldLink RX5 173 "SharedLine$Line" "bar" "I", .methodLink RX5 73 yX5_isHand, .static yX5_isHand, .initialized RX5, .code yX5_isHand cX5_isHand 1 (some .boolean), .methodLink RX5 83 yX0_notesOf, .instanceMethod yX0_notesOf, .selects RX0 yX0_notesOf yX0_notesOf, .initialized RX0, .code yX0_notesOf cX0_notesOf 2 (some .int), .fieldLink RX0 28 "SharedLine$Line" "notes" "I", .fieldLink RX0 31 "SharedLine$Line" "hands" "I", .methodLink RX5 97 yX5_ticksFrom, .static yX5_ticksFrom, .code yX5_ticksFrom cX5_ticksFrom 2 (some .int), .methodLink RX5 86 yJ6_bitCount_0f7a4, .static yJ6_bitCount_0f7a4, .initialized RJ6, .code yJ6_bitCount_0f7a4 cJ6_bitCount_0f7a4 1 (some .int), .constant RJ6 265 (1431655765), .constant RJ6 266 (858993459), .constant RJ6 267 (252645135)] ++ wsX50 ++ wsX00)
def wsX5_askTables_r1 : List Cond := [Cond.fieldLink RX5 40 "SharedLine" "tableSet" "LSharedLine$TableSet;", Cond.fieldLink RX5 10 "SharedLine" "now" "LSharedLine$Line;", Cond.fieldLink RX5 193 "SharedLine$TableSet" "size" "I", Cond.fieldLink RX5 201 "SharedLine$TableSet" "least" "I", Cond.methodLink RX5 189 yX3_gather, Cond.instanceMethod yX3_gather, Cond.selects RX3 yX3_gather yX3_gather, Cond.initialized RX3, Cond.code yX3_gather cX3_gather 8 none, Cond.fieldLink RX3 15 "SharedLine$TableSet" "size" "I", Cond.fieldLink RX3 19 "SharedLine$TableSet" "least" "I", Cond.fieldLink RX3 9 "SharedLine$TableSet" "manyOfHand1" "[I", Cond.fieldLink RX3 38 "SharedLine$Line" "notes" "I", Cond.methodLink RX3 22 yJ7_fill_53178, Cond.static yJ7_fill_53178, Cond.initialized RJ7, Cond.code yJ7_fill_53178 cJ7_fill_53178 4 none, Cond.methodLink RX3 28 yX0_pitchesUsed, Cond.instanceMethod yX0_pitchesUsed, Cond.selects RX0 yX0_pitchesUsed yX0_pitchesUsed, Cond.initialized RX0, Cond.code yX0_pitchesUsed cX0_pitchesUsed 3 (some .int), Cond.fieldLink RX0 24 "SharedLine$Line" "ticks" "I", Cond.methodLink RX0 71 yX0_hasNote]
def wsX5_askTables_r2 : List Cond := [Cond.instanceMethod yX0_hasNote, Cond.selects RX0 yX0_hasNote yX0_hasNote, Cond.code yX0_hasNote cX0_hasNote 2 (some .boolean), Cond.fieldLink RX0 28 "SharedLine$Line" "notes" "I", Cond.methodLink RX0 52 yX0_pitchAt, Cond.instanceMethod yX0_pitchAt, Cond.selects RX0 yX0_pitchAt yX0_pitchAt, Cond.code yX0_pitchAt cX0_pitchAt 2 (some .int), Cond.fieldLink RX0 9 "SharedLine$Line" "pitches" "[I", Cond.methodLink RX3 34 yX0_shareByTable, Cond.instanceMethod yX0_shareByTable, Cond.selects RX0 yX0_shareByTable yX0_shareByTable, Cond.code yX0_shareByTable cX0_shareByTable 4 (some .int), Cond.methodLink RX3 41 yX0_isLawful, Cond.instanceMethod yX0_isLawful, Cond.selects RX0 yX0_isLawful yX0_isLawful, Cond.code yX0_isLawful cX0_isLawful 6 (some .boolean), Cond.methodLink RX0 84 yX0_mayStrike, Cond.instanceMethod yX0_mayStrike, Cond.selects RX0 yX0_mayStrike yX0_mayStrike, Cond.code yX0_mayStrike cX0_mayStrike 3 (some .boolean), Cond.methodLink RX0 61 yX0_isTooSoon, Cond.instanceMethod yX0_isTooSoon, Cond.selects RX0 yX0_isTooSoon yX0_isTooSoon]
def wsX5_askTables_r3 : List Cond := [Cond.code yX0_isTooSoon cX0_isTooSoon 3 (some .boolean), Cond.fieldLink RX0 37 "SharedLine$Line" "wait" "I", Cond.methodLink RX0 65 yX0_isTooFar, Cond.instanceMethod yX0_isTooFar, Cond.selects RX0 yX0_isTooFar yX0_isTooFar, Cond.code yX0_isTooFar cX0_isTooFar 3 (some .boolean), Cond.methodLink RX0 56 Lib.Math.abs.name, Cond.static Lib.Math.abs.name, Cond.initialized "java/lang/Math", Cond.code Lib.Math.abs.name Lib.Math.abs.code 1 (some .int), Cond.fieldLink RX0 40 "SharedLine$Line" "reach" "I", Cond.methodLink RX3 45 yX3_include, Cond.instanceMethod yX3_include, Cond.selects RX3 yX3_include yX3_include, Cond.code yX3_include cX3_include 4 none]
def wsX5_askTables : List Cond := .code yX5_askTables cX5_askTables 4 (some .int) :: ((wsX5_askTables_r1 ++ (wsX5_askTables_r2 ++ wsX5_askTables_r3)) ++ wsX50 ++ wsX30 ++ wsX00)
def wsX5_tables_r1 : List Cond := [Cond.methodLink RX5 176 yX5_askTables, Cond.instanceMethod yX5_askTables, Cond.selects RX5 yX5_askTables yX5_askTables, Cond.initialized RX5, Cond.code yX5_askTables cX5_askTables 4 (some .int), Cond.fieldLink RX5 40 "SharedLine" "tableSet" "LSharedLine$TableSet;", Cond.fieldLink RX5 10 "SharedLine" "now" "LSharedLine$Line;", Cond.fieldLink RX5 193 "SharedLine$TableSet" "size" "I", Cond.fieldLink RX5 201 "SharedLine$TableSet" "least" "I", Cond.methodLink RX5 189 yX3_gather, Cond.instanceMethod yX3_gather, Cond.selects RX3 yX3_gather yX3_gather, Cond.initialized RX3, Cond.code yX3_gather cX3_gather 8 none, Cond.fieldLink RX3 15 "SharedLine$TableSet" "size" "I", Cond.fieldLink RX3 19 "SharedLine$TableSet" "least" "I", Cond.fieldLink RX3 9 "SharedLine$TableSet" "manyOfHand1" "[I", Cond.fieldLink RX3 38 "SharedLine$Line" "notes" "I", Cond.methodLink RX3 22 yJ7_fill_53178, Cond.static yJ7_fill_53178, Cond.initialized RJ7, Cond.code yJ7_fill_53178 cJ7_fill_53178 4 none, Cond.methodLink RX3 28 yX0_pitchesUsed, Cond.instanceMethod yX0_pitchesUsed]
def wsX5_tables_r2 : List Cond := [Cond.selects RX0 yX0_pitchesUsed yX0_pitchesUsed, Cond.initialized RX0, Cond.code yX0_pitchesUsed cX0_pitchesUsed 3 (some .int), Cond.fieldLink RX0 24 "SharedLine$Line" "ticks" "I", Cond.methodLink RX0 71 yX0_hasNote, Cond.instanceMethod yX0_hasNote, Cond.selects RX0 yX0_hasNote yX0_hasNote, Cond.code yX0_hasNote cX0_hasNote 2 (some .boolean), Cond.fieldLink RX0 28 "SharedLine$Line" "notes" "I", Cond.methodLink RX0 52 yX0_pitchAt, Cond.instanceMethod yX0_pitchAt, Cond.selects RX0 yX0_pitchAt yX0_pitchAt, Cond.code yX0_pitchAt cX0_pitchAt 2 (some .int), Cond.fieldLink RX0 9 "SharedLine$Line" "pitches" "[I", Cond.methodLink RX3 34 yX0_shareByTable, Cond.instanceMethod yX0_shareByTable, Cond.selects RX0 yX0_shareByTable yX0_shareByTable, Cond.code yX0_shareByTable cX0_shareByTable 4 (some .int), Cond.methodLink RX3 41 yX0_isLawful, Cond.instanceMethod yX0_isLawful, Cond.selects RX0 yX0_isLawful yX0_isLawful, Cond.code yX0_isLawful cX0_isLawful 6 (some .boolean), Cond.methodLink RX0 84 yX0_mayStrike, Cond.instanceMethod yX0_mayStrike]
def wsX5_tables_r3 : List Cond := [Cond.selects RX0 yX0_mayStrike yX0_mayStrike, Cond.code yX0_mayStrike cX0_mayStrike 3 (some .boolean), Cond.methodLink RX0 61 yX0_isTooSoon, Cond.instanceMethod yX0_isTooSoon, Cond.selects RX0 yX0_isTooSoon yX0_isTooSoon, Cond.code yX0_isTooSoon cX0_isTooSoon 3 (some .boolean), Cond.fieldLink RX0 37 "SharedLine$Line" "wait" "I", Cond.methodLink RX0 65 yX0_isTooFar, Cond.instanceMethod yX0_isTooFar, Cond.selects RX0 yX0_isTooFar yX0_isTooFar, Cond.code yX0_isTooFar cX0_isTooFar 3 (some .boolean), Cond.methodLink RX0 56 Lib.Math.abs.name, Cond.static Lib.Math.abs.name, Cond.initialized "java/lang/Math", Cond.code Lib.Math.abs.name Lib.Math.abs.code 1 (some .int), Cond.fieldLink RX0 40 "SharedLine$Line" "reach" "I", Cond.methodLink RX3 45 yX3_include, Cond.instanceMethod yX3_include, Cond.selects RX3 yX3_include yX3_include, Cond.code yX3_include cX3_include 4 none]
def wsX5_tables : List Cond := .code yX5_tables cX5_tables 2 (some .int) :: ((wsX5_tables_r1 ++ (wsX5_tables_r2 ++ wsX5_tables_r3)) ++ wsX50 ++ wsX30 ++ wsX00)
def wsX5_sees : List Cond := .code yX5_sees cX5_sees 3 (some .int) :: ([.fieldLink RX5 180 "SharedLine" "seenCount" "I", .fieldLink RX5 183 "SharedLine" "seenOfHand0" "I", .fieldLink RX5 186 "SharedLine" "seenOfHand1" "I", .methodLink RX5 73 yX5_isHand, .static yX5_isHand, .initialized RX5, .code yX5_isHand cX5_isHand 1 (some .boolean)] ++ wsX50)
def wsX5_forget : List Cond := .code yX5_forget cX5_forget 2 (some .int) :: ([.fieldLink RX5 180 "SharedLine" "seenCount" "I", .fieldLink RX5 183 "SharedLine" "seenOfHand0" "I", .fieldLink RX5 186 "SharedLine" "seenOfHand1" "I"] ++ wsX50)
def wsX5_which_r1 : List Cond := [Cond.fieldLink RX5 183 "SharedLine" "seenOfHand0" "I", Cond.fieldLink RX5 186 "SharedLine" "seenOfHand1" "I", Cond.methodLink RX5 176 yX5_askTables, Cond.instanceMethod yX5_askTables, Cond.selects RX5 yX5_askTables yX5_askTables, Cond.initialized RX5, Cond.code yX5_askTables cX5_askTables 4 (some .int), Cond.fieldLink RX5 40 "SharedLine" "tableSet" "LSharedLine$TableSet;", Cond.fieldLink RX5 10 "SharedLine" "now" "LSharedLine$Line;", Cond.fieldLink RX5 193 "SharedLine$TableSet" "size" "I", Cond.fieldLink RX5 201 "SharedLine$TableSet" "least" "I", Cond.methodLink RX5 189 yX3_gather, Cond.instanceMethod yX3_gather, Cond.selects RX3 yX3_gather yX3_gather, Cond.initialized RX3, Cond.code yX3_gather cX3_gather 8 none, Cond.fieldLink RX3 15 "SharedLine$TableSet" "size" "I", Cond.fieldLink RX3 19 "SharedLine$TableSet" "least" "I", Cond.fieldLink RX3 9 "SharedLine$TableSet" "manyOfHand1" "[I", Cond.fieldLink RX3 38 "SharedLine$Line" "notes" "I", Cond.methodLink RX3 22 yJ7_fill_53178, Cond.static yJ7_fill_53178, Cond.initialized RJ7, Cond.code yJ7_fill_53178 cJ7_fill_53178 4 none]
def wsX5_which_r2 : List Cond := [Cond.methodLink RX3 28 yX0_pitchesUsed, Cond.instanceMethod yX0_pitchesUsed, Cond.selects RX0 yX0_pitchesUsed yX0_pitchesUsed, Cond.initialized RX0, Cond.code yX0_pitchesUsed cX0_pitchesUsed 3 (some .int), Cond.fieldLink RX0 24 "SharedLine$Line" "ticks" "I", Cond.methodLink RX0 71 yX0_hasNote, Cond.instanceMethod yX0_hasNote, Cond.selects RX0 yX0_hasNote yX0_hasNote, Cond.code yX0_hasNote cX0_hasNote 2 (some .boolean), Cond.fieldLink RX0 28 "SharedLine$Line" "notes" "I", Cond.methodLink RX0 52 yX0_pitchAt, Cond.instanceMethod yX0_pitchAt, Cond.selects RX0 yX0_pitchAt yX0_pitchAt, Cond.code yX0_pitchAt cX0_pitchAt 2 (some .int), Cond.fieldLink RX0 9 "SharedLine$Line" "pitches" "[I", Cond.methodLink RX3 34 yX0_shareByTable, Cond.instanceMethod yX0_shareByTable, Cond.selects RX0 yX0_shareByTable yX0_shareByTable, Cond.code yX0_shareByTable cX0_shareByTable 4 (some .int), Cond.methodLink RX3 41 yX0_isLawful, Cond.instanceMethod yX0_isLawful, Cond.selects RX0 yX0_isLawful yX0_isLawful, Cond.code yX0_isLawful cX0_isLawful 6 (some .boolean)]
def wsX5_which_r3 : List Cond := [Cond.methodLink RX0 84 yX0_mayStrike, Cond.instanceMethod yX0_mayStrike, Cond.selects RX0 yX0_mayStrike yX0_mayStrike, Cond.code yX0_mayStrike cX0_mayStrike 3 (some .boolean), Cond.methodLink RX0 61 yX0_isTooSoon, Cond.instanceMethod yX0_isTooSoon, Cond.selects RX0 yX0_isTooSoon yX0_isTooSoon, Cond.code yX0_isTooSoon cX0_isTooSoon 3 (some .boolean), Cond.fieldLink RX0 37 "SharedLine$Line" "wait" "I", Cond.methodLink RX0 65 yX0_isTooFar, Cond.instanceMethod yX0_isTooFar, Cond.selects RX0 yX0_isTooFar yX0_isTooFar, Cond.code yX0_isTooFar cX0_isTooFar 3 (some .boolean), Cond.methodLink RX0 56 Lib.Math.abs.name, Cond.static Lib.Math.abs.name, Cond.initialized "java/lang/Math", Cond.code Lib.Math.abs.name Lib.Math.abs.code 1 (some .int), Cond.fieldLink RX0 40 "SharedLine$Line" "reach" "I", Cond.methodLink RX3 45 yX3_include, Cond.instanceMethod yX3_include, Cond.selects RX3 yX3_include yX3_include, Cond.code yX3_include cX3_include 4 none]
def wsX5_which : List Cond := .code yX5_which cX5_which 2 (some .int) :: ((wsX5_which_r1 ++ (wsX5_which_r2 ++ wsX5_which_r3)) ++ wsX50 ++ wsX30 ++ wsX00)
def wsX5_listen_r1 : List Cond := [Cond.fieldLink RX5 40 "SharedLine" "tableSet" "LSharedLine$TableSet;", Cond.fieldLink RX5 10 "SharedLine" "now" "LSharedLine$Line;", Cond.fieldLink RX5 183 "SharedLine" "seenOfHand0" "I", Cond.fieldLink RX5 186 "SharedLine" "seenOfHand1" "I", Cond.fieldLink RX5 193 "SharedLine$TableSet" "size" "I", Cond.methodLink RX5 189 yX3_gather, Cond.instanceMethod yX3_gather, Cond.selects RX3 yX3_gather yX3_gather, Cond.initialized RX3, Cond.code yX3_gather cX3_gather 8 none, Cond.fieldLink RX3 15 "SharedLine$TableSet" "size" "I", Cond.fieldLink RX3 19 "SharedLine$TableSet" "least" "I", Cond.fieldLink RX3 9 "SharedLine$TableSet" "manyOfHand1" "[I", Cond.fieldLink RX3 38 "SharedLine$Line" "notes" "I", Cond.methodLink RX3 22 yJ7_fill_53178, Cond.static yJ7_fill_53178, Cond.initialized RJ7, Cond.code yJ7_fill_53178 cJ7_fill_53178 4 none, Cond.methodLink RX3 28 yX0_pitchesUsed, Cond.instanceMethod yX0_pitchesUsed, Cond.selects RX0 yX0_pitchesUsed yX0_pitchesUsed, Cond.initialized RX0, Cond.code yX0_pitchesUsed cX0_pitchesUsed 3 (some .int), Cond.fieldLink RX0 24 "SharedLine$Line" "ticks" "I"]
def wsX5_listen_r2 : List Cond := [Cond.methodLink RX0 71 yX0_hasNote, Cond.instanceMethod yX0_hasNote, Cond.selects RX0 yX0_hasNote yX0_hasNote, Cond.code yX0_hasNote cX0_hasNote 2 (some .boolean), Cond.fieldLink RX0 28 "SharedLine$Line" "notes" "I", Cond.methodLink RX0 52 yX0_pitchAt, Cond.instanceMethod yX0_pitchAt, Cond.selects RX0 yX0_pitchAt yX0_pitchAt, Cond.code yX0_pitchAt cX0_pitchAt 2 (some .int), Cond.fieldLink RX0 9 "SharedLine$Line" "pitches" "[I", Cond.methodLink RX3 34 yX0_shareByTable, Cond.instanceMethod yX0_shareByTable, Cond.selects RX0 yX0_shareByTable yX0_shareByTable, Cond.code yX0_shareByTable cX0_shareByTable 4 (some .int), Cond.methodLink RX3 41 yX0_isLawful, Cond.instanceMethod yX0_isLawful, Cond.selects RX0 yX0_isLawful yX0_isLawful, Cond.code yX0_isLawful cX0_isLawful 6 (some .boolean), Cond.methodLink RX0 84 yX0_mayStrike, Cond.instanceMethod yX0_mayStrike, Cond.selects RX0 yX0_mayStrike yX0_mayStrike, Cond.code yX0_mayStrike cX0_mayStrike 3 (some .boolean), Cond.methodLink RX0 61 yX0_isTooSoon, Cond.instanceMethod yX0_isTooSoon]
def wsX5_listen_r3 : List Cond := [Cond.selects RX0 yX0_isTooSoon yX0_isTooSoon, Cond.code yX0_isTooSoon cX0_isTooSoon 3 (some .boolean), Cond.fieldLink RX0 37 "SharedLine$Line" "wait" "I", Cond.methodLink RX0 65 yX0_isTooFar, Cond.instanceMethod yX0_isTooFar, Cond.selects RX0 yX0_isTooFar yX0_isTooFar, Cond.code yX0_isTooFar cX0_isTooFar 3 (some .boolean), Cond.methodLink RX0 56 Lib.Math.abs.name, Cond.static Lib.Math.abs.name, Cond.initialized "java/lang/Math", Cond.code Lib.Math.abs.name Lib.Math.abs.code 1 (some .int), Cond.fieldLink RX0 40 "SharedLine$Line" "reach" "I", Cond.methodLink RX3 45 yX3_include, Cond.instanceMethod yX3_include, Cond.selects RX3 yX3_include yX3_include, Cond.code yX3_include cX3_include 4 none, Cond.methodLink RX5 194 yX3_tickThatHalvesBest, Cond.instanceMethod yX3_tickThatHalvesBest, Cond.selects RX3 yX3_tickThatHalvesBest yX3_tickThatHalvesBest, Cond.code yX3_tickThatHalvesBest cX3_tickThatHalvesBest 6 (some .int), Cond.methodLink RX3 49 Lib.Math.max.name, Cond.static Lib.Math.max.name, Cond.code Lib.Math.max.name Lib.Math.max.code 2 (some .int), Cond.methodLink RX3 55 yX0_hasNote]
def wsX5_listen : List Cond := .code yX5_listen cX5_listen 1 (some .int) :: ((wsX5_listen_r1 ++ (wsX5_listen_r2 ++ wsX5_listen_r3)) ++ wsX50 ++ wsX30 ++ wsX00)
def wsX5_keep_r1 : List Cond := [Cond.fieldLink RX5 44 "SharedLine" "images" "[LSharedLine$Line;", Cond.classLink RX5 7 RX0, Cond.instantiable RX0 7, Cond.initialized RX0, Cond.fieldLink RX5 10 "SharedLine" "now" "LSharedLine$Line;", Cond.fieldLink RX5 170 "SharedLine$Line" "ticks" "I", Cond.methodLink RX5 9 yX0_init, Cond.instanceMethod yX0_init, Cond.code yX0_init cX0_init 1 none, Cond.methodLink RX0 3 objectInit, Cond.instanceMethod objectInit, Cond.code objectInit ⟨#[0xb1]⟩ 1 none, Cond.arrayClass .int, Cond.fieldLink RX0 9 "SharedLine$Line" "pitches" "[I", Cond.methodLink RX0 15 yX0_makeNew, Cond.instanceMethod yX0_makeNew, Cond.selects RX0 yX0_makeNew yX0_makeNew, Cond.code yX0_makeNew cX0_makeNew 1 none, Cond.fieldLink RX0 24 "SharedLine$Line" "ticks" "I", Cond.fieldLink RX0 28 "SharedLine$Line" "notes" "I", Cond.fieldLink RX0 31 "SharedLine$Line" "hands" "I", Cond.fieldLink RX0 37 "SharedLine$Line" "wait" "I", Cond.fieldLink RX0 40 "SharedLine$Line" "reach" "I", Cond.fieldLink RX0 43 "SharedLine$Line" "bar" "I"]
def wsX5_keep_r2 : List Cond := [Cond.methodLink RX0 18 yJ7_fill_53178, Cond.static yJ7_fill_53178, Cond.initialized RJ7, Cond.code yJ7_fill_53178 cJ7_fill_53178 4 none, Cond.methodLink RX5 67 yX0_copyFrom, Cond.instanceMethod yX0_copyFrom, Cond.selects RX0 yX0_copyFrom yX0_copyFrom, Cond.code yX0_copyFrom cX0_copyFrom 2 none, Cond.methodLink RX0 46 arraycopyName, Cond.native arraycopyName, Cond.static arraycopyName, Cond.initialized "java/lang/System"]
def wsX5_keep : List Cond := .code yX5_keep cX5_keep 3 (some .int) :: ((wsX5_keep_r1 ++ wsX5_keep_r2) ++ wsX50 ++ wsX00)
def wsX5_back : List Cond := .code yX5_back cX5_back 3 (some .int) :: ([.fieldLink RX5 44 "SharedLine" "images" "[LSharedLine$Line;", .fieldLink RX5 10 "SharedLine" "now" "LSharedLine$Line;", .fieldLink RX5 26 "SharedLine" "past" "LSharedLine$Past;", .fieldLink RX5 122 "SharedLine$Past" "size" "I", .fieldLink RX5 170 "SharedLine$Line" "ticks" "I", .methodLink RX5 67 yX0_copyFrom, .instanceMethod yX0_copyFrom, .selects RX0 yX0_copyFrom yX0_copyFrom, .initialized RX0, .code yX0_copyFrom cX0_copyFrom 2 none, .fieldLink RX0 9 "SharedLine$Line" "pitches" "[I", .methodLink RX0 46 arraycopyName, .native arraycopyName, .static arraycopyName, .initialized "java/lang/System", .fieldLink RX0 24 "SharedLine$Line" "ticks" "I", .fieldLink RX0 28 "SharedLine$Line" "notes" "I", .fieldLink RX0 31 "SharedLine$Line" "hands" "I", .fieldLink RX0 37 "SharedLine$Line" "wait" "I", .fieldLink RX0 40 "SharedLine$Line" "reach" "I", .fieldLink RX0 43 "SharedLine$Line" "bar" "I"] ++ wsX50 ++ wsX10 ++ wsX00)
def wsX5_count : List Cond := .code yX5_count cX5_count 2 (some .int) :: ([.fieldLink RX5 10 "SharedLine" "now" "LSharedLine$Line;", .fieldLink RX5 170 "SharedLine$Line" "ticks" "I", .fieldLink RX5 94 "SharedLine$Line" "notes" "I", .fieldLink RX5 167 "SharedLine$Line" "wait" "I", .fieldLink RX5 198 "SharedLine$Line" "reach" "I", .fieldLink RX5 173 "SharedLine$Line" "bar" "I", .fieldLink RX5 180 "SharedLine" "seenCount" "I", .fieldLink RX5 19 "SharedLine" "text" "LSharedLine$Text;", .fieldLink RX5 52 "SharedLine$Text" "length" "I", .fieldLink RX5 26 "SharedLine" "past" "LSharedLine$Past;", .fieldLink RX5 122 "SharedLine$Past" "size" "I", .methodLink RX5 86 yJ6_bitCount_0f7a4, .static yJ6_bitCount_0f7a4, .initialized RJ6, .code yJ6_bitCount_0f7a4 cJ6_bitCount_0f7a4 1 (some .int), .constant RJ6 265 (1431655765), .constant RJ6 266 (858993459), .constant RJ6 267 (252645135)] ++ wsX50 ++ wsX00 ++ wsX40 ++ wsX10)
def wsX6_bares : List Cond := .code yX6_bares cX6_bares 2 none :: ([])
def wsX6_init : List Cond := .code yX6_init cX6_init 1 none :: ([.methodLink RX6 1 objectInit, .instanceMethod objectInit, .code objectInit ⟨#[0xb1]⟩ 1 none, .arrayClass .int, .fieldLink RX6 7 "SharedLineModel" "now" "[I", .fieldLink RX6 13 "SharedLineModel" "fresh" "[I", .fieldLink RX6 16 "SharedLineModel" "past" "[I", .fieldLink RX6 19 "SharedLineModel" "images" "[I", .arrayClass .boolean, .fieldLink RX6 22 "SharedLineModel" "isKept" "[Z", .fieldLink RX6 26 "SharedLineModel" "seenTick" "[I", .fieldLink RX6 29 "SharedLineModel" "seenHand" "[I", .fieldLink RX6 32 "SharedLineModel" "text" "[I", .fieldLink RX6 35 "SharedLineModel" "second" "[I", .methodLink RX6 38 yX6_bares, .static yX6_bares, .initialized RX6, .code yX6_bares cX6_bares 2 none] ++ wsX60)
def wsX6_within : List Cond := .code yX6_within cX6_within 3 (some .boolean) :: ([])
def wsX6_has : List Cond := .code yX6_has cX6_has 2 (some .boolean) :: ([])
def wsX6_least : List Cond := .code yX6_least cX6_least 1 (some .int) :: ([])
def wsX6_greatest : List Cond := .code yX6_greatest cX6_greatest 1 (some .int) :: ([])
def wsX6_skips : List Cond := .code yX6_skips cX6_skips 1 none :: ([.fieldLink RX6 42 "SharedLineModel" "at" "I", .fieldLink RX6 46 "SharedLineModel" "letters" "I", .fieldLink RX6 32 "SharedLineModel" "text" "[I", .fieldLink RX6 49 "SharedLineModel" "mark" "I"] ++ wsX60)
def wsX6_isAt : List Cond := .code yX6_isAt cX6_isAt 3 (some .boolean) :: ([.fieldLink RX6 42 "SharedLineModel" "at" "I", .fieldLink RX6 46 "SharedLineModel" "letters" "I", .fieldLink RX6 32 "SharedLineModel" "text" "[I", .methodLink RX6 52 yX6_within, .static yX6_within, .initialized RX6, .code yX6_within cX6_within 3 (some .boolean)] ++ wsX60)
def wsX6_passesEnd : List Cond := .code yX6_passesEnd cX6_passesEnd 2 (some .boolean) :: ([.fieldLink RX6 42 "SharedLineModel" "at" "I", .methodLink RX6 56 yX6_skips, .instanceMethod yX6_skips, .selects RX6 yX6_skips yX6_skips, .initialized RX6, .code yX6_skips cX6_skips 1 none, .fieldLink RX6 46 "SharedLineModel" "letters" "I", .fieldLink RX6 32 "SharedLineModel" "text" "[I", .fieldLink RX6 49 "SharedLineModel" "mark" "I", .methodLink RX6 59 yX6_isAt, .instanceMethod yX6_isAt, .selects RX6 yX6_isAt yX6_isAt, .code yX6_isAt cX6_isAt 3 (some .boolean), .methodLink RX6 52 yX6_within, .static yX6_within, .code yX6_within cX6_within 3 (some .boolean)] ++ wsX60)
def wsX6_figures : List Cond := .code yX6_figures cX6_figures 3 (some .int) :: ([.fieldLink RX6 32 "SharedLineModel" "text" "[I", .fieldLink RX6 42 "SharedLineModel" "at" "I", .fieldLink RX6 49 "SharedLineModel" "mark" "I", .methodLink RX6 56 yX6_skips, .instanceMethod yX6_skips, .selects RX6 yX6_skips yX6_skips, .initialized RX6, .code yX6_skips cX6_skips 1 none, .fieldLink RX6 46 "SharedLineModel" "letters" "I", .methodLink RX6 59 yX6_isAt, .instanceMethod yX6_isAt, .selects RX6 yX6_isAt yX6_isAt, .code yX6_isAt cX6_isAt 3 (some .boolean), .methodLink RX6 52 yX6_within, .static yX6_within, .code yX6_within cX6_within 3 (some .boolean)] ++ wsX60)
def wsX6_wordPassed : List Cond := .code yX6_wordPassed cX6_wordPassed 2 (some .int) :: ([.fieldLink RX6 42 "SharedLineModel" "at" "I", .fieldLink RX6 49 "SharedLineModel" "mark" "I", .fieldLink RX6 32 "SharedLineModel" "text" "[I", .methodLink RX6 56 yX6_skips, .instanceMethod yX6_skips, .selects RX6 yX6_skips yX6_skips, .initialized RX6, .code yX6_skips cX6_skips 1 none, .fieldLink RX6 46 "SharedLineModel" "letters" "I", .methodLink RX6 59 yX6_isAt, .instanceMethod yX6_isAt, .selects RX6 yX6_isAt yX6_isAt, .code yX6_isAt cX6_isAt 3 (some .boolean), .methodLink RX6 52 yX6_within, .static yX6_within, .code yX6_within cX6_within 3 (some .boolean)] ++ wsX60)
def wsX6_readsLine : List Cond := .code yX6_readsLine cX6_readsLine 3 (some .boolean) :: ([.fieldLink RX6 13 "SharedLineModel" "fresh" "[I", .fieldLink RX6 32 "SharedLineModel" "text" "[I", .fieldLink RX6 49 "SharedLineModel" "mark" "I", .methodLink RX6 63 yX6_figures, .instanceMethod yX6_figures, .selects RX6 yX6_figures yX6_figures, .initialized RX6, .code yX6_figures cX6_figures 3 (some .int), .fieldLink RX6 42 "SharedLineModel" "at" "I", .methodLink RX6 56 yX6_skips, .instanceMethod yX6_skips, .selects RX6 yX6_skips yX6_skips, .code yX6_skips cX6_skips 1 none, .fieldLink RX6 46 "SharedLineModel" "letters" "I", .methodLink RX6 59 yX6_isAt, .instanceMethod yX6_isAt, .selects RX6 yX6_isAt yX6_isAt, .code yX6_isAt cX6_isAt 3 (some .boolean), .methodLink RX6 52 yX6_within, .static yX6_within, .code yX6_within cX6_within 3 (some .boolean)] ++ wsX60)
def wsX6_readsHands : List Cond := .code yX6_readsHands cX6_readsHands 2 (some .boolean) :: ([.fieldLink RX6 67 "SharedLineModel" "hasHands" "Z", .fieldLink RX6 13 "SharedLineModel" "fresh" "[I", .fieldLink RX6 32 "SharedLineModel" "text" "[I", .fieldLink RX6 49 "SharedLineModel" "mark" "I", .methodLink RX6 63 yX6_figures, .instanceMethod yX6_figures, .selects RX6 yX6_figures yX6_figures, .initialized RX6, .code yX6_figures cX6_figures 3 (some .int), .fieldLink RX6 42 "SharedLineModel" "at" "I", .methodLink RX6 56 yX6_skips, .instanceMethod yX6_skips, .selects RX6 yX6_skips yX6_skips, .code yX6_skips cX6_skips 1 none, .fieldLink RX6 46 "SharedLineModel" "letters" "I", .methodLink RX6 59 yX6_isAt, .instanceMethod yX6_isAt, .selects RX6 yX6_isAt yX6_isAt, .code yX6_isAt cX6_isAt 3 (some .boolean), .methodLink RX6 52 yX6_within, .static yX6_within, .code yX6_within cX6_within 3 (some .boolean)] ++ wsX60)
def wsX6_readsNumber_r1 : List Cond := [Cond.fieldLink RX6 13 "SharedLineModel" "fresh" "[I", Cond.fieldLink RX6 32 "SharedLineModel" "text" "[I", Cond.fieldLink RX6 49 "SharedLineModel" "mark" "I", Cond.methodLink RX6 63 yX6_figures, Cond.instanceMethod yX6_figures, Cond.selects RX6 yX6_figures yX6_figures, Cond.initialized RX6, Cond.code yX6_figures cX6_figures 3 (some .int), Cond.fieldLink RX6 42 "SharedLineModel" "at" "I", Cond.methodLink RX6 56 yX6_skips, Cond.instanceMethod yX6_skips, Cond.selects RX6 yX6_skips yX6_skips, Cond.code yX6_skips cX6_skips 1 none, Cond.fieldLink RX6 46 "SharedLineModel" "letters" "I", Cond.methodLink RX6 59 yX6_isAt, Cond.instanceMethod yX6_isAt, Cond.selects RX6 yX6_isAt yX6_isAt, Cond.code yX6_isAt cX6_isAt 3 (some .boolean), Cond.methodLink RX6 52 yX6_within, Cond.static yX6_within, Cond.code yX6_within cX6_within 3 (some .boolean), Cond.methodLink RX6 71 yX6_least, Cond.static yX6_least, Cond.code yX6_least cX6_least 1 (some .int)]
def wsX6_readsNumber_r2 : List Cond := [Cond.methodLink RX6 74 yX6_greatest, Cond.static yX6_greatest, Cond.code yX6_greatest cX6_greatest 1 (some .int)]
def wsX6_readsNumber : List Cond := .code yX6_readsNumber cX6_readsNumber 2 (some .boolean) :: ((wsX6_readsNumber_r1 ++ wsX6_readsNumber_r2) ++ wsX60)
def wsX6_readsItem_r1 : List Cond := [Cond.methodLink RX6 77 yX6_wordPassed, Cond.instanceMethod yX6_wordPassed, Cond.selects RX6 yX6_wordPassed yX6_wordPassed, Cond.initialized RX6, Cond.code yX6_wordPassed cX6_wordPassed 2 (some .int), Cond.fieldLink RX6 42 "SharedLineModel" "at" "I", Cond.fieldLink RX6 49 "SharedLineModel" "mark" "I", Cond.fieldLink RX6 32 "SharedLineModel" "text" "[I", Cond.methodLink RX6 56 yX6_skips, Cond.instanceMethod yX6_skips, Cond.selects RX6 yX6_skips yX6_skips, Cond.code yX6_skips cX6_skips 1 none, Cond.fieldLink RX6 46 "SharedLineModel" "letters" "I", Cond.methodLink RX6 59 yX6_isAt, Cond.instanceMethod yX6_isAt, Cond.selects RX6 yX6_isAt yX6_isAt, Cond.code yX6_isAt cX6_isAt 3 (some .boolean), Cond.methodLink RX6 52 yX6_within, Cond.static yX6_within, Cond.code yX6_within cX6_within 3 (some .boolean), Cond.methodLink RX6 81 yX6_readsLine, Cond.instanceMethod yX6_readsLine, Cond.selects RX6 yX6_readsLine yX6_readsLine, Cond.code yX6_readsLine cX6_readsLine 3 (some .boolean)]
def wsX6_readsItem_r2 : List Cond := [Cond.fieldLink RX6 13 "SharedLineModel" "fresh" "[I", Cond.methodLink RX6 63 yX6_figures, Cond.instanceMethod yX6_figures, Cond.selects RX6 yX6_figures yX6_figures, Cond.code yX6_figures cX6_figures 3 (some .int), Cond.methodLink RX6 85 yX6_readsHands, Cond.instanceMethod yX6_readsHands, Cond.selects RX6 yX6_readsHands yX6_readsHands, Cond.code yX6_readsHands cX6_readsHands 2 (some .boolean), Cond.fieldLink RX6 67 "SharedLineModel" "hasHands" "Z", Cond.methodLink RX6 88 yX6_readsNumber, Cond.instanceMethod yX6_readsNumber, Cond.selects RX6 yX6_readsNumber yX6_readsNumber, Cond.code yX6_readsNumber cX6_readsNumber 2 (some .boolean), Cond.methodLink RX6 71 yX6_least, Cond.static yX6_least, Cond.code yX6_least cX6_least 1 (some .int), Cond.methodLink RX6 74 yX6_greatest, Cond.static yX6_greatest, Cond.code yX6_greatest cX6_greatest 1 (some .int)]
def wsX6_readsItem : List Cond := .code yX6_readsItem cX6_readsItem 2 (some .boolean) :: ((wsX6_readsItem_r1 ++ wsX6_readsItem_r2) ++ wsX60)
def wsX6_reads_r1 : List Cond := [Cond.fieldLink RX6 13 "SharedLineModel" "fresh" "[I", Cond.fieldLink RX6 67 "SharedLineModel" "hasHands" "Z", Cond.fieldLink RX6 42 "SharedLineModel" "at" "I", Cond.fieldLink RX6 46 "SharedLineModel" "letters" "I", Cond.methodLink RX6 38 yX6_bares, Cond.static yX6_bares, Cond.initialized RX6, Cond.code yX6_bares cX6_bares 2 none, Cond.methodLink RX6 56 yX6_skips, Cond.instanceMethod yX6_skips, Cond.selects RX6 yX6_skips yX6_skips, Cond.code yX6_skips cX6_skips 1 none, Cond.fieldLink RX6 32 "SharedLineModel" "text" "[I", Cond.fieldLink RX6 49 "SharedLineModel" "mark" "I", Cond.methodLink RX6 92 yX6_readsItem, Cond.instanceMethod yX6_readsItem, Cond.selects RX6 yX6_readsItem yX6_readsItem, Cond.code yX6_readsItem cX6_readsItem 2 (some .boolean), Cond.methodLink RX6 77 yX6_wordPassed, Cond.instanceMethod yX6_wordPassed, Cond.selects RX6 yX6_wordPassed yX6_wordPassed, Cond.code yX6_wordPassed cX6_wordPassed 2 (some .int), Cond.methodLink RX6 59 yX6_isAt, Cond.instanceMethod yX6_isAt]
def wsX6_reads_r2 : List Cond := [Cond.selects RX6 yX6_isAt yX6_isAt, Cond.code yX6_isAt cX6_isAt 3 (some .boolean), Cond.methodLink RX6 52 yX6_within, Cond.static yX6_within, Cond.code yX6_within cX6_within 3 (some .boolean), Cond.methodLink RX6 81 yX6_readsLine, Cond.instanceMethod yX6_readsLine, Cond.selects RX6 yX6_readsLine yX6_readsLine, Cond.code yX6_readsLine cX6_readsLine 3 (some .boolean), Cond.methodLink RX6 63 yX6_figures, Cond.instanceMethod yX6_figures, Cond.selects RX6 yX6_figures yX6_figures, Cond.code yX6_figures cX6_figures 3 (some .int), Cond.methodLink RX6 85 yX6_readsHands, Cond.instanceMethod yX6_readsHands, Cond.selects RX6 yX6_readsHands yX6_readsHands, Cond.code yX6_readsHands cX6_readsHands 2 (some .boolean), Cond.methodLink RX6 88 yX6_readsNumber, Cond.instanceMethod yX6_readsNumber, Cond.selects RX6 yX6_readsNumber yX6_readsNumber, Cond.code yX6_readsNumber cX6_readsNumber 2 (some .boolean), Cond.methodLink RX6 71 yX6_least, Cond.static yX6_least, Cond.code yX6_least cX6_least 1 (some .int)]
def wsX6_reads_r3 : List Cond := [Cond.methodLink RX6 74 yX6_greatest, Cond.static yX6_greatest, Cond.code yX6_greatest cX6_greatest 1 (some .int), Cond.methodLink RX6 95 yX6_passesEnd, Cond.instanceMethod yX6_passesEnd, Cond.selects RX6 yX6_passesEnd yX6_passesEnd, Cond.code yX6_passesEnd cX6_passesEnd 2 (some .boolean)]
def wsX6_reads : List Cond := .code yX6_reads cX6_reads 2 (some .int) :: ((wsX6_reads_r1 ++ (wsX6_reads_r2 ++ wsX6_reads_r3)) ++ wsX60)
def wsX6_type : List Cond := .code yX6_type cX6_type 2 (some .int) :: ([.fieldLink RX6 46 "SharedLineModel" "letters" "I", .fieldLink RX6 32 "SharedLineModel" "text" "[I", .methodLink RX6 52 yX6_within, .static yX6_within, .initialized RX6, .code yX6_within cX6_within 3 (some .boolean)] ++ wsX60)
def wsX6_clear : List Cond := .code yX6_clear cX6_clear 2 (some .int) :: ([.fieldLink RX6 46 "SharedLineModel" "letters" "I"] ++ wsX60)
def wsX6_keeps : List Cond := .code yX6_keeps cX6_keeps 2 none :: ([.fieldLink RX6 98 "SharedLineModel" "undos" "I", .fieldLink RX6 16 "SharedLineModel" "past" "[I", .fieldLink RX6 7 "SharedLineModel" "now" "[I"] ++ wsX60)
def wsX6_tells_r1 : List Cond := [Cond.fieldLink RX6 49 "SharedLineModel" "mark" "I", Cond.fieldLink RX6 7 "SharedLineModel" "now" "[I", Cond.fieldLink RX6 13 "SharedLineModel" "fresh" "[I", Cond.fieldLink RX6 46 "SharedLineModel" "letters" "I", Cond.methodLink RX6 101 yX6_reads, Cond.instanceMethod yX6_reads, Cond.selects RX6 yX6_reads yX6_reads, Cond.initialized RX6, Cond.code yX6_reads cX6_reads 2 (some .int), Cond.fieldLink RX6 67 "SharedLineModel" "hasHands" "Z", Cond.fieldLink RX6 42 "SharedLineModel" "at" "I", Cond.methodLink RX6 38 yX6_bares, Cond.static yX6_bares, Cond.code yX6_bares cX6_bares 2 none, Cond.methodLink RX6 56 yX6_skips, Cond.instanceMethod yX6_skips, Cond.selects RX6 yX6_skips yX6_skips, Cond.code yX6_skips cX6_skips 1 none, Cond.fieldLink RX6 32 "SharedLineModel" "text" "[I", Cond.methodLink RX6 92 yX6_readsItem, Cond.instanceMethod yX6_readsItem, Cond.selects RX6 yX6_readsItem yX6_readsItem, Cond.code yX6_readsItem cX6_readsItem 2 (some .boolean), Cond.methodLink RX6 77 yX6_wordPassed]
def wsX6_tells_r2 : List Cond := [Cond.instanceMethod yX6_wordPassed, Cond.selects RX6 yX6_wordPassed yX6_wordPassed, Cond.code yX6_wordPassed cX6_wordPassed 2 (some .int), Cond.methodLink RX6 59 yX6_isAt, Cond.instanceMethod yX6_isAt, Cond.selects RX6 yX6_isAt yX6_isAt, Cond.code yX6_isAt cX6_isAt 3 (some .boolean), Cond.methodLink RX6 52 yX6_within, Cond.static yX6_within, Cond.code yX6_within cX6_within 3 (some .boolean), Cond.methodLink RX6 81 yX6_readsLine, Cond.instanceMethod yX6_readsLine, Cond.selects RX6 yX6_readsLine yX6_readsLine, Cond.code yX6_readsLine cX6_readsLine 3 (some .boolean), Cond.methodLink RX6 63 yX6_figures, Cond.instanceMethod yX6_figures, Cond.selects RX6 yX6_figures yX6_figures, Cond.code yX6_figures cX6_figures 3 (some .int), Cond.methodLink RX6 85 yX6_readsHands, Cond.instanceMethod yX6_readsHands, Cond.selects RX6 yX6_readsHands yX6_readsHands, Cond.code yX6_readsHands cX6_readsHands 2 (some .boolean), Cond.methodLink RX6 88 yX6_readsNumber, Cond.instanceMethod yX6_readsNumber]
def wsX6_tells_r3 : List Cond := [Cond.selects RX6 yX6_readsNumber yX6_readsNumber, Cond.code yX6_readsNumber cX6_readsNumber 2 (some .boolean), Cond.methodLink RX6 71 yX6_least, Cond.static yX6_least, Cond.code yX6_least cX6_least 1 (some .int), Cond.methodLink RX6 74 yX6_greatest, Cond.static yX6_greatest, Cond.code yX6_greatest cX6_greatest 1 (some .int), Cond.methodLink RX6 95 yX6_passesEnd, Cond.instanceMethod yX6_passesEnd, Cond.selects RX6 yX6_passesEnd yX6_passesEnd, Cond.code yX6_passesEnd cX6_passesEnd 2 (some .boolean), Cond.methodLink RX6 104 yX6_keeps, Cond.instanceMethod yX6_keeps, Cond.selects RX6 yX6_keeps yX6_keeps, Cond.code yX6_keeps cX6_keeps 2 none, Cond.fieldLink RX6 98 "SharedLineModel" "undos" "I", Cond.fieldLink RX6 16 "SharedLineModel" "past" "[I"]
def wsX6_tells : List Cond := .code yX6_tells cX6_tells 3 (some .int) :: ((wsX6_tells_r1 ++ (wsX6_tells_r2 ++ wsX6_tells_r3)) ++ wsX60)
def wsX6_isTick : List Cond := .code yX6_isTick cX6_isTick 2 (some .boolean) :: ([.fieldLink RX6 7 "SharedLineModel" "now" "[I", .methodLink RX6 52 yX6_within, .static yX6_within, .initialized RX6, .code yX6_within cX6_within 3 (some .boolean)] ++ wsX60)
def wsX6_isNote : List Cond := .code yX6_isNote cX6_isNote 2 (some .boolean) :: ([.fieldLink RX6 7 "SharedLineModel" "now" "[I", .methodLink RX6 107 yX6_isTick, .instanceMethod yX6_isTick, .selects RX6 yX6_isTick yX6_isTick, .initialized RX6, .code yX6_isTick cX6_isTick 2 (some .boolean), .methodLink RX6 52 yX6_within, .static yX6_within, .code yX6_within cX6_within 3 (some .boolean)] ++ wsX60)
def wsX6_isHand : List Cond := .code yX6_isHand cX6_isHand 1 (some .boolean) :: ([])
def wsX6_notes : List Cond := .code yX6_notes cX6_notes 3 (some .int) :: ([.fieldLink RX6 7 "SharedLineModel" "now" "[I", .methodLink RX6 110 yX6_isNote, .instanceMethod yX6_isNote, .selects RX6 yX6_isNote yX6_isNote, .initialized RX6, .code yX6_isNote cX6_isNote 2 (some .boolean), .methodLink RX6 107 yX6_isTick, .instanceMethod yX6_isTick, .selects RX6 yX6_isTick yX6_isTick, .code yX6_isTick cX6_isTick 2 (some .boolean), .methodLink RX6 52 yX6_within, .static yX6_within, .code yX6_within cX6_within 3 (some .boolean)] ++ wsX60)
def wsX6_nextOf : List Cond := .code yX6_nextOf cX6_nextOf 4 (some .int) :: ([.fieldLink RX6 7 "SharedLineModel" "now" "[I", .methodLink RX6 110 yX6_isNote, .instanceMethod yX6_isNote, .selects RX6 yX6_isNote yX6_isNote, .initialized RX6, .code yX6_isNote cX6_isNote 2 (some .boolean), .methodLink RX6 107 yX6_isTick, .instanceMethod yX6_isTick, .selects RX6 yX6_isTick yX6_isTick, .code yX6_isTick cX6_isTick 2 (some .boolean), .methodLink RX6 52 yX6_within, .static yX6_within, .code yX6_within cX6_within 3 (some .boolean), .methodLink RX6 113 yX6_has, .static yX6_has, .code yX6_has cX6_has 2 (some .boolean)] ++ wsX60)
def wsX6_isSoon : List Cond := .code yX6_isSoon cX6_isSoon 5 (some .boolean) :: ([.methodLink RX6 110 yX6_isNote, .instanceMethod yX6_isNote, .selects RX6 yX6_isNote yX6_isNote, .initialized RX6, .code yX6_isNote cX6_isNote 2 (some .boolean), .fieldLink RX6 7 "SharedLineModel" "now" "[I", .methodLink RX6 107 yX6_isTick, .instanceMethod yX6_isTick, .selects RX6 yX6_isTick yX6_isTick, .code yX6_isTick cX6_isTick 2 (some .boolean), .methodLink RX6 52 yX6_within, .static yX6_within, .code yX6_within cX6_within 3 (some .boolean), .methodLink RX6 116 yX6_nextOf, .instanceMethod yX6_nextOf, .selects RX6 yX6_nextOf yX6_nextOf, .code yX6_nextOf cX6_nextOf 4 (some .int), .methodLink RX6 113 yX6_has, .static yX6_has, .code yX6_has cX6_has 2 (some .boolean)] ++ wsX60)
def wsX6_isFar : List Cond := .code yX6_isFar cX6_isFar 5 (some .boolean) :: ([.fieldLink RX6 7 "SharedLineModel" "now" "[I", .methodLink RX6 110 yX6_isNote, .instanceMethod yX6_isNote, .selects RX6 yX6_isNote yX6_isNote, .initialized RX6, .code yX6_isNote cX6_isNote 2 (some .boolean), .methodLink RX6 107 yX6_isTick, .instanceMethod yX6_isTick, .selects RX6 yX6_isTick yX6_isTick, .code yX6_isTick cX6_isTick 2 (some .boolean), .methodLink RX6 52 yX6_within, .static yX6_within, .code yX6_within cX6_within 3 (some .boolean), .methodLink RX6 116 yX6_nextOf, .instanceMethod yX6_nextOf, .selects RX6 yX6_nextOf yX6_nextOf, .code yX6_nextOf cX6_nextOf 4 (some .int), .methodLink RX6 113 yX6_has, .static yX6_has, .code yX6_has cX6_has 2 (some .boolean)] ++ wsX60)
def wsX6_isLawful_r1 : List Cond := [Cond.fieldLink RX6 7 "SharedLineModel" "now" "[I", Cond.methodLink RX6 120 yX6_isSoon, Cond.instanceMethod yX6_isSoon, Cond.selects RX6 yX6_isSoon yX6_isSoon, Cond.initialized RX6, Cond.code yX6_isSoon cX6_isSoon 5 (some .boolean), Cond.methodLink RX6 110 yX6_isNote, Cond.instanceMethod yX6_isNote, Cond.selects RX6 yX6_isNote yX6_isNote, Cond.code yX6_isNote cX6_isNote 2 (some .boolean), Cond.methodLink RX6 107 yX6_isTick, Cond.instanceMethod yX6_isTick, Cond.selects RX6 yX6_isTick yX6_isTick, Cond.code yX6_isTick cX6_isTick 2 (some .boolean), Cond.methodLink RX6 52 yX6_within, Cond.static yX6_within, Cond.code yX6_within cX6_within 3 (some .boolean), Cond.methodLink RX6 116 yX6_nextOf, Cond.instanceMethod yX6_nextOf, Cond.selects RX6 yX6_nextOf yX6_nextOf, Cond.code yX6_nextOf cX6_nextOf 4 (some .int), Cond.methodLink RX6 113 yX6_has, Cond.static yX6_has, Cond.code yX6_has cX6_has 2 (some .boolean)]
def wsX6_isLawful_r2 : List Cond := [Cond.methodLink RX6 123 yX6_isFar, Cond.instanceMethod yX6_isFar, Cond.selects RX6 yX6_isFar yX6_isFar, Cond.code yX6_isFar cX6_isFar 5 (some .boolean)]
def wsX6_isLawful : List Cond := .code yX6_isLawful cX6_isLawful 5 (some .boolean) :: ((wsX6_isLawful_r1 ++ wsX6_isLawful_r2) ++ wsX60)
def wsX6_isLawfulNow_r1 : List Cond := [Cond.fieldLink RX6 7 "SharedLineModel" "now" "[I", Cond.methodLink RX6 126 yX6_isLawful, Cond.instanceMethod yX6_isLawful, Cond.selects RX6 yX6_isLawful yX6_isLawful, Cond.initialized RX6, Cond.code yX6_isLawful cX6_isLawful 5 (some .boolean), Cond.methodLink RX6 120 yX6_isSoon, Cond.instanceMethod yX6_isSoon, Cond.selects RX6 yX6_isSoon yX6_isSoon, Cond.code yX6_isSoon cX6_isSoon 5 (some .boolean), Cond.methodLink RX6 110 yX6_isNote, Cond.instanceMethod yX6_isNote, Cond.selects RX6 yX6_isNote yX6_isNote, Cond.code yX6_isNote cX6_isNote 2 (some .boolean), Cond.methodLink RX6 107 yX6_isTick, Cond.instanceMethod yX6_isTick, Cond.selects RX6 yX6_isTick yX6_isTick, Cond.code yX6_isTick cX6_isTick 2 (some .boolean), Cond.methodLink RX6 52 yX6_within, Cond.static yX6_within, Cond.code yX6_within cX6_within 3 (some .boolean), Cond.methodLink RX6 116 yX6_nextOf, Cond.instanceMethod yX6_nextOf, Cond.selects RX6 yX6_nextOf yX6_nextOf]
def wsX6_isLawfulNow_r2 : List Cond := [Cond.code yX6_nextOf cX6_nextOf 4 (some .int), Cond.methodLink RX6 113 yX6_has, Cond.static yX6_has, Cond.code yX6_has cX6_has 2 (some .boolean), Cond.methodLink RX6 123 yX6_isFar, Cond.instanceMethod yX6_isFar, Cond.selects RX6 yX6_isFar yX6_isFar, Cond.code yX6_isFar cX6_isFar 5 (some .boolean)]
def wsX6_isLawfulNow : List Cond := .code yX6_isLawfulNow cX6_isLawfulNow 2 (some .boolean) :: ((wsX6_isLawfulNow_r1 ++ wsX6_isLawfulNow_r2) ++ wsX60)
def wsX6_likeness : List Cond := .code yX6_likeness cX6_likeness 5 (some .int) :: ([.fieldLink RX6 7 "SharedLineModel" "now" "[I", .methodLink RX6 110 yX6_isNote, .instanceMethod yX6_isNote, .selects RX6 yX6_isNote yX6_isNote, .initialized RX6, .code yX6_isNote cX6_isNote 2 (some .boolean), .methodLink RX6 107 yX6_isTick, .instanceMethod yX6_isTick, .selects RX6 yX6_isTick yX6_isTick, .code yX6_isTick cX6_isTick 2 (some .boolean), .methodLink RX6 52 yX6_within, .static yX6_within, .code yX6_within cX6_within 3 (some .boolean), .methodLink RX6 113 yX6_has, .static yX6_has, .code yX6_has cX6_has 2 (some .boolean)] ++ wsX60)
def wsX6_tilt : List Cond := .code yX6_tilt cX6_tilt 4 (some .int) :: ([.fieldLink RX6 7 "SharedLineModel" "now" "[I", .methodLink RX6 110 yX6_isNote, .instanceMethod yX6_isNote, .selects RX6 yX6_isNote yX6_isNote, .initialized RX6, .code yX6_isNote cX6_isNote 2 (some .boolean), .methodLink RX6 107 yX6_isTick, .instanceMethod yX6_isTick, .selects RX6 yX6_isTick yX6_isTick, .code yX6_isTick cX6_isTick 2 (some .boolean), .methodLink RX6 52 yX6_within, .static yX6_within, .code yX6_within cX6_within 3 (some .boolean), .methodLink RX6 113 yX6_has, .static yX6_has, .code yX6_has cX6_has 2 (some .boolean)] ++ wsX60)
def wsX6_ofHand : List Cond := .code yX6_ofHand cX6_ofHand 4 (some .int) :: ([.fieldLink RX6 7 "SharedLineModel" "now" "[I", .methodLink RX6 110 yX6_isNote, .instanceMethod yX6_isNote, .selects RX6 yX6_isNote yX6_isNote, .initialized RX6, .code yX6_isNote cX6_isNote 2 (some .boolean), .methodLink RX6 107 yX6_isTick, .instanceMethod yX6_isTick, .selects RX6 yX6_isTick yX6_isTick, .code yX6_isTick cX6_isTick 2 (some .boolean), .methodLink RX6 52 yX6_within, .static yX6_within, .code yX6_within cX6_within 3 (some .boolean)] ++ wsX60)
def wsX6_shareOf : List Cond := .code yX6_shareOf cX6_shareOf 5 (some .int) :: ([.fieldLink RX6 7 "SharedLineModel" "now" "[I", .methodLink RX6 110 yX6_isNote, .instanceMethod yX6_isNote, .selects RX6 yX6_isNote yX6_isNote, .initialized RX6, .code yX6_isNote cX6_isNote 2 (some .boolean), .methodLink RX6 107 yX6_isTick, .instanceMethod yX6_isTick, .selects RX6 yX6_isTick yX6_isTick, .code yX6_isTick cX6_isTick 2 (some .boolean), .methodLink RX6 52 yX6_within, .static yX6_within, .code yX6_within cX6_within 3 (some .boolean)] ++ wsX60)
def wsX6_gives_r1 : List Cond := [Cond.fieldLink RX6 7 "SharedLineModel" "now" "[I", Cond.methodLink RX6 110 yX6_isNote, Cond.instanceMethod yX6_isNote, Cond.selects RX6 yX6_isNote yX6_isNote, Cond.initialized RX6, Cond.code yX6_isNote cX6_isNote 2 (some .boolean), Cond.methodLink RX6 107 yX6_isTick, Cond.instanceMethod yX6_isTick, Cond.selects RX6 yX6_isTick yX6_isTick, Cond.code yX6_isTick cX6_isTick 2 (some .boolean), Cond.methodLink RX6 52 yX6_within, Cond.static yX6_within, Cond.code yX6_within cX6_within 3 (some .boolean), Cond.methodLink RX6 129 yX6_isHand, Cond.static yX6_isHand, Cond.code yX6_isHand cX6_isHand 1 (some .boolean), Cond.methodLink RX6 104 yX6_keeps, Cond.instanceMethod yX6_keeps, Cond.selects RX6 yX6_keeps yX6_keeps, Cond.code yX6_keeps cX6_keeps 2 none, Cond.fieldLink RX6 98 "SharedLineModel" "undos" "I", Cond.fieldLink RX6 16 "SharedLineModel" "past" "[I", Cond.methodLink RX6 132 yX6_ofHand, Cond.instanceMethod yX6_ofHand]
def wsX6_gives_r2 : List Cond := [Cond.selects RX6 yX6_ofHand yX6_ofHand, Cond.code yX6_ofHand cX6_ofHand 4 (some .int)]
def wsX6_gives : List Cond := .code yX6_gives cX6_gives 3 (some .int) :: ((wsX6_gives_r1 ++ wsX6_gives_r2) ++ wsX60)
def wsX6_flips : List Cond := .code yX6_flips cX6_flips 6 (some .int) :: ([.fieldLink RX6 7 "SharedLineModel" "now" "[I", .methodLink RX6 107 yX6_isTick, .instanceMethod yX6_isTick, .selects RX6 yX6_isTick yX6_isTick, .initialized RX6, .code yX6_isTick cX6_isTick 2 (some .boolean), .methodLink RX6 52 yX6_within, .static yX6_within, .code yX6_within cX6_within 3 (some .boolean), .methodLink RX6 110 yX6_isNote, .instanceMethod yX6_isNote, .selects RX6 yX6_isNote yX6_isNote, .code yX6_isNote cX6_isNote 2 (some .boolean), .methodLink RX6 104 yX6_keeps, .instanceMethod yX6_keeps, .selects RX6 yX6_keeps yX6_keeps, .code yX6_keeps cX6_keeps 2 none, .fieldLink RX6 98 "SharedLineModel" "undos" "I", .fieldLink RX6 16 "SharedLineModel" "past" "[I"] ++ wsX60)
def wsX6_ones : List Cond := .code yX6_ones cX6_ones 3 (some .int) :: ([])
def wsX6_nearest_r1 : List Cond := [Cond.fieldLink RX6 7 "SharedLineModel" "now" "[I", Cond.methodLink RX6 135 yX6_notes, Cond.instanceMethod yX6_notes, Cond.selects RX6 yX6_notes yX6_notes, Cond.initialized RX6, Cond.code yX6_notes cX6_notes 3 (some .int), Cond.methodLink RX6 110 yX6_isNote, Cond.instanceMethod yX6_isNote, Cond.selects RX6 yX6_isNote yX6_isNote, Cond.code yX6_isNote cX6_isNote 2 (some .boolean), Cond.methodLink RX6 107 yX6_isTick, Cond.instanceMethod yX6_isTick, Cond.selects RX6 yX6_isTick yX6_isTick, Cond.code yX6_isTick cX6_isTick 2 (some .boolean), Cond.methodLink RX6 52 yX6_within, Cond.static yX6_within, Cond.code yX6_within cX6_within 3 (some .boolean), Cond.methodLink RX6 138 yX6_shareOf, Cond.instanceMethod yX6_shareOf, Cond.selects RX6 yX6_shareOf yX6_shareOf, Cond.code yX6_shareOf cX6_shareOf 5 (some .int), Cond.methodLink RX6 141 yX6_ones, Cond.static yX6_ones, Cond.code yX6_ones cX6_ones 3 (some .int)]
def wsX6_nearest_r2 : List Cond := [Cond.methodLink RX6 144 yX6_isLawfulNow, Cond.instanceMethod yX6_isLawfulNow, Cond.selects RX6 yX6_isLawfulNow yX6_isLawfulNow, Cond.code yX6_isLawfulNow cX6_isLawfulNow 2 (some .boolean), Cond.methodLink RX6 126 yX6_isLawful, Cond.instanceMethod yX6_isLawful, Cond.selects RX6 yX6_isLawful yX6_isLawful, Cond.code yX6_isLawful cX6_isLawful 5 (some .boolean), Cond.methodLink RX6 120 yX6_isSoon, Cond.instanceMethod yX6_isSoon, Cond.selects RX6 yX6_isSoon yX6_isSoon, Cond.code yX6_isSoon cX6_isSoon 5 (some .boolean), Cond.methodLink RX6 116 yX6_nextOf, Cond.instanceMethod yX6_nextOf, Cond.selects RX6 yX6_nextOf yX6_nextOf, Cond.code yX6_nextOf cX6_nextOf 4 (some .int), Cond.methodLink RX6 113 yX6_has, Cond.static yX6_has, Cond.code yX6_has cX6_has 2 (some .boolean), Cond.methodLink RX6 123 yX6_isFar, Cond.instanceMethod yX6_isFar, Cond.selects RX6 yX6_isFar yX6_isFar, Cond.code yX6_isFar cX6_isFar 5 (some .boolean)]
def wsX6_nearest : List Cond := .code yX6_nearest cX6_nearest 5 (some .int) :: ((wsX6_nearest_r1 ++ wsX6_nearest_r2) ++ wsX60)
def wsX6_mends_r1 : List Cond := [Cond.fieldLink RX6 7 "SharedLineModel" "now" "[I", Cond.methodLink RX6 144 yX6_isLawfulNow, Cond.instanceMethod yX6_isLawfulNow, Cond.selects RX6 yX6_isLawfulNow yX6_isLawfulNow, Cond.initialized RX6, Cond.code yX6_isLawfulNow cX6_isLawfulNow 2 (some .boolean), Cond.methodLink RX6 126 yX6_isLawful, Cond.instanceMethod yX6_isLawful, Cond.selects RX6 yX6_isLawful yX6_isLawful, Cond.code yX6_isLawful cX6_isLawful 5 (some .boolean), Cond.methodLink RX6 120 yX6_isSoon, Cond.instanceMethod yX6_isSoon, Cond.selects RX6 yX6_isSoon yX6_isSoon, Cond.code yX6_isSoon cX6_isSoon 5 (some .boolean), Cond.methodLink RX6 110 yX6_isNote, Cond.instanceMethod yX6_isNote, Cond.selects RX6 yX6_isNote yX6_isNote, Cond.code yX6_isNote cX6_isNote 2 (some .boolean), Cond.methodLink RX6 107 yX6_isTick, Cond.instanceMethod yX6_isTick, Cond.selects RX6 yX6_isTick yX6_isTick, Cond.code yX6_isTick cX6_isTick 2 (some .boolean), Cond.methodLink RX6 52 yX6_within, Cond.static yX6_within]
def wsX6_mends_r2 : List Cond := [Cond.code yX6_within cX6_within 3 (some .boolean), Cond.methodLink RX6 116 yX6_nextOf, Cond.instanceMethod yX6_nextOf, Cond.selects RX6 yX6_nextOf yX6_nextOf, Cond.code yX6_nextOf cX6_nextOf 4 (some .int), Cond.methodLink RX6 113 yX6_has, Cond.static yX6_has, Cond.code yX6_has cX6_has 2 (some .boolean), Cond.methodLink RX6 123 yX6_isFar, Cond.instanceMethod yX6_isFar, Cond.selects RX6 yX6_isFar yX6_isFar, Cond.code yX6_isFar cX6_isFar 5 (some .boolean), Cond.methodLink RX6 147 yX6_nearest, Cond.instanceMethod yX6_nearest, Cond.selects RX6 yX6_nearest yX6_nearest, Cond.code yX6_nearest cX6_nearest 5 (some .int), Cond.methodLink RX6 135 yX6_notes, Cond.instanceMethod yX6_notes, Cond.selects RX6 yX6_notes yX6_notes, Cond.code yX6_notes cX6_notes 3 (some .int), Cond.methodLink RX6 138 yX6_shareOf, Cond.instanceMethod yX6_shareOf, Cond.selects RX6 yX6_shareOf yX6_shareOf, Cond.code yX6_shareOf cX6_shareOf 5 (some .int)]
def wsX6_mends_r3 : List Cond := [Cond.methodLink RX6 141 yX6_ones, Cond.static yX6_ones, Cond.code yX6_ones cX6_ones 3 (some .int), Cond.methodLink RX6 104 yX6_keeps, Cond.instanceMethod yX6_keeps, Cond.selects RX6 yX6_keeps yX6_keeps, Cond.code yX6_keeps cX6_keeps 2 none, Cond.fieldLink RX6 98 "SharedLineModel" "undos" "I", Cond.fieldLink RX6 16 "SharedLineModel" "past" "[I"]
def wsX6_mends : List Cond := .code yX6_mends cX6_mends 3 (some .int) :: ((wsX6_mends_r1 ++ (wsX6_mends_r2 ++ wsX6_mends_r3)) ++ wsX60)
def wsX6_sets : List Cond := .code yX6_sets cX6_sets 4 (some .int) :: ([.fieldLink RX6 7 "SharedLineModel" "now" "[I", .methodLink RX6 52 yX6_within, .static yX6_within, .initialized RX6, .code yX6_within cX6_within 3 (some .boolean), .methodLink RX6 71 yX6_least, .static yX6_least, .code yX6_least cX6_least 1 (some .int), .methodLink RX6 74 yX6_greatest, .static yX6_greatest, .code yX6_greatest cX6_greatest 1 (some .int), .methodLink RX6 104 yX6_keeps, .instanceMethod yX6_keeps, .selects RX6 yX6_keeps yX6_keeps, .code yX6_keeps cX6_keeps 2 none, .fieldLink RX6 98 "SharedLineModel" "undos" "I", .fieldLink RX6 16 "SharedLineModel" "past" "[I"] ++ wsX60)
def wsX6_undo : List Cond := .code yX6_undo cX6_undo 2 (some .int) :: ([.fieldLink RX6 98 "SharedLineModel" "undos" "I", .fieldLink RX6 7 "SharedLineModel" "now" "[I", .fieldLink RX6 16 "SharedLineModel" "past" "[I"] ++ wsX60)
def wsX6_tick_r1 : List Cond := [Cond.fieldLink RX6 7 "SharedLineModel" "now" "[I", Cond.methodLink RX6 107 yX6_isTick, Cond.instanceMethod yX6_isTick, Cond.selects RX6 yX6_isTick yX6_isTick, Cond.initialized RX6, Cond.code yX6_isTick cX6_isTick 2 (some .boolean), Cond.methodLink RX6 52 yX6_within, Cond.static yX6_within, Cond.code yX6_within cX6_within 3 (some .boolean), Cond.methodLink RX6 110 yX6_isNote, Cond.instanceMethod yX6_isNote, Cond.selects RX6 yX6_isNote yX6_isNote, Cond.code yX6_isNote cX6_isNote 2 (some .boolean), Cond.methodLink RX6 120 yX6_isSoon, Cond.instanceMethod yX6_isSoon, Cond.selects RX6 yX6_isSoon yX6_isSoon, Cond.code yX6_isSoon cX6_isSoon 5 (some .boolean), Cond.methodLink RX6 116 yX6_nextOf, Cond.instanceMethod yX6_nextOf, Cond.selects RX6 yX6_nextOf yX6_nextOf, Cond.code yX6_nextOf cX6_nextOf 4 (some .int), Cond.methodLink RX6 113 yX6_has, Cond.static yX6_has, Cond.code yX6_has cX6_has 2 (some .boolean)]
def wsX6_tick_r2 : List Cond := [Cond.methodLink RX6 123 yX6_isFar, Cond.instanceMethod yX6_isFar, Cond.selects RX6 yX6_isFar yX6_isFar, Cond.code yX6_isFar cX6_isFar 5 (some .boolean)]
def wsX6_tick : List Cond := .code yX6_tick cX6_tick 3 (some .int) :: ((wsX6_tick_r1 ++ wsX6_tick_r2) ++ wsX60)
def wsX6_pairs_r1 : List Cond := [Cond.fieldLink RX6 7 "SharedLineModel" "now" "[I", Cond.methodLink RX6 120 yX6_isSoon, Cond.instanceMethod yX6_isSoon, Cond.selects RX6 yX6_isSoon yX6_isSoon, Cond.initialized RX6, Cond.code yX6_isSoon cX6_isSoon 5 (some .boolean), Cond.methodLink RX6 110 yX6_isNote, Cond.instanceMethod yX6_isNote, Cond.selects RX6 yX6_isNote yX6_isNote, Cond.code yX6_isNote cX6_isNote 2 (some .boolean), Cond.methodLink RX6 107 yX6_isTick, Cond.instanceMethod yX6_isTick, Cond.selects RX6 yX6_isTick yX6_isTick, Cond.code yX6_isTick cX6_isTick 2 (some .boolean), Cond.methodLink RX6 52 yX6_within, Cond.static yX6_within, Cond.code yX6_within cX6_within 3 (some .boolean), Cond.methodLink RX6 116 yX6_nextOf, Cond.instanceMethod yX6_nextOf, Cond.selects RX6 yX6_nextOf yX6_nextOf, Cond.code yX6_nextOf cX6_nextOf 4 (some .int), Cond.methodLink RX6 113 yX6_has, Cond.static yX6_has, Cond.code yX6_has cX6_has 2 (some .boolean)]
def wsX6_pairs_r2 : List Cond := [Cond.methodLink RX6 123 yX6_isFar, Cond.instanceMethod yX6_isFar, Cond.selects RX6 yX6_isFar yX6_isFar, Cond.code yX6_isFar cX6_isFar 5 (some .boolean)]
def wsX6_pairs : List Cond := .code yX6_pairs cX6_pairs 4 (some .int) :: ((wsX6_pairs_r1 ++ wsX6_pairs_r2) ++ wsX60)
def wsX6_share_r1 : List Cond := [Cond.fieldLink RX6 7 "SharedLineModel" "now" "[I", Cond.constant RX6 160 (-1000000), Cond.methodLink RX6 150 yX6_pairs, Cond.instanceMethod yX6_pairs, Cond.selects RX6 yX6_pairs yX6_pairs, Cond.initialized RX6, Cond.code yX6_pairs cX6_pairs 4 (some .int), Cond.methodLink RX6 120 yX6_isSoon, Cond.instanceMethod yX6_isSoon, Cond.selects RX6 yX6_isSoon yX6_isSoon, Cond.code yX6_isSoon cX6_isSoon 5 (some .boolean), Cond.methodLink RX6 110 yX6_isNote, Cond.instanceMethod yX6_isNote, Cond.selects RX6 yX6_isNote yX6_isNote, Cond.code yX6_isNote cX6_isNote 2 (some .boolean), Cond.methodLink RX6 107 yX6_isTick, Cond.instanceMethod yX6_isTick, Cond.selects RX6 yX6_isTick yX6_isTick, Cond.code yX6_isTick cX6_isTick 2 (some .boolean), Cond.methodLink RX6 52 yX6_within, Cond.static yX6_within, Cond.code yX6_within cX6_within 3 (some .boolean), Cond.methodLink RX6 116 yX6_nextOf, Cond.instanceMethod yX6_nextOf]
def wsX6_share_r2 : List Cond := [Cond.selects RX6 yX6_nextOf yX6_nextOf, Cond.code yX6_nextOf cX6_nextOf 4 (some .int), Cond.methodLink RX6 113 yX6_has, Cond.static yX6_has, Cond.code yX6_has cX6_has 2 (some .boolean), Cond.methodLink RX6 123 yX6_isFar, Cond.instanceMethod yX6_isFar, Cond.selects RX6 yX6_isFar yX6_isFar, Cond.code yX6_isFar cX6_isFar 5 (some .boolean), Cond.methodLink RX6 154 yX6_likeness, Cond.instanceMethod yX6_likeness, Cond.selects RX6 yX6_likeness yX6_likeness, Cond.code yX6_likeness cX6_likeness 5 (some .int), Cond.methodLink RX6 157 yX6_tilt, Cond.instanceMethod yX6_tilt, Cond.selects RX6 yX6_tilt yX6_tilt, Cond.code yX6_tilt cX6_tilt 4 (some .int), Cond.methodLink RX6 144 yX6_isLawfulNow, Cond.instanceMethod yX6_isLawfulNow, Cond.selects RX6 yX6_isLawfulNow yX6_isLawfulNow, Cond.code yX6_isLawfulNow cX6_isLawfulNow 2 (some .boolean), Cond.methodLink RX6 126 yX6_isLawful, Cond.instanceMethod yX6_isLawful, Cond.selects RX6 yX6_isLawful yX6_isLawful]
def wsX6_share_r3 : List Cond := [Cond.code yX6_isLawful cX6_isLawful 5 (some .boolean)]
def wsX6_share : List Cond := .code yX6_share cX6_share 2 (some .int) :: ((wsX6_share_r1 ++ (wsX6_share_r2 ++ wsX6_share_r3)) ++ wsX60)
def wsX6_off : List Cond := .code yX6_off cX6_off 1 (some .int) :: ([])
def wsX6_isBetter_r1 : List Cond := [Cond.methodLink RX6 154 yX6_likeness, Cond.instanceMethod yX6_likeness, Cond.selects RX6 yX6_likeness yX6_likeness, Cond.initialized RX6, Cond.code yX6_likeness cX6_likeness 5 (some .int), Cond.fieldLink RX6 7 "SharedLineModel" "now" "[I", Cond.methodLink RX6 110 yX6_isNote, Cond.instanceMethod yX6_isNote, Cond.selects RX6 yX6_isNote yX6_isNote, Cond.code yX6_isNote cX6_isNote 2 (some .boolean), Cond.methodLink RX6 107 yX6_isTick, Cond.instanceMethod yX6_isTick, Cond.selects RX6 yX6_isTick yX6_isTick, Cond.code yX6_isTick cX6_isTick 2 (some .boolean), Cond.methodLink RX6 52 yX6_within, Cond.static yX6_within, Cond.code yX6_within cX6_within 3 (some .boolean), Cond.methodLink RX6 113 yX6_has, Cond.static yX6_has, Cond.code yX6_has cX6_has 2 (some .boolean), Cond.methodLink RX6 157 yX6_tilt, Cond.instanceMethod yX6_tilt, Cond.selects RX6 yX6_tilt yX6_tilt, Cond.code yX6_tilt cX6_tilt 4 (some .int)]
def wsX6_isBetter_r2 : List Cond := [Cond.methodLink RX6 161 yX6_off, Cond.static yX6_off, Cond.code yX6_off cX6_off 1 (some .int)]
def wsX6_isBetter : List Cond := .code yX6_isBetter cX6_isBetter 4 (some .boolean) :: ((wsX6_isBetter_r1 ++ wsX6_isBetter_r2) ++ wsX60)
def wsX6_best_r1 : List Cond := [Cond.constant RX6 160 (-1000000), Cond.constant RX6 167 (-2000000), Cond.methodLink RX6 52 yX6_within, Cond.static yX6_within, Cond.initialized RX6, Cond.code yX6_within cX6_within 3 (some .boolean), Cond.methodLink RX6 135 yX6_notes, Cond.instanceMethod yX6_notes, Cond.selects RX6 yX6_notes yX6_notes, Cond.code yX6_notes cX6_notes 3 (some .int), Cond.fieldLink RX6 7 "SharedLineModel" "now" "[I", Cond.methodLink RX6 110 yX6_isNote, Cond.instanceMethod yX6_isNote, Cond.selects RX6 yX6_isNote yX6_isNote, Cond.code yX6_isNote cX6_isNote 2 (some .boolean), Cond.methodLink RX6 107 yX6_isTick, Cond.instanceMethod yX6_isTick, Cond.selects RX6 yX6_isTick yX6_isTick, Cond.code yX6_isTick cX6_isTick 2 (some .boolean), Cond.methodLink RX6 138 yX6_shareOf, Cond.instanceMethod yX6_shareOf, Cond.selects RX6 yX6_shareOf yX6_shareOf, Cond.code yX6_shareOf cX6_shareOf 5 (some .int), Cond.methodLink RX6 144 yX6_isLawfulNow]
def wsX6_best_r2 : List Cond := [Cond.instanceMethod yX6_isLawfulNow, Cond.selects RX6 yX6_isLawfulNow yX6_isLawfulNow, Cond.code yX6_isLawfulNow cX6_isLawfulNow 2 (some .boolean), Cond.methodLink RX6 126 yX6_isLawful, Cond.instanceMethod yX6_isLawful, Cond.selects RX6 yX6_isLawful yX6_isLawful, Cond.code yX6_isLawful cX6_isLawful 5 (some .boolean), Cond.methodLink RX6 120 yX6_isSoon, Cond.instanceMethod yX6_isSoon, Cond.selects RX6 yX6_isSoon yX6_isSoon, Cond.code yX6_isSoon cX6_isSoon 5 (some .boolean), Cond.methodLink RX6 116 yX6_nextOf, Cond.instanceMethod yX6_nextOf, Cond.selects RX6 yX6_nextOf yX6_nextOf, Cond.code yX6_nextOf cX6_nextOf 4 (some .int), Cond.methodLink RX6 113 yX6_has, Cond.static yX6_has, Cond.code yX6_has cX6_has 2 (some .boolean), Cond.methodLink RX6 123 yX6_isFar, Cond.instanceMethod yX6_isFar, Cond.selects RX6 yX6_isFar yX6_isFar, Cond.code yX6_isFar cX6_isFar 5 (some .boolean), Cond.methodLink RX6 164 yX6_isBetter, Cond.instanceMethod yX6_isBetter]
def wsX6_best_r3 : List Cond := [Cond.selects RX6 yX6_isBetter yX6_isBetter, Cond.code yX6_isBetter cX6_isBetter 4 (some .boolean), Cond.methodLink RX6 154 yX6_likeness, Cond.instanceMethod yX6_likeness, Cond.selects RX6 yX6_likeness yX6_likeness, Cond.code yX6_likeness cX6_likeness 5 (some .int), Cond.methodLink RX6 157 yX6_tilt, Cond.instanceMethod yX6_tilt, Cond.selects RX6 yX6_tilt yX6_tilt, Cond.code yX6_tilt cX6_tilt 4 (some .int), Cond.methodLink RX6 161 yX6_off, Cond.static yX6_off, Cond.code yX6_off cX6_off 1 (some .int)]
def wsX6_best : List Cond := .code yX6_best cX6_best 5 (some .int) :: ((wsX6_best_r1 ++ (wsX6_best_r2 ++ wsX6_best_r3)) ++ wsX60)
def wsX6_slowest_r1 : List Cond := [Cond.methodLink RX6 135 yX6_notes, Cond.instanceMethod yX6_notes, Cond.selects RX6 yX6_notes yX6_notes, Cond.initialized RX6, Cond.code yX6_notes cX6_notes 3 (some .int), Cond.fieldLink RX6 7 "SharedLineModel" "now" "[I", Cond.methodLink RX6 110 yX6_isNote, Cond.instanceMethod yX6_isNote, Cond.selects RX6 yX6_isNote yX6_isNote, Cond.code yX6_isNote cX6_isNote 2 (some .boolean), Cond.methodLink RX6 107 yX6_isTick, Cond.instanceMethod yX6_isTick, Cond.selects RX6 yX6_isTick yX6_isTick, Cond.code yX6_isTick cX6_isTick 2 (some .boolean), Cond.methodLink RX6 52 yX6_within, Cond.static yX6_within, Cond.code yX6_within cX6_within 3 (some .boolean), Cond.methodLink RX6 138 yX6_shareOf, Cond.instanceMethod yX6_shareOf, Cond.selects RX6 yX6_shareOf yX6_shareOf, Cond.code yX6_shareOf cX6_shareOf 5 (some .int), Cond.methodLink RX6 126 yX6_isLawful, Cond.instanceMethod yX6_isLawful, Cond.selects RX6 yX6_isLawful yX6_isLawful]
def wsX6_slowest_r2 : List Cond := [Cond.code yX6_isLawful cX6_isLawful 5 (some .boolean), Cond.methodLink RX6 120 yX6_isSoon, Cond.instanceMethod yX6_isSoon, Cond.selects RX6 yX6_isSoon yX6_isSoon, Cond.code yX6_isSoon cX6_isSoon 5 (some .boolean), Cond.methodLink RX6 116 yX6_nextOf, Cond.instanceMethod yX6_nextOf, Cond.selects RX6 yX6_nextOf yX6_nextOf, Cond.code yX6_nextOf cX6_nextOf 4 (some .int), Cond.methodLink RX6 113 yX6_has, Cond.static yX6_has, Cond.code yX6_has cX6_has 2 (some .boolean), Cond.methodLink RX6 123 yX6_isFar, Cond.instanceMethod yX6_isFar, Cond.selects RX6 yX6_isFar yX6_isFar, Cond.code yX6_isFar cX6_isFar 5 (some .boolean)]
def wsX6_slowest : List Cond := .code yX6_slowest cX6_slowest 3 (some .int) :: ((wsX6_slowest_r1 ++ wsX6_slowest_r2) ++ wsX60)
def wsX6_change_r1 : List Cond := [Cond.fieldLink RX6 7 "SharedLineModel" "now" "[I", Cond.methodLink RX6 147 yX6_nearest, Cond.instanceMethod yX6_nearest, Cond.selects RX6 yX6_nearest yX6_nearest, Cond.initialized RX6, Cond.code yX6_nearest cX6_nearest 5 (some .int), Cond.methodLink RX6 135 yX6_notes, Cond.instanceMethod yX6_notes, Cond.selects RX6 yX6_notes yX6_notes, Cond.code yX6_notes cX6_notes 3 (some .int), Cond.methodLink RX6 110 yX6_isNote, Cond.instanceMethod yX6_isNote, Cond.selects RX6 yX6_isNote yX6_isNote, Cond.code yX6_isNote cX6_isNote 2 (some .boolean), Cond.methodLink RX6 107 yX6_isTick, Cond.instanceMethod yX6_isTick, Cond.selects RX6 yX6_isTick yX6_isTick, Cond.code yX6_isTick cX6_isTick 2 (some .boolean), Cond.methodLink RX6 52 yX6_within, Cond.static yX6_within, Cond.code yX6_within cX6_within 3 (some .boolean), Cond.methodLink RX6 138 yX6_shareOf, Cond.instanceMethod yX6_shareOf, Cond.selects RX6 yX6_shareOf yX6_shareOf]
def wsX6_change_r2 : List Cond := [Cond.code yX6_shareOf cX6_shareOf 5 (some .int), Cond.methodLink RX6 141 yX6_ones, Cond.static yX6_ones, Cond.code yX6_ones cX6_ones 3 (some .int), Cond.methodLink RX6 144 yX6_isLawfulNow, Cond.instanceMethod yX6_isLawfulNow, Cond.selects RX6 yX6_isLawfulNow yX6_isLawfulNow, Cond.code yX6_isLawfulNow cX6_isLawfulNow 2 (some .boolean), Cond.methodLink RX6 126 yX6_isLawful, Cond.instanceMethod yX6_isLawful, Cond.selects RX6 yX6_isLawful yX6_isLawful, Cond.code yX6_isLawful cX6_isLawful 5 (some .boolean), Cond.methodLink RX6 120 yX6_isSoon, Cond.instanceMethod yX6_isSoon, Cond.selects RX6 yX6_isSoon yX6_isSoon, Cond.code yX6_isSoon cX6_isSoon 5 (some .boolean), Cond.methodLink RX6 116 yX6_nextOf, Cond.instanceMethod yX6_nextOf, Cond.selects RX6 yX6_nextOf yX6_nextOf, Cond.code yX6_nextOf cX6_nextOf 4 (some .int), Cond.methodLink RX6 113 yX6_has, Cond.static yX6_has, Cond.code yX6_has cX6_has 2 (some .boolean), Cond.methodLink RX6 123 yX6_isFar]
def wsX6_change_r3 : List Cond := [Cond.instanceMethod yX6_isFar, Cond.selects RX6 yX6_isFar yX6_isFar, Cond.code yX6_isFar cX6_isFar 5 (some .boolean)]
def wsX6_change : List Cond := .code yX6_change cX6_change 2 (some .int) :: ((wsX6_change_r1 ++ (wsX6_change_r2 ++ wsX6_change_r3)) ++ wsX60)
def wsX6_busyAt : List Cond := .code yX6_busyAt cX6_busyAt 5 (some .int) :: ([.fieldLink RX6 7 "SharedLineModel" "now" "[I", .methodLink RX6 110 yX6_isNote, .instanceMethod yX6_isNote, .selects RX6 yX6_isNote yX6_isNote, .initialized RX6, .code yX6_isNote cX6_isNote 2 (some .boolean), .methodLink RX6 107 yX6_isTick, .instanceMethod yX6_isTick, .selects RX6 yX6_isTick yX6_isTick, .code yX6_isTick cX6_isTick 2 (some .boolean), .methodLink RX6 52 yX6_within, .static yX6_within, .code yX6_within cX6_within 3 (some .boolean)] ++ wsX60)
def wsX6_busiest : List Cond := .code yX6_busiest cX6_busiest 5 (some .int) :: ([.fieldLink RX6 7 "SharedLineModel" "now" "[I", .methodLink RX6 129 yX6_isHand, .static yX6_isHand, .initialized RX6, .code yX6_isHand cX6_isHand 1 (some .boolean), .methodLink RX6 52 yX6_within, .static yX6_within, .code yX6_within cX6_within 3 (some .boolean), .methodLink RX6 168 yX6_busyAt, .instanceMethod yX6_busyAt, .selects RX6 yX6_busyAt yX6_busyAt, .code yX6_busyAt cX6_busyAt 5 (some .int), .methodLink RX6 110 yX6_isNote, .instanceMethod yX6_isNote, .selects RX6 yX6_isNote yX6_isNote, .code yX6_isNote cX6_isNote 2 (some .boolean), .methodLink RX6 107 yX6_isTick, .instanceMethod yX6_isTick, .selects RX6 yX6_isTick yX6_isTick, .code yX6_isTick cX6_isTick 2 (some .boolean)] ++ wsX60)
def wsX6_shareBy : List Cond := .code yX6_shareBy cX6_shareBy 4 (some .int) :: ([.fieldLink RX6 7 "SharedLineModel" "now" "[I", .methodLink RX6 110 yX6_isNote, .instanceMethod yX6_isNote, .selects RX6 yX6_isNote yX6_isNote, .initialized RX6, .code yX6_isNote cX6_isNote 2 (some .boolean), .methodLink RX6 107 yX6_isTick, .instanceMethod yX6_isTick, .selects RX6 yX6_isTick yX6_isTick, .code yX6_isTick cX6_isTick 2 (some .boolean), .methodLink RX6 52 yX6_within, .static yX6_within, .code yX6_within cX6_within 3 (some .boolean), .methodLink RX6 113 yX6_has, .static yX6_has, .code yX6_has cX6_has 2 (some .boolean)] ++ wsX60)
def wsX6_pitches : List Cond := .code yX6_pitches cX6_pitches 3 (some .int) :: ([.fieldLink RX6 7 "SharedLineModel" "now" "[I", .methodLink RX6 110 yX6_isNote, .instanceMethod yX6_isNote, .selects RX6 yX6_isNote yX6_isNote, .initialized RX6, .code yX6_isNote cX6_isNote 2 (some .boolean), .methodLink RX6 107 yX6_isTick, .instanceMethod yX6_isTick, .selects RX6 yX6_isTick yX6_isTick, .code yX6_isTick cX6_isTick 2 (some .boolean), .methodLink RX6 52 yX6_within, .static yX6_within, .code yX6_within cX6_within 3 (some .boolean)] ++ wsX60)
def wsX6_isTable_r1 : List Cond := [Cond.methodLink RX6 171 yX6_pitches, Cond.instanceMethod yX6_pitches, Cond.selects RX6 yX6_pitches yX6_pitches, Cond.initialized RX6, Cond.code yX6_pitches cX6_pitches 3 (some .int), Cond.fieldLink RX6 7 "SharedLineModel" "now" "[I", Cond.methodLink RX6 110 yX6_isNote, Cond.instanceMethod yX6_isNote, Cond.selects RX6 yX6_isNote yX6_isNote, Cond.code yX6_isNote cX6_isNote 2 (some .boolean), Cond.methodLink RX6 107 yX6_isTick, Cond.instanceMethod yX6_isTick, Cond.selects RX6 yX6_isTick yX6_isTick, Cond.code yX6_isTick cX6_isTick 2 (some .boolean), Cond.methodLink RX6 52 yX6_within, Cond.static yX6_within, Cond.code yX6_within cX6_within 3 (some .boolean), Cond.methodLink RX6 174 yX6_shareBy, Cond.instanceMethod yX6_shareBy, Cond.selects RX6 yX6_shareBy yX6_shareBy, Cond.code yX6_shareBy cX6_shareBy 4 (some .int), Cond.methodLink RX6 113 yX6_has, Cond.static yX6_has, Cond.code yX6_has cX6_has 2 (some .boolean)]
def wsX6_isTable_r2 : List Cond := [Cond.methodLink RX6 144 yX6_isLawfulNow, Cond.instanceMethod yX6_isLawfulNow, Cond.selects RX6 yX6_isLawfulNow yX6_isLawfulNow, Cond.code yX6_isLawfulNow cX6_isLawfulNow 2 (some .boolean), Cond.methodLink RX6 126 yX6_isLawful, Cond.instanceMethod yX6_isLawful, Cond.selects RX6 yX6_isLawful yX6_isLawful, Cond.code yX6_isLawful cX6_isLawful 5 (some .boolean), Cond.methodLink RX6 120 yX6_isSoon, Cond.instanceMethod yX6_isSoon, Cond.selects RX6 yX6_isSoon yX6_isSoon, Cond.code yX6_isSoon cX6_isSoon 5 (some .boolean), Cond.methodLink RX6 116 yX6_nextOf, Cond.instanceMethod yX6_nextOf, Cond.selects RX6 yX6_nextOf yX6_nextOf, Cond.code yX6_nextOf cX6_nextOf 4 (some .int), Cond.methodLink RX6 123 yX6_isFar, Cond.instanceMethod yX6_isFar, Cond.selects RX6 yX6_isFar yX6_isFar, Cond.code yX6_isFar cX6_isFar 5 (some .boolean)]
def wsX6_isTable : List Cond := .code yX6_isTable cX6_isTable 2 (some .boolean) :: ((wsX6_isTable_r1 ++ wsX6_isTable_r2) ++ wsX60)
def wsX6_isHeard_r1 : List Cond := [Cond.fieldLink RX6 180 "SharedLineModel" "seen" "I", Cond.fieldLink RX6 26 "SharedLineModel" "seenTick" "[I", Cond.fieldLink RX6 29 "SharedLineModel" "seenHand" "[I", Cond.methodLink RX6 174 yX6_shareBy, Cond.instanceMethod yX6_shareBy, Cond.selects RX6 yX6_shareBy yX6_shareBy, Cond.initialized RX6, Cond.code yX6_shareBy cX6_shareBy 4 (some .int), Cond.fieldLink RX6 7 "SharedLineModel" "now" "[I", Cond.methodLink RX6 110 yX6_isNote, Cond.instanceMethod yX6_isNote, Cond.selects RX6 yX6_isNote yX6_isNote, Cond.code yX6_isNote cX6_isNote 2 (some .boolean), Cond.methodLink RX6 107 yX6_isTick, Cond.instanceMethod yX6_isTick, Cond.selects RX6 yX6_isTick yX6_isTick, Cond.code yX6_isTick cX6_isTick 2 (some .boolean), Cond.methodLink RX6 52 yX6_within, Cond.static yX6_within, Cond.code yX6_within cX6_within 3 (some .boolean), Cond.methodLink RX6 113 yX6_has, Cond.static yX6_has, Cond.code yX6_has cX6_has 2 (some .boolean), Cond.methodLink RX6 177 yX6_isTable]
def wsX6_isHeard_r2 : List Cond := [Cond.instanceMethod yX6_isTable, Cond.selects RX6 yX6_isTable yX6_isTable, Cond.code yX6_isTable cX6_isTable 2 (some .boolean), Cond.methodLink RX6 171 yX6_pitches, Cond.instanceMethod yX6_pitches, Cond.selects RX6 yX6_pitches yX6_pitches, Cond.code yX6_pitches cX6_pitches 3 (some .int), Cond.methodLink RX6 144 yX6_isLawfulNow, Cond.instanceMethod yX6_isLawfulNow, Cond.selects RX6 yX6_isLawfulNow yX6_isLawfulNow, Cond.code yX6_isLawfulNow cX6_isLawfulNow 2 (some .boolean), Cond.methodLink RX6 126 yX6_isLawful, Cond.instanceMethod yX6_isLawful, Cond.selects RX6 yX6_isLawful yX6_isLawful, Cond.code yX6_isLawful cX6_isLawful 5 (some .boolean), Cond.methodLink RX6 120 yX6_isSoon, Cond.instanceMethod yX6_isSoon, Cond.selects RX6 yX6_isSoon yX6_isSoon, Cond.code yX6_isSoon cX6_isSoon 5 (some .boolean), Cond.methodLink RX6 116 yX6_nextOf, Cond.instanceMethod yX6_nextOf, Cond.selects RX6 yX6_nextOf yX6_nextOf, Cond.code yX6_nextOf cX6_nextOf 4 (some .int), Cond.methodLink RX6 123 yX6_isFar]
def wsX6_isHeard_r3 : List Cond := [Cond.instanceMethod yX6_isFar, Cond.selects RX6 yX6_isFar yX6_isFar, Cond.code yX6_isFar cX6_isFar 5 (some .boolean)]
def wsX6_isHeard : List Cond := .code yX6_isHeard cX6_isHeard 5 (some .boolean) :: ((wsX6_isHeard_r1 ++ (wsX6_isHeard_r2 ++ wsX6_isHeard_r3)) ++ wsX60)
def wsX6_tellTables_r1 : List Cond := [Cond.methodLink RX6 183 yX6_isHeard, Cond.instanceMethod yX6_isHeard, Cond.selects RX6 yX6_isHeard yX6_isHeard, Cond.initialized RX6, Cond.code yX6_isHeard cX6_isHeard 5 (some .boolean), Cond.fieldLink RX6 180 "SharedLineModel" "seen" "I", Cond.fieldLink RX6 26 "SharedLineModel" "seenTick" "[I", Cond.fieldLink RX6 29 "SharedLineModel" "seenHand" "[I", Cond.methodLink RX6 174 yX6_shareBy, Cond.instanceMethod yX6_shareBy, Cond.selects RX6 yX6_shareBy yX6_shareBy, Cond.code yX6_shareBy cX6_shareBy 4 (some .int), Cond.fieldLink RX6 7 "SharedLineModel" "now" "[I", Cond.methodLink RX6 110 yX6_isNote, Cond.instanceMethod yX6_isNote, Cond.selects RX6 yX6_isNote yX6_isNote, Cond.code yX6_isNote cX6_isNote 2 (some .boolean), Cond.methodLink RX6 107 yX6_isTick, Cond.instanceMethod yX6_isTick, Cond.selects RX6 yX6_isTick yX6_isTick, Cond.code yX6_isTick cX6_isTick 2 (some .boolean), Cond.methodLink RX6 52 yX6_within, Cond.static yX6_within, Cond.code yX6_within cX6_within 3 (some .boolean)]
def wsX6_tellTables_r2 : List Cond := [Cond.methodLink RX6 113 yX6_has, Cond.static yX6_has, Cond.code yX6_has cX6_has 2 (some .boolean), Cond.methodLink RX6 177 yX6_isTable, Cond.instanceMethod yX6_isTable, Cond.selects RX6 yX6_isTable yX6_isTable, Cond.code yX6_isTable cX6_isTable 2 (some .boolean), Cond.methodLink RX6 171 yX6_pitches, Cond.instanceMethod yX6_pitches, Cond.selects RX6 yX6_pitches yX6_pitches, Cond.code yX6_pitches cX6_pitches 3 (some .int), Cond.methodLink RX6 144 yX6_isLawfulNow, Cond.instanceMethod yX6_isLawfulNow, Cond.selects RX6 yX6_isLawfulNow yX6_isLawfulNow, Cond.code yX6_isLawfulNow cX6_isLawfulNow 2 (some .boolean), Cond.methodLink RX6 126 yX6_isLawful, Cond.instanceMethod yX6_isLawful, Cond.selects RX6 yX6_isLawful yX6_isLawful, Cond.code yX6_isLawful cX6_isLawful 5 (some .boolean), Cond.methodLink RX6 120 yX6_isSoon, Cond.instanceMethod yX6_isSoon, Cond.selects RX6 yX6_isSoon yX6_isSoon, Cond.code yX6_isSoon cX6_isSoon 5 (some .boolean), Cond.methodLink RX6 116 yX6_nextOf]
def wsX6_tellTables_r3 : List Cond := [Cond.instanceMethod yX6_nextOf, Cond.selects RX6 yX6_nextOf yX6_nextOf, Cond.code yX6_nextOf cX6_nextOf 4 (some .int), Cond.methodLink RX6 123 yX6_isFar, Cond.instanceMethod yX6_isFar, Cond.selects RX6 yX6_isFar yX6_isFar, Cond.code yX6_isFar cX6_isFar 5 (some .boolean)]
def wsX6_tellTables : List Cond := .code yX6_tellTables cX6_tellTables 7 (some .int) :: ((wsX6_tellTables_r1 ++ (wsX6_tellTables_r2 ++ wsX6_tellTables_r3)) ++ wsX60)
def wsX6_tables_r1 : List Cond := [Cond.methodLink RX6 186 yX6_tellTables, Cond.instanceMethod yX6_tellTables, Cond.selects RX6 yX6_tellTables yX6_tellTables, Cond.initialized RX6, Cond.code yX6_tellTables cX6_tellTables 7 (some .int), Cond.methodLink RX6 183 yX6_isHeard, Cond.instanceMethod yX6_isHeard, Cond.selects RX6 yX6_isHeard yX6_isHeard, Cond.code yX6_isHeard cX6_isHeard 5 (some .boolean), Cond.fieldLink RX6 180 "SharedLineModel" "seen" "I", Cond.fieldLink RX6 26 "SharedLineModel" "seenTick" "[I", Cond.fieldLink RX6 29 "SharedLineModel" "seenHand" "[I", Cond.methodLink RX6 174 yX6_shareBy, Cond.instanceMethod yX6_shareBy, Cond.selects RX6 yX6_shareBy yX6_shareBy, Cond.code yX6_shareBy cX6_shareBy 4 (some .int), Cond.fieldLink RX6 7 "SharedLineModel" "now" "[I", Cond.methodLink RX6 110 yX6_isNote, Cond.instanceMethod yX6_isNote, Cond.selects RX6 yX6_isNote yX6_isNote, Cond.code yX6_isNote cX6_isNote 2 (some .boolean), Cond.methodLink RX6 107 yX6_isTick, Cond.instanceMethod yX6_isTick, Cond.selects RX6 yX6_isTick yX6_isTick]
def wsX6_tables_r2 : List Cond := [Cond.code yX6_isTick cX6_isTick 2 (some .boolean), Cond.methodLink RX6 52 yX6_within, Cond.static yX6_within, Cond.code yX6_within cX6_within 3 (some .boolean), Cond.methodLink RX6 113 yX6_has, Cond.static yX6_has, Cond.code yX6_has cX6_has 2 (some .boolean), Cond.methodLink RX6 177 yX6_isTable, Cond.instanceMethod yX6_isTable, Cond.selects RX6 yX6_isTable yX6_isTable, Cond.code yX6_isTable cX6_isTable 2 (some .boolean), Cond.methodLink RX6 171 yX6_pitches, Cond.instanceMethod yX6_pitches, Cond.selects RX6 yX6_pitches yX6_pitches, Cond.code yX6_pitches cX6_pitches 3 (some .int), Cond.methodLink RX6 144 yX6_isLawfulNow, Cond.instanceMethod yX6_isLawfulNow, Cond.selects RX6 yX6_isLawfulNow yX6_isLawfulNow, Cond.code yX6_isLawfulNow cX6_isLawfulNow 2 (some .boolean), Cond.methodLink RX6 126 yX6_isLawful, Cond.instanceMethod yX6_isLawful, Cond.selects RX6 yX6_isLawful yX6_isLawful, Cond.code yX6_isLawful cX6_isLawful 5 (some .boolean), Cond.methodLink RX6 120 yX6_isSoon]
def wsX6_tables_r3 : List Cond := [Cond.instanceMethod yX6_isSoon, Cond.selects RX6 yX6_isSoon yX6_isSoon, Cond.code yX6_isSoon cX6_isSoon 5 (some .boolean), Cond.methodLink RX6 116 yX6_nextOf, Cond.instanceMethod yX6_nextOf, Cond.selects RX6 yX6_nextOf yX6_nextOf, Cond.code yX6_nextOf cX6_nextOf 4 (some .int), Cond.methodLink RX6 123 yX6_isFar, Cond.instanceMethod yX6_isFar, Cond.selects RX6 yX6_isFar yX6_isFar, Cond.code yX6_isFar cX6_isFar 5 (some .boolean)]
def wsX6_tables : List Cond := .code yX6_tables cX6_tables 2 (some .int) :: ((wsX6_tables_r1 ++ (wsX6_tables_r2 ++ wsX6_tables_r3)) ++ wsX60)
def wsX6_sees : List Cond := .code yX6_sees cX6_sees 3 (some .int) :: ([.fieldLink RX6 180 "SharedLineModel" "seen" "I", .fieldLink RX6 26 "SharedLineModel" "seenTick" "[I", .fieldLink RX6 29 "SharedLineModel" "seenHand" "[I", .methodLink RX6 52 yX6_within, .static yX6_within, .initialized RX6, .code yX6_within cX6_within 3 (some .boolean), .methodLink RX6 129 yX6_isHand, .static yX6_isHand, .code yX6_isHand cX6_isHand 1 (some .boolean)] ++ wsX60)
def wsX6_forget : List Cond := .code yX6_forget cX6_forget 2 (some .int) :: ([.fieldLink RX6 180 "SharedLineModel" "seen" "I"] ++ wsX60)
def wsX6_which_r1 : List Cond := [Cond.methodLink RX6 186 yX6_tellTables, Cond.instanceMethod yX6_tellTables, Cond.selects RX6 yX6_tellTables yX6_tellTables, Cond.initialized RX6, Cond.code yX6_tellTables cX6_tellTables 7 (some .int), Cond.methodLink RX6 183 yX6_isHeard, Cond.instanceMethod yX6_isHeard, Cond.selects RX6 yX6_isHeard yX6_isHeard, Cond.code yX6_isHeard cX6_isHeard 5 (some .boolean), Cond.fieldLink RX6 180 "SharedLineModel" "seen" "I", Cond.fieldLink RX6 26 "SharedLineModel" "seenTick" "[I", Cond.fieldLink RX6 29 "SharedLineModel" "seenHand" "[I", Cond.methodLink RX6 174 yX6_shareBy, Cond.instanceMethod yX6_shareBy, Cond.selects RX6 yX6_shareBy yX6_shareBy, Cond.code yX6_shareBy cX6_shareBy 4 (some .int), Cond.fieldLink RX6 7 "SharedLineModel" "now" "[I", Cond.methodLink RX6 110 yX6_isNote, Cond.instanceMethod yX6_isNote, Cond.selects RX6 yX6_isNote yX6_isNote, Cond.code yX6_isNote cX6_isNote 2 (some .boolean), Cond.methodLink RX6 107 yX6_isTick, Cond.instanceMethod yX6_isTick, Cond.selects RX6 yX6_isTick yX6_isTick]
def wsX6_which_r2 : List Cond := [Cond.code yX6_isTick cX6_isTick 2 (some .boolean), Cond.methodLink RX6 52 yX6_within, Cond.static yX6_within, Cond.code yX6_within cX6_within 3 (some .boolean), Cond.methodLink RX6 113 yX6_has, Cond.static yX6_has, Cond.code yX6_has cX6_has 2 (some .boolean), Cond.methodLink RX6 177 yX6_isTable, Cond.instanceMethod yX6_isTable, Cond.selects RX6 yX6_isTable yX6_isTable, Cond.code yX6_isTable cX6_isTable 2 (some .boolean), Cond.methodLink RX6 171 yX6_pitches, Cond.instanceMethod yX6_pitches, Cond.selects RX6 yX6_pitches yX6_pitches, Cond.code yX6_pitches cX6_pitches 3 (some .int), Cond.methodLink RX6 144 yX6_isLawfulNow, Cond.instanceMethod yX6_isLawfulNow, Cond.selects RX6 yX6_isLawfulNow yX6_isLawfulNow, Cond.code yX6_isLawfulNow cX6_isLawfulNow 2 (some .boolean), Cond.methodLink RX6 126 yX6_isLawful, Cond.instanceMethod yX6_isLawful, Cond.selects RX6 yX6_isLawful yX6_isLawful, Cond.code yX6_isLawful cX6_isLawful 5 (some .boolean), Cond.methodLink RX6 120 yX6_isSoon]
def wsX6_which_r3 : List Cond := [Cond.instanceMethod yX6_isSoon, Cond.selects RX6 yX6_isSoon yX6_isSoon, Cond.code yX6_isSoon cX6_isSoon 5 (some .boolean), Cond.methodLink RX6 116 yX6_nextOf, Cond.instanceMethod yX6_nextOf, Cond.selects RX6 yX6_nextOf yX6_nextOf, Cond.code yX6_nextOf cX6_nextOf 4 (some .int), Cond.methodLink RX6 123 yX6_isFar, Cond.instanceMethod yX6_isFar, Cond.selects RX6 yX6_isFar yX6_isFar, Cond.code yX6_isFar cX6_isFar 5 (some .boolean)]
def wsX6_which : List Cond := .code yX6_which cX6_which 2 (some .int) :: ((wsX6_which_r1 ++ (wsX6_which_r2 ++ wsX6_which_r3)) ++ wsX60)
def wsX6_listen_r1 : List Cond := [Cond.fieldLink RX6 35 "SharedLineModel" "second" "[I", Cond.fieldLink RX6 7 "SharedLineModel" "now" "[I", Cond.methodLink RX6 183 yX6_isHeard, Cond.instanceMethod yX6_isHeard, Cond.selects RX6 yX6_isHeard yX6_isHeard, Cond.initialized RX6, Cond.code yX6_isHeard cX6_isHeard 5 (some .boolean), Cond.fieldLink RX6 180 "SharedLineModel" "seen" "I", Cond.fieldLink RX6 26 "SharedLineModel" "seenTick" "[I", Cond.fieldLink RX6 29 "SharedLineModel" "seenHand" "[I", Cond.methodLink RX6 174 yX6_shareBy, Cond.instanceMethod yX6_shareBy, Cond.selects RX6 yX6_shareBy yX6_shareBy, Cond.code yX6_shareBy cX6_shareBy 4 (some .int), Cond.methodLink RX6 110 yX6_isNote, Cond.instanceMethod yX6_isNote, Cond.selects RX6 yX6_isNote yX6_isNote, Cond.code yX6_isNote cX6_isNote 2 (some .boolean), Cond.methodLink RX6 107 yX6_isTick, Cond.instanceMethod yX6_isTick, Cond.selects RX6 yX6_isTick yX6_isTick, Cond.code yX6_isTick cX6_isTick 2 (some .boolean), Cond.methodLink RX6 52 yX6_within, Cond.static yX6_within]
def wsX6_listen_r2 : List Cond := [Cond.code yX6_within cX6_within 3 (some .boolean), Cond.methodLink RX6 113 yX6_has, Cond.static yX6_has, Cond.code yX6_has cX6_has 2 (some .boolean), Cond.methodLink RX6 177 yX6_isTable, Cond.instanceMethod yX6_isTable, Cond.selects RX6 yX6_isTable yX6_isTable, Cond.code yX6_isTable cX6_isTable 2 (some .boolean), Cond.methodLink RX6 171 yX6_pitches, Cond.instanceMethod yX6_pitches, Cond.selects RX6 yX6_pitches yX6_pitches, Cond.code yX6_pitches cX6_pitches 3 (some .int), Cond.methodLink RX6 144 yX6_isLawfulNow, Cond.instanceMethod yX6_isLawfulNow, Cond.selects RX6 yX6_isLawfulNow yX6_isLawfulNow, Cond.code yX6_isLawfulNow cX6_isLawfulNow 2 (some .boolean), Cond.methodLink RX6 126 yX6_isLawful, Cond.instanceMethod yX6_isLawful, Cond.selects RX6 yX6_isLawful yX6_isLawful, Cond.code yX6_isLawful cX6_isLawful 5 (some .boolean), Cond.methodLink RX6 120 yX6_isSoon, Cond.instanceMethod yX6_isSoon, Cond.selects RX6 yX6_isSoon yX6_isSoon, Cond.code yX6_isSoon cX6_isSoon 5 (some .boolean)]
def wsX6_listen_r3 : List Cond := [Cond.methodLink RX6 116 yX6_nextOf, Cond.instanceMethod yX6_nextOf, Cond.selects RX6 yX6_nextOf yX6_nextOf, Cond.code yX6_nextOf cX6_nextOf 4 (some .int), Cond.methodLink RX6 123 yX6_isFar, Cond.instanceMethod yX6_isFar, Cond.selects RX6 yX6_isFar yX6_isFar, Cond.code yX6_isFar cX6_isFar 5 (some .boolean)]
def wsX6_listen : List Cond := .code yX6_listen cX6_listen 7 (some .int) :: ((wsX6_listen_r1 ++ (wsX6_listen_r2 ++ wsX6_listen_r3)) ++ wsX60)
def wsX6_keep : List Cond := .code yX6_keep cX6_keep 3 (some .int) :: ([.fieldLink RX6 19 "SharedLineModel" "images" "[I", .fieldLink RX6 7 "SharedLineModel" "now" "[I", .fieldLink RX6 22 "SharedLineModel" "isKept" "[Z", .methodLink RX6 52 yX6_within, .static yX6_within, .initialized RX6, .code yX6_within cX6_within 3 (some .boolean)] ++ wsX60)
def wsX6_back : List Cond := .code yX6_back cX6_back 3 (some .int) :: ([.fieldLink RX6 22 "SharedLineModel" "isKept" "[Z", .fieldLink RX6 7 "SharedLineModel" "now" "[I", .fieldLink RX6 19 "SharedLineModel" "images" "[I", .fieldLink RX6 98 "SharedLineModel" "undos" "I", .methodLink RX6 52 yX6_within, .static yX6_within, .initialized RX6, .code yX6_within cX6_within 3 (some .boolean)] ++ wsX60)
def wsX6_count : List Cond := .code yX6_count cX6_count 2 (some .int) :: ([.fieldLink RX6 7 "SharedLineModel" "now" "[I", .fieldLink RX6 180 "SharedLineModel" "seen" "I", .fieldLink RX6 46 "SharedLineModel" "letters" "I", .fieldLink RX6 98 "SharedLineModel" "undos" "I", .methodLink RX6 135 yX6_notes, .instanceMethod yX6_notes, .selects RX6 yX6_notes yX6_notes, .initialized RX6, .code yX6_notes cX6_notes 3 (some .int), .methodLink RX6 110 yX6_isNote, .instanceMethod yX6_isNote, .selects RX6 yX6_isNote yX6_isNote, .code yX6_isNote cX6_isNote 2 (some .boolean), .methodLink RX6 107 yX6_isTick, .instanceMethod yX6_isTick, .selects RX6 yX6_isTick yX6_isTick, .code yX6_isTick cX6_isTick 2 (some .boolean), .methodLink RX6 52 yX6_within, .static yX6_within, .code yX6_within cX6_within 3 (some .boolean)] ++ wsX60)
def wsJ9_abs_0f7a4 : List Cond := .code yJ9_abs_0f7a4 cJ9_abs_0f7a4 1 (some .int) :: ([])
def wsJ9_max_7cf53 : List Cond := .code yJ9_max_7cf53 cJ9_max_7cf53 2 (some .int) :: ([])
def wsL_law_r1 : List Cond := [Cond.classLink RL 7 RX5, Cond.instantiable RX5 9, Cond.initialized RX5, Cond.classLink RL 10 RX6, Cond.instantiable RX6 15, Cond.initialized RX6, Cond.methodLink RL 9 yX5_init, Cond.instanceMethod yX5_init, Cond.code yX5_init cX5_init 1 none, Cond.methodLink RX5 1 objectInit, Cond.instanceMethod objectInit, Cond.code objectInit ⟨#[0xb1]⟩ 1 none, Cond.classLink RX5 7 RX0, Cond.instantiable RX0 7, Cond.initialized RX0, Cond.fieldLink RX5 10 "SharedLine" "now" "LSharedLine$Line;", Cond.classLink RX5 16 RX4, Cond.instantiable RX4 8, Cond.initialized RX4, Cond.fieldLink RX5 19 "SharedLine" "text" "LSharedLine$Text;", Cond.classLink RX5 23 RX1, Cond.instantiable RX1 2, Cond.initialized RX1, Cond.fieldLink RX5 26 "SharedLine" "past" "LSharedLine$Past;"]
def wsL_law_r2 : List Cond := [Cond.classLink RX5 30 RX2, Cond.instantiable RX2 4, Cond.initialized RX2, Cond.fieldLink RX5 33 "SharedLine" "search" "LSharedLine$Search;", Cond.classLink RX5 37 RX3, Cond.instantiable RX3 3, Cond.initialized RX3, Cond.fieldLink RX5 40 "SharedLine" "tableSet" "LSharedLine$TableSet;", Cond.fieldLink RX5 44 "SharedLine" "images" "[LSharedLine$Line;", Cond.methodLink RX5 9 yX0_init, Cond.instanceMethod yX0_init, Cond.code yX0_init cX0_init 1 none, Cond.methodLink RX0 3 objectInit, Cond.arrayClass .int, Cond.fieldLink RX0 9 "SharedLine$Line" "pitches" "[I", Cond.methodLink RX0 15 yX0_makeNew, Cond.instanceMethod yX0_makeNew, Cond.selects RX0 yX0_makeNew yX0_makeNew, Cond.code yX0_makeNew cX0_makeNew 1 none, Cond.fieldLink RX0 24 "SharedLine$Line" "ticks" "I", Cond.fieldLink RX0 28 "SharedLine$Line" "notes" "I", Cond.fieldLink RX0 31 "SharedLine$Line" "hands" "I", Cond.fieldLink RX0 37 "SharedLine$Line" "wait" "I", Cond.fieldLink RX0 40 "SharedLine$Line" "reach" "I"]
def wsL_law_r3 : List Cond := [Cond.fieldLink RX0 43 "SharedLine$Line" "bar" "I", Cond.methodLink RX0 18 yJ7_fill_53178, Cond.static yJ7_fill_53178, Cond.initialized RJ7, Cond.code yJ7_fill_53178 cJ7_fill_53178 4 none, Cond.instanceMethod yX4_init, Cond.code yX4_init cX4_init 1 none, Cond.methodLink RX4 3 objectInit, Cond.classLink RX4 9 RX0, Cond.fieldLink RX4 12 "SharedLine$Text" "draft" "LSharedLine$Line;", Cond.fieldLink RX4 18 "SharedLine$Text" "letters" "[I", Cond.methodLink RX4 11 yX0_init, Cond.methodLink RX5 25 yX1_init, Cond.instanceMethod yX1_init, Cond.code yX1_init cX1_init 2 none, Cond.methodLink RX1 3 objectInit, Cond.classLink RX1 9 RX0, Cond.fieldLink RX1 11 "SharedLine$Past" "lines" "[LSharedLine$Line;", Cond.methodLink RX1 17 yX0_init, Cond.instanceMethod yX2_init, Cond.code yX2_init cX2_init 1 none, Cond.methodLink RX2 3 objectInit, Cond.classLink RX2 9 RX0, Cond.fieldLink RX2 12 "SharedLine$Search" "line" "LSharedLine$Line;"]
def wsL_law_r4 : List Cond := [Cond.methodLink RX2 11 yX0_init, Cond.instanceMethod yX3_init, Cond.code yX3_init cX3_init 1 none, Cond.methodLink RX3 3 objectInit, Cond.fieldLink RX3 9 "SharedLine$TableSet" "manyOfHand1" "[I", Cond.methodLink RL 12 yX6_init, Cond.instanceMethod yX6_init, Cond.code yX6_init cX6_init 1 none, Cond.methodLink RX6 1 objectInit, Cond.fieldLink RX6 7 "SharedLineModel" "now" "[I", Cond.fieldLink RX6 13 "SharedLineModel" "fresh" "[I", Cond.fieldLink RX6 16 "SharedLineModel" "past" "[I", Cond.fieldLink RX6 19 "SharedLineModel" "images" "[I", Cond.arrayClass .boolean, Cond.fieldLink RX6 22 "SharedLineModel" "isKept" "[Z", Cond.fieldLink RX6 26 "SharedLineModel" "seenTick" "[I", Cond.fieldLink RX6 29 "SharedLineModel" "seenHand" "[I", Cond.fieldLink RX6 32 "SharedLineModel" "text" "[I", Cond.fieldLink RX6 35 "SharedLineModel" "second" "[I", Cond.methodLink RX6 38 yX6_bares, Cond.static yX6_bares, Cond.code yX6_bares cX6_bares 2 none, Cond.methodLink RL 13 yX5_type, Cond.instanceMethod yX5_type]
def wsL_law_r5 : List Cond := [Cond.selects RX5 yX5_type yX5_type, Cond.code yX5_type cX5_type 2 (some .int), Cond.fieldLink RX5 52 "SharedLine$Text" "length" "I", Cond.methodLink RX5 48 yX4_add, Cond.instanceMethod yX4_add, Cond.selects RX4 yX4_add yX4_add, Cond.code yX4_add cX4_add 2 (some .boolean), Cond.fieldLink RX4 22 "SharedLine$Text" "length" "I", Cond.methodLink RL 17 yX6_type, Cond.instanceMethod yX6_type, Cond.selects RX6 yX6_type yX6_type, Cond.code yX6_type cX6_type 2 (some .int), Cond.fieldLink RX6 46 "SharedLineModel" "letters" "I", Cond.methodLink RX6 52 yX6_within, Cond.static yX6_within, Cond.code yX6_within cX6_within 3 (some .boolean), Cond.methodLink RL 18 yX5_clear, Cond.instanceMethod yX5_clear, Cond.selects RX5 yX5_clear yX5_clear, Cond.code yX5_clear cX5_clear 2 (some .int), Cond.methodLink RL 22 yX6_clear, Cond.instanceMethod yX6_clear, Cond.selects RX6 yX6_clear yX6_clear, Cond.code yX6_clear cX6_clear 2 (some .int)]
def wsL_law_r6 : List Cond := [Cond.methodLink RL 23 yX5_tells, Cond.instanceMethod yX5_tells, Cond.selects RX5 yX5_tells yX5_tells, Cond.code yX5_tells cX5_tells 2 (some .int), Cond.fieldLink RX5 64 "SharedLine$Text" "draft" "LSharedLine$Line;", Cond.methodLink RX5 56 yX4_read, Cond.instanceMethod yX4_read, Cond.selects RX4 yX4_read yX4_read, Cond.code yX4_read cX4_read 2 (some .int), Cond.fieldLink RX4 29 "SharedLine$Text" "lineTold" "Z", Cond.fieldLink RX4 33 "SharedLine$Text" "handsTold" "Z", Cond.fieldLink RX4 36 "SharedLine$Text" "end" "I", Cond.fieldLink RX4 42 "SharedLine$Text" "kind" "I", Cond.fieldLink RX4 49 "SharedLine$Text" "start" "I", Cond.methodLink RX4 26 yX0_makeNew, Cond.methodLink RX4 39 yX4_nextToken, Cond.instanceMethod yX4_nextToken, Cond.selects RX4 yX4_nextToken yX4_nextToken, Cond.code yX4_nextToken cX4_nextToken 2 none, Cond.methodLink RX4 63 yX4_kindAt, Cond.instanceMethod yX4_kindAt, Cond.selects RX4 yX4_kindAt yX4_kindAt, Cond.code yX4_kindAt cX4_kindAt 3 (some .int), Cond.methodLink RX4 67 yX4_letterAt]
def wsL_law_r7 : List Cond := [Cond.instanceMethod yX4_letterAt, Cond.selects RX4 yX4_letterAt yX4_letterAt, Cond.code yX4_letterAt cX4_letterAt 2 (some .int), Cond.methodLink RX4 45 yX4_readItem, Cond.instanceMethod yX4_readItem, Cond.selects RX4 yX4_readItem yX4_readItem, Cond.code yX4_readItem cX4_readItem 2 (some .boolean), Cond.methodLink RX4 52 yX4_itemOfWord, Cond.instanceMethod yX4_itemOfWord, Cond.selects RX4 yX4_itemOfWord yX4_itemOfWord, Cond.code yX4_itemOfWord cX4_itemOfWord 1 (some .int), Cond.methodLink RX4 72 yX4_isWord, Cond.instanceMethod yX4_isWord, Cond.selects RX4 yX4_isWord yX4_isWord, Cond.code yX4_isWord cX4_isWord 3 (some .boolean), Cond.methodLink RX4 84 yJ0_length_8abf5, Cond.instanceMethod yJ0_length_8abf5, Cond.selects RJ0 yJ0_length_8abf5 yJ0_length_8abf5, Cond.initialized RJ0, Cond.code yJ0_length_8abf5 cJ0_length_8abf5 1 (some .int), Cond.fieldLink RJ0 9 "java/lang/String" "value" "[B", Cond.methodLink RJ0 335 yJ0_coder_7d493, Cond.instanceMethod yJ0_coder_7d493, Cond.selects RJ0 yJ0_coder_7d493 yJ0_coder_7d493]
def wsL_law_r8 : List Cond := [Cond.code yJ0_coder_7d493 cJ0_coder_7d493 1 (some .byte), Cond.fieldLink RJ0 38 "java/lang/String" "COMPACT_STRINGS" "Z", Cond.fieldLink RJ0 15 "java/lang/String" "coder" "B", Cond.methodLink RX4 88 yJ0_charAt_5068e, Cond.instanceMethod yJ0_charAt_5068e, Cond.selects RJ0 yJ0_charAt_5068e yJ0_charAt_5068e, Cond.code yJ0_charAt_5068e cJ0_charAt_5068e 2 (some .char), Cond.methodLink RJ0 492 yJ0_isLatin1_aae02, Cond.instanceMethod yJ0_isLatin1_aae02, Cond.selects RJ0 yJ0_isLatin1_aae02 yJ0_isLatin1_aae02, Cond.code yJ0_isLatin1_aae02 cJ0_isLatin1_aae02 1 (some .boolean), Cond.methodLink RJ0 495 yJ1_charAt_3b067, Cond.static yJ1_charAt_3b067, Cond.initialized RJ1, Cond.code yJ1_charAt_3b067 cJ1_charAt_3b067 2 (some .char), Cond.methodLink RJ1 9 yJ0_checkIndex_df160, Cond.static yJ0_checkIndex_df160, Cond.code yJ0_checkIndex_df160 cJ0_checkIndex_df160 2 none, Cond.fieldLink RJ0 1053 "jdk/internal/util/Preconditions" "SIOOBE_FORMATTER" "Ljava/util/function/BiFunction;", Cond.methodLink RJ0 1059 yJ3_checkIndex_8e157, Cond.static yJ3_checkIndex_8e157, Cond.initialized RJ3, Cond.code yJ3_checkIndex_8e157 cJ3_checkIndex_8e157 3 (some .int), Cond.methodLink RJ0 498 yJ2_charAt_3b067]
def wsL_law_r9 : List Cond := [Cond.static yJ2_charAt_3b067, Cond.initialized RJ2, Cond.code yJ2_charAt_3b067 cJ2_charAt_3b067 2 (some .char), Cond.methodLink RJ2 67 yJ2_checkIndex_2214a, Cond.static yJ2_checkIndex_2214a, Cond.code yJ2_checkIndex_2214a cJ2_checkIndex_2214a 2 none, Cond.methodLink RJ2 48 yJ2_length_9d52b, Cond.static yJ2_length_9d52b, Cond.code yJ2_length_9d52b cJ2_length_9d52b 1 (some .int), Cond.methodLink RJ2 414 yJ0_checkIndex_df160, Cond.methodLink RJ2 71 yJ2_getChar_3b067, Cond.static yJ2_getChar_3b067, Cond.code yJ2_getChar_3b067 cJ2_getChar_3b067 2 (some .char), Cond.fieldLink RJ2 44 "java/lang/StringUTF16" "$assertionsDisabled" "Z", Cond.fieldLink RJ2 59 "java/lang/StringUTF16" "HI_BYTE_SHIFT" "I", Cond.fieldLink RJ2 63 "java/lang/StringUTF16" "LO_BYTE_SHIFT" "I", Cond.methodLink RX4 56 yX4_mayBegin, Cond.instanceMethod yX4_mayBegin, Cond.selects RX4 yX4_mayBegin yX4_mayBegin, Cond.code yX4_mayBegin cX4_mayBegin 2 (some .boolean), Cond.methodLink RX4 60 yX4_takeFigures, Cond.instanceMethod yX4_takeFigures, Cond.selects RX4 yX4_takeFigures yX4_takeFigures, Cond.code yX4_takeFigures cX4_takeFigures 2 (some .boolean)]
def wsL_law_r10 : List Cond := [Cond.methodLink RX4 92 yX4_takeLine, Cond.instanceMethod yX4_takeLine, Cond.selects RX4 yX4_takeLine yX4_takeLine, Cond.code yX4_takeLine cX4_takeLine 3 (some .boolean), Cond.fieldLink RX4 101 "SharedLine$Line" "ticks" "I", Cond.methodLink RX4 104 yX4_figureAt, Cond.instanceMethod yX4_figureAt, Cond.selects RX4 yX4_figureAt yX4_figureAt, Cond.code yX4_figureAt cX4_figureAt 2 (some .int), Cond.methodLink RX4 107 yX0_setPitch, Cond.instanceMethod yX0_setPitch, Cond.selects RX0 yX0_setPitch yX0_setPitch, Cond.code yX0_setPitch cX0_setPitch 3 none, Cond.methodLink RX4 95 yX4_takeHands, Cond.instanceMethod yX4_takeHands, Cond.selects RX4 yX4_takeHands yX4_takeHands, Cond.code yX4_takeHands cX4_takeHands 3 (some .boolean), Cond.fieldLink RX4 114 "SharedLine$Line" "hands" "I", Cond.fieldLink RX4 116 "SharedLine$Line" "notes" "I", Cond.static yX5_isHand, Cond.code yX5_isHand cX5_isHand 1 (some .boolean), Cond.methodLink RX4 98 yX4_takeNumber, Cond.instanceMethod yX4_takeNumber, Cond.selects RX4 yX4_takeNumber yX4_takeNumber]
def wsL_law_r11 : List Cond := [Cond.code yX4_takeNumber cX4_takeNumber 3 (some .boolean), Cond.static yX5_isNumber, Cond.code yX5_isNumber cX5_isNumber 2 (some .boolean), Cond.fieldLink RX5 161 "SharedLine" "NUMBER_LEAST" "[I", Cond.fieldLink RX5 157 "SharedLine" "NUMBER_MOST" "[I", Cond.methodLink RX4 123 yX0_setNumber, Cond.instanceMethod yX0_setNumber, Cond.selects RX0 yX0_setNumber yX0_setNumber, Cond.code yX0_setNumber cX0_setNumber 3 none, Cond.methodLink RX5 60 yX1_remember, Cond.instanceMethod yX1_remember, Cond.selects RX1 yX1_remember yX1_remember, Cond.code yX1_remember cX1_remember 2 none, Cond.fieldLink RX1 18 "SharedLine$Past" "size" "I", Cond.methodLink RX1 22 yX1_loseOldest, Cond.instanceMethod yX1_loseOldest, Cond.selects RX1 yX1_loseOldest yX1_loseOldest, Cond.code yX1_loseOldest cX1_loseOldest 3 none, Cond.methodLink RX1 25 yX0_copyFrom, Cond.instanceMethod yX0_copyFrom, Cond.selects RX0 yX0_copyFrom yX0_copyFrom, Cond.code yX0_copyFrom cX0_copyFrom 2 none, Cond.methodLink RX0 46 arraycopyName, Cond.native arraycopyName]
def wsL_law_r12 : List Cond := [Cond.static arraycopyName, Cond.initialized "java/lang/System", Cond.methodLink RX5 67 yX0_copyFrom, Cond.methodLink RL 26 yX6_tells, Cond.instanceMethod yX6_tells, Cond.selects RX6 yX6_tells yX6_tells, Cond.code yX6_tells cX6_tells 3 (some .int), Cond.fieldLink RX6 49 "SharedLineModel" "mark" "I", Cond.methodLink RX6 101 yX6_reads, Cond.instanceMethod yX6_reads, Cond.selects RX6 yX6_reads yX6_reads, Cond.code yX6_reads cX6_reads 2 (some .int), Cond.fieldLink RX6 67 "SharedLineModel" "hasHands" "Z", Cond.fieldLink RX6 42 "SharedLineModel" "at" "I", Cond.methodLink RX6 56 yX6_skips, Cond.instanceMethod yX6_skips, Cond.selects RX6 yX6_skips yX6_skips, Cond.code yX6_skips cX6_skips 1 none, Cond.methodLink RX6 92 yX6_readsItem, Cond.instanceMethod yX6_readsItem, Cond.selects RX6 yX6_readsItem yX6_readsItem, Cond.code yX6_readsItem cX6_readsItem 2 (some .boolean), Cond.methodLink RX6 77 yX6_wordPassed, Cond.instanceMethod yX6_wordPassed]
def wsL_law_r13 : List Cond := [Cond.selects RX6 yX6_wordPassed yX6_wordPassed, Cond.code yX6_wordPassed cX6_wordPassed 2 (some .int), Cond.methodLink RX6 59 yX6_isAt, Cond.instanceMethod yX6_isAt, Cond.selects RX6 yX6_isAt yX6_isAt, Cond.code yX6_isAt cX6_isAt 3 (some .boolean), Cond.methodLink RX6 81 yX6_readsLine, Cond.instanceMethod yX6_readsLine, Cond.selects RX6 yX6_readsLine yX6_readsLine, Cond.code yX6_readsLine cX6_readsLine 3 (some .boolean), Cond.methodLink RX6 63 yX6_figures, Cond.instanceMethod yX6_figures, Cond.selects RX6 yX6_figures yX6_figures, Cond.code yX6_figures cX6_figures 3 (some .int), Cond.methodLink RX6 85 yX6_readsHands, Cond.instanceMethod yX6_readsHands, Cond.selects RX6 yX6_readsHands yX6_readsHands, Cond.code yX6_readsHands cX6_readsHands 2 (some .boolean), Cond.methodLink RX6 88 yX6_readsNumber, Cond.instanceMethod yX6_readsNumber, Cond.selects RX6 yX6_readsNumber yX6_readsNumber, Cond.code yX6_readsNumber cX6_readsNumber 2 (some .boolean), Cond.methodLink RX6 71 yX6_least, Cond.static yX6_least]
def wsL_law_r14 : List Cond := [Cond.code yX6_least cX6_least 1 (some .int), Cond.methodLink RX6 74 yX6_greatest, Cond.static yX6_greatest, Cond.code yX6_greatest cX6_greatest 1 (some .int), Cond.methodLink RX6 95 yX6_passesEnd, Cond.instanceMethod yX6_passesEnd, Cond.selects RX6 yX6_passesEnd yX6_passesEnd, Cond.code yX6_passesEnd cX6_passesEnd 2 (some .boolean), Cond.methodLink RX6 104 yX6_keeps, Cond.instanceMethod yX6_keeps, Cond.selects RX6 yX6_keeps yX6_keeps, Cond.code yX6_keeps cX6_keeps 2 none, Cond.fieldLink RX6 98 "SharedLineModel" "undos" "I", Cond.methodLink RL 27 yX5_gives, Cond.instanceMethod yX5_gives, Cond.selects RX5 yX5_gives yX5_gives, Cond.code yX5_gives cX5_gives 3 (some .int), Cond.fieldLink RX5 80 "SharedLine$Line" "hands" "I", Cond.methodLink RX5 70 yX0_hasNote, Cond.instanceMethod yX0_hasNote, Cond.selects RX0 yX0_hasNote yX0_hasNote, Cond.code yX0_hasNote cX0_hasNote 2 (some .boolean), Cond.methodLink RX5 73 yX5_isHand, Cond.methodLink RX5 76 yX0_handAt]
def wsL_law_r15 : List Cond := [Cond.instanceMethod yX0_handAt, Cond.selects RX0 yX0_handAt yX0_handAt, Cond.code yX0_handAt cX0_handAt 2 (some .int), Cond.methodLink RX5 83 yX0_notesOf, Cond.instanceMethod yX0_notesOf, Cond.selects RX0 yX0_notesOf yX0_notesOf, Cond.code yX0_notesOf cX0_notesOf 2 (some .int), Cond.methodLink RX5 86 yJ6_bitCount_0f7a4, Cond.static yJ6_bitCount_0f7a4, Cond.initialized RJ6, Cond.code yJ6_bitCount_0f7a4 cJ6_bitCount_0f7a4 1 (some .int), Cond.constant RJ6 265 (1431655765), Cond.constant RJ6 266 (858993459), Cond.constant RJ6 267 (252645135), Cond.methodLink RL 31 yX6_gives, Cond.instanceMethod yX6_gives, Cond.selects RX6 yX6_gives yX6_gives, Cond.code yX6_gives cX6_gives 3 (some .int), Cond.methodLink RX6 110 yX6_isNote, Cond.instanceMethod yX6_isNote, Cond.selects RX6 yX6_isNote yX6_isNote, Cond.code yX6_isNote cX6_isNote 2 (some .boolean), Cond.methodLink RX6 107 yX6_isTick, Cond.instanceMethod yX6_isTick]
def wsL_law_r16 : List Cond := [Cond.selects RX6 yX6_isTick yX6_isTick, Cond.code yX6_isTick cX6_isTick 2 (some .boolean), Cond.methodLink RX6 129 yX6_isHand, Cond.static yX6_isHand, Cond.code yX6_isHand cX6_isHand 1 (some .boolean), Cond.methodLink RX6 132 yX6_ofHand, Cond.instanceMethod yX6_ofHand, Cond.selects RX6 yX6_ofHand yX6_ofHand, Cond.code yX6_ofHand cX6_ofHand 4 (some .int), Cond.methodLink RL 32 yX5_flips, Cond.instanceMethod yX5_flips, Cond.selects RX5 yX5_flips yX5_flips, Cond.code yX5_flips cX5_flips 4 (some .int), Cond.fieldLink RX5 94 "SharedLine$Line" "notes" "I", Cond.methodLink RX5 91 yX0_hasTick, Cond.instanceMethod yX0_hasTick, Cond.selects RX0 yX0_hasTick yX0_hasTick, Cond.code yX0_hasTick cX0_hasTick 2 (some .boolean), Cond.methodLink RX5 97 yX5_ticksFrom, Cond.static yX5_ticksFrom, Cond.code yX5_ticksFrom cX5_ticksFrom 2 (some .int), Cond.methodLink RL 35 yX6_flips, Cond.instanceMethod yX6_flips, Cond.selects RX6 yX6_flips yX6_flips]
def wsL_law_r17 : List Cond := [Cond.code yX6_flips cX6_flips 6 (some .int), Cond.methodLink RL 36 yX5_mends, Cond.instanceMethod yX5_mends, Cond.selects RX5 yX5_mends yX5_mends, Cond.code yX5_mends cX5_mends 2 (some .int), Cond.fieldLink RX5 104 "SharedLine$Search" "found" "I", Cond.methodLink RX5 101 yX5_mendingChanges, Cond.instanceMethod yX5_mendingChanges, Cond.selects RX5 yX5_mendingChanges yX5_mendingChanges, Cond.code yX5_mendingChanges cX5_mendingChanges 1 (some .int), Cond.methodLink RX5 150 yX2_lookAt, Cond.instanceMethod yX2_lookAt, Cond.selects RX2 yX2_lookAt yX2_lookAt, Cond.code yX2_lookAt cX2_lookAt 2 none, Cond.methodLink RX2 18 yX0_copyFrom, Cond.methodLink RX5 153 yX2_find, Cond.instanceMethod yX2_find, Cond.selects RX2 yX2_find yX2_find, Cond.code yX2_find cX2_find 2 (some .boolean), Cond.fieldLink RX2 22 "SharedLine$Search" "goal" "I", Cond.fieldLink RX2 26 "SharedLine$Search" "found" "I", Cond.constant RX2 29 (1000000), Cond.fieldLink RX2 30 "SharedLine$Search" "leastCost" "I", Cond.methodLink RX2 33 yX2_goOn]
def wsL_law_r18 : List Cond := [Cond.instanceMethod yX2_goOn, Cond.selects RX2 yX2_goOn yX2_goOn, Cond.code yX2_goOn cX2_goOn 7 none, Cond.fieldLink RX2 37 "SharedLine$Line" "ticks" "I", Cond.methodLink RX2 40 yX2_weigh, Cond.instanceMethod yX2_weigh, Cond.selects RX2 yX2_weigh yX2_weigh, Cond.code yX2_weigh cX2_weigh 4 none, Cond.methodLink RX2 69 Lib.Math.abs.name, Cond.static Lib.Math.abs.name, Cond.initialized "java/lang/Math", Cond.code Lib.Math.abs.name Lib.Math.abs.code 1 (some .int), Cond.methodLink RX2 65 yX0_tilt, Cond.instanceMethod yX0_tilt, Cond.selects RX0 yX0_tilt yX0_tilt, Cond.code yX0_tilt cX0_tilt 2 (some .int), Cond.methodLink RX0 87 yJ6_bitCount_0f7a4, Cond.methodLink RX2 44 yX0_hasNote, Cond.methodLink RX2 48 yX0_mayStrike, Cond.instanceMethod yX0_mayStrike, Cond.selects RX0 yX0_mayStrike yX0_mayStrike, Cond.code yX0_mayStrike cX0_mayStrike 3 (some .boolean), Cond.methodLink RX0 61 yX0_isTooSoon, Cond.instanceMethod yX0_isTooSoon]
def wsL_law_r19 : List Cond := [Cond.selects RX0 yX0_isTooSoon yX0_isTooSoon, Cond.code yX0_isTooSoon cX0_isTooSoon 3 (some .boolean), Cond.methodLink RX0 65 yX0_isTooFar, Cond.instanceMethod yX0_isTooFar, Cond.selects RX0 yX0_isTooFar yX0_isTooFar, Cond.code yX0_isTooFar cX0_isTooFar 3 (some .boolean), Cond.methodLink RX0 56 Lib.Math.abs.name, Cond.methodLink RX0 52 yX0_pitchAt, Cond.instanceMethod yX0_pitchAt, Cond.selects RX0 yX0_pitchAt yX0_pitchAt, Cond.code yX0_pitchAt cX0_pitchAt 2 (some .int), Cond.methodLink RX2 52 yX2_costAt, Cond.instanceMethod yX2_costAt, Cond.selects RX2 yX2_costAt yX2_costAt, Cond.code yX2_costAt cX2_costAt 3 (some .int), Cond.fieldLink RX2 59 "SharedLine$Line" "hands" "I", Cond.methodLink RX2 56 yX2_isUnlike, Cond.instanceMethod yX2_isUnlike, Cond.selects RX2 yX2_isUnlike yX2_isUnlike, Cond.code yX2_isUnlike cX2_isUnlike 4 (some .boolean), Cond.fieldLink RX2 62 "SharedLine$Line" "bar" "I", Cond.methodLink RL 39 yX6_mends, Cond.instanceMethod yX6_mends, Cond.selects RX6 yX6_mends yX6_mends]
def wsL_law_r20 : List Cond := [Cond.code yX6_mends cX6_mends 3 (some .int), Cond.methodLink RX6 144 yX6_isLawfulNow, Cond.instanceMethod yX6_isLawfulNow, Cond.selects RX6 yX6_isLawfulNow yX6_isLawfulNow, Cond.code yX6_isLawfulNow cX6_isLawfulNow 2 (some .boolean), Cond.methodLink RX6 126 yX6_isLawful, Cond.instanceMethod yX6_isLawful, Cond.selects RX6 yX6_isLawful yX6_isLawful, Cond.code yX6_isLawful cX6_isLawful 5 (some .boolean), Cond.methodLink RX6 120 yX6_isSoon, Cond.instanceMethod yX6_isSoon, Cond.selects RX6 yX6_isSoon yX6_isSoon, Cond.code yX6_isSoon cX6_isSoon 5 (some .boolean), Cond.methodLink RX6 116 yX6_nextOf, Cond.instanceMethod yX6_nextOf, Cond.selects RX6 yX6_nextOf yX6_nextOf, Cond.code yX6_nextOf cX6_nextOf 4 (some .int), Cond.methodLink RX6 113 yX6_has, Cond.static yX6_has, Cond.code yX6_has cX6_has 2 (some .boolean), Cond.methodLink RX6 123 yX6_isFar, Cond.instanceMethod yX6_isFar, Cond.selects RX6 yX6_isFar yX6_isFar, Cond.code yX6_isFar cX6_isFar 5 (some .boolean)]
def wsL_law_r21 : List Cond := [Cond.methodLink RX6 147 yX6_nearest, Cond.instanceMethod yX6_nearest, Cond.selects RX6 yX6_nearest yX6_nearest, Cond.code yX6_nearest cX6_nearest 5 (some .int), Cond.methodLink RX6 135 yX6_notes, Cond.instanceMethod yX6_notes, Cond.selects RX6 yX6_notes yX6_notes, Cond.code yX6_notes cX6_notes 3 (some .int), Cond.methodLink RX6 138 yX6_shareOf, Cond.instanceMethod yX6_shareOf, Cond.selects RX6 yX6_shareOf yX6_shareOf, Cond.code yX6_shareOf cX6_shareOf 5 (some .int), Cond.methodLink RX6 141 yX6_ones, Cond.static yX6_ones, Cond.code yX6_ones cX6_ones 3 (some .int), Cond.methodLink RL 40 yX5_sets, Cond.instanceMethod yX5_sets, Cond.selects RX5 yX5_sets yX5_sets, Cond.code yX5_sets cX5_sets 4 (some .int), Cond.methodLink RX5 107 yX5_isNumber, Cond.methodLink RX5 111 yX0_number, Cond.instanceMethod yX0_number, Cond.selects RX0 yX0_number yX0_number, Cond.code yX0_number cX0_number 2 (some .int)]
def wsL_law_r22 : List Cond := [Cond.methodLink RX5 114 yX0_setNumber, Cond.methodLink RL 43 yX6_sets, Cond.instanceMethod yX6_sets, Cond.selects RX6 yX6_sets yX6_sets, Cond.code yX6_sets cX6_sets 4 (some .int), Cond.methodLink RL 44 yX5_undo, Cond.instanceMethod yX5_undo, Cond.selects RX5 yX5_undo yX5_undo, Cond.code yX5_undo cX5_undo 1 (some .int), Cond.fieldLink RX5 122 "SharedLine$Past" "size" "I", Cond.methodLink RX5 118 yX1_recall, Cond.instanceMethod yX1_recall, Cond.selects RX1 yX1_recall yX1_recall, Cond.code yX1_recall cX1_recall 2 (some .boolean), Cond.methodLink RL 47 yX6_undo, Cond.instanceMethod yX6_undo, Cond.selects RX6 yX6_undo yX6_undo, Cond.code yX6_undo cX6_undo 2 (some .int), Cond.methodLink RL 48 yX5_tick, Cond.instanceMethod yX5_tick, Cond.selects RX5 yX5_tick yX5_tick, Cond.code yX5_tick cX5_tick 3 (some .int), Cond.methodLink RX5 125 yX0_pitchAt, Cond.methodLink RX5 128 yX0_isSoonBehind]
def wsL_law_r23 : List Cond := [Cond.instanceMethod yX0_isSoonBehind, Cond.selects RX0 yX0_isSoonBehind yX0_isSoonBehind, Cond.code yX0_isSoonBehind cX0_isSoonBehind 3 (some .boolean), Cond.methodLink RX0 68 yX0_nextOfHand, Cond.instanceMethod yX0_nextOfHand, Cond.selects RX0 yX0_nextOfHand yX0_nextOfHand, Cond.code yX0_nextOfHand cX0_nextOfHand 3 (some .int), Cond.methodLink RX0 71 yX0_hasNote, Cond.methodLink RX0 75 yX0_handAt, Cond.methodLink RX5 131 yX0_isFarBehind, Cond.instanceMethod yX0_isFarBehind, Cond.selects RX0 yX0_isFarBehind yX0_isFarBehind, Cond.code yX0_isFarBehind cX0_isFarBehind 3 (some .boolean), Cond.methodLink RL 51 yX6_tick, Cond.instanceMethod yX6_tick, Cond.selects RX6 yX6_tick yX6_tick, Cond.code yX6_tick cX6_tick 3 (some .int), Cond.methodLink RL 52 yX5_share, Cond.instanceMethod yX5_share, Cond.selects RX5 yX5_share yX5_share, Cond.code yX5_share cX5_share 2 (some .int), Cond.constant RX5 149 (-1000000), Cond.methodLink RX5 134 yX0_countTooSoon, Cond.instanceMethod yX0_countTooSoon]
def wsL_law_r24 : List Cond := [Cond.selects RX0 yX0_countTooSoon yX0_countTooSoon, Cond.code yX0_countTooSoon cX0_countTooSoon 3 (some .int), Cond.methodLink RX0 78 yX0_isSoonBehind, Cond.methodLink RX5 137 yX0_countTooFar, Cond.instanceMethod yX0_countTooFar, Cond.selects RX0 yX0_countTooFar yX0_countTooFar, Cond.code yX0_countTooFar cX0_countTooFar 3 (some .int), Cond.methodLink RX0 81 yX0_isFarBehind, Cond.methodLink RX5 140 yX0_likeness, Cond.instanceMethod yX0_likeness, Cond.selects RX0 yX0_likeness yX0_likeness, Cond.code yX0_likeness cX0_likeness 3 (some .int), Cond.methodLink RX5 143 yX0_tilt, Cond.methodLink RX5 146 yX0_isLawful, Cond.instanceMethod yX0_isLawful, Cond.selects RX0 yX0_isLawful yX0_isLawful, Cond.code yX0_isLawful cX0_isLawful 6 (some .boolean), Cond.methodLink RX0 84 yX0_mayStrike, Cond.methodLink RL 55 yX6_share, Cond.instanceMethod yX6_share, Cond.selects RX6 yX6_share yX6_share, Cond.code yX6_share cX6_share 2 (some .int), Cond.constant RX6 160 (-1000000), Cond.methodLink RX6 150 yX6_pairs]
def wsL_law_r25 : List Cond := [Cond.instanceMethod yX6_pairs, Cond.selects RX6 yX6_pairs yX6_pairs, Cond.code yX6_pairs cX6_pairs 4 (some .int), Cond.methodLink RX6 154 yX6_likeness, Cond.instanceMethod yX6_likeness, Cond.selects RX6 yX6_likeness yX6_likeness, Cond.code yX6_likeness cX6_likeness 5 (some .int), Cond.methodLink RX6 157 yX6_tilt, Cond.instanceMethod yX6_tilt, Cond.selects RX6 yX6_tilt yX6_tilt, Cond.code yX6_tilt cX6_tilt 4 (some .int), Cond.methodLink RL 56 yX5_best, Cond.instanceMethod yX5_best, Cond.selects RX5 yX5_best yX5_best, Cond.code yX5_best cX5_best 2 (some .int), Cond.constant RX5 156 (-2000000), Cond.methodLink RL 59 yX6_best, Cond.instanceMethod yX6_best, Cond.selects RX6 yX6_best yX6_best, Cond.code yX6_best cX6_best 5 (some .int), Cond.constant RX6 167 (-2000000), Cond.methodLink RX6 164 yX6_isBetter, Cond.instanceMethod yX6_isBetter, Cond.selects RX6 yX6_isBetter yX6_isBetter]
def wsL_law_r26 : List Cond := [Cond.code yX6_isBetter cX6_isBetter 4 (some .boolean), Cond.methodLink RX6 161 yX6_off, Cond.static yX6_off, Cond.code yX6_off cX6_off 1 (some .int), Cond.methodLink RL 60 yX5_slowest, Cond.instanceMethod yX5_slowest, Cond.selects RX5 yX5_slowest yX5_slowest, Cond.code yX5_slowest cX5_slowest 2 (some .int), Cond.fieldLink RX5 164 "SharedLine$Search" "line" "LSharedLine$Line;", Cond.fieldLink RX5 167 "SharedLine$Line" "wait" "I", Cond.methodLink RL 63 yX6_slowest, Cond.instanceMethod yX6_slowest, Cond.selects RX6 yX6_slowest yX6_slowest, Cond.code yX6_slowest cX6_slowest 3 (some .int), Cond.methodLink RL 64 yX5_change, Cond.instanceMethod yX5_change, Cond.selects RX5 yX5_change yX5_change, Cond.code yX5_change cX5_change 1 (some .int), Cond.methodLink RL 67 yX6_change, Cond.instanceMethod yX6_change, Cond.selects RX6 yX6_change yX6_change, Cond.code yX6_change cX6_change 2 (some .int), Cond.methodLink RL 68 yX5_busiest, Cond.instanceMethod yX5_busiest]
def wsL_law_r27 : List Cond := [Cond.selects RX5 yX5_busiest yX5_busiest, Cond.code yX5_busiest cX5_busiest 8 (some .int), Cond.fieldLink RX5 170 "SharedLine$Line" "ticks" "I", Cond.fieldLink RX5 173 "SharedLine$Line" "bar" "I", Cond.methodLink RL 71 yX6_busiest, Cond.instanceMethod yX6_busiest, Cond.selects RX6 yX6_busiest yX6_busiest, Cond.code yX6_busiest cX6_busiest 5 (some .int), Cond.methodLink RX6 168 yX6_busyAt, Cond.instanceMethod yX6_busyAt, Cond.selects RX6 yX6_busyAt yX6_busyAt, Cond.code yX6_busyAt cX6_busyAt 5 (some .int), Cond.methodLink RL 72 yX5_tables, Cond.instanceMethod yX5_tables, Cond.selects RX5 yX5_tables yX5_tables, Cond.code yX5_tables cX5_tables 2 (some .int), Cond.methodLink RX5 176 yX5_askTables, Cond.instanceMethod yX5_askTables, Cond.selects RX5 yX5_askTables yX5_askTables, Cond.code yX5_askTables cX5_askTables 4 (some .int), Cond.fieldLink RX5 193 "SharedLine$TableSet" "size" "I", Cond.fieldLink RX5 201 "SharedLine$TableSet" "least" "I", Cond.methodLink RX5 189 yX3_gather, Cond.instanceMethod yX3_gather]
def wsL_law_r28 : List Cond := [Cond.selects RX3 yX3_gather yX3_gather, Cond.code yX3_gather cX3_gather 8 none, Cond.fieldLink RX3 15 "SharedLine$TableSet" "size" "I", Cond.fieldLink RX3 19 "SharedLine$TableSet" "least" "I", Cond.fieldLink RX3 38 "SharedLine$Line" "notes" "I", Cond.methodLink RX3 22 yJ7_fill_53178, Cond.methodLink RX3 28 yX0_pitchesUsed, Cond.instanceMethod yX0_pitchesUsed, Cond.selects RX0 yX0_pitchesUsed yX0_pitchesUsed, Cond.code yX0_pitchesUsed cX0_pitchesUsed 3 (some .int), Cond.methodLink RX3 34 yX0_shareByTable, Cond.instanceMethod yX0_shareByTable, Cond.selects RX0 yX0_shareByTable yX0_shareByTable, Cond.code yX0_shareByTable cX0_shareByTable 4 (some .int), Cond.methodLink RX3 41 yX0_isLawful, Cond.methodLink RX3 45 yX3_include, Cond.instanceMethod yX3_include, Cond.selects RX3 yX3_include yX3_include, Cond.code yX3_include cX3_include 4 none, Cond.methodLink RL 75 yX6_tables, Cond.instanceMethod yX6_tables, Cond.selects RX6 yX6_tables yX6_tables, Cond.code yX6_tables cX6_tables 2 (some .int), Cond.methodLink RX6 186 yX6_tellTables]
def wsL_law_r29 : List Cond := [Cond.instanceMethod yX6_tellTables, Cond.selects RX6 yX6_tellTables yX6_tellTables, Cond.code yX6_tellTables cX6_tellTables 7 (some .int), Cond.methodLink RX6 183 yX6_isHeard, Cond.instanceMethod yX6_isHeard, Cond.selects RX6 yX6_isHeard yX6_isHeard, Cond.code yX6_isHeard cX6_isHeard 5 (some .boolean), Cond.fieldLink RX6 180 "SharedLineModel" "seen" "I", Cond.methodLink RX6 174 yX6_shareBy, Cond.instanceMethod yX6_shareBy, Cond.selects RX6 yX6_shareBy yX6_shareBy, Cond.code yX6_shareBy cX6_shareBy 4 (some .int), Cond.methodLink RX6 177 yX6_isTable, Cond.instanceMethod yX6_isTable, Cond.selects RX6 yX6_isTable yX6_isTable, Cond.code yX6_isTable cX6_isTable 2 (some .boolean), Cond.methodLink RX6 171 yX6_pitches, Cond.instanceMethod yX6_pitches, Cond.selects RX6 yX6_pitches yX6_pitches, Cond.code yX6_pitches cX6_pitches 3 (some .int), Cond.methodLink RL 76 yX5_sees, Cond.instanceMethod yX5_sees, Cond.selects RX5 yX5_sees yX5_sees, Cond.code yX5_sees cX5_sees 3 (some .int)]
def wsL_law_r30 : List Cond := [Cond.fieldLink RX5 180 "SharedLine" "seenCount" "I", Cond.fieldLink RX5 183 "SharedLine" "seenOfHand0" "I", Cond.fieldLink RX5 186 "SharedLine" "seenOfHand1" "I", Cond.methodLink RL 79 yX6_sees, Cond.instanceMethod yX6_sees, Cond.selects RX6 yX6_sees yX6_sees, Cond.code yX6_sees cX6_sees 3 (some .int), Cond.methodLink RL 80 yX5_forget, Cond.instanceMethod yX5_forget, Cond.selects RX5 yX5_forget yX5_forget, Cond.code yX5_forget cX5_forget 2 (some .int), Cond.methodLink RL 83 yX6_forget, Cond.instanceMethod yX6_forget, Cond.selects RX6 yX6_forget yX6_forget, Cond.code yX6_forget cX6_forget 2 (some .int), Cond.methodLink RL 84 yX5_which, Cond.instanceMethod yX5_which, Cond.selects RX5 yX5_which yX5_which, Cond.code yX5_which cX5_which 2 (some .int), Cond.methodLink RL 87 yX6_which, Cond.instanceMethod yX6_which, Cond.selects RX6 yX6_which yX6_which, Cond.code yX6_which cX6_which 2 (some .int), Cond.methodLink RL 88 yX5_listen]
def wsL_law_r31 : List Cond := [Cond.instanceMethod yX5_listen, Cond.selects RX5 yX5_listen yX5_listen, Cond.code yX5_listen cX5_listen 1 (some .int), Cond.methodLink RX5 194 yX3_tickThatHalvesBest, Cond.instanceMethod yX3_tickThatHalvesBest, Cond.selects RX3 yX3_tickThatHalvesBest yX3_tickThatHalvesBest, Cond.code yX3_tickThatHalvesBest cX3_tickThatHalvesBest 6 (some .int), Cond.methodLink RX3 49 Lib.Math.max.name, Cond.static Lib.Math.max.name, Cond.code Lib.Math.max.name Lib.Math.max.code 2 (some .int), Cond.methodLink RX3 55 yX0_hasNote, Cond.methodLink RL 91 yX6_listen, Cond.instanceMethod yX6_listen, Cond.selects RX6 yX6_listen yX6_listen, Cond.code yX6_listen cX6_listen 7 (some .int), Cond.methodLink RL 92 yX5_keep, Cond.instanceMethod yX5_keep, Cond.selects RX5 yX5_keep yX5_keep, Cond.code yX5_keep cX5_keep 3 (some .int), Cond.methodLink RL 95 yX6_keep, Cond.instanceMethod yX6_keep, Cond.selects RX6 yX6_keep yX6_keep, Cond.code yX6_keep cX6_keep 3 (some .int), Cond.methodLink RL 96 yX5_back]
def wsL_law_r32 : List Cond := [Cond.instanceMethod yX5_back, Cond.selects RX5 yX5_back yX5_back, Cond.code yX5_back cX5_back 3 (some .int), Cond.methodLink RL 99 yX6_back, Cond.instanceMethod yX6_back, Cond.selects RX6 yX6_back yX6_back, Cond.code yX6_back cX6_back 3 (some .int), Cond.methodLink RL 100 yX5_count, Cond.instanceMethod yX5_count, Cond.selects RX5 yX5_count yX5_count, Cond.code yX5_count cX5_count 2 (some .int), Cond.fieldLink RX5 198 "SharedLine$Line" "reach" "I", Cond.methodLink RL 103 yX6_count, Cond.instanceMethod yX6_count, Cond.selects RX6 yX6_count yX6_count, Cond.code yX6_count cX6_count 2 (some .int)]
def wsL_law : List Cond := (wsL_law_r1 ++ (wsL_law_r2 ++ (wsL_law_r3 ++ (wsL_law_r4 ++ (wsL_law_r5 ++ (wsL_law_r6 ++ (wsL_law_r7 ++ (wsL_law_r8 ++ (wsL_law_r9 ++ (wsL_law_r10 ++ (wsL_law_r11 ++ (wsL_law_r12 ++ (wsL_law_r13 ++ (wsL_law_r14 ++ (wsL_law_r15 ++ (wsL_law_r16 ++ (wsL_law_r17 ++ (wsL_law_r18 ++ (wsL_law_r19 ++ (wsL_law_r20 ++ (wsL_law_r21 ++ (wsL_law_r22 ++ (wsL_law_r23 ++ (wsL_law_r24 ++ (wsL_law_r25 ++ (wsL_law_r26 ++ (wsL_law_r27 ++ (wsL_law_r28 ++ (wsL_law_r29 ++ (wsL_law_r30 ++ (wsL_law_r31 ++ wsL_law_r32))))))))))))))))))))))))))))))) ++ wsX50 ++ wsX60 ++ wsX00 ++ wsX40 ++ wsX10 ++ wsX20 ++ wsX30 ++ ([] : List Cond)
set_option maxRecDepth 20000 in
theorem wsL_law_in_r1 : ∀ w ∈ wsL_law_r1, w ∈ lw_tbl := fun w h => (goodIn_p wsL_law_r1 [73, 76] (by decide +kernel) (by decide +kernel) w h).1
set_option maxRecDepth 20000 in
theorem wsL_law_in_r2 : ∀ w ∈ wsL_law_r2, w ∈ lw_tbl := fun w h => (goodIn_p wsL_law_r2 [81, 86] (by decide +kernel) (by decide +kernel) w h).1
set_option maxRecDepth 20000 in
theorem wsL_law_in_r3 : ∀ w ∈ wsL_law_r3, w ∈ lw_tbl := fun w h => (goodIn_p wsL_law_r3 [89, 132, 167, 184] (by decide +kernel) (by decide +kernel) w h).1
set_option maxRecDepth 20000 in
theorem wsL_law_in_r4 : ∀ w ∈ wsL_law_r4, w ∈ lw_tbl := fun w h => (goodIn_p wsL_law_r4 [207, 645, 649] (by decide +kernel) (by decide +kernel) w h).1
set_option maxRecDepth 20000 in
theorem wsL_law_in_r5 : ∀ w ∈ wsL_law_r5, w ∈ lw_tbl := fun w h => (goodIn_p wsL_law_r5 [252, 256, 700, 703, 260, 707] (by decide +kernel) (by decide +kernel) w h).1
set_option maxRecDepth 20000 in
theorem wsL_law_in_r6 : ∀ w ∈ wsL_law_r6, w ∈ lw_tbl := fun w h => (goodIn_p wsL_law_r6 [264, 268, 273, 277] (by decide +kernel) (by decide +kernel) w h).1
set_option maxRecDepth 20000 in
theorem wsL_law_in_r7 : ∀ w ∈ wsL_law_r7, w ∈ lw_tbl := fun w h => (goodIn_p wsL_law_r7 [281, 285, 289, 294, 298] (by decide +kernel) (by decide +kernel) w h).1
set_option maxRecDepth 20000 in
theorem wsL_law_in_r8 : ∀ w ∈ wsL_law_r8, w ∈ lw_tbl := fun w h => (goodIn_p wsL_law_r8 [302, 308, 312, 315, 318, 323] (by decide +kernel) (by decide +kernel) w h).1
set_option maxRecDepth 20000 in
theorem wsL_law_in_r9 : ∀ w ∈ wsL_law_r9, w ∈ lw_tbl := fun w h => (goodIn_p wsL_law_r9 [326, 329, 332, 336, 350, 354] (by decide +kernel) (by decide +kernel) w h).1
set_option maxRecDepth 20000 in
theorem wsL_law_in_r10 : ∀ w ∈ wsL_law_r10, w ∈ lw_tbl := fun w h => (goodIn_p wsL_law_r10 [358, 362, 366, 370, 373] (by decide +kernel) (by decide +kernel) w h).1
set_option maxRecDepth 20000 in
theorem wsL_law_in_r11 : ∀ w ∈ wsL_law_r11, w ∈ lw_tbl := fun w h => (goodIn_p wsL_law_r11 [377, 380, 388, 392, 396, 400] (by decide +kernel) (by decide +kernel) w h).1
set_option maxRecDepth 20000 in
theorem wsL_law_in_r12 : ∀ w ∈ wsL_law_r12, w ∈ lw_tbl := fun w h => (goodIn_p wsL_law_r12 [711, 715, 719, 723] (by decide +kernel) (by decide +kernel) w h).1
set_option maxRecDepth 20000 in
theorem wsL_law_in_r13 : ∀ w ∈ wsL_law_r13, w ∈ lw_tbl := fun w h => (goodIn_p wsL_law_r13 [727, 731, 735, 739, 743, 747] (by decide +kernel) (by decide +kernel) w h).1
set_option maxRecDepth 20000 in
theorem wsL_law_in_r14 : ∀ w ∈ wsL_law_r14, w ∈ lw_tbl := fun w h => (goodIn_p wsL_law_r14 [750, 753, 757, 761, 409, 413] (by decide +kernel) (by decide +kernel) w h).1
set_option maxRecDepth 20000 in
theorem wsL_law_in_r15 : ∀ w ∈ wsL_law_r15, w ∈ lw_tbl := fun w h => (goodIn_p wsL_law_r15 [418, 422, 425, 765, 769] (by decide +kernel) (by decide +kernel) w h).1
set_option maxRecDepth 20000 in
theorem wsL_law_in_r16 : ∀ w ∈ wsL_law_r16, w ∈ lw_tbl := fun w h => (goodIn_p wsL_law_r16 [773, 776, 780, 432, 436, 439] (by decide +kernel) (by decide +kernel) w h).1
set_option maxRecDepth 20000 in
theorem wsL_law_in_r17 : ∀ w ∈ wsL_law_r17, w ∈ lw_tbl := fun w h => (goodIn_p wsL_law_r17 [784, 443, 447, 451, 456] (by decide +kernel) (by decide +kernel) w h).1
set_option maxRecDepth 20000 in
theorem wsL_law_in_r18 : ∀ w ∈ wsL_law_r18, w ∈ lw_tbl := fun w h => (goodIn_p wsL_law_r18 [461, 465, 473, 469, 478] (by decide +kernel) (by decide +kernel) w h).1
set_option maxRecDepth 20000 in
theorem wsL_law_in_r19 : ∀ w ∈ wsL_law_r19, w ∈ lw_tbl := fun w h => (goodIn_p wsL_law_r19 [482, 486, 490, 495, 499] (by decide +kernel) (by decide +kernel) w h).1
set_option maxRecDepth 20000 in
theorem wsL_law_in_r20 : ∀ w ∈ wsL_law_r20, w ∈ lw_tbl := fun w h => (goodIn_p wsL_law_r20 [788, 792, 796, 800, 804, 807, 811] (by decide +kernel) (by decide +kernel) w h).1
set_option maxRecDepth 20000 in
theorem wsL_law_in_r21 : ∀ w ∈ wsL_law_r21, w ∈ lw_tbl := fun w h => (goodIn_p wsL_law_r21 [815, 819, 823, 826, 503, 508] (by decide +kernel) (by decide +kernel) w h).1
set_option maxRecDepth 20000 in
theorem wsL_law_in_r22 : ∀ w ∈ wsL_law_r22, w ∈ lw_tbl := fun w h => (goodIn_p wsL_law_r22 [830, 513, 517, 834, 521] (by decide +kernel) (by decide +kernel) w h).1
set_option maxRecDepth 20000 in
theorem wsL_law_in_r23 : ∀ w ∈ wsL_law_r23, w ∈ lw_tbl := fun w h => (goodIn_p wsL_law_r23 [526, 530, 536, 838, 540] (by decide +kernel) (by decide +kernel) w h).1
set_option maxRecDepth 20000 in
theorem wsL_law_in_r24 : ∀ w ∈ wsL_law_r24, w ∈ lw_tbl := fun w h => (goodIn_p wsL_law_r24 [544, 549, 554, 559, 842] (by decide +kernel) (by decide +kernel) w h).1
set_option maxRecDepth 20000 in
theorem wsL_law_in_r25 : ∀ w ∈ wsL_law_r25, w ∈ lw_tbl := fun w h => (goodIn_p wsL_law_r25 [846, 850, 854, 565, 859] (by decide +kernel) (by decide +kernel) w h).1
set_option maxRecDepth 20000 in
theorem wsL_law_in_r26 : ∀ w ∈ wsL_law_r26, w ∈ lw_tbl := fun w h => (goodIn_p wsL_law_r26 [863, 866, 570, 871, 574, 875] (by decide +kernel) (by decide +kernel) w h).1
set_option maxRecDepth 20000 in
theorem wsL_law_in_r27 : ∀ w ∈ wsL_law_r27, w ∈ lw_tbl := fun w h => (goodIn_p wsL_law_r27 [578, 879, 883, 582, 586] (by decide +kernel) (by decide +kernel) w h).1
set_option maxRecDepth 20000 in
theorem wsL_law_in_r28 : ∀ w ∈ wsL_law_r28, w ∈ lw_tbl := fun w h => (goodIn_p wsL_law_r28 [590, 595, 599, 604, 887] (by decide +kernel) (by decide +kernel) w h).1
set_option maxRecDepth 20000 in
theorem wsL_law_in_r29 : ∀ w ∈ wsL_law_r29, w ∈ lw_tbl := fun w h => (goodIn_p wsL_law_r29 [891, 895, 899, 903, 907, 608] (by decide +kernel) (by decide +kernel) w h).1
set_option maxRecDepth 20000 in
theorem wsL_law_in_r30 : ∀ w ∈ wsL_law_r30, w ∈ lw_tbl := fun w h => (goodIn_p wsL_law_r30 [911, 612, 915, 616, 919] (by decide +kernel) (by decide +kernel) w h).1
set_option maxRecDepth 20000 in
theorem wsL_law_in_r31 : ∀ w ∈ wsL_law_r31, w ∈ lw_tbl := fun w h => (goodIn_p wsL_law_r31 [620, 624, 627, 923, 632, 927] (by decide +kernel) (by decide +kernel) w h).1
set_option maxRecDepth 20000 in
theorem wsL_law_in_r32 : ∀ w ∈ wsL_law_r32, w ∈ lw_tbl := fun w h => (goodIn_p wsL_law_r32 [636, 931, 640, 935] (by decide +kernel) (by decide +kernel) w h).1
set_option maxRecDepth 20000 in
theorem wsL_law_in_wsX50 : ∀ w ∈ wsX50, w ∈ lw_tbl := fun w h => (goodIn_p wsX50 [] (by decide +kernel) (by decide +kernel) w h).1
set_option maxRecDepth 20000 in
theorem wsL_law_in_wsX60 : ∀ w ∈ wsX60, w ∈ lw_tbl := fun w h => (goodIn_p wsX60 [] (by decide +kernel) (by decide +kernel) w h).1
set_option maxRecDepth 20000 in
theorem wsL_law_in_wsX00 : ∀ w ∈ wsX00, w ∈ lw_tbl := fun w h => (goodIn_p wsX00 [] (by decide +kernel) (by decide +kernel) w h).1
set_option maxRecDepth 20000 in
theorem wsL_law_in_wsX40 : ∀ w ∈ wsX40, w ∈ lw_tbl := fun w h => (goodIn_p wsX40 [] (by decide +kernel) (by decide +kernel) w h).1
set_option maxRecDepth 20000 in
theorem wsL_law_in_wsX10 : ∀ w ∈ wsX10, w ∈ lw_tbl := fun w h => (goodIn_p wsX10 [] (by decide +kernel) (by decide +kernel) w h).1
set_option maxRecDepth 20000 in
theorem wsL_law_in_wsX20 : ∀ w ∈ wsX20, w ∈ lw_tbl := fun w h => (goodIn_p wsX20 [] (by decide +kernel) (by decide +kernel) w h).1
set_option maxRecDepth 20000 in
theorem wsL_law_in_wsX30 : ∀ w ∈ wsX30, w ∈ lw_tbl := fun w h => (goodIn_p wsX30 [] (by decide +kernel) (by decide +kernel) w h).1
theorem wsL_law_in : ∀ w ∈ wsL_law, w ∈ lw_tbl := (List.forall_mem_append.mpr ⟨(List.forall_mem_append.mpr ⟨(List.forall_mem_append.mpr ⟨(List.forall_mem_append.mpr ⟨(List.forall_mem_append.mpr ⟨(List.forall_mem_append.mpr ⟨(List.forall_mem_append.mpr ⟨(List.forall_mem_append.mpr ⟨(List.forall_mem_append.mpr ⟨wsL_law_in_r1, (List.forall_mem_append.mpr ⟨wsL_law_in_r2, (List.forall_mem_append.mpr ⟨wsL_law_in_r3, (List.forall_mem_append.mpr ⟨wsL_law_in_r4, (List.forall_mem_append.mpr ⟨wsL_law_in_r5, (List.forall_mem_append.mpr ⟨wsL_law_in_r6, (List.forall_mem_append.mpr ⟨wsL_law_in_r7, (List.forall_mem_append.mpr ⟨wsL_law_in_r8, (List.forall_mem_append.mpr ⟨wsL_law_in_r9, (List.forall_mem_append.mpr ⟨wsL_law_in_r10, (List.forall_mem_append.mpr ⟨wsL_law_in_r11, (List.forall_mem_append.mpr ⟨wsL_law_in_r12, (List.forall_mem_append.mpr ⟨wsL_law_in_r13, (List.forall_mem_append.mpr ⟨wsL_law_in_r14, (List.forall_mem_append.mpr ⟨wsL_law_in_r15, (List.forall_mem_append.mpr ⟨wsL_law_in_r16, (List.forall_mem_append.mpr ⟨wsL_law_in_r17, (List.forall_mem_append.mpr ⟨wsL_law_in_r18, (List.forall_mem_append.mpr ⟨wsL_law_in_r19, (List.forall_mem_append.mpr ⟨wsL_law_in_r20, (List.forall_mem_append.mpr ⟨wsL_law_in_r21, (List.forall_mem_append.mpr ⟨wsL_law_in_r22, (List.forall_mem_append.mpr ⟨wsL_law_in_r23, (List.forall_mem_append.mpr ⟨wsL_law_in_r24, (List.forall_mem_append.mpr ⟨wsL_law_in_r25, (List.forall_mem_append.mpr ⟨wsL_law_in_r26, (List.forall_mem_append.mpr ⟨wsL_law_in_r27, (List.forall_mem_append.mpr ⟨wsL_law_in_r28, (List.forall_mem_append.mpr ⟨wsL_law_in_r29, (List.forall_mem_append.mpr ⟨wsL_law_in_r30, (List.forall_mem_append.mpr ⟨wsL_law_in_r31, wsL_law_in_r32⟩)⟩)⟩)⟩)⟩)⟩)⟩)⟩)⟩)⟩)⟩)⟩)⟩)⟩)⟩)⟩)⟩)⟩)⟩)⟩)⟩)⟩)⟩)⟩)⟩)⟩)⟩)⟩)⟩)⟩)⟩), wsL_law_in_wsX50⟩), wsL_law_in_wsX60⟩), wsL_law_in_wsX00⟩), wsL_law_in_wsX40⟩), wsL_law_in_wsX10⟩), wsL_law_in_wsX20⟩), wsL_law_in_wsX30⟩), fun _ h => absurd h List.not_mem_nil⟩)
theorem inlX0 : ∀ w ∈ wsX00, w ∈ wsL_law := fun _ h => List.mem_append_left _ (List.mem_append_left _ (List.mem_append_left _ (List.mem_append_left _ (List.mem_append_left _ (List.mem_append_right _ h)))))
theorem inX0 : ∀ w ∈ wsX00, w ∈ lw_tbl := fun w h => wsL_law_in w (inlX0 w h)
theorem inlX1 : ∀ w ∈ wsX10, w ∈ wsL_law := fun _ h => List.mem_append_left _ (List.mem_append_left _ (List.mem_append_left _ (List.mem_append_right _ h)))
theorem inX1 : ∀ w ∈ wsX10, w ∈ lw_tbl := fun w h => wsL_law_in w (inlX1 w h)
theorem inlX2 : ∀ w ∈ wsX20, w ∈ wsL_law := fun _ h => List.mem_append_left _ (List.mem_append_left _ (List.mem_append_right _ h))
theorem inX2 : ∀ w ∈ wsX20, w ∈ lw_tbl := fun w h => wsL_law_in w (inlX2 w h)
theorem inlX3 : ∀ w ∈ wsX30, w ∈ wsL_law := fun _ h => List.mem_append_left _ (List.mem_append_right _ h)
theorem inX3 : ∀ w ∈ wsX30, w ∈ lw_tbl := fun w h => wsL_law_in w (inlX3 w h)
theorem inlX4 : ∀ w ∈ wsX40, w ∈ wsL_law := fun _ h => List.mem_append_left _ (List.mem_append_left _ (List.mem_append_left _ (List.mem_append_left _ (List.mem_append_right _ h))))
theorem inX4 : ∀ w ∈ wsX40, w ∈ lw_tbl := fun w h => wsL_law_in w (inlX4 w h)
theorem inlX5 : ∀ w ∈ wsX50, w ∈ wsL_law := fun _ h => List.mem_append_left _ (List.mem_append_left _ (List.mem_append_left _ (List.mem_append_left _ (List.mem_append_left _ (List.mem_append_left _ (List.mem_append_left _ (List.mem_append_right _ h)))))))
theorem inX5 : ∀ w ∈ wsX50, w ∈ lw_tbl := fun w h => wsL_law_in w (inlX5 w h)
theorem inlX6 : ∀ w ∈ wsX60, w ∈ wsL_law := fun _ h => List.mem_append_left _ (List.mem_append_left _ (List.mem_append_left _ (List.mem_append_left _ (List.mem_append_left _ (List.mem_append_left _ (List.mem_append_right _ h))))))
theorem inX6 : ∀ w ∈ wsX60, w ∈ lw_tbl := fun w h => wsL_law_in w (inlX6 w h)
theorem inJx145de : ∀ w ∈ wsJx145de0, w ∈ lw_tbl := by decide +kernel
theorem inJx9f9b0 : ∀ w ∈ wsJx9f9b00, w ∈ lw_tbl := by decide +kernel
theorem inJxb160c : ∀ w ∈ wsJxb160c0, w ∈ lw_tbl := by decide +kernel
theorem inJ6 : ∀ w ∈ wsJ60, w ∈ lw_tbl := by decide +kernel
theorem inJ9 : ∀ w ∈ wsJ90, w ∈ lw_tbl := by decide +kernel
theorem inJ0 : ∀ w ∈ wsJ00, w ∈ lw_tbl := by decide +kernel
theorem inJ1 : ∀ w ∈ wsJ10, w ∈ lw_tbl := by decide +kernel
theorem inJ2 : ∀ w ∈ wsJ20, w ∈ lw_tbl := by decide +kernel
theorem inJ10 : ∀ w ∈ wsJ100, w ∈ lw_tbl := by decide +kernel
theorem inJxfd54e : ∀ w ∈ wsJxfd54e0, w ∈ lw_tbl := by decide +kernel
theorem inJx3cf43 : ∀ w ∈ wsJx3cf430, w ∈ lw_tbl := by decide +kernel
theorem inJ7 : ∀ w ∈ wsJ70, w ∈ lw_tbl := by decide +kernel
theorem inJ3 : ∀ w ∈ wsJ30, w ∈ lw_tbl := by decide +kernel
end
section
set_option maxRecDepth 20000 in
theorem ggX0_init_X0_makeNew : GoodIn wsX0_init wsX0_makeNew := goodIn_r _ [10, 5, 11, 12, 13, 14, 15, 16, 17, 18, 19, 20, 21, 22, 23, 24, 25, 26, 27] (by decide +kernel) (by decide +kernel)
set_option maxRecDepth 20000 in
theorem gX0_init_X0_makeNew : GoodIn wsX0_init (wsV RX0 15 RX0 yX0_makeNew wsX0_makeNew) := goodIn_app (goodIn_of _ (by decide +kernel)) ggX0_init_X0_makeNew
theorem dX0_init_0 : decode cX0_init 0 = .ok (.aload_n 0, 1) := by decide +kernel
theorem dX0_init_1 : decode cX0_init 1 = .ok (.invokespecial 3, 3) := by decide +kernel
theorem dX0_init_4 : decode cX0_init 4 = .ok (.aload_n 0, 1) := by decide +kernel
theorem dX0_init_5 : decode cX0_init 5 = .ok (.bipush 12, 2) := by decide +kernel
theorem dX0_init_7 : decode cX0_init 7 = .ok (.newarray .int, 2) := by decide +kernel
theorem dX0_init_9 : decode cX0_init 9 = .ok (.putfield 9, 3) := by decide +kernel
theorem dX0_init_12 : decode cX0_init 12 = .ok (.aload_n 0, 1) := by decide +kernel
theorem dX0_init_13 : decode cX0_init 13 = .ok (.invokevirtual 15, 3) := by decide +kernel
theorem dX0_init_16 : decode cX0_init 16 = .ok (.return_, 1) := by decide +kernel
set_option maxRecDepth 20000 in
theorem ggX0_makeNew_J7_fill_53178 : GoodIn wsX0_makeNew wsJ7_fill_53178 := goodIn_r _ [11] (by decide +kernel) (by decide +kernel)
set_option maxRecDepth 20000 in
theorem gX0_makeNew_J7_fill_53178 : GoodIn wsX0_makeNew (va_wsS RX0 18 yJ7_fill_53178 wsJ7_fill_53178) := goodIn_app (goodIn_of _ (by decide +kernel)) ggX0_makeNew_J7_fill_53178
theorem dX0_makeNew_0 : decode cX0_makeNew 0 = .ok (.aload_n 0, 1) := by decide +kernel
theorem dX0_makeNew_1 : decode cX0_makeNew 1 = .ok (.getfield 9, 3) := by decide +kernel
theorem dX0_makeNew_4 : decode cX0_makeNew 4 = .ok (.iconst 0, 1) := by decide +kernel
theorem dX0_makeNew_5 : decode cX0_makeNew 5 = .ok (.invokestatic 18, 3) := by decide +kernel
theorem dX0_makeNew_8 : decode cX0_makeNew 8 = .ok (.aload_n 0, 1) := by decide +kernel
theorem dX0_makeNew_9 : decode cX0_makeNew 9 = .ok (.iconst 1, 1) := by decide +kernel
theorem dX0_makeNew_10 : decode cX0_makeNew 10 = .ok (.putfield 24, 3) := by decide +kernel
theorem dX0_makeNew_13 : decode cX0_makeNew 13 = .ok (.aload_n 0, 1) := by decide +kernel
theorem dX0_makeNew_14 : decode cX0_makeNew 14 = .ok (.iconst 0, 1) := by decide +kernel
theorem dX0_makeNew_15 : decode cX0_makeNew 15 = .ok (.putfield 28, 3) := by decide +kernel
theorem dX0_makeNew_18 : decode cX0_makeNew 18 = .ok (.aload_n 0, 1) := by decide +kernel
theorem dX0_makeNew_19 : decode cX0_makeNew 19 = .ok (.iconst 0, 1) := by decide +kernel
theorem dX0_makeNew_20 : decode cX0_makeNew 20 = .ok (.putfield 31, 3) := by decide +kernel
theorem dX0_makeNew_23 : decode cX0_makeNew 23 = .ok (.aload_n 0, 1) := by decide +kernel
theorem dX0_makeNew_24 : decode cX0_makeNew 24 = .ok (.getstatic 34, 3) := by decide +kernel
theorem dX0_makeNew_27 : decode cX0_makeNew 27 = .ok (.iconst 0, 1) := by decide +kernel
theorem dX0_makeNew_28 : decode cX0_makeNew 28 = .ok (.iaload, 1) := by decide +kernel
theorem dX0_makeNew_29 : decode cX0_makeNew 29 = .ok (.putfield 37, 3) := by decide +kernel
theorem dX0_makeNew_32 : decode cX0_makeNew 32 = .ok (.aload_n 0, 1) := by decide +kernel
theorem dX0_makeNew_33 : decode cX0_makeNew 33 = .ok (.getstatic 34, 3) := by decide +kernel
theorem dX0_makeNew_36 : decode cX0_makeNew 36 = .ok (.iconst 1, 1) := by decide +kernel
theorem dX0_makeNew_37 : decode cX0_makeNew 37 = .ok (.iaload, 1) := by decide +kernel
theorem dX0_makeNew_38 : decode cX0_makeNew 38 = .ok (.putfield 40, 3) := by decide +kernel
theorem dX0_makeNew_41 : decode cX0_makeNew 41 = .ok (.aload_n 0, 1) := by decide +kernel
theorem dX0_makeNew_42 : decode cX0_makeNew 42 = .ok (.getstatic 34, 3) := by decide +kernel
theorem dX0_makeNew_45 : decode cX0_makeNew 45 = .ok (.iconst 2, 1) := by decide +kernel
theorem dX0_makeNew_46 : decode cX0_makeNew 46 = .ok (.iaload, 1) := by decide +kernel
theorem dX0_makeNew_47 : decode cX0_makeNew 47 = .ok (.putfield 43, 3) := by decide +kernel
theorem dX0_makeNew_50 : decode cX0_makeNew 50 = .ok (.return_, 1) := by decide +kernel
theorem dX0_copyFrom_0 : decode cX0_copyFrom 0 = .ok (.aload_n 1, 1) := by decide +kernel
theorem dX0_copyFrom_1 : decode cX0_copyFrom 1 = .ok (.getfield 9, 3) := by decide +kernel
theorem dX0_copyFrom_4 : decode cX0_copyFrom 4 = .ok (.iconst 0, 1) := by decide +kernel
theorem dX0_copyFrom_5 : decode cX0_copyFrom 5 = .ok (.aload_n 0, 1) := by decide +kernel
theorem dX0_copyFrom_6 : decode cX0_copyFrom 6 = .ok (.getfield 9, 3) := by decide +kernel
theorem dX0_copyFrom_9 : decode cX0_copyFrom 9 = .ok (.iconst 0, 1) := by decide +kernel
theorem dX0_copyFrom_10 : decode cX0_copyFrom 10 = .ok (.bipush 12, 2) := by decide +kernel
theorem dX0_copyFrom_12 : decode cX0_copyFrom 12 = .ok (.invokestatic 46, 3) := by decide +kernel
theorem dX0_copyFrom_15 : decode cX0_copyFrom 15 = .ok (.aload_n 0, 1) := by decide +kernel
theorem dX0_copyFrom_16 : decode cX0_copyFrom 16 = .ok (.aload_n 1, 1) := by decide +kernel
theorem dX0_copyFrom_17 : decode cX0_copyFrom 17 = .ok (.getfield 24, 3) := by decide +kernel
theorem dX0_copyFrom_20 : decode cX0_copyFrom 20 = .ok (.putfield 24, 3) := by decide +kernel
theorem dX0_copyFrom_23 : decode cX0_copyFrom 23 = .ok (.aload_n 0, 1) := by decide +kernel
theorem dX0_copyFrom_24 : decode cX0_copyFrom 24 = .ok (.aload_n 1, 1) := by decide +kernel
theorem dX0_copyFrom_25 : decode cX0_copyFrom 25 = .ok (.getfield 28, 3) := by decide +kernel
theorem dX0_copyFrom_28 : decode cX0_copyFrom 28 = .ok (.putfield 28, 3) := by decide +kernel
theorem dX0_copyFrom_31 : decode cX0_copyFrom 31 = .ok (.aload_n 0, 1) := by decide +kernel
theorem dX0_copyFrom_32 : decode cX0_copyFrom 32 = .ok (.aload_n 1, 1) := by decide +kernel
theorem dX0_copyFrom_33 : decode cX0_copyFrom 33 = .ok (.getfield 31, 3) := by decide +kernel
theorem dX0_copyFrom_36 : decode cX0_copyFrom 36 = .ok (.putfield 31, 3) := by decide +kernel
theorem dX0_copyFrom_39 : decode cX0_copyFrom 39 = .ok (.aload_n 0, 1) := by decide +kernel
theorem dX0_copyFrom_40 : decode cX0_copyFrom 40 = .ok (.aload_n 1, 1) := by decide +kernel
theorem dX0_copyFrom_41 : decode cX0_copyFrom 41 = .ok (.getfield 37, 3) := by decide +kernel
theorem dX0_copyFrom_44 : decode cX0_copyFrom 44 = .ok (.putfield 37, 3) := by decide +kernel
theorem dX0_copyFrom_47 : decode cX0_copyFrom 47 = .ok (.aload_n 0, 1) := by decide +kernel
theorem dX0_copyFrom_48 : decode cX0_copyFrom 48 = .ok (.aload_n 1, 1) := by decide +kernel
theorem dX0_copyFrom_49 : decode cX0_copyFrom 49 = .ok (.getfield 40, 3) := by decide +kernel
theorem dX0_copyFrom_52 : decode cX0_copyFrom 52 = .ok (.putfield 40, 3) := by decide +kernel
theorem dX0_copyFrom_55 : decode cX0_copyFrom 55 = .ok (.aload_n 0, 1) := by decide +kernel
theorem dX0_copyFrom_56 : decode cX0_copyFrom 56 = .ok (.aload_n 1, 1) := by decide +kernel
theorem dX0_copyFrom_57 : decode cX0_copyFrom 57 = .ok (.getfield 43, 3) := by decide +kernel
theorem dX0_copyFrom_60 : decode cX0_copyFrom 60 = .ok (.putfield 43, 3) := by decide +kernel
theorem dX0_copyFrom_63 : decode cX0_copyFrom 63 = .ok (.return_, 1) := by decide +kernel
theorem dX0_setPitch_0 : decode cX0_setPitch 0 = .ok (.iload_n 1, 1) := by decide +kernel
theorem dX0_setPitch_1 : decode cX0_setPitch 1 = .ok (.ifCond .lt 9, 3) := by decide +kernel
theorem dX0_setPitch_4 : decode cX0_setPitch 4 = .ok (.iload_n 1, 1) := by decide +kernel
theorem dX0_setPitch_5 : decode cX0_setPitch 5 = .ok (.bipush 12, 2) := by decide +kernel
theorem dX0_setPitch_7 : decode cX0_setPitch 7 = .ok (.if_icmp .lt 4, 3) := by decide +kernel
theorem dX0_setPitch_10 : decode cX0_setPitch 10 = .ok (.return_, 1) := by decide +kernel
theorem dX0_setPitch_11 : decode cX0_setPitch 11 = .ok (.aload_n 0, 1) := by decide +kernel
theorem dX0_setPitch_12 : decode cX0_setPitch 12 = .ok (.getfield 9, 3) := by decide +kernel
theorem dX0_setPitch_15 : decode cX0_setPitch 15 = .ok (.iload_n 1, 1) := by decide +kernel
theorem dX0_setPitch_16 : decode cX0_setPitch 16 = .ok (.iload_n 2, 1) := by decide +kernel
theorem dX0_setPitch_17 : decode cX0_setPitch 17 = .ok (.iastore, 1) := by decide +kernel
theorem dX0_setPitch_18 : decode cX0_setPitch 18 = .ok (.iload_n 2, 1) := by decide +kernel
theorem dX0_setPitch_19 : decode cX0_setPitch 19 = .ok (.ifCond .eq 15, 3) := by decide +kernel
theorem dX0_setPitch_22 : decode cX0_setPitch 22 = .ok (.aload_n 0, 1) := by decide +kernel
theorem dX0_setPitch_23 : decode cX0_setPitch 23 = .ok (.dup, 1) := by decide +kernel
theorem dX0_setPitch_24 : decode cX0_setPitch 24 = .ok (.getfield 28, 3) := by decide +kernel
theorem dX0_setPitch_27 : decode cX0_setPitch 27 = .ok (.iconst 1, 1) := by decide +kernel
theorem dX0_setPitch_28 : decode cX0_setPitch 28 = .ok (.iload_n 1, 1) := by decide +kernel
theorem dX0_setPitch_29 : decode cX0_setPitch 29 = .ok (.ishl, 1) := by decide +kernel
theorem dX0_setPitch_30 : decode cX0_setPitch 30 = .ok (.ior, 1) := by decide +kernel
theorem dX0_setPitch_31 : decode cX0_setPitch 31 = .ok (.putfield 28, 3) := by decide +kernel
theorem dX0_setPitch_34 : decode cX0_setPitch 34 = .ok (.return_, 1) := by decide +kernel
theorem dX0_number_0 : decode cX0_number 0 = .ok (.iload_n 1, 1) := by decide +kernel
theorem dX0_number_1 : decode cX0_number 1 = .ok (.lookupswitch 37 #[(0, 27), (1, 32)], 27) := by decide +kernel
theorem dX0_number_28 : decode cX0_number 28 = .ok (.aload_n 0, 1) := by decide +kernel
theorem dX0_number_29 : decode cX0_number 29 = .ok (.getfield 37, 3) := by decide +kernel
theorem dX0_number_32 : decode cX0_number 32 = .ok (.ireturn, 1) := by decide +kernel
theorem dX0_number_33 : decode cX0_number 33 = .ok (.aload_n 0, 1) := by decide +kernel
theorem dX0_number_34 : decode cX0_number 34 = .ok (.getfield 40, 3) := by decide +kernel
theorem dX0_number_37 : decode cX0_number 37 = .ok (.ireturn, 1) := by decide +kernel
theorem dX0_number_38 : decode cX0_number 38 = .ok (.aload_n 0, 1) := by decide +kernel
theorem dX0_number_39 : decode cX0_number 39 = .ok (.getfield 43, 3) := by decide +kernel
theorem dX0_number_42 : decode cX0_number 42 = .ok (.ireturn, 1) := by decide +kernel
theorem dX0_setNumber_0 : decode cX0_setNumber 0 = .ok (.iload_n 1, 1) := by decide +kernel
theorem dX0_setNumber_1 : decode cX0_setNumber 1 = .ok (.lookupswitch 43 #[(0, 27), (1, 35)], 27) := by decide +kernel
theorem dX0_setNumber_28 : decode cX0_setNumber 28 = .ok (.aload_n 0, 1) := by decide +kernel
theorem dX0_setNumber_29 : decode cX0_setNumber 29 = .ok (.iload_n 2, 1) := by decide +kernel
theorem dX0_setNumber_30 : decode cX0_setNumber 30 = .ok (.putfield 37, 3) := by decide +kernel
theorem dX0_setNumber_33 : decode cX0_setNumber 33 = .ok (.goto 16, 3) := by decide +kernel
theorem dX0_setNumber_36 : decode cX0_setNumber 36 = .ok (.aload_n 0, 1) := by decide +kernel
theorem dX0_setNumber_37 : decode cX0_setNumber 37 = .ok (.iload_n 2, 1) := by decide +kernel
theorem dX0_setNumber_38 : decode cX0_setNumber 38 = .ok (.putfield 40, 3) := by decide +kernel
theorem dX0_setNumber_41 : decode cX0_setNumber 41 = .ok (.goto 8, 3) := by decide +kernel
theorem dX0_setNumber_44 : decode cX0_setNumber 44 = .ok (.aload_n 0, 1) := by decide +kernel
theorem dX0_setNumber_45 : decode cX0_setNumber 45 = .ok (.iload_n 2, 1) := by decide +kernel
theorem dX0_setNumber_46 : decode cX0_setNumber 46 = .ok (.putfield 43, 3) := by decide +kernel
theorem dX0_setNumber_49 : decode cX0_setNumber 49 = .ok (.return_, 1) := by decide +kernel
theorem dX0_hasTick_0 : decode cX0_hasTick 0 = .ok (.iload_n 1, 1) := by decide +kernel
theorem dX0_hasTick_1 : decode cX0_hasTick 1 = .ok (.ifCond .lt 15, 3) := by decide +kernel
theorem dX0_hasTick_4 : decode cX0_hasTick 4 = .ok (.iload_n 1, 1) := by decide +kernel
theorem dX0_hasTick_5 : decode cX0_hasTick 5 = .ok (.aload_n 0, 1) := by decide +kernel
theorem dX0_hasTick_6 : decode cX0_hasTick 6 = .ok (.getfield 24, 3) := by decide +kernel
theorem dX0_hasTick_9 : decode cX0_hasTick 9 = .ok (.if_icmp .ge 7, 3) := by decide +kernel
theorem dX0_hasTick_12 : decode cX0_hasTick 12 = .ok (.iconst 1, 1) := by decide +kernel
theorem dX0_hasTick_13 : decode cX0_hasTick 13 = .ok (.goto 4, 3) := by decide +kernel
theorem dX0_hasTick_16 : decode cX0_hasTick 16 = .ok (.iconst 0, 1) := by decide +kernel
theorem dX0_hasTick_17 : decode cX0_hasTick 17 = .ok (.ireturn, 1) := by decide +kernel
theorem dX0_hasNote_0 : decode cX0_hasNote 0 = .ok (.iload_n 1, 1) := by decide +kernel
theorem dX0_hasNote_1 : decode cX0_hasNote 1 = .ok (.ifCond .lt 27, 3) := by decide +kernel
theorem dX0_hasNote_4 : decode cX0_hasNote 4 = .ok (.iload_n 1, 1) := by decide +kernel
theorem dX0_hasNote_5 : decode cX0_hasNote 5 = .ok (.aload_n 0, 1) := by decide +kernel
theorem dX0_hasNote_6 : decode cX0_hasNote 6 = .ok (.getfield 24, 3) := by decide +kernel
theorem dX0_hasNote_9 : decode cX0_hasNote 9 = .ok (.if_icmp .ge 19, 3) := by decide +kernel
theorem dX0_hasNote_12 : decode cX0_hasNote 12 = .ok (.aload_n 0, 1) := by decide +kernel
theorem dX0_hasNote_13 : decode cX0_hasNote 13 = .ok (.getfield 28, 3) := by decide +kernel
theorem dX0_hasNote_16 : decode cX0_hasNote 16 = .ok (.iload_n 1, 1) := by decide +kernel
theorem dX0_hasNote_17 : decode cX0_hasNote 17 = .ok (.ishr, 1) := by decide +kernel
theorem dX0_hasNote_18 : decode cX0_hasNote 18 = .ok (.iconst 1, 1) := by decide +kernel
theorem dX0_hasNote_19 : decode cX0_hasNote 19 = .ok (.iand, 1) := by decide +kernel
theorem dX0_hasNote_20 : decode cX0_hasNote 20 = .ok (.iconst 1, 1) := by decide +kernel
theorem dX0_hasNote_21 : decode cX0_hasNote 21 = .ok (.if_icmp .ne 7, 3) := by decide +kernel
theorem dX0_hasNote_24 : decode cX0_hasNote 24 = .ok (.iconst 1, 1) := by decide +kernel
theorem dX0_hasNote_25 : decode cX0_hasNote 25 = .ok (.goto 4, 3) := by decide +kernel
theorem dX0_hasNote_28 : decode cX0_hasNote 28 = .ok (.iconst 0, 1) := by decide +kernel
theorem dX0_hasNote_29 : decode cX0_hasNote 29 = .ok (.ireturn, 1) := by decide +kernel
theorem dX0_pitchAt_0 : decode cX0_pitchAt 0 = .ok (.iload_n 1, 1) := by decide +kernel
theorem dX0_pitchAt_1 : decode cX0_pitchAt 1 = .ok (.ifCond .lt 18, 3) := by decide +kernel
theorem dX0_pitchAt_4 : decode cX0_pitchAt 4 = .ok (.iload_n 1, 1) := by decide +kernel
theorem dX0_pitchAt_5 : decode cX0_pitchAt 5 = .ok (.bipush 12, 2) := by decide +kernel
theorem dX0_pitchAt_7 : decode cX0_pitchAt 7 = .ok (.if_icmp .ge 12, 3) := by decide +kernel
theorem dX0_pitchAt_10 : decode cX0_pitchAt 10 = .ok (.aload_n 0, 1) := by decide +kernel
theorem dX0_pitchAt_11 : decode cX0_pitchAt 11 = .ok (.getfield 9, 3) := by decide +kernel
theorem dX0_pitchAt_14 : decode cX0_pitchAt 14 = .ok (.iload_n 1, 1) := by decide +kernel
theorem dX0_pitchAt_15 : decode cX0_pitchAt 15 = .ok (.iaload, 1) := by decide +kernel
theorem dX0_pitchAt_16 : decode cX0_pitchAt 16 = .ok (.goto 4, 3) := by decide +kernel
theorem dX0_pitchAt_19 : decode cX0_pitchAt 19 = .ok (.iconst 0, 1) := by decide +kernel
theorem dX0_pitchAt_20 : decode cX0_pitchAt 20 = .ok (.ireturn, 1) := by decide +kernel
theorem dX0_handAt_0 : decode cX0_handAt 0 = .ok (.aload_n 0, 1) := by decide +kernel
theorem dX0_handAt_1 : decode cX0_handAt 1 = .ok (.getfield 31, 3) := by decide +kernel
theorem dX0_handAt_4 : decode cX0_handAt 4 = .ok (.iload_n 1, 1) := by decide +kernel
theorem dX0_handAt_5 : decode cX0_handAt 5 = .ok (.ishr, 1) := by decide +kernel
theorem dX0_handAt_6 : decode cX0_handAt 6 = .ok (.iconst 1, 1) := by decide +kernel
theorem dX0_handAt_7 : decode cX0_handAt 7 = .ok (.iand, 1) := by decide +kernel
theorem dX0_handAt_8 : decode cX0_handAt 8 = .ok (.ireturn, 1) := by decide +kernel
theorem dX0_notesOf_0 : decode cX0_notesOf 0 = .ok (.iload_n 1, 1) := by decide +kernel
theorem dX0_notesOf_1 : decode cX0_notesOf 1 = .ok (.ifCond .ne 17, 3) := by decide +kernel
theorem dX0_notesOf_4 : decode cX0_notesOf 4 = .ok (.aload_n 0, 1) := by decide +kernel
theorem dX0_notesOf_5 : decode cX0_notesOf 5 = .ok (.getfield 28, 3) := by decide +kernel
theorem dX0_notesOf_8 : decode cX0_notesOf 8 = .ok (.aload_n 0, 1) := by decide +kernel
theorem dX0_notesOf_9 : decode cX0_notesOf 9 = .ok (.getfield 31, 3) := by decide +kernel
theorem dX0_notesOf_12 : decode cX0_notesOf 12 = .ok (.iconst (-1), 1) := by decide +kernel
theorem dX0_notesOf_13 : decode cX0_notesOf 13 = .ok (.ixor, 1) := by decide +kernel
theorem dX0_notesOf_14 : decode cX0_notesOf 14 = .ok (.iand, 1) := by decide +kernel
theorem dX0_notesOf_15 : decode cX0_notesOf 15 = .ok (.goto 7, 3) := by decide +kernel
theorem dX0_notesOf_18 : decode cX0_notesOf 18 = .ok (.aload_n 0, 1) := by decide +kernel
theorem dX0_notesOf_19 : decode cX0_notesOf 19 = .ok (.getfield 31, 3) := by decide +kernel
theorem dX0_notesOf_22 : decode cX0_notesOf 22 = .ok (.ireturn, 1) := by decide +kernel
theorem dX0_isTooSoon_0 : decode cX0_isTooSoon 0 = .ok (.iload_n 2, 1) := by decide +kernel
theorem dX0_isTooSoon_1 : decode cX0_isTooSoon 1 = .ok (.iload_n 1, 1) := by decide +kernel
theorem dX0_isTooSoon_2 : decode cX0_isTooSoon 2 = .ok (.isub, 1) := by decide +kernel
theorem dX0_isTooSoon_3 : decode cX0_isTooSoon 3 = .ok (.aload_n 0, 1) := by decide +kernel
theorem dX0_isTooSoon_4 : decode cX0_isTooSoon 4 = .ok (.getfield 37, 3) := by decide +kernel
theorem dX0_isTooSoon_7 : decode cX0_isTooSoon 7 = .ok (.if_icmp .ge 7, 3) := by decide +kernel
theorem dX0_isTooSoon_10 : decode cX0_isTooSoon 10 = .ok (.iconst 1, 1) := by decide +kernel
theorem dX0_isTooSoon_11 : decode cX0_isTooSoon 11 = .ok (.goto 4, 3) := by decide +kernel
theorem dX0_isTooSoon_14 : decode cX0_isTooSoon 14 = .ok (.iconst 0, 1) := by decide +kernel
theorem dX0_isTooSoon_15 : decode cX0_isTooSoon 15 = .ok (.ireturn, 1) := by decide +kernel
set_option maxRecDepth 20000 in
theorem ggX0_isTooFar_X0_pitchAt : GoodIn wsX0_isTooFar wsX0_pitchAt := goodIn_r _ [10, 11, 12, 13, 14, 15, 16, 17, 18] (by decide +kernel) (by decide +kernel)
set_option maxRecDepth 20000 in
theorem gX0_isTooFar_X0_pitchAt : GoodIn wsX0_isTooFar (wsV RX0 52 RX0 yX0_pitchAt wsX0_pitchAt) := goodIn_app (goodIn_of _ (by decide +kernel)) ggX0_isTooFar_X0_pitchAt
theorem dX0_isTooFar_0 : decode cX0_isTooFar 0 = .ok (.aload_n 0, 1) := by decide +kernel
theorem dX0_isTooFar_1 : decode cX0_isTooFar 1 = .ok (.iload_n 1, 1) := by decide +kernel
theorem dX0_isTooFar_2 : decode cX0_isTooFar 2 = .ok (.invokevirtual 52, 3) := by decide +kernel
theorem dX0_isTooFar_5 : decode cX0_isTooFar 5 = .ok (.aload_n 0, 1) := by decide +kernel
theorem dX0_isTooFar_6 : decode cX0_isTooFar 6 = .ok (.iload_n 2, 1) := by decide +kernel
theorem dX0_isTooFar_7 : decode cX0_isTooFar 7 = .ok (.invokevirtual 52, 3) := by decide +kernel
theorem dX0_isTooFar_10 : decode cX0_isTooFar 10 = .ok (.isub, 1) := by decide +kernel
theorem dX0_isTooFar_11 : decode cX0_isTooFar 11 = .ok (.invokestatic 56, 3) := by decide +kernel
theorem dX0_isTooFar_14 : decode cX0_isTooFar 14 = .ok (.aload_n 0, 1) := by decide +kernel
theorem dX0_isTooFar_15 : decode cX0_isTooFar 15 = .ok (.getfield 40, 3) := by decide +kernel
theorem dX0_isTooFar_18 : decode cX0_isTooFar 18 = .ok (.iload_n 2, 1) := by decide +kernel
theorem dX0_isTooFar_19 : decode cX0_isTooFar 19 = .ok (.iadd, 1) := by decide +kernel
theorem dX0_isTooFar_20 : decode cX0_isTooFar 20 = .ok (.iload_n 1, 1) := by decide +kernel
theorem dX0_isTooFar_21 : decode cX0_isTooFar 21 = .ok (.isub, 1) := by decide +kernel
theorem dX0_isTooFar_22 : decode cX0_isTooFar 22 = .ok (.if_icmp .le 7, 3) := by decide +kernel
theorem dX0_isTooFar_25 : decode cX0_isTooFar 25 = .ok (.iconst 1, 1) := by decide +kernel
theorem dX0_isTooFar_26 : decode cX0_isTooFar 26 = .ok (.goto 4, 3) := by decide +kernel
theorem dX0_isTooFar_29 : decode cX0_isTooFar 29 = .ok (.iconst 0, 1) := by decide +kernel
theorem dX0_isTooFar_30 : decode cX0_isTooFar 30 = .ok (.ireturn, 1) := by decide +kernel
set_option maxRecDepth 20000 in
theorem ggX0_mayStrike_X0_isTooSoon : GoodIn wsX0_mayStrike wsX0_isTooSoon := goodIn_r _ [5, 6, 21, 22, 23, 24, 25, 26, 27] (by decide +kernel) (by decide +kernel)
set_option maxRecDepth 20000 in
theorem gX0_mayStrike_X0_isTooSoon : GoodIn wsX0_mayStrike (wsV RX0 61 RX0 yX0_isTooSoon wsX0_isTooSoon) := goodIn_app (goodIn_of _ (by decide +kernel)) ggX0_mayStrike_X0_isTooSoon
set_option maxRecDepth 20000 in
theorem ggX0_mayStrike_X0_isTooFar : GoodIn wsX0_mayStrike wsX0_isTooFar := goodIn_r _ [10, 11, 12, 13, 14, 15, 16, 17, 18, 4, 19, 20, 21, 22, 23, 24, 25, 26, 27] (by decide +kernel) (by decide +kernel)
set_option maxRecDepth 20000 in
theorem gX0_mayStrike_X0_isTooFar : GoodIn wsX0_mayStrike (wsV RX0 65 RX0 yX0_isTooFar wsX0_isTooFar) := goodIn_app (goodIn_of _ (by decide +kernel)) ggX0_mayStrike_X0_isTooFar
theorem dX0_mayStrike_0 : decode cX0_mayStrike 0 = .ok (.iload_n 1, 1) := by decide +kernel
theorem dX0_mayStrike_1 : decode cX0_mayStrike 1 = .ok (.bipush (-9), 2) := by decide +kernel
theorem dX0_mayStrike_3 : decode cX0_mayStrike 3 = .ok (.if_icmp .eq 21, 3) := by decide +kernel
theorem dX0_mayStrike_6 : decode cX0_mayStrike 6 = .ok (.aload_n 0, 1) := by decide +kernel
theorem dX0_mayStrike_7 : decode cX0_mayStrike 7 = .ok (.iload_n 1, 1) := by decide +kernel
theorem dX0_mayStrike_8 : decode cX0_mayStrike 8 = .ok (.iload_n 2, 1) := by decide +kernel
theorem dX0_mayStrike_9 : decode cX0_mayStrike 9 = .ok (.invokevirtual 61, 3) := by decide +kernel
theorem dX0_mayStrike_12 : decode cX0_mayStrike 12 = .ok (.ifCond .ne 16, 3) := by decide +kernel
theorem dX0_mayStrike_15 : decode cX0_mayStrike 15 = .ok (.aload_n 0, 1) := by decide +kernel
theorem dX0_mayStrike_16 : decode cX0_mayStrike 16 = .ok (.iload_n 1, 1) := by decide +kernel
theorem dX0_mayStrike_17 : decode cX0_mayStrike 17 = .ok (.iload_n 2, 1) := by decide +kernel
theorem dX0_mayStrike_18 : decode cX0_mayStrike 18 = .ok (.invokevirtual 65, 3) := by decide +kernel
theorem dX0_mayStrike_21 : decode cX0_mayStrike 21 = .ok (.ifCond .ne 7, 3) := by decide +kernel
theorem dX0_mayStrike_24 : decode cX0_mayStrike 24 = .ok (.iconst 1, 1) := by decide +kernel
theorem dX0_mayStrike_25 : decode cX0_mayStrike 25 = .ok (.goto 4, 3) := by decide +kernel
theorem dX0_mayStrike_28 : decode cX0_mayStrike 28 = .ok (.iconst 0, 1) := by decide +kernel
theorem dX0_mayStrike_29 : decode cX0_mayStrike 29 = .ok (.ireturn, 1) := by decide +kernel
set_option maxRecDepth 20000 in
theorem ggX0_isSoonBehind_X0_nextOfHand : GoodIn wsX0_isSoonBehind wsX0_nextOfHand := goodIn_r _ [5, 6, 7, 8, 9, 4, 10, 11, 12, 13, 14, 15, 16, 22, 23, 24, 25, 26, 27, 28] (by decide +kernel) (by decide +kernel)
set_option maxRecDepth 20000 in
theorem gX0_isSoonBehind_X0_nextOfHand : GoodIn wsX0_isSoonBehind (wsV RX0 68 RX0 yX0_nextOfHand wsX0_nextOfHand) := goodIn_app (goodIn_of _ (by decide +kernel)) ggX0_isSoonBehind_X0_nextOfHand
set_option maxRecDepth 20000 in
theorem ggX0_isSoonBehind_X0_isTooSoon : GoodIn wsX0_isSoonBehind wsX0_isTooSoon := goodIn_r _ [20, 21, 22, 23, 24, 25, 26, 27, 28] (by decide +kernel) (by decide +kernel)
set_option maxRecDepth 20000 in
theorem gX0_isSoonBehind_X0_isTooSoon : GoodIn wsX0_isSoonBehind (wsV RX0 61 RX0 yX0_isTooSoon wsX0_isTooSoon) := goodIn_app (goodIn_of _ (by decide +kernel)) ggX0_isSoonBehind_X0_isTooSoon
theorem dX0_isSoonBehind_0 : decode cX0_isSoonBehind 0 = .ok (.aload_n 0, 1) := by decide +kernel
theorem dX0_isSoonBehind_1 : decode cX0_isSoonBehind 1 = .ok (.iload_n 1, 1) := by decide +kernel
theorem dX0_isSoonBehind_2 : decode cX0_isSoonBehind 2 = .ok (.invokevirtual 68, 3) := by decide +kernel
theorem dX0_isSoonBehind_5 : decode cX0_isSoonBehind 5 = .ok (.istore_n 2, 1) := by decide +kernel
theorem dX0_isSoonBehind_6 : decode cX0_isSoonBehind 6 = .ok (.iload_n 2, 1) := by decide +kernel
theorem dX0_isSoonBehind_7 : decode cX0_isSoonBehind 7 = .ok (.bipush (-9), 2) := by decide +kernel
theorem dX0_isSoonBehind_9 : decode cX0_isSoonBehind 9 = .ok (.if_icmp .eq 16, 3) := by decide +kernel
theorem dX0_isSoonBehind_12 : decode cX0_isSoonBehind 12 = .ok (.aload_n 0, 1) := by decide +kernel
theorem dX0_isSoonBehind_13 : decode cX0_isSoonBehind 13 = .ok (.iload_n 1, 1) := by decide +kernel
theorem dX0_isSoonBehind_14 : decode cX0_isSoonBehind 14 = .ok (.iload_n 2, 1) := by decide +kernel
theorem dX0_isSoonBehind_15 : decode cX0_isSoonBehind 15 = .ok (.invokevirtual 61, 3) := by decide +kernel
theorem dX0_isSoonBehind_18 : decode cX0_isSoonBehind 18 = .ok (.ifCond .eq 7, 3) := by decide +kernel
theorem dX0_isSoonBehind_21 : decode cX0_isSoonBehind 21 = .ok (.iconst 1, 1) := by decide +kernel
theorem dX0_isSoonBehind_22 : decode cX0_isSoonBehind 22 = .ok (.goto 4, 3) := by decide +kernel
theorem dX0_isSoonBehind_25 : decode cX0_isSoonBehind 25 = .ok (.iconst 0, 1) := by decide +kernel
theorem dX0_isSoonBehind_26 : decode cX0_isSoonBehind 26 = .ok (.ireturn, 1) := by decide +kernel
set_option maxRecDepth 20000 in
theorem ggX0_isFarBehind_X0_nextOfHand : GoodIn wsX0_isFarBehind wsX0_nextOfHand := goodIn_r _ [5, 6, 7, 8, 9, 4, 10, 11, 12, 13, 14, 15, 16, 31, 32, 33, 34, 35, 36, 37] (by decide +kernel) (by decide +kernel)
set_option maxRecDepth 20000 in
theorem gX0_isFarBehind_X0_nextOfHand : GoodIn wsX0_isFarBehind (wsV RX0 68 RX0 yX0_nextOfHand wsX0_nextOfHand) := goodIn_app (goodIn_of _ (by decide +kernel)) ggX0_isFarBehind_X0_nextOfHand
set_option maxRecDepth 20000 in
theorem ggX0_isFarBehind_X0_isTooFar : GoodIn wsX0_isFarBehind wsX0_isTooFar := goodIn_r _ [20, 21, 22, 23, 24, 25, 26, 27, 28, 4, 29, 30, 31, 32, 33, 34, 35, 36, 37] (by decide +kernel) (by decide +kernel)
set_option maxRecDepth 20000 in
theorem gX0_isFarBehind_X0_isTooFar : GoodIn wsX0_isFarBehind (wsV RX0 65 RX0 yX0_isTooFar wsX0_isTooFar) := goodIn_app (goodIn_of _ (by decide +kernel)) ggX0_isFarBehind_X0_isTooFar
theorem dX0_isFarBehind_0 : decode cX0_isFarBehind 0 = .ok (.aload_n 0, 1) := by decide +kernel
theorem dX0_isFarBehind_1 : decode cX0_isFarBehind 1 = .ok (.iload_n 1, 1) := by decide +kernel
theorem dX0_isFarBehind_2 : decode cX0_isFarBehind 2 = .ok (.invokevirtual 68, 3) := by decide +kernel
theorem dX0_isFarBehind_5 : decode cX0_isFarBehind 5 = .ok (.istore_n 2, 1) := by decide +kernel
theorem dX0_isFarBehind_6 : decode cX0_isFarBehind 6 = .ok (.iload_n 2, 1) := by decide +kernel
theorem dX0_isFarBehind_7 : decode cX0_isFarBehind 7 = .ok (.bipush (-9), 2) := by decide +kernel
theorem dX0_isFarBehind_9 : decode cX0_isFarBehind 9 = .ok (.if_icmp .eq 16, 3) := by decide +kernel
theorem dX0_isFarBehind_12 : decode cX0_isFarBehind 12 = .ok (.aload_n 0, 1) := by decide +kernel
theorem dX0_isFarBehind_13 : decode cX0_isFarBehind 13 = .ok (.iload_n 1, 1) := by decide +kernel
theorem dX0_isFarBehind_14 : decode cX0_isFarBehind 14 = .ok (.iload_n 2, 1) := by decide +kernel
theorem dX0_isFarBehind_15 : decode cX0_isFarBehind 15 = .ok (.invokevirtual 65, 3) := by decide +kernel
theorem dX0_isFarBehind_18 : decode cX0_isFarBehind 18 = .ok (.ifCond .eq 7, 3) := by decide +kernel
theorem dX0_isFarBehind_21 : decode cX0_isFarBehind 21 = .ok (.iconst 1, 1) := by decide +kernel
theorem dX0_isFarBehind_22 : decode cX0_isFarBehind 22 = .ok (.goto 4, 3) := by decide +kernel
theorem dX0_isFarBehind_25 : decode cX0_isFarBehind 25 = .ok (.iconst 0, 1) := by decide +kernel
theorem dX0_isFarBehind_26 : decode cX0_isFarBehind 26 = .ok (.ireturn, 1) := by decide +kernel
set_option maxRecDepth 20000 in
theorem ggX0_nextOfHand_X0_hasNote : GoodIn wsX0_nextOfHand wsX0_hasNote := goodIn_r _ [6, 1, 7, 13, 14, 15, 16, 17, 18, 19] (by decide +kernel) (by decide +kernel)
set_option maxRecDepth 20000 in
theorem gX0_nextOfHand_X0_hasNote : GoodIn wsX0_nextOfHand (wsV RX0 71 RX0 yX0_hasNote wsX0_hasNote) := goodIn_app (goodIn_of _ (by decide +kernel)) ggX0_nextOfHand_X0_hasNote
set_option maxRecDepth 20000 in
theorem ggX0_nextOfHand_X0_handAt : GoodIn wsX0_nextOfHand wsX0_handAt := goodIn_r _ [11, 12, 13, 14, 15, 16, 17, 18, 19] (by decide +kernel) (by decide +kernel)
set_option maxRecDepth 20000 in
theorem gX0_nextOfHand_X0_handAt : GoodIn wsX0_nextOfHand (wsV RX0 75 RX0 yX0_handAt wsX0_handAt) := goodIn_app (goodIn_of _ (by decide +kernel)) ggX0_nextOfHand_X0_handAt
theorem dX0_nextOfHand_0 : decode cX0_nextOfHand 0 = .ok (.aload_n 0, 1) := by decide +kernel
theorem dX0_nextOfHand_1 : decode cX0_nextOfHand 1 = .ok (.iload_n 1, 1) := by decide +kernel
theorem dX0_nextOfHand_2 : decode cX0_nextOfHand 2 = .ok (.invokevirtual 71, 3) := by decide +kernel
theorem dX0_nextOfHand_5 : decode cX0_nextOfHand 5 = .ok (.ifCond .ne 6, 3) := by decide +kernel
theorem dX0_nextOfHand_8 : decode cX0_nextOfHand 8 = .ok (.bipush (-9), 2) := by decide +kernel
theorem dX0_nextOfHand_10 : decode cX0_nextOfHand 10 = .ok (.ireturn, 1) := by decide +kernel
theorem dX0_nextOfHand_11 : decode cX0_nextOfHand 11 = .ok (.iload_n 1, 1) := by decide +kernel
theorem dX0_nextOfHand_12 : decode cX0_nextOfHand 12 = .ok (.iconst 1, 1) := by decide +kernel
theorem dX0_nextOfHand_13 : decode cX0_nextOfHand 13 = .ok (.iadd, 1) := by decide +kernel
theorem dX0_nextOfHand_14 : decode cX0_nextOfHand 14 = .ok (.istore_n 2, 1) := by decide +kernel
theorem dX0_nextOfHand_15 : decode cX0_nextOfHand 15 = .ok (.iload_n 2, 1) := by decide +kernel
theorem dX0_nextOfHand_16 : decode cX0_nextOfHand 16 = .ok (.aload_n 0, 1) := by decide +kernel
theorem dX0_nextOfHand_17 : decode cX0_nextOfHand 17 = .ok (.getfield 24, 3) := by decide +kernel
theorem dX0_nextOfHand_20 : decode cX0_nextOfHand 20 = .ok (.if_icmp .ge 32, 3) := by decide +kernel
theorem dX0_nextOfHand_23 : decode cX0_nextOfHand 23 = .ok (.aload_n 0, 1) := by decide +kernel
theorem dX0_nextOfHand_24 : decode cX0_nextOfHand 24 = .ok (.iload_n 2, 1) := by decide +kernel
theorem dX0_nextOfHand_25 : decode cX0_nextOfHand 25 = .ok (.invokevirtual 71, 3) := by decide +kernel
theorem dX0_nextOfHand_28 : decode cX0_nextOfHand 28 = .ok (.ifCond .eq 18, 3) := by decide +kernel
theorem dX0_nextOfHand_31 : decode cX0_nextOfHand 31 = .ok (.aload_n 0, 1) := by decide +kernel
theorem dX0_nextOfHand_32 : decode cX0_nextOfHand 32 = .ok (.iload_n 2, 1) := by decide +kernel
theorem dX0_nextOfHand_33 : decode cX0_nextOfHand 33 = .ok (.invokevirtual 75, 3) := by decide +kernel
theorem dX0_nextOfHand_36 : decode cX0_nextOfHand 36 = .ok (.aload_n 0, 1) := by decide +kernel
theorem dX0_nextOfHand_37 : decode cX0_nextOfHand 37 = .ok (.iload_n 1, 1) := by decide +kernel
theorem dX0_nextOfHand_38 : decode cX0_nextOfHand 38 = .ok (.invokevirtual 75, 3) := by decide +kernel
theorem dX0_nextOfHand_41 : decode cX0_nextOfHand 41 = .ok (.if_icmp .ne 5, 3) := by decide +kernel
theorem dX0_nextOfHand_44 : decode cX0_nextOfHand 44 = .ok (.iload_n 2, 1) := by decide +kernel
theorem dX0_nextOfHand_45 : decode cX0_nextOfHand 45 = .ok (.ireturn, 1) := by decide +kernel
theorem dX0_nextOfHand_46 : decode cX0_nextOfHand 46 = .ok (.iinc 2 1, 3) := by decide +kernel
theorem dX0_nextOfHand_49 : decode cX0_nextOfHand 49 = .ok (.goto (-34), 3) := by decide +kernel
theorem dX0_nextOfHand_52 : decode cX0_nextOfHand 52 = .ok (.bipush (-9), 2) := by decide +kernel
theorem dX0_nextOfHand_54 : decode cX0_nextOfHand 54 = .ok (.ireturn, 1) := by decide +kernel
set_option maxRecDepth 20000 in
theorem ggX0_countTooSoon_X0_isSoonBehind : GoodIn wsX0_countTooSoon wsX0_isSoonBehind := goodIn_r _ [6, 7, 8, 9, 5, 10, 1, 11, 12, 13, 14, 15, 16, 17, 18, 19, 20, 21, 22, 23, 24, 25, 26, 27, 28, 29, 30, 31, 32] (by decide +kernel) (by decide +kernel)
set_option maxRecDepth 20000 in
theorem gX0_countTooSoon_X0_isSoonBehind : GoodIn wsX0_countTooSoon (wsV RX0 78 RX0 yX0_isSoonBehind wsX0_isSoonBehind) := goodIn_app (goodIn_of _ (by decide +kernel)) ggX0_countTooSoon_X0_isSoonBehind
theorem dX0_countTooSoon_0 : decode cX0_countTooSoon 0 = .ok (.iconst 0, 1) := by decide +kernel
theorem dX0_countTooSoon_1 : decode cX0_countTooSoon 1 = .ok (.istore_n 1, 1) := by decide +kernel
theorem dX0_countTooSoon_2 : decode cX0_countTooSoon 2 = .ok (.iconst 0, 1) := by decide +kernel
theorem dX0_countTooSoon_3 : decode cX0_countTooSoon 3 = .ok (.istore_n 2, 1) := by decide +kernel
theorem dX0_countTooSoon_4 : decode cX0_countTooSoon 4 = .ok (.iload_n 2, 1) := by decide +kernel
theorem dX0_countTooSoon_5 : decode cX0_countTooSoon 5 = .ok (.aload_n 0, 1) := by decide +kernel
theorem dX0_countTooSoon_6 : decode cX0_countTooSoon 6 = .ok (.getfield 24, 3) := by decide +kernel
theorem dX0_countTooSoon_9 : decode cX0_countTooSoon 9 = .ok (.if_icmp .ge 20, 3) := by decide +kernel
theorem dX0_countTooSoon_12 : decode cX0_countTooSoon 12 = .ok (.aload_n 0, 1) := by decide +kernel
theorem dX0_countTooSoon_13 : decode cX0_countTooSoon 13 = .ok (.iload_n 2, 1) := by decide +kernel
theorem dX0_countTooSoon_14 : decode cX0_countTooSoon 14 = .ok (.invokevirtual 78, 3) := by decide +kernel
theorem dX0_countTooSoon_17 : decode cX0_countTooSoon 17 = .ok (.ifCond .eq 6, 3) := by decide +kernel
theorem dX0_countTooSoon_20 : decode cX0_countTooSoon 20 = .ok (.iinc 1 1, 3) := by decide +kernel
theorem dX0_countTooSoon_23 : decode cX0_countTooSoon 23 = .ok (.iinc 2 1, 3) := by decide +kernel
theorem dX0_countTooSoon_26 : decode cX0_countTooSoon 26 = .ok (.goto (-22), 3) := by decide +kernel
theorem dX0_countTooSoon_29 : decode cX0_countTooSoon 29 = .ok (.iload_n 1, 1) := by decide +kernel
theorem dX0_countTooSoon_30 : decode cX0_countTooSoon 30 = .ok (.ireturn, 1) := by decide +kernel
set_option maxRecDepth 20000 in
theorem ggX0_countTooFar_X0_isFarBehind : GoodIn wsX0_countTooFar wsX0_isFarBehind := goodIn_r _ [6, 7, 8, 9, 5, 10, 1, 11, 12, 13, 14, 15, 16, 17, 18, 19, 20, 21, 22, 23, 24, 25, 26, 27, 28, 29, 30, 31, 32, 33, 34, 35, 36, 37, 38, 39, 40, 41] (by decide +kernel) (by decide +kernel)
set_option maxRecDepth 20000 in
theorem gX0_countTooFar_X0_isFarBehind : GoodIn wsX0_countTooFar (wsV RX0 81 RX0 yX0_isFarBehind wsX0_isFarBehind) := goodIn_app (goodIn_of _ (by decide +kernel)) ggX0_countTooFar_X0_isFarBehind
theorem dX0_countTooFar_0 : decode cX0_countTooFar 0 = .ok (.iconst 0, 1) := by decide +kernel
theorem dX0_countTooFar_1 : decode cX0_countTooFar 1 = .ok (.istore_n 1, 1) := by decide +kernel
theorem dX0_countTooFar_2 : decode cX0_countTooFar 2 = .ok (.iconst 0, 1) := by decide +kernel
theorem dX0_countTooFar_3 : decode cX0_countTooFar 3 = .ok (.istore_n 2, 1) := by decide +kernel
theorem dX0_countTooFar_4 : decode cX0_countTooFar 4 = .ok (.iload_n 2, 1) := by decide +kernel
theorem dX0_countTooFar_5 : decode cX0_countTooFar 5 = .ok (.aload_n 0, 1) := by decide +kernel
theorem dX0_countTooFar_6 : decode cX0_countTooFar 6 = .ok (.getfield 24, 3) := by decide +kernel
theorem dX0_countTooFar_9 : decode cX0_countTooFar 9 = .ok (.if_icmp .ge 20, 3) := by decide +kernel
theorem dX0_countTooFar_12 : decode cX0_countTooFar 12 = .ok (.aload_n 0, 1) := by decide +kernel
theorem dX0_countTooFar_13 : decode cX0_countTooFar 13 = .ok (.iload_n 2, 1) := by decide +kernel
theorem dX0_countTooFar_14 : decode cX0_countTooFar 14 = .ok (.invokevirtual 81, 3) := by decide +kernel
theorem dX0_countTooFar_17 : decode cX0_countTooFar 17 = .ok (.ifCond .eq 6, 3) := by decide +kernel
theorem dX0_countTooFar_20 : decode cX0_countTooFar 20 = .ok (.iinc 1 1, 3) := by decide +kernel
theorem dX0_countTooFar_23 : decode cX0_countTooFar 23 = .ok (.iinc 2 1, 3) := by decide +kernel
theorem dX0_countTooFar_26 : decode cX0_countTooFar 26 = .ok (.goto (-22), 3) := by decide +kernel
theorem dX0_countTooFar_29 : decode cX0_countTooFar 29 = .ok (.iload_n 1, 1) := by decide +kernel
theorem dX0_countTooFar_30 : decode cX0_countTooFar 30 = .ok (.ireturn, 1) := by decide +kernel
set_option maxRecDepth 20000 in
theorem ggX0_isLawful_X0_hasNote : GoodIn wsX0_isLawful wsX0_hasNote := goodIn_r _ [6, 1, 7, 31, 32, 33, 34, 35, 36, 37] (by decide +kernel) (by decide +kernel)
set_option maxRecDepth 20000 in
theorem gX0_isLawful_X0_hasNote : GoodIn wsX0_isLawful (wsV RX0 71 RX0 yX0_hasNote wsX0_hasNote) := goodIn_app (goodIn_of _ (by decide +kernel)) ggX0_isLawful_X0_hasNote
set_option maxRecDepth 20000 in
theorem ggX0_isLawful_X0_mayStrike : GoodIn wsX0_isLawful wsX0_mayStrike := goodIn_r _ [11, 12, 13, 14, 5, 15, 16, 17, 18, 19, 20, 21, 22, 23, 24, 25, 26, 27, 28, 29, 30, 31, 32, 33, 34, 35, 36, 37] (by decide +kernel) (by decide +kernel)
set_option maxRecDepth 20000 in
theorem gX0_isLawful_X0_mayStrike : GoodIn wsX0_isLawful (wsV RX0 84 RX0 yX0_mayStrike wsX0_mayStrike) := goodIn_app (goodIn_of _ (by decide +kernel)) ggX0_isLawful_X0_mayStrike
theorem dX0_isLawful_0 : decode cX0_isLawful 0 = .ok (.bipush (-9), 2) := by decide +kernel
theorem dX0_isLawful_2 : decode cX0_isLawful 2 = .ok (.istore_n 2, 1) := by decide +kernel
theorem dX0_isLawful_3 : decode cX0_isLawful 3 = .ok (.bipush (-9), 2) := by decide +kernel
theorem dX0_isLawful_5 : decode cX0_isLawful 5 = .ok (.istore_n 3, 1) := by decide +kernel
theorem dX0_isLawful_6 : decode cX0_isLawful 6 = .ok (.iconst 0, 1) := by decide +kernel
theorem dX0_isLawful_7 : decode cX0_isLawful 7 = .ok (.istore 4, 2) := by decide +kernel
theorem dX0_isLawful_9 : decode cX0_isLawful 9 = .ok (.iload 4, 2) := by decide +kernel
theorem dX0_isLawful_11 : decode cX0_isLawful 11 = .ok (.aload_n 0, 1) := by decide +kernel
theorem dX0_isLawful_12 : decode cX0_isLawful 12 = .ok (.getfield 24, 3) := by decide +kernel
theorem dX0_isLawful_15 : decode cX0_isLawful 15 = .ok (.if_icmp .ge 73, 3) := by decide +kernel
theorem dX0_isLawful_18 : decode cX0_isLawful 18 = .ok (.aload_n 0, 1) := by decide +kernel
theorem dX0_isLawful_19 : decode cX0_isLawful 19 = .ok (.iload 4, 2) := by decide +kernel
theorem dX0_isLawful_21 : decode cX0_isLawful 21 = .ok (.invokevirtual 71, 3) := by decide +kernel
theorem dX0_isLawful_24 : decode cX0_isLawful 24 = .ok (.ifCond .ne 6, 3) := by decide +kernel
theorem dX0_isLawful_27 : decode cX0_isLawful 27 = .ok (.goto 55, 3) := by decide +kernel
theorem dX0_isLawful_30 : decode cX0_isLawful 30 = .ok (.iload_n 1, 1) := by decide +kernel
theorem dX0_isLawful_31 : decode cX0_isLawful 31 = .ok (.iload 4, 2) := by decide +kernel
theorem dX0_isLawful_33 : decode cX0_isLawful 33 = .ok (.ishr, 1) := by decide +kernel
theorem dX0_isLawful_34 : decode cX0_isLawful 34 = .ok (.iconst 1, 1) := by decide +kernel
theorem dX0_isLawful_35 : decode cX0_isLawful 35 = .ok (.iand, 1) := by decide +kernel
theorem dX0_isLawful_36 : decode cX0_isLawful 36 = .ok (.iconst 1, 1) := by decide +kernel
theorem dX0_isLawful_37 : decode cX0_isLawful 37 = .ok (.if_icmp .ne 7, 3) := by decide +kernel
theorem dX0_isLawful_40 : decode cX0_isLawful 40 = .ok (.iconst 1, 1) := by decide +kernel
theorem dX0_isLawful_41 : decode cX0_isLawful 41 = .ok (.goto 4, 3) := by decide +kernel
theorem dX0_isLawful_44 : decode cX0_isLawful 44 = .ok (.iconst 0, 1) := by decide +kernel
theorem dX0_isLawful_45 : decode cX0_isLawful 45 = .ok (.istore 5, 2) := by decide +kernel
theorem dX0_isLawful_47 : decode cX0_isLawful 47 = .ok (.aload_n 0, 1) := by decide +kernel
theorem dX0_isLawful_48 : decode cX0_isLawful 48 = .ok (.iload 5, 2) := by decide +kernel
theorem dX0_isLawful_50 : decode cX0_isLawful 50 = .ok (.ifCond .eq 7, 3) := by decide +kernel
theorem dX0_isLawful_53 : decode cX0_isLawful 53 = .ok (.iload_n 3, 1) := by decide +kernel
theorem dX0_isLawful_54 : decode cX0_isLawful 54 = .ok (.goto 4, 3) := by decide +kernel
theorem dX0_isLawful_57 : decode cX0_isLawful 57 = .ok (.iload_n 2, 1) := by decide +kernel
theorem dX0_isLawful_58 : decode cX0_isLawful 58 = .ok (.iload 4, 2) := by decide +kernel
theorem dX0_isLawful_60 : decode cX0_isLawful 60 = .ok (.invokevirtual 84, 3) := by decide +kernel
theorem dX0_isLawful_63 : decode cX0_isLawful 63 = .ok (.ifCond .ne 5, 3) := by decide +kernel
theorem dX0_isLawful_66 : decode cX0_isLawful 66 = .ok (.iconst 0, 1) := by decide +kernel
theorem dX0_isLawful_67 : decode cX0_isLawful 67 = .ok (.ireturn, 1) := by decide +kernel
theorem dX0_isLawful_68 : decode cX0_isLawful 68 = .ok (.iload 5, 2) := by decide +kernel
theorem dX0_isLawful_70 : decode cX0_isLawful 70 = .ok (.ifCond .eq 9, 3) := by decide +kernel
theorem dX0_isLawful_73 : decode cX0_isLawful 73 = .ok (.iload 4, 2) := by decide +kernel
theorem dX0_isLawful_75 : decode cX0_isLawful 75 = .ok (.istore_n 3, 1) := by decide +kernel
theorem dX0_isLawful_76 : decode cX0_isLawful 76 = .ok (.goto 6, 3) := by decide +kernel
theorem dX0_isLawful_79 : decode cX0_isLawful 79 = .ok (.iload 4, 2) := by decide +kernel
theorem dX0_isLawful_81 : decode cX0_isLawful 81 = .ok (.istore_n 2, 1) := by decide +kernel
theorem dX0_isLawful_82 : decode cX0_isLawful 82 = .ok (.iinc 4 1, 3) := by decide +kernel
theorem dX0_isLawful_85 : decode cX0_isLawful 85 = .ok (.goto (-76), 3) := by decide +kernel
theorem dX0_isLawful_88 : decode cX0_isLawful 88 = .ok (.iconst 1, 1) := by decide +kernel
theorem dX0_isLawful_89 : decode cX0_isLawful 89 = .ok (.ireturn, 1) := by decide +kernel
set_option maxRecDepth 20000 in
theorem ggX0_likeness_J6_bitCount_0f7a4 : GoodIn wsX0_likeness wsJ6_bitCount_0f7a4 := goodIn_r _ [6, 7, 8, 9] (by decide +kernel) (by decide +kernel)
set_option maxRecDepth 20000 in
theorem gX0_likeness_J6_bitCount_0f7a4 : GoodIn wsX0_likeness (va_wsS RX0 87 yJ6_bitCount_0f7a4 wsJ6_bitCount_0f7a4) := goodIn_app (goodIn_of _ (by decide +kernel)) ggX0_likeness_J6_bitCount_0f7a4
theorem dX0_likeness_0 : decode cX0_likeness 0 = .ok (.aload_n 0, 1) := by decide +kernel
theorem dX0_likeness_1 : decode cX0_likeness 1 = .ok (.getfield 28, 3) := by decide +kernel
theorem dX0_likeness_4 : decode cX0_likeness 4 = .ok (.aload_n 0, 1) := by decide +kernel
theorem dX0_likeness_5 : decode cX0_likeness 5 = .ok (.getfield 28, 3) := by decide +kernel
theorem dX0_likeness_8 : decode cX0_likeness 8 = .ok (.aload_n 0, 1) := by decide +kernel
theorem dX0_likeness_9 : decode cX0_likeness 9 = .ok (.getfield 43, 3) := by decide +kernel
theorem dX0_likeness_12 : decode cX0_likeness 12 = .ok (.ishr, 1) := by decide +kernel
theorem dX0_likeness_13 : decode cX0_likeness 13 = .ok (.iand, 1) := by decide +kernel
theorem dX0_likeness_14 : decode cX0_likeness 14 = .ok (.istore_n 2, 1) := by decide +kernel
theorem dX0_likeness_15 : decode cX0_likeness 15 = .ok (.iload_n 2, 1) := by decide +kernel
theorem dX0_likeness_16 : decode cX0_likeness 16 = .ok (.iload_n 1, 1) := by decide +kernel
theorem dX0_likeness_17 : decode cX0_likeness 17 = .ok (.iload_n 1, 1) := by decide +kernel
theorem dX0_likeness_18 : decode cX0_likeness 18 = .ok (.aload_n 0, 1) := by decide +kernel
theorem dX0_likeness_19 : decode cX0_likeness 19 = .ok (.getfield 43, 3) := by decide +kernel
theorem dX0_likeness_22 : decode cX0_likeness 22 = .ok (.ishr, 1) := by decide +kernel
theorem dX0_likeness_23 : decode cX0_likeness 23 = .ok (.ixor, 1) := by decide +kernel
theorem dX0_likeness_24 : decode cX0_likeness 24 = .ok (.iconst (-1), 1) := by decide +kernel
theorem dX0_likeness_25 : decode cX0_likeness 25 = .ok (.ixor, 1) := by decide +kernel
theorem dX0_likeness_26 : decode cX0_likeness 26 = .ok (.iand, 1) := by decide +kernel
theorem dX0_likeness_27 : decode cX0_likeness 27 = .ok (.invokestatic 87, 3) := by decide +kernel
theorem dX0_likeness_30 : decode cX0_likeness 30 = .ok (.ireturn, 1) := by decide +kernel
set_option maxRecDepth 20000 in
theorem ggX0_tilt_J6_bitCount_0f7a4 : GoodIn wsX0_tilt wsJ6_bitCount_0f7a4 := goodIn_r _ [5, 6, 7, 8] (by decide +kernel) (by decide +kernel)
set_option maxRecDepth 20000 in
theorem gX0_tilt_J6_bitCount_0f7a4 : GoodIn wsX0_tilt (va_wsS RX0 87 yJ6_bitCount_0f7a4 wsJ6_bitCount_0f7a4) := goodIn_app (goodIn_of _ (by decide +kernel)) ggX0_tilt_J6_bitCount_0f7a4
theorem dX0_tilt_0 : decode cX0_tilt 0 = .ok (.aload_n 0, 1) := by decide +kernel
theorem dX0_tilt_1 : decode cX0_tilt 1 = .ok (.getfield 28, 3) := by decide +kernel
theorem dX0_tilt_4 : decode cX0_tilt 4 = .ok (.invokestatic 87, 3) := by decide +kernel
theorem dX0_tilt_7 : decode cX0_tilt 7 = .ok (.iconst 2, 1) := by decide +kernel
theorem dX0_tilt_8 : decode cX0_tilt 8 = .ok (.iload_n 1, 1) := by decide +kernel
theorem dX0_tilt_9 : decode cX0_tilt 9 = .ok (.invokestatic 87, 3) := by decide +kernel
theorem dX0_tilt_12 : decode cX0_tilt 12 = .ok (.imul, 1) := by decide +kernel
theorem dX0_tilt_13 : decode cX0_tilt 13 = .ok (.isub, 1) := by decide +kernel
theorem dX0_tilt_14 : decode cX0_tilt 14 = .ok (.ireturn, 1) := by decide +kernel
set_option maxRecDepth 20000 in
theorem ggX0_pitchesUsed_X0_hasNote : GoodIn wsX0_pitchesUsed wsX0_hasNote := goodIn_r _ [6, 1, 7, 13, 14, 15, 16, 17, 18, 19] (by decide +kernel) (by decide +kernel)
set_option maxRecDepth 20000 in
theorem gX0_pitchesUsed_X0_hasNote : GoodIn wsX0_pitchesUsed (wsV RX0 71 RX0 yX0_hasNote wsX0_hasNote) := goodIn_app (goodIn_of _ (by decide +kernel)) ggX0_pitchesUsed_X0_hasNote
set_option maxRecDepth 20000 in
theorem ggX0_pitchesUsed_X0_pitchAt : GoodIn wsX0_pitchesUsed wsX0_pitchAt := goodIn_r _ [11, 12, 13, 14, 15, 16, 17, 18, 19] (by decide +kernel) (by decide +kernel)
set_option maxRecDepth 20000 in
theorem gX0_pitchesUsed_X0_pitchAt : GoodIn wsX0_pitchesUsed (wsV RX0 52 RX0 yX0_pitchAt wsX0_pitchAt) := goodIn_app (goodIn_of _ (by decide +kernel)) ggX0_pitchesUsed_X0_pitchAt
theorem dX0_pitchesUsed_0 : decode cX0_pitchesUsed 0 = .ok (.iconst 0, 1) := by decide +kernel
theorem dX0_pitchesUsed_1 : decode cX0_pitchesUsed 1 = .ok (.istore_n 1, 1) := by decide +kernel
theorem dX0_pitchesUsed_2 : decode cX0_pitchesUsed 2 = .ok (.iconst 0, 1) := by decide +kernel
theorem dX0_pitchesUsed_3 : decode cX0_pitchesUsed 3 = .ok (.istore_n 2, 1) := by decide +kernel
theorem dX0_pitchesUsed_4 : decode cX0_pitchesUsed 4 = .ok (.iload_n 2, 1) := by decide +kernel
theorem dX0_pitchesUsed_5 : decode cX0_pitchesUsed 5 = .ok (.aload_n 0, 1) := by decide +kernel
theorem dX0_pitchesUsed_6 : decode cX0_pitchesUsed 6 = .ok (.getfield 24, 3) := by decide +kernel
theorem dX0_pitchesUsed_9 : decode cX0_pitchesUsed 9 = .ok (.if_icmp .ge 29, 3) := by decide +kernel
theorem dX0_pitchesUsed_12 : decode cX0_pitchesUsed 12 = .ok (.aload_n 0, 1) := by decide +kernel
theorem dX0_pitchesUsed_13 : decode cX0_pitchesUsed 13 = .ok (.iload_n 2, 1) := by decide +kernel
theorem dX0_pitchesUsed_14 : decode cX0_pitchesUsed 14 = .ok (.invokevirtual 71, 3) := by decide +kernel
theorem dX0_pitchesUsed_17 : decode cX0_pitchesUsed 17 = .ok (.ifCond .eq 15, 3) := by decide +kernel
theorem dX0_pitchesUsed_20 : decode cX0_pitchesUsed 20 = .ok (.iload_n 1, 1) := by decide +kernel
theorem dX0_pitchesUsed_21 : decode cX0_pitchesUsed 21 = .ok (.iconst 1, 1) := by decide +kernel
theorem dX0_pitchesUsed_22 : decode cX0_pitchesUsed 22 = .ok (.aload_n 0, 1) := by decide +kernel
theorem dX0_pitchesUsed_23 : decode cX0_pitchesUsed 23 = .ok (.iload_n 2, 1) := by decide +kernel
theorem dX0_pitchesUsed_24 : decode cX0_pitchesUsed 24 = .ok (.invokevirtual 52, 3) := by decide +kernel
theorem dX0_pitchesUsed_27 : decode cX0_pitchesUsed 27 = .ok (.iconst 1, 1) := by decide +kernel
theorem dX0_pitchesUsed_28 : decode cX0_pitchesUsed 28 = .ok (.isub, 1) := by decide +kernel
theorem dX0_pitchesUsed_29 : decode cX0_pitchesUsed 29 = .ok (.ishl, 1) := by decide +kernel
theorem dX0_pitchesUsed_30 : decode cX0_pitchesUsed 30 = .ok (.ior, 1) := by decide +kernel
theorem dX0_pitchesUsed_31 : decode cX0_pitchesUsed 31 = .ok (.istore_n 1, 1) := by decide +kernel
theorem dX0_pitchesUsed_32 : decode cX0_pitchesUsed 32 = .ok (.iinc 2 1, 3) := by decide +kernel
theorem dX0_pitchesUsed_35 : decode cX0_pitchesUsed 35 = .ok (.goto (-31), 3) := by decide +kernel
theorem dX0_pitchesUsed_38 : decode cX0_pitchesUsed 38 = .ok (.iload_n 1, 1) := by decide +kernel
theorem dX0_pitchesUsed_39 : decode cX0_pitchesUsed 39 = .ok (.ireturn, 1) := by decide +kernel
set_option maxRecDepth 20000 in
theorem ggX0_shareByTable_X0_hasNote : GoodIn wsX0_shareByTable wsX0_hasNote := goodIn_r _ [6, 1, 7, 13, 14, 15, 16, 17, 18, 19] (by decide +kernel) (by decide +kernel)
set_option maxRecDepth 20000 in
theorem gX0_shareByTable_X0_hasNote : GoodIn wsX0_shareByTable (wsV RX0 71 RX0 yX0_hasNote wsX0_hasNote) := goodIn_app (goodIn_of _ (by decide +kernel)) ggX0_shareByTable_X0_hasNote
set_option maxRecDepth 20000 in
theorem ggX0_shareByTable_X0_pitchAt : GoodIn wsX0_shareByTable wsX0_pitchAt := goodIn_r _ [11, 12, 13, 14, 15, 16, 17, 18, 19] (by decide +kernel) (by decide +kernel)
set_option maxRecDepth 20000 in
theorem gX0_shareByTable_X0_pitchAt : GoodIn wsX0_shareByTable (wsV RX0 52 RX0 yX0_pitchAt wsX0_pitchAt) := goodIn_app (goodIn_of _ (by decide +kernel)) ggX0_shareByTable_X0_pitchAt
theorem dX0_shareByTable_0 : decode cX0_shareByTable 0 = .ok (.iconst 0, 1) := by decide +kernel
theorem dX0_shareByTable_1 : decode cX0_shareByTable 1 = .ok (.istore_n 2, 1) := by decide +kernel
theorem dX0_shareByTable_2 : decode cX0_shareByTable 2 = .ok (.iconst 0, 1) := by decide +kernel
theorem dX0_shareByTable_3 : decode cX0_shareByTable 3 = .ok (.istore_n 3, 1) := by decide +kernel
theorem dX0_shareByTable_4 : decode cX0_shareByTable 4 = .ok (.iload_n 3, 1) := by decide +kernel
theorem dX0_shareByTable_5 : decode cX0_shareByTable 5 = .ok (.aload_n 0, 1) := by decide +kernel
theorem dX0_shareByTable_6 : decode cX0_shareByTable 6 = .ok (.getfield 24, 3) := by decide +kernel
theorem dX0_shareByTable_9 : decode cX0_shareByTable 9 = .ok (.if_icmp .ge 38, 3) := by decide +kernel
theorem dX0_shareByTable_12 : decode cX0_shareByTable 12 = .ok (.aload_n 0, 1) := by decide +kernel
theorem dX0_shareByTable_13 : decode cX0_shareByTable 13 = .ok (.iload_n 3, 1) := by decide +kernel
theorem dX0_shareByTable_14 : decode cX0_shareByTable 14 = .ok (.invokevirtual 71, 3) := by decide +kernel
theorem dX0_shareByTable_17 : decode cX0_shareByTable 17 = .ok (.ifCond .eq 24, 3) := by decide +kernel
theorem dX0_shareByTable_20 : decode cX0_shareByTable 20 = .ok (.iload_n 1, 1) := by decide +kernel
theorem dX0_shareByTable_21 : decode cX0_shareByTable 21 = .ok (.aload_n 0, 1) := by decide +kernel
theorem dX0_shareByTable_22 : decode cX0_shareByTable 22 = .ok (.iload_n 3, 1) := by decide +kernel
theorem dX0_shareByTable_23 : decode cX0_shareByTable 23 = .ok (.invokevirtual 52, 3) := by decide +kernel
theorem dX0_shareByTable_26 : decode cX0_shareByTable 26 = .ok (.iconst 1, 1) := by decide +kernel
theorem dX0_shareByTable_27 : decode cX0_shareByTable 27 = .ok (.isub, 1) := by decide +kernel
theorem dX0_shareByTable_28 : decode cX0_shareByTable 28 = .ok (.ishr, 1) := by decide +kernel
theorem dX0_shareByTable_29 : decode cX0_shareByTable 29 = .ok (.iconst 1, 1) := by decide +kernel
theorem dX0_shareByTable_30 : decode cX0_shareByTable 30 = .ok (.iand, 1) := by decide +kernel
theorem dX0_shareByTable_31 : decode cX0_shareByTable 31 = .ok (.iconst 1, 1) := by decide +kernel
theorem dX0_shareByTable_32 : decode cX0_shareByTable 32 = .ok (.if_icmp .ne 9, 3) := by decide +kernel
theorem dX0_shareByTable_35 : decode cX0_shareByTable 35 = .ok (.iload_n 2, 1) := by decide +kernel
theorem dX0_shareByTable_36 : decode cX0_shareByTable 36 = .ok (.iconst 1, 1) := by decide +kernel
theorem dX0_shareByTable_37 : decode cX0_shareByTable 37 = .ok (.iload_n 3, 1) := by decide +kernel
theorem dX0_shareByTable_38 : decode cX0_shareByTable 38 = .ok (.ishl, 1) := by decide +kernel
theorem dX0_shareByTable_39 : decode cX0_shareByTable 39 = .ok (.ior, 1) := by decide +kernel
theorem dX0_shareByTable_40 : decode cX0_shareByTable 40 = .ok (.istore_n 2, 1) := by decide +kernel
theorem dX0_shareByTable_41 : decode cX0_shareByTable 41 = .ok (.iinc 3 1, 3) := by decide +kernel
theorem dX0_shareByTable_44 : decode cX0_shareByTable 44 = .ok (.goto (-40), 3) := by decide +kernel
theorem dX0_shareByTable_47 : decode cX0_shareByTable 47 = .ok (.iload_n 2, 1) := by decide +kernel
theorem dX0_shareByTable_48 : decode cX0_shareByTable 48 = .ok (.ireturn, 1) := by decide +kernel
set_option maxRecDepth 20000 in
theorem ggX1_init_X0_init : GoodIn wsX1_init wsX0_init := goodIn_r _ [10, 11, 2, 3, 12, 13, 14, 15, 16, 7, 17, 18, 19, 20, 21, 22, 23, 24, 25, 26, 27, 30, 31, 32, 33, 34, 35, 36] (by decide +kernel) (by decide +kernel)
set_option maxRecDepth 20000 in
theorem gX1_init_X0_init : GoodIn wsX1_init (wsX0_init) := ggX1_init_X0_init
theorem dX1_init_0 : decode cX1_init 0 = .ok (.aload_n 0, 1) := by decide +kernel
theorem dX1_init_1 : decode cX1_init 1 = .ok (.invokespecial 3, 3) := by decide +kernel
theorem dX1_init_4 : decode cX1_init 4 = .ok (.aload_n 0, 1) := by decide +kernel
theorem dX1_init_5 : decode cX1_init 5 = .ok (.bipush 6, 2) := by decide +kernel
theorem dX1_init_7 : decode cX1_init 7 = .ok (.anewarray 9, 3) := by decide +kernel
theorem dX1_init_10 : decode cX1_init 10 = .ok (.putfield 11, 3) := by decide +kernel
theorem dX1_init_13 : decode cX1_init 13 = .ok (.iconst 0, 1) := by decide +kernel
theorem dX1_init_14 : decode cX1_init 14 = .ok (.istore_n 1, 1) := by decide +kernel
theorem dX1_init_15 : decode cX1_init 15 = .ok (.iload_n 1, 1) := by decide +kernel
theorem dX1_init_16 : decode cX1_init 16 = .ok (.bipush 6, 2) := by decide +kernel
theorem dX1_init_18 : decode cX1_init 18 = .ok (.if_icmp .ge 22, 3) := by decide +kernel
theorem dX1_init_21 : decode cX1_init 21 = .ok (.aload_n 0, 1) := by decide +kernel
theorem dX1_init_22 : decode cX1_init 22 = .ok (.getfield 11, 3) := by decide +kernel
theorem dX1_init_25 : decode cX1_init 25 = .ok (.iload_n 1, 1) := by decide +kernel
theorem dX1_init_26 : decode cX1_init 26 = .ok (.new 9, 3) := by decide +kernel
theorem dX1_init_29 : decode cX1_init 29 = .ok (.dup, 1) := by decide +kernel
theorem dX1_init_30 : decode cX1_init 30 = .ok (.invokespecial 17, 3) := by decide +kernel
theorem dX1_init_33 : decode cX1_init 33 = .ok (.aastore, 1) := by decide +kernel
theorem dX1_init_34 : decode cX1_init 34 = .ok (.iinc 1 1, 3) := by decide +kernel
theorem dX1_init_37 : decode cX1_init 37 = .ok (.goto (-22), 3) := by decide +kernel
theorem dX1_init_40 : decode cX1_init 40 = .ok (.return_, 1) := by decide +kernel
set_option maxRecDepth 20000 in
theorem ggX1_remember_X1_loseOldest : GoodIn wsX1_remember wsX1_loseOldest := goodIn_r _ [7, 2, 1, 24, 25] (by decide +kernel) (by decide +kernel)
set_option maxRecDepth 20000 in
theorem gX1_remember_X1_loseOldest : GoodIn wsX1_remember (wsV RX1 22 RX1 yX1_loseOldest wsX1_loseOldest) := goodIn_app (goodIn_of _ (by decide +kernel)) ggX1_remember_X1_loseOldest
set_option maxRecDepth 20000 in
theorem ggX1_remember_X0_copyFrom : GoodIn wsX1_remember wsX0_copyFrom := goodIn_r _ [12, 13, 14, 15, 16, 17, 18, 19, 20, 21, 22, 23, 26, 27, 28, 29, 30, 31, 32] (by decide +kernel) (by decide +kernel)
set_option maxRecDepth 20000 in
theorem gX1_remember_X0_copyFrom : GoodIn wsX1_remember (wsV RX1 25 RX0 yX0_copyFrom wsX0_copyFrom) := goodIn_app (goodIn_of _ (by decide +kernel)) ggX1_remember_X0_copyFrom
theorem dX1_remember_0 : decode cX1_remember 0 = .ok (.aload_n 0, 1) := by decide +kernel
theorem dX1_remember_1 : decode cX1_remember 1 = .ok (.getfield 18, 3) := by decide +kernel
theorem dX1_remember_4 : decode cX1_remember 4 = .ok (.bipush 6, 2) := by decide +kernel
theorem dX1_remember_6 : decode cX1_remember 6 = .ok (.if_icmp .lt 7, 3) := by decide +kernel
theorem dX1_remember_9 : decode cX1_remember 9 = .ok (.aload_n 0, 1) := by decide +kernel
theorem dX1_remember_10 : decode cX1_remember 10 = .ok (.invokevirtual 22, 3) := by decide +kernel
theorem dX1_remember_13 : decode cX1_remember 13 = .ok (.aload_n 0, 1) := by decide +kernel
theorem dX1_remember_14 : decode cX1_remember 14 = .ok (.getfield 11, 3) := by decide +kernel
theorem dX1_remember_17 : decode cX1_remember 17 = .ok (.aload_n 0, 1) := by decide +kernel
theorem dX1_remember_18 : decode cX1_remember 18 = .ok (.getfield 18, 3) := by decide +kernel
theorem dX1_remember_21 : decode cX1_remember 21 = .ok (.aaload, 1) := by decide +kernel
theorem dX1_remember_22 : decode cX1_remember 22 = .ok (.aload_n 1, 1) := by decide +kernel
theorem dX1_remember_23 : decode cX1_remember 23 = .ok (.invokevirtual 25, 3) := by decide +kernel
theorem dX1_remember_26 : decode cX1_remember 26 = .ok (.aload_n 0, 1) := by decide +kernel
theorem dX1_remember_27 : decode cX1_remember 27 = .ok (.dup, 1) := by decide +kernel
theorem dX1_remember_28 : decode cX1_remember 28 = .ok (.getfield 18, 3) := by decide +kernel
theorem dX1_remember_31 : decode cX1_remember 31 = .ok (.iconst 1, 1) := by decide +kernel
theorem dX1_remember_32 : decode cX1_remember 32 = .ok (.iadd, 1) := by decide +kernel
theorem dX1_remember_33 : decode cX1_remember 33 = .ok (.putfield 18, 3) := by decide +kernel
theorem dX1_remember_36 : decode cX1_remember 36 = .ok (.return_, 1) := by decide +kernel
theorem dX1_loseOldest_0 : decode cX1_loseOldest 0 = .ok (.aload_n 0, 1) := by decide +kernel
theorem dX1_loseOldest_1 : decode cX1_loseOldest 1 = .ok (.getfield 11, 3) := by decide +kernel
theorem dX1_loseOldest_4 : decode cX1_loseOldest 4 = .ok (.iconst 0, 1) := by decide +kernel
theorem dX1_loseOldest_5 : decode cX1_loseOldest 5 = .ok (.aaload, 1) := by decide +kernel
theorem dX1_loseOldest_6 : decode cX1_loseOldest 6 = .ok (.astore_n 1, 1) := by decide +kernel
theorem dX1_loseOldest_7 : decode cX1_loseOldest 7 = .ok (.iconst 1, 1) := by decide +kernel
theorem dX1_loseOldest_8 : decode cX1_loseOldest 8 = .ok (.istore_n 2, 1) := by decide +kernel
theorem dX1_loseOldest_9 : decode cX1_loseOldest 9 = .ok (.iload_n 2, 1) := by decide +kernel
theorem dX1_loseOldest_10 : decode cX1_loseOldest 10 = .ok (.bipush 6, 2) := by decide +kernel
theorem dX1_loseOldest_12 : decode cX1_loseOldest 12 = .ok (.if_icmp .ge 23, 3) := by decide +kernel
theorem dX1_loseOldest_15 : decode cX1_loseOldest 15 = .ok (.aload_n 0, 1) := by decide +kernel
theorem dX1_loseOldest_16 : decode cX1_loseOldest 16 = .ok (.getfield 11, 3) := by decide +kernel
theorem dX1_loseOldest_19 : decode cX1_loseOldest 19 = .ok (.iload_n 2, 1) := by decide +kernel
theorem dX1_loseOldest_20 : decode cX1_loseOldest 20 = .ok (.iconst 1, 1) := by decide +kernel
theorem dX1_loseOldest_21 : decode cX1_loseOldest 21 = .ok (.isub, 1) := by decide +kernel
theorem dX1_loseOldest_22 : decode cX1_loseOldest 22 = .ok (.aload_n 0, 1) := by decide +kernel
theorem dX1_loseOldest_23 : decode cX1_loseOldest 23 = .ok (.getfield 11, 3) := by decide +kernel
theorem dX1_loseOldest_26 : decode cX1_loseOldest 26 = .ok (.iload_n 2, 1) := by decide +kernel
theorem dX1_loseOldest_27 : decode cX1_loseOldest 27 = .ok (.aaload, 1) := by decide +kernel
theorem dX1_loseOldest_28 : decode cX1_loseOldest 28 = .ok (.aastore, 1) := by decide +kernel
theorem dX1_loseOldest_29 : decode cX1_loseOldest 29 = .ok (.iinc 2 1, 3) := by decide +kernel
theorem dX1_loseOldest_32 : decode cX1_loseOldest 32 = .ok (.goto (-23), 3) := by decide +kernel
theorem dX1_loseOldest_35 : decode cX1_loseOldest 35 = .ok (.aload_n 0, 1) := by decide +kernel
theorem dX1_loseOldest_36 : decode cX1_loseOldest 36 = .ok (.getfield 11, 3) := by decide +kernel
theorem dX1_loseOldest_39 : decode cX1_loseOldest 39 = .ok (.iconst 5, 1) := by decide +kernel
theorem dX1_loseOldest_40 : decode cX1_loseOldest 40 = .ok (.aload_n 1, 1) := by decide +kernel
theorem dX1_loseOldest_41 : decode cX1_loseOldest 41 = .ok (.aastore, 1) := by decide +kernel
theorem dX1_loseOldest_42 : decode cX1_loseOldest 42 = .ok (.aload_n 0, 1) := by decide +kernel
theorem dX1_loseOldest_43 : decode cX1_loseOldest 43 = .ok (.iconst 5, 1) := by decide +kernel
theorem dX1_loseOldest_44 : decode cX1_loseOldest 44 = .ok (.putfield 18, 3) := by decide +kernel
theorem dX1_loseOldest_47 : decode cX1_loseOldest 47 = .ok (.return_, 1) := by decide +kernel
set_option maxRecDepth 20000 in
theorem ggX1_recall_X0_copyFrom : GoodIn wsX1_recall wsX0_copyFrom := goodIn_r _ [7, 8, 9, 10, 11, 12, 13, 14, 15, 16, 17, 18, 21, 22, 23, 24, 25, 26, 27] (by decide +kernel) (by decide +kernel)
set_option maxRecDepth 20000 in
theorem gX1_recall_X0_copyFrom : GoodIn wsX1_recall (wsV RX1 25 RX0 yX0_copyFrom wsX0_copyFrom) := goodIn_app (goodIn_of _ (by decide +kernel)) ggX1_recall_X0_copyFrom
theorem dX1_recall_0 : decode cX1_recall 0 = .ok (.aload_n 0, 1) := by decide +kernel
theorem dX1_recall_1 : decode cX1_recall 1 = .ok (.getfield 18, 3) := by decide +kernel
theorem dX1_recall_4 : decode cX1_recall 4 = .ok (.ifCond .gt 5, 3) := by decide +kernel
theorem dX1_recall_7 : decode cX1_recall 7 = .ok (.iconst 0, 1) := by decide +kernel
theorem dX1_recall_8 : decode cX1_recall 8 = .ok (.ireturn, 1) := by decide +kernel
theorem dX1_recall_9 : decode cX1_recall 9 = .ok (.aload_n 0, 1) := by decide +kernel
theorem dX1_recall_10 : decode cX1_recall 10 = .ok (.dup, 1) := by decide +kernel
theorem dX1_recall_11 : decode cX1_recall 11 = .ok (.getfield 18, 3) := by decide +kernel
theorem dX1_recall_14 : decode cX1_recall 14 = .ok (.iconst 1, 1) := by decide +kernel
theorem dX1_recall_15 : decode cX1_recall 15 = .ok (.isub, 1) := by decide +kernel
theorem dX1_recall_16 : decode cX1_recall 16 = .ok (.putfield 18, 3) := by decide +kernel
theorem dX1_recall_19 : decode cX1_recall 19 = .ok (.aload_n 1, 1) := by decide +kernel
theorem dX1_recall_20 : decode cX1_recall 20 = .ok (.aload_n 0, 1) := by decide +kernel
theorem dX1_recall_21 : decode cX1_recall 21 = .ok (.getfield 11, 3) := by decide +kernel
theorem dX1_recall_24 : decode cX1_recall 24 = .ok (.aload_n 0, 1) := by decide +kernel
theorem dX1_recall_25 : decode cX1_recall 25 = .ok (.getfield 18, 3) := by decide +kernel
theorem dX1_recall_28 : decode cX1_recall 28 = .ok (.aaload, 1) := by decide +kernel
theorem dX1_recall_29 : decode cX1_recall 29 = .ok (.invokevirtual 25, 3) := by decide +kernel
theorem dX1_recall_32 : decode cX1_recall 32 = .ok (.iconst 1, 1) := by decide +kernel
theorem dX1_recall_33 : decode cX1_recall 33 = .ok (.ireturn, 1) := by decide +kernel
set_option maxRecDepth 20000 in
theorem ggX2_init_X0_init : GoodIn wsX2_init wsX0_init := goodIn_r _ [10, 11, 2, 3, 12, 13, 14, 15, 16, 6, 17, 18, 19, 20, 21, 22, 23, 24, 25, 26, 27, 28, 29, 30, 31, 32, 33, 34] (by decide +kernel) (by decide +kernel)
set_option maxRecDepth 20000 in
theorem gX2_init_X0_init : GoodIn wsX2_init (wsX0_init) := ggX2_init_X0_init
theorem dX2_init_0 : decode cX2_init 0 = .ok (.aload_n 0, 1) := by decide +kernel
theorem dX2_init_1 : decode cX2_init 1 = .ok (.invokespecial 3, 3) := by decide +kernel
theorem dX2_init_4 : decode cX2_init 4 = .ok (.aload_n 0, 1) := by decide +kernel
theorem dX2_init_5 : decode cX2_init 5 = .ok (.new 9, 3) := by decide +kernel
theorem dX2_init_8 : decode cX2_init 8 = .ok (.dup, 1) := by decide +kernel
theorem dX2_init_9 : decode cX2_init 9 = .ok (.invokespecial 11, 3) := by decide +kernel
theorem dX2_init_12 : decode cX2_init 12 = .ok (.putfield 12, 3) := by decide +kernel
theorem dX2_init_15 : decode cX2_init 15 = .ok (.return_, 1) := by decide +kernel
set_option maxRecDepth 20000 in
theorem ggX2_lookAt_X0_copyFrom : GoodIn wsX2_lookAt wsX0_copyFrom := goodIn_r _ [6, 7, 8, 9, 10, 11, 12, 13, 14, 15, 16, 17, 22, 23, 24, 25, 26, 27, 28] (by decide +kernel) (by decide +kernel)
set_option maxRecDepth 20000 in
theorem gX2_lookAt_X0_copyFrom : GoodIn wsX2_lookAt (wsV RX2 18 RX0 yX0_copyFrom wsX0_copyFrom) := goodIn_app (goodIn_of _ (by decide +kernel)) ggX2_lookAt_X0_copyFrom
theorem dX2_lookAt_0 : decode cX2_lookAt 0 = .ok (.aload_n 0, 1) := by decide +kernel
theorem dX2_lookAt_1 : decode cX2_lookAt 1 = .ok (.getfield 12, 3) := by decide +kernel
theorem dX2_lookAt_4 : decode cX2_lookAt 4 = .ok (.aload_n 1, 1) := by decide +kernel
theorem dX2_lookAt_5 : decode cX2_lookAt 5 = .ok (.invokevirtual 18, 3) := by decide +kernel
theorem dX2_lookAt_8 : decode cX2_lookAt 8 = .ok (.return_, 1) := by decide +kernel
set_option maxRecDepth 20000 in
theorem ggX2_find_X2_goOn : GoodIn wsX2_find wsX2_goOn := goodIn_r _ [9, 4, 10, 11, 12, 13, 14, 8, 15, 1, 16, 17, 18, 19, 2, 20, 21, 22, 23, 24, 25, 26, 27, 28, 29, 30, 31, 32, 33, 34, 35, 36, 37, 5, 6, 7, 38, 39, 40, 41, 42, 43, 44, 45, 46, 47, 48, 49, 50, 51, 52, 53, 54, 55, 56, 57, 58, 59, 60, 61, 62, 63, 64, 65, 66, 67, 68, 69, 70, 71, 72, 73, 74, 75, 76, 77, 78] (by decide +kernel) (by decide +kernel)
set_option maxRecDepth 20000 in
theorem gX2_find_X2_goOn : GoodIn wsX2_find (wsV RX2 33 RX2 yX2_goOn wsX2_goOn) := goodIn_app (goodIn_of _ (by decide +kernel)) ggX2_find_X2_goOn
theorem dX2_find_0 : decode cX2_find 0 = .ok (.aload_n 0, 1) := by decide +kernel
theorem dX2_find_1 : decode cX2_find 1 = .ok (.iload_n 1, 1) := by decide +kernel
theorem dX2_find_2 : decode cX2_find 2 = .ok (.putfield 22, 3) := by decide +kernel
theorem dX2_find_5 : decode cX2_find 5 = .ok (.aload_n 0, 1) := by decide +kernel
theorem dX2_find_6 : decode cX2_find 6 = .ok (.iconst 0, 1) := by decide +kernel
theorem dX2_find_7 : decode cX2_find 7 = .ok (.putfield 26, 3) := by decide +kernel
theorem dX2_find_10 : decode cX2_find 10 = .ok (.aload_n 0, 1) := by decide +kernel
theorem dX2_find_11 : decode cX2_find 11 = .ok (.ldc 29, 2) := by decide +kernel
theorem dX2_find_13 : decode cX2_find 13 = .ok (.putfield 30, 3) := by decide +kernel
theorem dX2_find_16 : decode cX2_find 16 = .ok (.aload_n 0, 1) := by decide +kernel
theorem dX2_find_17 : decode cX2_find 17 = .ok (.iconst 0, 1) := by decide +kernel
theorem dX2_find_18 : decode cX2_find 18 = .ok (.iconst 0, 1) := by decide +kernel
theorem dX2_find_19 : decode cX2_find 19 = .ok (.bipush (-9), 2) := by decide +kernel
theorem dX2_find_21 : decode cX2_find 21 = .ok (.bipush (-9), 2) := by decide +kernel
theorem dX2_find_23 : decode cX2_find 23 = .ok (.iconst 0, 1) := by decide +kernel
theorem dX2_find_24 : decode cX2_find 24 = .ok (.invokevirtual 33, 3) := by decide +kernel
theorem dX2_find_27 : decode cX2_find 27 = .ok (.aload_n 0, 1) := by decide +kernel
theorem dX2_find_28 : decode cX2_find 28 = .ok (.getfield 30, 3) := by decide +kernel
theorem dX2_find_31 : decode cX2_find 31 = .ok (.ldc 29, 2) := by decide +kernel
theorem dX2_find_33 : decode cX2_find 33 = .ok (.if_icmp .ge 7, 3) := by decide +kernel
theorem dX2_find_36 : decode cX2_find 36 = .ok (.iconst 1, 1) := by decide +kernel
theorem dX2_find_37 : decode cX2_find 37 = .ok (.goto 4, 3) := by decide +kernel
theorem dX2_find_40 : decode cX2_find 40 = .ok (.iconst 0, 1) := by decide +kernel
theorem dX2_find_41 : decode cX2_find 41 = .ok (.ireturn, 1) := by decide +kernel
set_option maxRecDepth 20000 in
theorem ggX2_goOn_X2_weigh : GoodIn wsX2_goOn wsX2_weigh := goodIn_r _ [8, 9, 2, 10, 11, 12, 13, 1, 14, 15, 16, 17, 18, 19, 20, 21, 22, 23, 24, 25, 26, 27, 66, 67, 68, 69, 70, 71, 72, 73, 74, 75, 76] (by decide +kernel) (by decide +kernel)
set_option maxRecDepth 20000 in
theorem gX2_goOn_X2_weigh : GoodIn wsX2_goOn (wsV RX2 40 RX2 yX2_weigh wsX2_weigh) := goodIn_app (goodIn_of _ (by decide +kernel)) ggX2_goOn_X2_weigh
set_option maxRecDepth 20000 in
theorem ggX2_goOn_X0_hasNote : GoodIn wsX2_goOn wsX0_hasNote := goodIn_r _ [31, 32, 20, 70, 71, 72, 73, 74, 75, 76] (by decide +kernel) (by decide +kernel)
set_option maxRecDepth 20000 in
theorem gX2_goOn_X0_hasNote : GoodIn wsX2_goOn (wsV RX2 44 RX0 yX0_hasNote wsX0_hasNote) := goodIn_app (goodIn_of _ (by decide +kernel)) ggX2_goOn_X0_hasNote
set_option maxRecDepth 20000 in
theorem ggX2_goOn_X2_goOn : GoodIn wsX2_goOn wsX2_goOn := goodIn_r _ [0, 1, 2, 3, 4, 5, 6, 7, 8, 9, 10, 11, 12, 13, 14, 15, 16, 17, 18, 19, 20, 21, 22, 23, 24, 25, 26, 27, 28, 29, 30, 31, 32, 33, 34, 35, 36, 37, 38, 39, 40, 41, 42, 43, 44, 45, 46, 47, 48, 49, 50, 51, 52, 53, 54, 55, 56, 57, 58, 59, 60, 61, 62, 63, 64, 65, 66, 67, 68, 69, 70, 71, 72, 73, 74, 75, 76] (by decide +kernel) (by decide +kernel)
set_option maxRecDepth 20000 in
theorem gX2_goOn_X2_goOn : GoodIn wsX2_goOn (wsV RX2 33 RX2 yX2_goOn wsX2_goOn) := goodIn_app (goodIn_of _ (by decide +kernel)) ggX2_goOn_X2_goOn
set_option maxRecDepth 20000 in
theorem ggX2_goOn_X0_mayStrike : GoodIn wsX2_goOn wsX0_mayStrike := goodIn_r _ [39, 40, 41, 42, 18, 43, 44, 45, 46, 47, 48, 49, 11, 12, 13, 50, 51, 52, 53, 54, 55, 70, 71, 72, 73, 74, 75, 76] (by decide +kernel) (by decide +kernel)
set_option maxRecDepth 20000 in
theorem gX2_goOn_X0_mayStrike : GoodIn wsX2_goOn (wsV RX2 48 RX0 yX0_mayStrike wsX0_mayStrike) := goodIn_app (goodIn_of _ (by decide +kernel)) ggX2_goOn_X0_mayStrike
set_option maxRecDepth 20000 in
theorem ggX2_goOn_X2_costAt : GoodIn wsX2_goOn wsX2_costAt := goodIn_r _ [59, 9, 2, 60, 61, 62, 63, 7, 64, 65, 28, 29, 30, 18, 31, 32, 20, 66, 67, 68, 69, 70, 71, 72, 73, 74, 75, 76] (by decide +kernel) (by decide +kernel)
set_option maxRecDepth 20000 in
theorem gX2_goOn_X2_costAt : GoodIn wsX2_goOn (wsV RX2 52 RX2 yX2_costAt wsX2_costAt) := goodIn_app (goodIn_of _ (by decide +kernel)) ggX2_goOn_X2_costAt
theorem dX2_goOn_0 : decode cX2_goOn 0 = .ok (.iload 5, 2) := by decide +kernel
theorem dX2_goOn_2 : decode cX2_goOn 2 = .ok (.aload_n 0, 1) := by decide +kernel
theorem dX2_goOn_3 : decode cX2_goOn 3 = .ok (.getfield 30, 3) := by decide +kernel
theorem dX2_goOn_6 : decode cX2_goOn 6 = .ok (.if_icmp .lt 4, 3) := by decide +kernel
theorem dX2_goOn_9 : decode cX2_goOn 9 = .ok (.return_, 1) := by decide +kernel
theorem dX2_goOn_10 : decode cX2_goOn 10 = .ok (.iload_n 1, 1) := by decide +kernel
theorem dX2_goOn_11 : decode cX2_goOn 11 = .ok (.aload_n 0, 1) := by decide +kernel
theorem dX2_goOn_12 : decode cX2_goOn 12 = .ok (.getfield 12, 3) := by decide +kernel
theorem dX2_goOn_15 : decode cX2_goOn 15 = .ok (.getfield 37, 3) := by decide +kernel
theorem dX2_goOn_18 : decode cX2_goOn 18 = .ok (.if_icmp .lt 11, 3) := by decide +kernel
theorem dX2_goOn_21 : decode cX2_goOn 21 = .ok (.aload_n 0, 1) := by decide +kernel
theorem dX2_goOn_22 : decode cX2_goOn 22 = .ok (.iload_n 2, 1) := by decide +kernel
theorem dX2_goOn_23 : decode cX2_goOn 23 = .ok (.iload 5, 2) := by decide +kernel
theorem dX2_goOn_25 : decode cX2_goOn 25 = .ok (.invokevirtual 40, 3) := by decide +kernel
theorem dX2_goOn_28 : decode cX2_goOn 28 = .ok (.return_, 1) := by decide +kernel
theorem dX2_goOn_29 : decode cX2_goOn 29 = .ok (.aload_n 0, 1) := by decide +kernel
theorem dX2_goOn_30 : decode cX2_goOn 30 = .ok (.getfield 12, 3) := by decide +kernel
theorem dX2_goOn_33 : decode cX2_goOn 33 = .ok (.iload_n 1, 1) := by decide +kernel
theorem dX2_goOn_34 : decode cX2_goOn 34 = .ok (.invokevirtual 44, 3) := by decide +kernel
theorem dX2_goOn_37 : decode cX2_goOn 37 = .ok (.ifCond .ne 17, 3) := by decide +kernel
theorem dX2_goOn_40 : decode cX2_goOn 40 = .ok (.aload_n 0, 1) := by decide +kernel
theorem dX2_goOn_41 : decode cX2_goOn 41 = .ok (.iload_n 1, 1) := by decide +kernel
theorem dX2_goOn_42 : decode cX2_goOn 42 = .ok (.iconst 1, 1) := by decide +kernel
theorem dX2_goOn_43 : decode cX2_goOn 43 = .ok (.iadd, 1) := by decide +kernel
theorem dX2_goOn_44 : decode cX2_goOn 44 = .ok (.iload_n 2, 1) := by decide +kernel
theorem dX2_goOn_45 : decode cX2_goOn 45 = .ok (.iload_n 3, 1) := by decide +kernel
theorem dX2_goOn_46 : decode cX2_goOn 46 = .ok (.iload 4, 2) := by decide +kernel
theorem dX2_goOn_48 : decode cX2_goOn 48 = .ok (.iload 5, 2) := by decide +kernel
theorem dX2_goOn_50 : decode cX2_goOn 50 = .ok (.invokevirtual 33, 3) := by decide +kernel
theorem dX2_goOn_53 : decode cX2_goOn 53 = .ok (.return_, 1) := by decide +kernel
theorem dX2_goOn_54 : decode cX2_goOn 54 = .ok (.aload_n 0, 1) := by decide +kernel
theorem dX2_goOn_55 : decode cX2_goOn 55 = .ok (.getfield 12, 3) := by decide +kernel
theorem dX2_goOn_58 : decode cX2_goOn 58 = .ok (.iload_n 3, 1) := by decide +kernel
theorem dX2_goOn_59 : decode cX2_goOn 59 = .ok (.iload_n 1, 1) := by decide +kernel
theorem dX2_goOn_60 : decode cX2_goOn 60 = .ok (.invokevirtual 48, 3) := by decide +kernel
theorem dX2_goOn_63 : decode cX2_goOn 63 = .ok (.ifCond .eq 23, 3) := by decide +kernel
theorem dX2_goOn_66 : decode cX2_goOn 66 = .ok (.aload_n 0, 1) := by decide +kernel
theorem dX2_goOn_67 : decode cX2_goOn 67 = .ok (.iload_n 1, 1) := by decide +kernel
theorem dX2_goOn_68 : decode cX2_goOn 68 = .ok (.iconst 1, 1) := by decide +kernel
theorem dX2_goOn_69 : decode cX2_goOn 69 = .ok (.iadd, 1) := by decide +kernel
theorem dX2_goOn_70 : decode cX2_goOn 70 = .ok (.iload_n 2, 1) := by decide +kernel
theorem dX2_goOn_71 : decode cX2_goOn 71 = .ok (.iload_n 1, 1) := by decide +kernel
theorem dX2_goOn_72 : decode cX2_goOn 72 = .ok (.iload 4, 2) := by decide +kernel
theorem dX2_goOn_74 : decode cX2_goOn 74 = .ok (.iload 5, 2) := by decide +kernel
theorem dX2_goOn_76 : decode cX2_goOn 76 = .ok (.aload_n 0, 1) := by decide +kernel
theorem dX2_goOn_77 : decode cX2_goOn 77 = .ok (.iload_n 1, 1) := by decide +kernel
theorem dX2_goOn_78 : decode cX2_goOn 78 = .ok (.iload_n 2, 1) := by decide +kernel
theorem dX2_goOn_79 : decode cX2_goOn 79 = .ok (.invokevirtual 52, 3) := by decide +kernel
theorem dX2_goOn_82 : decode cX2_goOn 82 = .ok (.iadd, 1) := by decide +kernel
theorem dX2_goOn_83 : decode cX2_goOn 83 = .ok (.invokevirtual 33, 3) := by decide +kernel
theorem dX2_goOn_86 : decode cX2_goOn 86 = .ok (.aload_n 0, 1) := by decide +kernel
theorem dX2_goOn_87 : decode cX2_goOn 87 = .ok (.getfield 12, 3) := by decide +kernel
theorem dX2_goOn_90 : decode cX2_goOn 90 = .ok (.iload 4, 2) := by decide +kernel
theorem dX2_goOn_92 : decode cX2_goOn 92 = .ok (.iload_n 1, 1) := by decide +kernel
theorem dX2_goOn_93 : decode cX2_goOn 93 = .ok (.invokevirtual 48, 3) := by decide +kernel
theorem dX2_goOn_96 : decode cX2_goOn 96 = .ok (.ifCond .eq 31, 3) := by decide +kernel
theorem dX2_goOn_99 : decode cX2_goOn 99 = .ok (.iload_n 2, 1) := by decide +kernel
theorem dX2_goOn_100 : decode cX2_goOn 100 = .ok (.iconst 1, 1) := by decide +kernel
theorem dX2_goOn_101 : decode cX2_goOn 101 = .ok (.iload_n 1, 1) := by decide +kernel
theorem dX2_goOn_102 : decode cX2_goOn 102 = .ok (.ishl, 1) := by decide +kernel
theorem dX2_goOn_103 : decode cX2_goOn 103 = .ok (.ior, 1) := by decide +kernel
theorem dX2_goOn_104 : decode cX2_goOn 104 = .ok (.istore 6, 2) := by decide +kernel
theorem dX2_goOn_106 : decode cX2_goOn 106 = .ok (.aload_n 0, 1) := by decide +kernel
theorem dX2_goOn_107 : decode cX2_goOn 107 = .ok (.iload_n 1, 1) := by decide +kernel
theorem dX2_goOn_108 : decode cX2_goOn 108 = .ok (.iconst 1, 1) := by decide +kernel
theorem dX2_goOn_109 : decode cX2_goOn 109 = .ok (.iadd, 1) := by decide +kernel
theorem dX2_goOn_110 : decode cX2_goOn 110 = .ok (.iload 6, 2) := by decide +kernel
theorem dX2_goOn_112 : decode cX2_goOn 112 = .ok (.iload_n 3, 1) := by decide +kernel
theorem dX2_goOn_113 : decode cX2_goOn 113 = .ok (.iload_n 1, 1) := by decide +kernel
theorem dX2_goOn_114 : decode cX2_goOn 114 = .ok (.iload 5, 2) := by decide +kernel
theorem dX2_goOn_116 : decode cX2_goOn 116 = .ok (.aload_n 0, 1) := by decide +kernel
theorem dX2_goOn_117 : decode cX2_goOn 117 = .ok (.iload_n 1, 1) := by decide +kernel
theorem dX2_goOn_118 : decode cX2_goOn 118 = .ok (.iload 6, 2) := by decide +kernel
theorem dX2_goOn_120 : decode cX2_goOn 120 = .ok (.invokevirtual 52, 3) := by decide +kernel
theorem dX2_goOn_123 : decode cX2_goOn 123 = .ok (.iadd, 1) := by decide +kernel
theorem dX2_goOn_124 : decode cX2_goOn 124 = .ok (.invokevirtual 33, 3) := by decide +kernel
theorem dX2_goOn_127 : decode cX2_goOn 127 = .ok (.return_, 1) := by decide +kernel
set_option maxRecDepth 20000 in
theorem ggX2_costAt_X2_isUnlike : GoodIn wsX2_costAt wsX2_isUnlike := goodIn_r _ [8, 2, 9, 10, 11, 12, 13, 14, 15, 16, 17, 18, 19, 20, 21, 22, 23, 24, 25, 26, 27] (by decide +kernel) (by decide +kernel)
set_option maxRecDepth 20000 in
theorem gX2_costAt_X2_isUnlike : GoodIn wsX2_costAt (wsV RX2 56 RX2 yX2_isUnlike wsX2_isUnlike) := goodIn_app (goodIn_of _ (by decide +kernel)) ggX2_costAt_X2_isUnlike
theorem dX2_costAt_0 : decode cX2_costAt 0 = .ok (.aload_n 0, 1) := by decide +kernel
theorem dX2_costAt_1 : decode cX2_costAt 1 = .ok (.getfield 22, 3) := by decide +kernel
theorem dX2_costAt_4 : decode cX2_costAt 4 = .ok (.lookupswitch 58 #[(1, 28), (2, 44)], 28) := by decide +kernel
theorem dX2_costAt_32 : decode cX2_costAt 32 = .ok (.aload_n 0, 1) := by decide +kernel
theorem dX2_costAt_33 : decode cX2_costAt 33 = .ok (.iload_n 1, 1) := by decide +kernel
theorem dX2_costAt_34 : decode cX2_costAt 34 = .ok (.iload_n 2, 1) := by decide +kernel
theorem dX2_costAt_35 : decode cX2_costAt 35 = .ok (.invokevirtual 56, 3) := by decide +kernel
theorem dX2_costAt_38 : decode cX2_costAt 38 = .ok (.ifCond .eq 8, 3) := by decide +kernel
theorem dX2_costAt_41 : decode cX2_costAt 41 = .ok (.bipush 100, 2) := by decide +kernel
theorem dX2_costAt_43 : decode cX2_costAt 43 = .ok (.goto 4, 3) := by decide +kernel
theorem dX2_costAt_46 : decode cX2_costAt 46 = .ok (.iconst 0, 1) := by decide +kernel
theorem dX2_costAt_47 : decode cX2_costAt 47 = .ok (.ireturn, 1) := by decide +kernel
theorem dX2_costAt_48 : decode cX2_costAt 48 = .ok (.iload_n 2, 1) := by decide +kernel
theorem dX2_costAt_49 : decode cX2_costAt 49 = .ok (.aload_n 0, 1) := by decide +kernel
theorem dX2_costAt_50 : decode cX2_costAt 50 = .ok (.getfield 12, 3) := by decide +kernel
theorem dX2_costAt_53 : decode cX2_costAt 53 = .ok (.getfield 59, 3) := by decide +kernel
theorem dX2_costAt_56 : decode cX2_costAt 56 = .ok (.ixor, 1) := by decide +kernel
theorem dX2_costAt_57 : decode cX2_costAt 57 = .ok (.iload_n 1, 1) := by decide +kernel
theorem dX2_costAt_58 : decode cX2_costAt 58 = .ok (.ishr, 1) := by decide +kernel
theorem dX2_costAt_59 : decode cX2_costAt 59 = .ok (.iconst 1, 1) := by decide +kernel
theorem dX2_costAt_60 : decode cX2_costAt 60 = .ok (.iand, 1) := by decide +kernel
theorem dX2_costAt_61 : decode cX2_costAt 61 = .ok (.ireturn, 1) := by decide +kernel
theorem dX2_costAt_62 : decode cX2_costAt 62 = .ok (.iconst 0, 1) := by decide +kernel
theorem dX2_costAt_63 : decode cX2_costAt 63 = .ok (.ireturn, 1) := by decide +kernel
set_option maxRecDepth 20000 in
theorem ggX2_isUnlike_X0_hasNote : GoodIn wsX2_isUnlike wsX0_hasNote := goodIn_r _ [7, 8, 9, 14, 15, 16, 17, 18, 19, 20] (by decide +kernel) (by decide +kernel)
set_option maxRecDepth 20000 in
theorem gX2_isUnlike_X0_hasNote : GoodIn wsX2_isUnlike (wsV RX2 44 RX0 yX0_hasNote wsX0_hasNote) := goodIn_app (goodIn_of _ (by decide +kernel)) ggX2_isUnlike_X0_hasNote
theorem dX2_isUnlike_0 : decode cX2_isUnlike 0 = .ok (.iload_n 1, 1) := by decide +kernel
theorem dX2_isUnlike_1 : decode cX2_isUnlike 1 = .ok (.aload_n 0, 1) := by decide +kernel
theorem dX2_isUnlike_2 : decode cX2_isUnlike 2 = .ok (.getfield 12, 3) := by decide +kernel
theorem dX2_isUnlike_5 : decode cX2_isUnlike 5 = .ok (.getfield 62, 3) := by decide +kernel
theorem dX2_isUnlike_8 : decode cX2_isUnlike 8 = .ok (.isub, 1) := by decide +kernel
theorem dX2_isUnlike_9 : decode cX2_isUnlike 9 = .ok (.istore_n 3, 1) := by decide +kernel
theorem dX2_isUnlike_10 : decode cX2_isUnlike 10 = .ok (.aload_n 0, 1) := by decide +kernel
theorem dX2_isUnlike_11 : decode cX2_isUnlike 11 = .ok (.getfield 12, 3) := by decide +kernel
theorem dX2_isUnlike_14 : decode cX2_isUnlike 14 = .ok (.iload_n 3, 1) := by decide +kernel
theorem dX2_isUnlike_15 : decode cX2_isUnlike 15 = .ok (.invokevirtual 44, 3) := by decide +kernel
theorem dX2_isUnlike_18 : decode cX2_isUnlike 18 = .ok (.ifCond .eq 20, 3) := by decide +kernel
theorem dX2_isUnlike_21 : decode cX2_isUnlike 21 = .ok (.iload_n 2, 1) := by decide +kernel
theorem dX2_isUnlike_22 : decode cX2_isUnlike 22 = .ok (.iload_n 1, 1) := by decide +kernel
theorem dX2_isUnlike_23 : decode cX2_isUnlike 23 = .ok (.ishr, 1) := by decide +kernel
theorem dX2_isUnlike_24 : decode cX2_isUnlike 24 = .ok (.iconst 1, 1) := by decide +kernel
theorem dX2_isUnlike_25 : decode cX2_isUnlike 25 = .ok (.iand, 1) := by decide +kernel
theorem dX2_isUnlike_26 : decode cX2_isUnlike 26 = .ok (.iload_n 2, 1) := by decide +kernel
theorem dX2_isUnlike_27 : decode cX2_isUnlike 27 = .ok (.iload_n 3, 1) := by decide +kernel
theorem dX2_isUnlike_28 : decode cX2_isUnlike 28 = .ok (.ishr, 1) := by decide +kernel
theorem dX2_isUnlike_29 : decode cX2_isUnlike 29 = .ok (.iconst 1, 1) := by decide +kernel
theorem dX2_isUnlike_30 : decode cX2_isUnlike 30 = .ok (.iand, 1) := by decide +kernel
theorem dX2_isUnlike_31 : decode cX2_isUnlike 31 = .ok (.if_icmp .eq 7, 3) := by decide +kernel
theorem dX2_isUnlike_34 : decode cX2_isUnlike 34 = .ok (.iconst 1, 1) := by decide +kernel
theorem dX2_isUnlike_35 : decode cX2_isUnlike 35 = .ok (.goto 4, 3) := by decide +kernel
theorem dX2_isUnlike_38 : decode cX2_isUnlike 38 = .ok (.iconst 0, 1) := by decide +kernel
theorem dX2_isUnlike_39 : decode cX2_isUnlike 39 = .ok (.ireturn, 1) := by decide +kernel
set_option maxRecDepth 20000 in
theorem ggX2_weigh_X0_tilt : GoodIn wsX2_weigh wsX0_tilt := goodIn_r _ [13, 14, 15, 16, 17, 18, 19, 20, 21, 26, 27, 28, 29, 30, 31, 32] (by decide +kernel) (by decide +kernel)
set_option maxRecDepth 20000 in
theorem gX2_weigh_X0_tilt : GoodIn wsX2_weigh (wsV RX2 65 RX0 yX0_tilt wsX0_tilt) := goodIn_app (goodIn_of _ (by decide +kernel)) ggX2_weigh_X0_tilt
theorem dX2_weigh_0 : decode cX2_weigh 0 = .ok (.aload_n 0, 1) := by decide +kernel
theorem dX2_weigh_1 : decode cX2_weigh 1 = .ok (.getfield 22, 3) := by decide +kernel
theorem dX2_weigh_4 : decode cX2_weigh 4 = .ok (.iconst 1, 1) := by decide +kernel
theorem dX2_weigh_5 : decode cX2_weigh 5 = .ok (.if_icmp .ne 19, 3) := by decide +kernel
theorem dX2_weigh_8 : decode cX2_weigh 8 = .ok (.iload_n 2, 1) := by decide +kernel
theorem dX2_weigh_9 : decode cX2_weigh 9 = .ok (.aload_n 0, 1) := by decide +kernel
theorem dX2_weigh_10 : decode cX2_weigh 10 = .ok (.getfield 12, 3) := by decide +kernel
theorem dX2_weigh_13 : decode cX2_weigh 13 = .ok (.iload_n 1, 1) := by decide +kernel
theorem dX2_weigh_14 : decode cX2_weigh 14 = .ok (.invokevirtual 65, 3) := by decide +kernel
theorem dX2_weigh_17 : decode cX2_weigh 17 = .ok (.invokestatic 69, 3) := by decide +kernel
theorem dX2_weigh_20 : decode cX2_weigh 20 = .ok (.iadd, 1) := by decide +kernel
theorem dX2_weigh_21 : decode cX2_weigh 21 = .ok (.goto 4, 3) := by decide +kernel
theorem dX2_weigh_24 : decode cX2_weigh 24 = .ok (.iload_n 2, 1) := by decide +kernel
theorem dX2_weigh_25 : decode cX2_weigh 25 = .ok (.istore_n 3, 1) := by decide +kernel
theorem dX2_weigh_26 : decode cX2_weigh 26 = .ok (.iload_n 3, 1) := by decide +kernel
theorem dX2_weigh_27 : decode cX2_weigh 27 = .ok (.aload_n 0, 1) := by decide +kernel
theorem dX2_weigh_28 : decode cX2_weigh 28 = .ok (.getfield 30, 3) := by decide +kernel
theorem dX2_weigh_31 : decode cX2_weigh 31 = .ok (.if_icmp .ge 13, 3) := by decide +kernel
theorem dX2_weigh_34 : decode cX2_weigh 34 = .ok (.aload_n 0, 1) := by decide +kernel
theorem dX2_weigh_35 : decode cX2_weigh 35 = .ok (.iload_n 3, 1) := by decide +kernel
theorem dX2_weigh_36 : decode cX2_weigh 36 = .ok (.putfield 30, 3) := by decide +kernel
theorem dX2_weigh_39 : decode cX2_weigh 39 = .ok (.aload_n 0, 1) := by decide +kernel
theorem dX2_weigh_40 : decode cX2_weigh 40 = .ok (.iload_n 1, 1) := by decide +kernel
theorem dX2_weigh_41 : decode cX2_weigh 41 = .ok (.putfield 26, 3) := by decide +kernel
theorem dX2_weigh_44 : decode cX2_weigh 44 = .ok (.return_, 1) := by decide +kernel
theorem dX3_init_0 : decode cX3_init 0 = .ok (.aload_n 0, 1) := by decide +kernel
theorem dX3_init_1 : decode cX3_init 1 = .ok (.invokespecial 3, 3) := by decide +kernel
theorem dX3_init_4 : decode cX3_init 4 = .ok (.aload_n 0, 1) := by decide +kernel
theorem dX3_init_5 : decode cX3_init 5 = .ok (.bipush 12, 2) := by decide +kernel
theorem dX3_init_7 : decode cX3_init 7 = .ok (.newarray .int, 2) := by decide +kernel
theorem dX3_init_9 : decode cX3_init 9 = .ok (.putfield 9, 3) := by decide +kernel
theorem dX3_init_12 : decode cX3_init 12 = .ok (.return_, 1) := by decide +kernel
set_option maxRecDepth 20000 in
theorem ggX3_gather_J7_fill_53178 : GoodIn wsX3_gather wsJ7_fill_53178 := goodIn_r _ [8] (by decide +kernel) (by decide +kernel)
set_option maxRecDepth 20000 in
theorem gX3_gather_J7_fill_53178 : GoodIn wsX3_gather (va_wsS RX3 22 yJ7_fill_53178 wsJ7_fill_53178) := goodIn_app (goodIn_of _ (by decide +kernel)) ggX3_gather_J7_fill_53178
set_option maxRecDepth 20000 in
theorem ggX3_gather_X0_pitchesUsed : GoodIn wsX3_gather wsX0_pitchesUsed := goodIn_r _ [13, 14, 15, 16, 17, 12, 18, 19, 20, 21, 22, 23, 24, 59, 60, 61, 62, 63, 64, 65] (by decide +kernel) (by decide +kernel)
set_option maxRecDepth 20000 in
theorem gX3_gather_X0_pitchesUsed : GoodIn wsX3_gather (wsV RX3 28 RX0 yX0_pitchesUsed wsX0_pitchesUsed) := goodIn_app (goodIn_of _ (by decide +kernel)) ggX3_gather_X0_pitchesUsed
set_option maxRecDepth 20000 in
theorem ggX3_gather_X0_shareByTable : GoodIn wsX3_gather wsX0_shareByTable := goodIn_r _ [28, 14, 15, 16, 17, 12, 18, 19, 20, 21, 22, 23, 24, 59, 60, 61, 62, 63, 64, 65] (by decide +kernel) (by decide +kernel)
set_option maxRecDepth 20000 in
theorem gX3_gather_X0_shareByTable : GoodIn wsX3_gather (wsV RX3 34 RX0 yX0_shareByTable wsX0_shareByTable) := goodIn_app (goodIn_of _ (by decide +kernel)) ggX3_gather_X0_shareByTable
set_option maxRecDepth 20000 in
theorem ggX3_gather_X0_isLawful : GoodIn wsX3_gather wsX0_isLawful := goodIn_r _ [32, 14, 15, 16, 17, 12, 18, 19, 33, 34, 35, 36, 37, 38, 39, 40, 41, 42, 43, 44, 45, 46, 47, 48, 49, 50, 20, 21, 22, 23, 24, 59, 60, 61, 62, 63, 64, 65] (by decide +kernel) (by decide +kernel)
set_option maxRecDepth 20000 in
theorem gX3_gather_X0_isLawful : GoodIn wsX3_gather (wsV RX3 41 RX0 yX0_isLawful wsX0_isLawful) := goodIn_app (goodIn_of _ (by decide +kernel)) ggX3_gather_X0_isLawful
set_option maxRecDepth 20000 in
theorem ggX3_gather_X3_include : GoodIn wsX3_gather wsX3_include := goodIn_r _ [55, 1, 2, 3, 56, 57, 58] (by decide +kernel) (by decide +kernel)
set_option maxRecDepth 20000 in
theorem gX3_gather_X3_include : GoodIn wsX3_gather (wsV RX3 45 RX3 yX3_include wsX3_include) := goodIn_app (goodIn_of _ (by decide +kernel)) ggX3_gather_X3_include
theorem dX3_gather_0 : decode cX3_gather 0 = .ok (.aload_n 0, 1) := by decide +kernel
theorem dX3_gather_1 : decode cX3_gather 1 = .ok (.iconst 0, 1) := by decide +kernel
theorem dX3_gather_2 : decode cX3_gather 2 = .ok (.putfield 15, 3) := by decide +kernel
theorem dX3_gather_5 : decode cX3_gather 5 = .ok (.aload_n 0, 1) := by decide +kernel
theorem dX3_gather_6 : decode cX3_gather 6 = .ok (.bipush (-9), 2) := by decide +kernel
theorem dX3_gather_8 : decode cX3_gather 8 = .ok (.putfield 19, 3) := by decide +kernel
theorem dX3_gather_11 : decode cX3_gather 11 = .ok (.aload_n 0, 1) := by decide +kernel
theorem dX3_gather_12 : decode cX3_gather 12 = .ok (.getfield 9, 3) := by decide +kernel
theorem dX3_gather_15 : decode cX3_gather 15 = .ok (.iconst 0, 1) := by decide +kernel
theorem dX3_gather_16 : decode cX3_gather 16 = .ok (.invokestatic 22, 3) := by decide +kernel
theorem dX3_gather_19 : decode cX3_gather 19 = .ok (.aload_n 1, 1) := by decide +kernel
theorem dX3_gather_20 : decode cX3_gather 20 = .ok (.invokevirtual 28, 3) := by decide +kernel
theorem dX3_gather_23 : decode cX3_gather 23 = .ok (.iconst (-1), 1) := by decide +kernel
theorem dX3_gather_24 : decode cX3_gather 24 = .ok (.ixor, 1) := by decide +kernel
theorem dX3_gather_25 : decode cX3_gather 25 = .ok (.istore 4, 2) := by decide +kernel
theorem dX3_gather_27 : decode cX3_gather 27 = .ok (.iconst 0, 1) := by decide +kernel
theorem dX3_gather_28 : decode cX3_gather 28 = .ok (.istore 5, 2) := by decide +kernel
theorem dX3_gather_30 : decode cX3_gather 30 = .ok (.iload 5, 2) := by decide +kernel
theorem dX3_gather_32 : decode cX3_gather 32 = .ok (.sipush 128, 3) := by decide +kernel
theorem dX3_gather_35 : decode cX3_gather 35 = .ok (.if_icmp .ge 82, 3) := by decide +kernel
theorem dX3_gather_38 : decode cX3_gather 38 = .ok (.iload 5, 2) := by decide +kernel
theorem dX3_gather_40 : decode cX3_gather 40 = .ok (.iload 4, 2) := by decide +kernel
theorem dX3_gather_42 : decode cX3_gather 42 = .ok (.iand, 1) := by decide +kernel
theorem dX3_gather_43 : decode cX3_gather 43 = .ok (.ifCond .eq 6, 3) := by decide +kernel
theorem dX3_gather_46 : decode cX3_gather 46 = .ok (.goto 65, 3) := by decide +kernel
theorem dX3_gather_49 : decode cX3_gather 49 = .ok (.aload_n 1, 1) := by decide +kernel
theorem dX3_gather_50 : decode cX3_gather 50 = .ok (.iload 5, 2) := by decide +kernel
theorem dX3_gather_52 : decode cX3_gather 52 = .ok (.invokevirtual 34, 3) := by decide +kernel
theorem dX3_gather_55 : decode cX3_gather 55 = .ok (.istore 6, 2) := by decide +kernel
theorem dX3_gather_57 : decode cX3_gather 57 = .ok (.iload_n 2, 1) := by decide +kernel
theorem dX3_gather_58 : decode cX3_gather 58 = .ok (.aload_n 1, 1) := by decide +kernel
theorem dX3_gather_59 : decode cX3_gather 59 = .ok (.getfield 38, 3) := by decide +kernel
theorem dX3_gather_62 : decode cX3_gather 62 = .ok (.iload 6, 2) := by decide +kernel
theorem dX3_gather_64 : decode cX3_gather 64 = .ok (.iconst (-1), 1) := by decide +kernel
theorem dX3_gather_65 : decode cX3_gather 65 = .ok (.ixor, 1) := by decide +kernel
theorem dX3_gather_66 : decode cX3_gather 66 = .ok (.iand, 1) := by decide +kernel
theorem dX3_gather_67 : decode cX3_gather 67 = .ok (.iconst (-1), 1) := by decide +kernel
theorem dX3_gather_68 : decode cX3_gather 68 = .ok (.ixor, 1) := by decide +kernel
theorem dX3_gather_69 : decode cX3_gather 69 = .ok (.iand, 1) := by decide +kernel
theorem dX3_gather_70 : decode cX3_gather 70 = .ok (.ifCond .ne 16, 3) := by decide +kernel
theorem dX3_gather_73 : decode cX3_gather 73 = .ok (.iload_n 3, 1) := by decide +kernel
theorem dX3_gather_74 : decode cX3_gather 74 = .ok (.iload 6, 2) := by decide +kernel
theorem dX3_gather_76 : decode cX3_gather 76 = .ok (.iconst (-1), 1) := by decide +kernel
theorem dX3_gather_77 : decode cX3_gather 77 = .ok (.ixor, 1) := by decide +kernel
theorem dX3_gather_78 : decode cX3_gather 78 = .ok (.iand, 1) := by decide +kernel
theorem dX3_gather_79 : decode cX3_gather 79 = .ok (.ifCond .ne 7, 3) := by decide +kernel
theorem dX3_gather_82 : decode cX3_gather 82 = .ok (.iconst 1, 1) := by decide +kernel
theorem dX3_gather_83 : decode cX3_gather 83 = .ok (.goto 4, 3) := by decide +kernel
theorem dX3_gather_86 : decode cX3_gather 86 = .ok (.iconst 0, 1) := by decide +kernel
theorem dX3_gather_87 : decode cX3_gather 87 = .ok (.istore 7, 2) := by decide +kernel
theorem dX3_gather_89 : decode cX3_gather 89 = .ok (.iload 7, 2) := by decide +kernel
theorem dX3_gather_91 : decode cX3_gather 91 = .ok (.ifCond .eq 20, 3) := by decide +kernel
theorem dX3_gather_94 : decode cX3_gather 94 = .ok (.aload_n 1, 1) := by decide +kernel
theorem dX3_gather_95 : decode cX3_gather 95 = .ok (.iload 6, 2) := by decide +kernel
theorem dX3_gather_97 : decode cX3_gather 97 = .ok (.invokevirtual 41, 3) := by decide +kernel
theorem dX3_gather_100 : decode cX3_gather 100 = .ok (.ifCond .eq 11, 3) := by decide +kernel
theorem dX3_gather_103 : decode cX3_gather 103 = .ok (.aload_n 0, 1) := by decide +kernel
theorem dX3_gather_104 : decode cX3_gather 104 = .ok (.iload 5, 2) := by decide +kernel
theorem dX3_gather_106 : decode cX3_gather 106 = .ok (.iload 6, 2) := by decide +kernel
theorem dX3_gather_108 : decode cX3_gather 108 = .ok (.invokevirtual 45, 3) := by decide +kernel
theorem dX3_gather_111 : decode cX3_gather 111 = .ok (.iinc 5 1, 3) := by decide +kernel
theorem dX3_gather_114 : decode cX3_gather 114 = .ok (.goto (-84), 3) := by decide +kernel
theorem dX3_gather_117 : decode cX3_gather 117 = .ok (.return_, 1) := by decide +kernel
theorem dX3_include_0 : decode cX3_include 0 = .ok (.aload_n 0, 1) := by decide +kernel
theorem dX3_include_1 : decode cX3_include 1 = .ok (.getfield 15, 3) := by decide +kernel
theorem dX3_include_4 : decode cX3_include 4 = .ok (.ifCond .ne 8, 3) := by decide +kernel
theorem dX3_include_7 : decode cX3_include 7 = .ok (.aload_n 0, 1) := by decide +kernel
theorem dX3_include_8 : decode cX3_include 8 = .ok (.iload_n 1, 1) := by decide +kernel
theorem dX3_include_9 : decode cX3_include 9 = .ok (.putfield 19, 3) := by decide +kernel
theorem dX3_include_12 : decode cX3_include 12 = .ok (.aload_n 0, 1) := by decide +kernel
theorem dX3_include_13 : decode cX3_include 13 = .ok (.dup, 1) := by decide +kernel
theorem dX3_include_14 : decode cX3_include 14 = .ok (.getfield 15, 3) := by decide +kernel
theorem dX3_include_17 : decode cX3_include 17 = .ok (.iconst 1, 1) := by decide +kernel
theorem dX3_include_18 : decode cX3_include 18 = .ok (.iadd, 1) := by decide +kernel
theorem dX3_include_19 : decode cX3_include 19 = .ok (.putfield 15, 3) := by decide +kernel
theorem dX3_include_22 : decode cX3_include 22 = .ok (.iconst 0, 1) := by decide +kernel
theorem dX3_include_23 : decode cX3_include 23 = .ok (.istore_n 3, 1) := by decide +kernel
theorem dX3_include_24 : decode cX3_include 24 = .ok (.iload_n 3, 1) := by decide +kernel
theorem dX3_include_25 : decode cX3_include 25 = .ok (.bipush 12, 2) := by decide +kernel
theorem dX3_include_27 : decode cX3_include 27 = .ok (.if_icmp .ge 23, 3) := by decide +kernel
theorem dX3_include_30 : decode cX3_include 30 = .ok (.aload_n 0, 1) := by decide +kernel
theorem dX3_include_31 : decode cX3_include 31 = .ok (.getfield 9, 3) := by decide +kernel
theorem dX3_include_34 : decode cX3_include 34 = .ok (.iload_n 3, 1) := by decide +kernel
theorem dX3_include_35 : decode cX3_include 35 = .ok (.dup2, 1) := by decide +kernel
theorem dX3_include_36 : decode cX3_include 36 = .ok (.iaload, 1) := by decide +kernel
theorem dX3_include_37 : decode cX3_include 37 = .ok (.iload_n 2, 1) := by decide +kernel
theorem dX3_include_38 : decode cX3_include 38 = .ok (.iload_n 3, 1) := by decide +kernel
theorem dX3_include_39 : decode cX3_include 39 = .ok (.ishr, 1) := by decide +kernel
theorem dX3_include_40 : decode cX3_include 40 = .ok (.iconst 1, 1) := by decide +kernel
theorem dX3_include_41 : decode cX3_include 41 = .ok (.iand, 1) := by decide +kernel
theorem dX3_include_42 : decode cX3_include 42 = .ok (.iadd, 1) := by decide +kernel
theorem dX3_include_43 : decode cX3_include 43 = .ok (.iastore, 1) := by decide +kernel
theorem dX3_include_44 : decode cX3_include 44 = .ok (.iinc 3 1, 3) := by decide +kernel
theorem dX3_include_47 : decode cX3_include 47 = .ok (.goto (-23), 3) := by decide +kernel
theorem dX3_include_50 : decode cX3_include 50 = .ok (.return_, 1) := by decide +kernel
set_option maxRecDepth 20000 in
theorem ggX3_tickThatHalvesBest_X0_hasNote : GoodIn wsX3_tickThatHalvesBest wsX0_hasNote := goodIn_r _ [11, 12, 13, 17, 18, 19, 20, 21, 22, 23] (by decide +kernel) (by decide +kernel)
set_option maxRecDepth 20000 in
theorem gX3_tickThatHalvesBest_X0_hasNote : GoodIn wsX3_tickThatHalvesBest (wsV RX3 55 RX0 yX0_hasNote wsX0_hasNote) := goodIn_app (goodIn_of _ (by decide +kernel)) ggX3_tickThatHalvesBest_X0_hasNote
theorem dX3_tickThatHalvesBest_0 : decode cX3_tickThatHalvesBest 0 = .ok (.bipush (-9), 2) := by decide +kernel
theorem dX3_tickThatHalvesBest_2 : decode cX3_tickThatHalvesBest 2 = .ok (.istore_n 2, 1) := by decide +kernel
theorem dX3_tickThatHalvesBest_3 : decode cX3_tickThatHalvesBest 3 = .ok (.aload_n 0, 1) := by decide +kernel
theorem dX3_tickThatHalvesBest_4 : decode cX3_tickThatHalvesBest 4 = .ok (.getfield 15, 3) := by decide +kernel
theorem dX3_tickThatHalvesBest_7 : decode cX3_tickThatHalvesBest 7 = .ok (.iconst 1, 1) := by decide +kernel
theorem dX3_tickThatHalvesBest_8 : decode cX3_tickThatHalvesBest 8 = .ok (.iadd, 1) := by decide +kernel
theorem dX3_tickThatHalvesBest_9 : decode cX3_tickThatHalvesBest 9 = .ok (.istore_n 3, 1) := by decide +kernel
theorem dX3_tickThatHalvesBest_10 : decode cX3_tickThatHalvesBest 10 = .ok (.iconst 0, 1) := by decide +kernel
theorem dX3_tickThatHalvesBest_11 : decode cX3_tickThatHalvesBest 11 = .ok (.istore 4, 2) := by decide +kernel
theorem dX3_tickThatHalvesBest_13 : decode cX3_tickThatHalvesBest 13 = .ok (.iload 4, 2) := by decide +kernel
theorem dX3_tickThatHalvesBest_15 : decode cX3_tickThatHalvesBest 15 = .ok (.bipush 12, 2) := by decide +kernel
theorem dX3_tickThatHalvesBest_17 : decode cX3_tickThatHalvesBest 17 = .ok (.if_icmp .ge 54, 3) := by decide +kernel
theorem dX3_tickThatHalvesBest_20 : decode cX3_tickThatHalvesBest 20 = .ok (.aload_n 0, 1) := by decide +kernel
theorem dX3_tickThatHalvesBest_21 : decode cX3_tickThatHalvesBest 21 = .ok (.getfield 9, 3) := by decide +kernel
theorem dX3_tickThatHalvesBest_24 : decode cX3_tickThatHalvesBest 24 = .ok (.iload 4, 2) := by decide +kernel
theorem dX3_tickThatHalvesBest_26 : decode cX3_tickThatHalvesBest 26 = .ok (.iaload, 1) := by decide +kernel
theorem dX3_tickThatHalvesBest_27 : decode cX3_tickThatHalvesBest 27 = .ok (.aload_n 0, 1) := by decide +kernel
theorem dX3_tickThatHalvesBest_28 : decode cX3_tickThatHalvesBest 28 = .ok (.getfield 15, 3) := by decide +kernel
theorem dX3_tickThatHalvesBest_31 : decode cX3_tickThatHalvesBest 31 = .ok (.aload_n 0, 1) := by decide +kernel
theorem dX3_tickThatHalvesBest_32 : decode cX3_tickThatHalvesBest 32 = .ok (.getfield 9, 3) := by decide +kernel
theorem dX3_tickThatHalvesBest_35 : decode cX3_tickThatHalvesBest 35 = .ok (.iload 4, 2) := by decide +kernel
theorem dX3_tickThatHalvesBest_37 : decode cX3_tickThatHalvesBest 37 = .ok (.iaload, 1) := by decide +kernel
theorem dX3_tickThatHalvesBest_38 : decode cX3_tickThatHalvesBest 38 = .ok (.isub, 1) := by decide +kernel
theorem dX3_tickThatHalvesBest_39 : decode cX3_tickThatHalvesBest 39 = .ok (.invokestatic 49, 3) := by decide +kernel
theorem dX3_tickThatHalvesBest_42 : decode cX3_tickThatHalvesBest 42 = .ok (.istore 5, 2) := by decide +kernel
theorem dX3_tickThatHalvesBest_44 : decode cX3_tickThatHalvesBest 44 = .ok (.aload_n 1, 1) := by decide +kernel
theorem dX3_tickThatHalvesBest_45 : decode cX3_tickThatHalvesBest 45 = .ok (.iload 4, 2) := by decide +kernel
theorem dX3_tickThatHalvesBest_47 : decode cX3_tickThatHalvesBest 47 = .ok (.invokevirtual 55, 3) := by decide +kernel
theorem dX3_tickThatHalvesBest_50 : decode cX3_tickThatHalvesBest 50 = .ok (.ifCond .eq 15, 3) := by decide +kernel
theorem dX3_tickThatHalvesBest_53 : decode cX3_tickThatHalvesBest 53 = .ok (.iload 5, 2) := by decide +kernel
theorem dX3_tickThatHalvesBest_55 : decode cX3_tickThatHalvesBest 55 = .ok (.iload_n 3, 1) := by decide +kernel
theorem dX3_tickThatHalvesBest_56 : decode cX3_tickThatHalvesBest 56 = .ok (.if_icmp .ge 9, 3) := by decide +kernel
theorem dX3_tickThatHalvesBest_59 : decode cX3_tickThatHalvesBest 59 = .ok (.iload 5, 2) := by decide +kernel
theorem dX3_tickThatHalvesBest_61 : decode cX3_tickThatHalvesBest 61 = .ok (.istore_n 3, 1) := by decide +kernel
theorem dX3_tickThatHalvesBest_62 : decode cX3_tickThatHalvesBest 62 = .ok (.iload 4, 2) := by decide +kernel
theorem dX3_tickThatHalvesBest_64 : decode cX3_tickThatHalvesBest 64 = .ok (.istore_n 2, 1) := by decide +kernel
theorem dX3_tickThatHalvesBest_65 : decode cX3_tickThatHalvesBest 65 = .ok (.iinc 4 1, 3) := by decide +kernel
theorem dX3_tickThatHalvesBest_68 : decode cX3_tickThatHalvesBest 68 = .ok (.goto (-55), 3) := by decide +kernel
theorem dX3_tickThatHalvesBest_71 : decode cX3_tickThatHalvesBest 71 = .ok (.iload_n 2, 1) := by decide +kernel
theorem dX3_tickThatHalvesBest_72 : decode cX3_tickThatHalvesBest 72 = .ok (.ireturn, 1) := by decide +kernel
end
section
set_option maxRecDepth 20000 in
theorem ggX4_init_X0_init : GoodIn wsX4_init wsX0_init := goodIn_r _ [12, 13, 2, 3, 8, 14, 15, 16, 17, 6, 18, 19, 20, 21, 22, 23, 24, 25, 26, 27, 28, 29, 30, 31, 32, 33, 34, 35] (by decide +kernel) (by decide +kernel)
set_option maxRecDepth 20000 in
theorem gX4_init_X0_init : GoodIn wsX4_init (wsX0_init) := ggX4_init_X0_init
theorem dX4_init_0 : decode cX4_init 0 = .ok (.aload_n 0, 1) := by decide +kernel
theorem dX4_init_1 : decode cX4_init 1 = .ok (.invokespecial 3, 3) := by decide +kernel
theorem dX4_init_4 : decode cX4_init 4 = .ok (.aload_n 0, 1) := by decide +kernel
theorem dX4_init_5 : decode cX4_init 5 = .ok (.new 9, 3) := by decide +kernel
theorem dX4_init_8 : decode cX4_init 8 = .ok (.dup, 1) := by decide +kernel
theorem dX4_init_9 : decode cX4_init 9 = .ok (.invokespecial 11, 3) := by decide +kernel
theorem dX4_init_12 : decode cX4_init 12 = .ok (.putfield 12, 3) := by decide +kernel
theorem dX4_init_15 : decode cX4_init 15 = .ok (.aload_n 0, 1) := by decide +kernel
theorem dX4_init_16 : decode cX4_init 16 = .ok (.bipush 120, 2) := by decide +kernel
theorem dX4_init_18 : decode cX4_init 18 = .ok (.newarray .int, 2) := by decide +kernel
theorem dX4_init_20 : decode cX4_init 20 = .ok (.putfield 18, 3) := by decide +kernel
theorem dX4_init_23 : decode cX4_init 23 = .ok (.return_, 1) := by decide +kernel
theorem dX4_add_0 : decode cX4_add 0 = .ok (.aload_n 0, 1) := by decide +kernel
theorem dX4_add_1 : decode cX4_add 1 = .ok (.getfield 22, 3) := by decide +kernel
theorem dX4_add_4 : decode cX4_add 4 = .ok (.bipush 120, 2) := by decide +kernel
theorem dX4_add_6 : decode cX4_add 6 = .ok (.if_icmp .lt 5, 3) := by decide +kernel
theorem dX4_add_9 : decode cX4_add 9 = .ok (.iconst 0, 1) := by decide +kernel
theorem dX4_add_10 : decode cX4_add 10 = .ok (.ireturn, 1) := by decide +kernel
theorem dX4_add_11 : decode cX4_add 11 = .ok (.aload_n 0, 1) := by decide +kernel
theorem dX4_add_12 : decode cX4_add 12 = .ok (.getfield 18, 3) := by decide +kernel
theorem dX4_add_15 : decode cX4_add 15 = .ok (.aload_n 0, 1) := by decide +kernel
theorem dX4_add_16 : decode cX4_add 16 = .ok (.getfield 22, 3) := by decide +kernel
theorem dX4_add_19 : decode cX4_add 19 = .ok (.iload_n 1, 1) := by decide +kernel
theorem dX4_add_20 : decode cX4_add 20 = .ok (.iastore, 1) := by decide +kernel
theorem dX4_add_21 : decode cX4_add 21 = .ok (.aload_n 0, 1) := by decide +kernel
theorem dX4_add_22 : decode cX4_add 22 = .ok (.dup, 1) := by decide +kernel
theorem dX4_add_23 : decode cX4_add 23 = .ok (.getfield 22, 3) := by decide +kernel
theorem dX4_add_26 : decode cX4_add 26 = .ok (.iconst 1, 1) := by decide +kernel
theorem dX4_add_27 : decode cX4_add 27 = .ok (.iadd, 1) := by decide +kernel
theorem dX4_add_28 : decode cX4_add 28 = .ok (.putfield 22, 3) := by decide +kernel
theorem dX4_add_31 : decode cX4_add 31 = .ok (.iconst 1, 1) := by decide +kernel
theorem dX4_add_32 : decode cX4_add 32 = .ok (.ireturn, 1) := by decide +kernel
set_option maxRecDepth 20000 in
theorem ggX4_read_X0_makeNew : GoodIn wsX4_read wsX0_makeNew := goodIn_r _ [11, 12, 13, 14, 15, 16, 17, 18, 19, 20, 21, 22, 149, 150, 151, 152, 153, 154, 155] (by decide +kernel) (by decide +kernel)
set_option maxRecDepth 20000 in
theorem gX4_read_X0_makeNew : GoodIn wsX4_read (wsV RX4 26 RX0 yX0_makeNew wsX0_makeNew) := goodIn_app (goodIn_of _ (by decide +kernel)) ggX4_read_X0_makeNew
set_option maxRecDepth 20000 in
theorem ggX4_read_X4_nextToken : GoodIn wsX4_read wsX4_nextToken := goodIn_r _ [27, 4, 6, 28, 5, 29, 30, 31, 26, 32, 33, 34, 35, 36, 37, 141, 142, 143, 144, 145, 146, 147, 148] (by decide +kernel) (by decide +kernel)
set_option maxRecDepth 20000 in
theorem gX4_read_X4_nextToken : GoodIn wsX4_read (wsV RX4 39 RX4 yX4_nextToken wsX4_nextToken) := goodIn_app (goodIn_of _ (by decide +kernel)) ggX4_read_X4_nextToken
set_option maxRecDepth 20000 in
theorem ggX4_read_X4_readItem : GoodIn wsX4_read wsX4_readItem := goodIn_r _ [41, 5, 42, 43, 44, 26, 45, 46, 47, 48, 49, 4, 6, 50, 51, 52, 53, 54, 55, 56, 57, 58, 59, 60, 61, 33, 34, 35, 36, 28, 37, 62, 63, 64, 65, 66, 67, 68, 69, 70, 71, 72, 73, 74, 75, 76, 77, 78, 79, 80, 81, 82, 83, 84, 85, 86, 87, 88, 89, 90, 91, 92, 93, 94, 95, 96, 97, 98, 99, 100, 101, 102, 2, 3, 23, 24, 25, 27, 29, 30, 31, 32, 103, 104, 105, 106, 107, 108, 109, 110, 1, 111, 112, 113, 114, 115, 116, 117, 118, 10, 119, 12, 14, 120, 121, 122, 123, 124, 125, 126, 127, 128, 129, 130, 131, 132, 133, 134, 135, 136, 137, 138, 139, 140, 16, 17, 18, 141, 142, 143, 144, 145, 146, 147, 148, 149, 150, 151, 152, 153, 154, 155] (by decide +kernel) (by decide +kernel)
set_option maxRecDepth 20000 in
theorem gX4_read_X4_readItem : GoodIn wsX4_read (wsV RX4 45 RX4 yX4_readItem wsX4_readItem) := goodIn_app (goodIn_of _ (by decide +kernel)) ggX4_read_X4_readItem
theorem dX4_read_0 : decode cX4_read 0 = .ok (.aload_n 0, 1) := by decide +kernel
theorem dX4_read_1 : decode cX4_read 1 = .ok (.getfield 12, 3) := by decide +kernel
theorem dX4_read_4 : decode cX4_read 4 = .ok (.invokevirtual 26, 3) := by decide +kernel
theorem dX4_read_7 : decode cX4_read 7 = .ok (.aload_n 0, 1) := by decide +kernel
theorem dX4_read_8 : decode cX4_read 8 = .ok (.iconst 0, 1) := by decide +kernel
theorem dX4_read_9 : decode cX4_read 9 = .ok (.putfield 29, 3) := by decide +kernel
theorem dX4_read_12 : decode cX4_read 12 = .ok (.aload_n 0, 1) := by decide +kernel
theorem dX4_read_13 : decode cX4_read 13 = .ok (.iconst 0, 1) := by decide +kernel
theorem dX4_read_14 : decode cX4_read 14 = .ok (.putfield 33, 3) := by decide +kernel
theorem dX4_read_17 : decode cX4_read 17 = .ok (.aload_n 0, 1) := by decide +kernel
theorem dX4_read_18 : decode cX4_read 18 = .ok (.iconst 0, 1) := by decide +kernel
theorem dX4_read_19 : decode cX4_read 19 = .ok (.putfield 36, 3) := by decide +kernel
theorem dX4_read_22 : decode cX4_read 22 = .ok (.iconst 0, 1) := by decide +kernel
theorem dX4_read_23 : decode cX4_read 23 = .ok (.istore_n 1, 1) := by decide +kernel
theorem dX4_read_24 : decode cX4_read 24 = .ok (.iload_n 1, 1) := by decide +kernel
theorem dX4_read_25 : decode cX4_read 25 = .ok (.bipush 120, 2) := by decide +kernel
theorem dX4_read_27 : decode cX4_read 27 = .ok (.if_icmp .gt 39, 3) := by decide +kernel
theorem dX4_read_30 : decode cX4_read 30 = .ok (.aload_n 0, 1) := by decide +kernel
theorem dX4_read_31 : decode cX4_read 31 = .ok (.invokevirtual 39, 3) := by decide +kernel
theorem dX4_read_34 : decode cX4_read 34 = .ok (.aload_n 0, 1) := by decide +kernel
theorem dX4_read_35 : decode cX4_read 35 = .ok (.getfield 42, 3) := by decide +kernel
theorem dX4_read_38 : decode cX4_read 38 = .ok (.ifCond .ne 12, 3) := by decide +kernel
theorem dX4_read_41 : decode cX4_read 41 = .ok (.aload_n 0, 1) := by decide +kernel
theorem dX4_read_42 : decode cX4_read 42 = .ok (.getfield 29, 3) := by decide +kernel
theorem dX4_read_45 : decode cX4_read 45 = .ok (.ifCond .eq 5, 3) := by decide +kernel
theorem dX4_read_48 : decode cX4_read 48 = .ok (.iload_n 1, 1) := by decide +kernel
theorem dX4_read_49 : decode cX4_read 49 = .ok (.ireturn, 1) := by decide +kernel
theorem dX4_read_50 : decode cX4_read 50 = .ok (.aload_n 0, 1) := by decide +kernel
theorem dX4_read_51 : decode cX4_read 51 = .ok (.invokevirtual 45, 3) := by decide +kernel
theorem dX4_read_54 : decode cX4_read 54 = .ok (.ifCond .ne 6, 3) := by decide +kernel
theorem dX4_read_57 : decode cX4_read 57 = .ok (.goto 9, 3) := by decide +kernel
theorem dX4_read_60 : decode cX4_read 60 = .ok (.iinc 1 1, 3) := by decide +kernel
theorem dX4_read_63 : decode cX4_read 63 = .ok (.goto (-39), 3) := by decide +kernel
theorem dX4_read_66 : decode cX4_read 66 = .ok (.bipush (-10), 2) := by decide +kernel
theorem dX4_read_68 : decode cX4_read 68 = .ok (.aload_n 0, 1) := by decide +kernel
theorem dX4_read_69 : decode cX4_read 69 = .ok (.getfield 49, 3) := by decide +kernel
theorem dX4_read_72 : decode cX4_read 72 = .ok (.isub, 1) := by decide +kernel
theorem dX4_read_73 : decode cX4_read 73 = .ok (.ireturn, 1) := by decide +kernel
set_option maxRecDepth 20000 in
theorem ggX4_readItem_X4_itemOfWord : GoodIn wsX4_readItem wsX4_itemOfWord := goodIn_r _ [6, 7, 8, 9, 5, 10, 11, 12, 13, 14, 15, 16, 17, 18, 19, 20, 21, 22, 23, 24, 25, 26, 27, 28, 29, 30, 31, 32, 33, 34, 35, 36, 37, 38, 39, 40, 41, 42, 43, 44, 45, 46, 47, 48, 49, 50, 51, 52, 53, 54, 55, 56, 57, 58, 59, 60, 61, 62, 63, 64, 65, 66, 67, 127, 128, 129, 130, 131, 132, 133, 134] (by decide +kernel) (by decide +kernel)
set_option maxRecDepth 20000 in
theorem gX4_readItem_X4_itemOfWord : GoodIn wsX4_readItem (wsV RX4 52 RX4 yX4_itemOfWord wsX4_itemOfWord) := goodIn_app (goodIn_of _ (by decide +kernel)) ggX4_readItem_X4_itemOfWord
set_option maxRecDepth 20000 in
theorem ggX4_readItem_X4_mayBegin : GoodIn wsX4_readItem wsX4_mayBegin := goodIn_r _ [71, 72, 73, 127, 128, 129, 130, 131, 132, 133, 134] (by decide +kernel) (by decide +kernel)
set_option maxRecDepth 20000 in
theorem gX4_readItem_X4_mayBegin : GoodIn wsX4_readItem (wsV RX4 56 RX4 yX4_mayBegin wsX4_mayBegin) := goodIn_app (goodIn_of _ (by decide +kernel)) ggX4_readItem_X4_mayBegin
set_option maxRecDepth 20000 in
theorem ggX4_readItem_X4_nextToken : GoodIn wsX4_readItem wsX4_nextToken := goodIn_r _ [77, 11, 12, 29, 1, 78, 79, 80, 5, 81, 25, 26, 27, 28, 30, 127, 128, 129, 130, 131, 132, 133, 134] (by decide +kernel) (by decide +kernel)
set_option maxRecDepth 20000 in
theorem gX4_readItem_X4_nextToken : GoodIn wsX4_readItem (wsV RX4 39 RX4 yX4_nextToken wsX4_nextToken) := goodIn_app (goodIn_of _ (by decide +kernel)) ggX4_readItem_X4_nextToken
set_option maxRecDepth 20000 in
theorem ggX4_readItem_X4_takeFigures : GoodIn wsX4_readItem wsX4_takeFigures := goodIn_r _ [85, 86, 87, 88, 5, 89, 11, 12, 90, 91, 72, 92, 93, 94, 95, 25, 26, 27, 28, 29, 30, 96, 97, 98, 99, 100, 101, 102, 103, 104, 105, 106, 107, 108, 73, 109, 110, 111, 112, 113, 114, 115, 116, 117, 118, 119, 120, 121, 122, 123, 124, 125, 126, 127, 128, 129, 130, 131, 132, 133, 134, 135, 136, 137, 138, 139, 140, 141] (by decide +kernel) (by decide +kernel)
set_option maxRecDepth 20000 in
theorem gX4_readItem_X4_takeFigures : GoodIn wsX4_readItem (wsV RX4 60 RX4 yX4_takeFigures wsX4_takeFigures) := goodIn_app (goodIn_of _ (by decide +kernel)) ggX4_readItem_X4_takeFigures
theorem dX4_readItem_0 : decode cX4_readItem 0 = .ok (.aload_n 0, 1) := by decide +kernel
theorem dX4_readItem_1 : decode cX4_readItem 1 = .ok (.invokevirtual 52, 3) := by decide +kernel
theorem dX4_readItem_4 : decode cX4_readItem 4 = .ok (.istore_n 1, 1) := by decide +kernel
theorem dX4_readItem_5 : decode cX4_readItem 5 = .ok (.aload_n 0, 1) := by decide +kernel
theorem dX4_readItem_6 : decode cX4_readItem 6 = .ok (.iload_n 1, 1) := by decide +kernel
theorem dX4_readItem_7 : decode cX4_readItem 7 = .ok (.invokevirtual 56, 3) := by decide +kernel
theorem dX4_readItem_10 : decode cX4_readItem 10 = .ok (.ifCond .ne 5, 3) := by decide +kernel
theorem dX4_readItem_13 : decode cX4_readItem 13 = .ok (.iconst 0, 1) := by decide +kernel
theorem dX4_readItem_14 : decode cX4_readItem 14 = .ok (.ireturn, 1) := by decide +kernel
theorem dX4_readItem_15 : decode cX4_readItem 15 = .ok (.aload_n 0, 1) := by decide +kernel
theorem dX4_readItem_16 : decode cX4_readItem 16 = .ok (.invokevirtual 39, 3) := by decide +kernel
theorem dX4_readItem_19 : decode cX4_readItem 19 = .ok (.aload_n 0, 1) := by decide +kernel
theorem dX4_readItem_20 : decode cX4_readItem 20 = .ok (.getfield 42, 3) := by decide +kernel
theorem dX4_readItem_23 : decode cX4_readItem 23 = .ok (.iconst 2, 1) := by decide +kernel
theorem dX4_readItem_24 : decode cX4_readItem 24 = .ok (.if_icmp .ne 11, 3) := by decide +kernel
theorem dX4_readItem_27 : decode cX4_readItem 27 = .ok (.aload_n 0, 1) := by decide +kernel
theorem dX4_readItem_28 : decode cX4_readItem 28 = .ok (.iload_n 1, 1) := by decide +kernel
theorem dX4_readItem_29 : decode cX4_readItem 29 = .ok (.invokevirtual 60, 3) := by decide +kernel
theorem dX4_readItem_32 : decode cX4_readItem 32 = .ok (.ifCond .ne 5, 3) := by decide +kernel
theorem dX4_readItem_35 : decode cX4_readItem 35 = .ok (.iconst 0, 1) := by decide +kernel
theorem dX4_readItem_36 : decode cX4_readItem 36 = .ok (.ireturn, 1) := by decide +kernel
theorem dX4_readItem_37 : decode cX4_readItem 37 = .ok (.aload_n 0, 1) := by decide +kernel
theorem dX4_readItem_38 : decode cX4_readItem 38 = .ok (.invokevirtual 39, 3) := by decide +kernel
theorem dX4_readItem_41 : decode cX4_readItem 41 = .ok (.aload_n 0, 1) := by decide +kernel
theorem dX4_readItem_42 : decode cX4_readItem 42 = .ok (.getfield 42, 3) := by decide +kernel
theorem dX4_readItem_45 : decode cX4_readItem 45 = .ok (.iconst 3, 1) := by decide +kernel
theorem dX4_readItem_46 : decode cX4_readItem 46 = .ok (.if_icmp .ne 7, 3) := by decide +kernel
theorem dX4_readItem_49 : decode cX4_readItem 49 = .ok (.iconst 1, 1) := by decide +kernel
theorem dX4_readItem_50 : decode cX4_readItem 50 = .ok (.goto 4, 3) := by decide +kernel
theorem dX4_readItem_53 : decode cX4_readItem 53 = .ok (.iconst 0, 1) := by decide +kernel
theorem dX4_readItem_54 : decode cX4_readItem 54 = .ok (.ireturn, 1) := by decide +kernel
set_option maxRecDepth 20000 in
theorem ggX4_nextToken_X4_kindAt : GoodIn wsX4_nextToken wsX4_kindAt := goodIn_r _ [9, 10, 11, 12, 8, 13, 3, 14, 15, 16, 17, 18, 19, 20, 21, 22] (by decide +kernel) (by decide +kernel)
set_option maxRecDepth 20000 in
theorem gX4_nextToken_X4_kindAt : GoodIn wsX4_nextToken (wsV RX4 63 RX4 yX4_kindAt wsX4_kindAt) := goodIn_app (goodIn_of _ (by decide +kernel)) ggX4_nextToken_X4_kindAt
theorem dX4_nextToken_0 : decode cX4_nextToken 0 = .ok (.aload_n 0, 1) := by decide +kernel
theorem dX4_nextToken_1 : decode cX4_nextToken 1 = .ok (.aload_n 0, 1) := by decide +kernel
theorem dX4_nextToken_2 : decode cX4_nextToken 2 = .ok (.getfield 36, 3) := by decide +kernel
theorem dX4_nextToken_5 : decode cX4_nextToken 5 = .ok (.putfield 49, 3) := by decide +kernel
theorem dX4_nextToken_8 : decode cX4_nextToken 8 = .ok (.aload_n 0, 1) := by decide +kernel
theorem dX4_nextToken_9 : decode cX4_nextToken 9 = .ok (.getfield 49, 3) := by decide +kernel
theorem dX4_nextToken_12 : decode cX4_nextToken 12 = .ok (.aload_n 0, 1) := by decide +kernel
theorem dX4_nextToken_13 : decode cX4_nextToken 13 = .ok (.getfield 22, 3) := by decide +kernel
theorem dX4_nextToken_16 : decode cX4_nextToken 16 = .ok (.if_icmp .ge 28, 3) := by decide +kernel
theorem dX4_nextToken_19 : decode cX4_nextToken 19 = .ok (.aload_n 0, 1) := by decide +kernel
theorem dX4_nextToken_20 : decode cX4_nextToken 20 = .ok (.aload_n 0, 1) := by decide +kernel
theorem dX4_nextToken_21 : decode cX4_nextToken 21 = .ok (.getfield 49, 3) := by decide +kernel
theorem dX4_nextToken_24 : decode cX4_nextToken 24 = .ok (.invokevirtual 63, 3) := by decide +kernel
theorem dX4_nextToken_27 : decode cX4_nextToken 27 = .ok (.iconst 4, 1) := by decide +kernel
theorem dX4_nextToken_28 : decode cX4_nextToken 28 = .ok (.if_icmp .ne 16, 3) := by decide +kernel
theorem dX4_nextToken_31 : decode cX4_nextToken 31 = .ok (.aload_n 0, 1) := by decide +kernel
theorem dX4_nextToken_32 : decode cX4_nextToken 32 = .ok (.dup, 1) := by decide +kernel
theorem dX4_nextToken_33 : decode cX4_nextToken 33 = .ok (.getfield 49, 3) := by decide +kernel
theorem dX4_nextToken_36 : decode cX4_nextToken 36 = .ok (.iconst 1, 1) := by decide +kernel
theorem dX4_nextToken_37 : decode cX4_nextToken 37 = .ok (.iadd, 1) := by decide +kernel
theorem dX4_nextToken_38 : decode cX4_nextToken 38 = .ok (.putfield 49, 3) := by decide +kernel
theorem dX4_nextToken_41 : decode cX4_nextToken 41 = .ok (.goto (-33), 3) := by decide +kernel
theorem dX4_nextToken_44 : decode cX4_nextToken 44 = .ok (.aload_n 0, 1) := by decide +kernel
theorem dX4_nextToken_45 : decode cX4_nextToken 45 = .ok (.aload_n 0, 1) := by decide +kernel
theorem dX4_nextToken_46 : decode cX4_nextToken 46 = .ok (.aload_n 0, 1) := by decide +kernel
theorem dX4_nextToken_47 : decode cX4_nextToken 47 = .ok (.getfield 49, 3) := by decide +kernel
theorem dX4_nextToken_50 : decode cX4_nextToken 50 = .ok (.invokevirtual 63, 3) := by decide +kernel
theorem dX4_nextToken_53 : decode cX4_nextToken 53 = .ok (.putfield 42, 3) := by decide +kernel
theorem dX4_nextToken_56 : decode cX4_nextToken 56 = .ok (.aload_n 0, 1) := by decide +kernel
theorem dX4_nextToken_57 : decode cX4_nextToken 57 = .ok (.aload_n 0, 1) := by decide +kernel
theorem dX4_nextToken_58 : decode cX4_nextToken 58 = .ok (.getfield 42, 3) := by decide +kernel
theorem dX4_nextToken_61 : decode cX4_nextToken 61 = .ok (.ifCond .ne 10, 3) := by decide +kernel
theorem dX4_nextToken_64 : decode cX4_nextToken 64 = .ok (.aload_n 0, 1) := by decide +kernel
theorem dX4_nextToken_65 : decode cX4_nextToken 65 = .ok (.getfield 49, 3) := by decide +kernel
theorem dX4_nextToken_68 : decode cX4_nextToken 68 = .ok (.goto 9, 3) := by decide +kernel
theorem dX4_nextToken_71 : decode cX4_nextToken 71 = .ok (.aload_n 0, 1) := by decide +kernel
theorem dX4_nextToken_72 : decode cX4_nextToken 72 = .ok (.getfield 49, 3) := by decide +kernel
theorem dX4_nextToken_75 : decode cX4_nextToken 75 = .ok (.iconst 1, 1) := by decide +kernel
theorem dX4_nextToken_76 : decode cX4_nextToken 76 = .ok (.iadd, 1) := by decide +kernel
theorem dX4_nextToken_77 : decode cX4_nextToken 77 = .ok (.putfield 36, 3) := by decide +kernel
theorem dX4_nextToken_80 : decode cX4_nextToken 80 = .ok (.aload_n 0, 1) := by decide +kernel
theorem dX4_nextToken_81 : decode cX4_nextToken 81 = .ok (.getfield 42, 3) := by decide +kernel
theorem dX4_nextToken_84 : decode cX4_nextToken 84 = .ok (.iconst 1, 1) := by decide +kernel
theorem dX4_nextToken_85 : decode cX4_nextToken 85 = .ok (.if_icmp .eq 11, 3) := by decide +kernel
theorem dX4_nextToken_88 : decode cX4_nextToken 88 = .ok (.aload_n 0, 1) := by decide +kernel
theorem dX4_nextToken_89 : decode cX4_nextToken 89 = .ok (.getfield 42, 3) := by decide +kernel
theorem dX4_nextToken_92 : decode cX4_nextToken 92 = .ok (.iconst 2, 1) := by decide +kernel
theorem dX4_nextToken_93 : decode cX4_nextToken 93 = .ok (.if_icmp .ne 7, 3) := by decide +kernel
theorem dX4_nextToken_96 : decode cX4_nextToken 96 = .ok (.iconst 1, 1) := by decide +kernel
theorem dX4_nextToken_97 : decode cX4_nextToken 97 = .ok (.goto 4, 3) := by decide +kernel
theorem dX4_nextToken_100 : decode cX4_nextToken 100 = .ok (.iconst 0, 1) := by decide +kernel
theorem dX4_nextToken_101 : decode cX4_nextToken 101 = .ok (.istore_n 1, 1) := by decide +kernel
theorem dX4_nextToken_102 : decode cX4_nextToken 102 = .ok (.iload_n 1, 1) := by decide +kernel
theorem dX4_nextToken_103 : decode cX4_nextToken 103 = .ok (.ifCond .eq 42, 3) := by decide +kernel
theorem dX4_nextToken_106 : decode cX4_nextToken 106 = .ok (.aload_n 0, 1) := by decide +kernel
theorem dX4_nextToken_107 : decode cX4_nextToken 107 = .ok (.getfield 36, 3) := by decide +kernel
theorem dX4_nextToken_110 : decode cX4_nextToken 110 = .ok (.aload_n 0, 1) := by decide +kernel
theorem dX4_nextToken_111 : decode cX4_nextToken 111 = .ok (.getfield 22, 3) := by decide +kernel
theorem dX4_nextToken_114 : decode cX4_nextToken 114 = .ok (.if_icmp .ge 31, 3) := by decide +kernel
theorem dX4_nextToken_117 : decode cX4_nextToken 117 = .ok (.aload_n 0, 1) := by decide +kernel
theorem dX4_nextToken_118 : decode cX4_nextToken 118 = .ok (.aload_n 0, 1) := by decide +kernel
theorem dX4_nextToken_119 : decode cX4_nextToken 119 = .ok (.getfield 36, 3) := by decide +kernel
theorem dX4_nextToken_122 : decode cX4_nextToken 122 = .ok (.invokevirtual 63, 3) := by decide +kernel
theorem dX4_nextToken_125 : decode cX4_nextToken 125 = .ok (.aload_n 0, 1) := by decide +kernel
theorem dX4_nextToken_126 : decode cX4_nextToken 126 = .ok (.getfield 42, 3) := by decide +kernel
theorem dX4_nextToken_129 : decode cX4_nextToken 129 = .ok (.if_icmp .ne 16, 3) := by decide +kernel
theorem dX4_nextToken_132 : decode cX4_nextToken 132 = .ok (.aload_n 0, 1) := by decide +kernel
theorem dX4_nextToken_133 : decode cX4_nextToken 133 = .ok (.dup, 1) := by decide +kernel
theorem dX4_nextToken_134 : decode cX4_nextToken 134 = .ok (.getfield 36, 3) := by decide +kernel
theorem dX4_nextToken_137 : decode cX4_nextToken 137 = .ok (.iconst 1, 1) := by decide +kernel
theorem dX4_nextToken_138 : decode cX4_nextToken 138 = .ok (.iadd, 1) := by decide +kernel
theorem dX4_nextToken_139 : decode cX4_nextToken 139 = .ok (.putfield 36, 3) := by decide +kernel
theorem dX4_nextToken_142 : decode cX4_nextToken 142 = .ok (.goto (-40), 3) := by decide +kernel
theorem dX4_nextToken_145 : decode cX4_nextToken 145 = .ok (.return_, 1) := by decide +kernel
set_option maxRecDepth 20000 in
theorem ggX4_kindAt_X4_letterAt : GoodIn wsX4_kindAt wsX4_letterAt := goodIn_r _ [5, 6, 7, 8, 9, 10, 11, 12, 13, 14, 15] (by decide +kernel) (by decide +kernel)
set_option maxRecDepth 20000 in
theorem gX4_kindAt_X4_letterAt : GoodIn wsX4_kindAt (wsV RX4 67 RX4 yX4_letterAt wsX4_letterAt) := goodIn_app (goodIn_of _ (by decide +kernel)) ggX4_kindAt_X4_letterAt
theorem dX4_kindAt_0 : decode cX4_kindAt 0 = .ok (.aload_n 0, 1) := by decide +kernel
theorem dX4_kindAt_1 : decode cX4_kindAt 1 = .ok (.iload_n 1, 1) := by decide +kernel
theorem dX4_kindAt_2 : decode cX4_kindAt 2 = .ok (.invokevirtual 67, 3) := by decide +kernel
theorem dX4_kindAt_5 : decode cX4_kindAt 5 = .ok (.istore_n 2, 1) := by decide +kernel
theorem dX4_kindAt_6 : decode cX4_kindAt 6 = .ok (.iload_n 2, 1) := by decide +kernel
theorem dX4_kindAt_7 : decode cX4_kindAt 7 = .ok (.bipush (-9), 2) := by decide +kernel
theorem dX4_kindAt_9 : decode cX4_kindAt 9 = .ok (.if_icmp .ne 5, 3) := by decide +kernel
theorem dX4_kindAt_12 : decode cX4_kindAt 12 = .ok (.iconst 0, 1) := by decide +kernel
theorem dX4_kindAt_13 : decode cX4_kindAt 13 = .ok (.ireturn, 1) := by decide +kernel
theorem dX4_kindAt_14 : decode cX4_kindAt 14 = .ok (.iload_n 2, 1) := by decide +kernel
theorem dX4_kindAt_15 : decode cX4_kindAt 15 = .ok (.bipush 97, 2) := by decide +kernel
theorem dX4_kindAt_17 : decode cX4_kindAt 17 = .ok (.if_icmp .lt 11, 3) := by decide +kernel
theorem dX4_kindAt_20 : decode cX4_kindAt 20 = .ok (.iload_n 2, 1) := by decide +kernel
theorem dX4_kindAt_21 : decode cX4_kindAt 21 = .ok (.bipush 122, 2) := by decide +kernel
theorem dX4_kindAt_23 : decode cX4_kindAt 23 = .ok (.if_icmp .gt 5, 3) := by decide +kernel
theorem dX4_kindAt_26 : decode cX4_kindAt 26 = .ok (.iconst 1, 1) := by decide +kernel
theorem dX4_kindAt_27 : decode cX4_kindAt 27 = .ok (.ireturn, 1) := by decide +kernel
theorem dX4_kindAt_28 : decode cX4_kindAt 28 = .ok (.iload_n 2, 1) := by decide +kernel
theorem dX4_kindAt_29 : decode cX4_kindAt 29 = .ok (.bipush 48, 2) := by decide +kernel
theorem dX4_kindAt_31 : decode cX4_kindAt 31 = .ok (.if_icmp .lt 11, 3) := by decide +kernel
theorem dX4_kindAt_34 : decode cX4_kindAt 34 = .ok (.iload_n 2, 1) := by decide +kernel
theorem dX4_kindAt_35 : decode cX4_kindAt 35 = .ok (.bipush 57, 2) := by decide +kernel
theorem dX4_kindAt_37 : decode cX4_kindAt 37 = .ok (.if_icmp .gt 5, 3) := by decide +kernel
theorem dX4_kindAt_40 : decode cX4_kindAt 40 = .ok (.iconst 2, 1) := by decide +kernel
theorem dX4_kindAt_41 : decode cX4_kindAt 41 = .ok (.ireturn, 1) := by decide +kernel
theorem dX4_kindAt_42 : decode cX4_kindAt 42 = .ok (.iload_n 2, 1) := by decide +kernel
theorem dX4_kindAt_43 : decode cX4_kindAt 43 = .ok (.bipush 59, 2) := by decide +kernel
theorem dX4_kindAt_45 : decode cX4_kindAt 45 = .ok (.if_icmp .ne 5, 3) := by decide +kernel
theorem dX4_kindAt_48 : decode cX4_kindAt 48 = .ok (.iconst 3, 1) := by decide +kernel
theorem dX4_kindAt_49 : decode cX4_kindAt 49 = .ok (.ireturn, 1) := by decide +kernel
theorem dX4_kindAt_50 : decode cX4_kindAt 50 = .ok (.iload_n 2, 1) := by decide +kernel
theorem dX4_kindAt_51 : decode cX4_kindAt 51 = .ok (.bipush 32, 2) := by decide +kernel
theorem dX4_kindAt_53 : decode cX4_kindAt 53 = .ok (.if_icmp .ne 7, 3) := by decide +kernel
theorem dX4_kindAt_56 : decode cX4_kindAt 56 = .ok (.iconst 4, 1) := by decide +kernel
theorem dX4_kindAt_57 : decode cX4_kindAt 57 = .ok (.goto 4, 3) := by decide +kernel
theorem dX4_kindAt_60 : decode cX4_kindAt 60 = .ok (.iconst 5, 1) := by decide +kernel
theorem dX4_kindAt_61 : decode cX4_kindAt 61 = .ok (.ireturn, 1) := by decide +kernel
set_option maxRecDepth 20000 in
theorem ggX4_itemOfWord_X4_isWord : GoodIn wsX4_itemOfWord wsX4_isWord := goodIn_r _ [5, 6, 7, 8, 9, 10, 11, 12, 13, 14, 15, 16, 17, 18, 19, 20, 21, 22, 4, 23, 24, 25, 26, 27, 28, 29, 30, 31, 32, 33, 34, 35, 36, 37, 38, 39, 40, 41, 42, 43, 44, 45, 46, 47, 48, 49, 50, 51, 52, 53, 54, 55, 56, 57, 58, 59, 60, 61, 62, 63, 64, 65, 66, 67, 68, 69, 70] (by decide +kernel) (by decide +kernel)
set_option maxRecDepth 20000 in
theorem gX4_itemOfWord_X4_isWord : GoodIn wsX4_itemOfWord (wsV RX4 72 RX4 yX4_isWord wsX4_isWord) := goodIn_app (goodIn_of _ (by decide +kernel)) ggX4_itemOfWord_X4_isWord
theorem dX4_itemOfWord_0 : decode cX4_itemOfWord 0 = .ok (.aload_n 0, 1) := by decide +kernel
theorem dX4_itemOfWord_1 : decode cX4_itemOfWord 1 = .ok (.ldc 70, 2) := by decide +kernel
theorem dX4_itemOfWord_3 : decode cX4_itemOfWord 3 = .ok (.invokevirtual 72, 3) := by decide +kernel
theorem dX4_itemOfWord_6 : decode cX4_itemOfWord 6 = .ok (.ifCond .eq 5, 3) := by decide +kernel
theorem dX4_itemOfWord_9 : decode cX4_itemOfWord 9 = .ok (.iconst 3, 1) := by decide +kernel
theorem dX4_itemOfWord_10 : decode cX4_itemOfWord 10 = .ok (.ireturn, 1) := by decide +kernel
theorem dX4_itemOfWord_11 : decode cX4_itemOfWord 11 = .ok (.aload_n 0, 1) := by decide +kernel
theorem dX4_itemOfWord_12 : decode cX4_itemOfWord 12 = .ok (.ldc 76, 2) := by decide +kernel
theorem dX4_itemOfWord_14 : decode cX4_itemOfWord 14 = .ok (.invokevirtual 72, 3) := by decide +kernel
theorem dX4_itemOfWord_17 : decode cX4_itemOfWord 17 = .ok (.ifCond .eq 5, 3) := by decide +kernel
theorem dX4_itemOfWord_20 : decode cX4_itemOfWord 20 = .ok (.iconst 4, 1) := by decide +kernel
theorem dX4_itemOfWord_21 : decode cX4_itemOfWord 21 = .ok (.ireturn, 1) := by decide +kernel
theorem dX4_itemOfWord_22 : decode cX4_itemOfWord 22 = .ok (.aload_n 0, 1) := by decide +kernel
theorem dX4_itemOfWord_23 : decode cX4_itemOfWord 23 = .ok (.ldc 78, 2) := by decide +kernel
theorem dX4_itemOfWord_25 : decode cX4_itemOfWord 25 = .ok (.invokevirtual 72, 3) := by decide +kernel
theorem dX4_itemOfWord_28 : decode cX4_itemOfWord 28 = .ok (.ifCond .eq 5, 3) := by decide +kernel
theorem dX4_itemOfWord_31 : decode cX4_itemOfWord 31 = .ok (.iconst 0, 1) := by decide +kernel
theorem dX4_itemOfWord_32 : decode cX4_itemOfWord 32 = .ok (.ireturn, 1) := by decide +kernel
theorem dX4_itemOfWord_33 : decode cX4_itemOfWord 33 = .ok (.aload_n 0, 1) := by decide +kernel
theorem dX4_itemOfWord_34 : decode cX4_itemOfWord 34 = .ok (.ldc 80, 2) := by decide +kernel
theorem dX4_itemOfWord_36 : decode cX4_itemOfWord 36 = .ok (.invokevirtual 72, 3) := by decide +kernel
theorem dX4_itemOfWord_39 : decode cX4_itemOfWord 39 = .ok (.ifCond .eq 5, 3) := by decide +kernel
theorem dX4_itemOfWord_42 : decode cX4_itemOfWord 42 = .ok (.iconst 1, 1) := by decide +kernel
theorem dX4_itemOfWord_43 : decode cX4_itemOfWord 43 = .ok (.ireturn, 1) := by decide +kernel
theorem dX4_itemOfWord_44 : decode cX4_itemOfWord 44 = .ok (.aload_n 0, 1) := by decide +kernel
theorem dX4_itemOfWord_45 : decode cX4_itemOfWord 45 = .ok (.ldc 82, 2) := by decide +kernel
theorem dX4_itemOfWord_47 : decode cX4_itemOfWord 47 = .ok (.invokevirtual 72, 3) := by decide +kernel
theorem dX4_itemOfWord_50 : decode cX4_itemOfWord 50 = .ok (.ifCond .eq 7, 3) := by decide +kernel
theorem dX4_itemOfWord_53 : decode cX4_itemOfWord 53 = .ok (.iconst 2, 1) := by decide +kernel
theorem dX4_itemOfWord_54 : decode cX4_itemOfWord 54 = .ok (.goto 5, 3) := by decide +kernel
theorem dX4_itemOfWord_57 : decode cX4_itemOfWord 57 = .ok (.bipush (-9), 2) := by decide +kernel
theorem dX4_itemOfWord_59 : decode cX4_itemOfWord 59 = .ok (.ireturn, 1) := by decide +kernel
set_option maxRecDepth 20000 in
theorem ggX4_isWord_J0_length_8abf5 : GoodIn wsX4_isWord wsJ0_length_8abf5 := goodIn_r _ [7, 8, 9, 10, 11, 6, 12, 13, 14] (by decide +kernel) (by decide +kernel)
set_option maxRecDepth 20000 in
theorem gX4_isWord_J0_length_8abf5 : GoodIn wsX4_isWord (wsV RX4 84 RJ0 yJ0_length_8abf5 wsJ0_length_8abf5) := goodIn_app (goodIn_of _ (by decide +kernel)) ggX4_isWord_J0_length_8abf5
set_option maxRecDepth 20000 in
theorem ggX4_isWord_X4_letterAt : GoodIn wsX4_isWord wsX4_letterAt := goodIn_r _ [19, 20, 21, 59, 60, 61, 62, 63, 64, 65, 66] (by decide +kernel) (by decide +kernel)
set_option maxRecDepth 20000 in
theorem gX4_isWord_X4_letterAt : GoodIn wsX4_isWord (wsV RX4 67 RX4 yX4_letterAt wsX4_letterAt) := goodIn_app (goodIn_of _ (by decide +kernel)) ggX4_isWord_X4_letterAt
set_option maxRecDepth 20000 in
theorem ggX4_isWord_J0_charAt_5068e : GoodIn wsX4_isWord wsJ0_charAt_5068e := goodIn_r _ [25, 8, 26, 27, 28, 6, 29, 13, 14, 30, 31, 32, 33, 34, 35, 36, 37, 38, 39, 40, 41, 42, 43, 44, 45, 46, 47, 48, 49, 50, 51, 52, 53, 54, 55, 56, 57, 58] (by decide +kernel) (by decide +kernel)
set_option maxRecDepth 20000 in
theorem gX4_isWord_J0_charAt_5068e : GoodIn wsX4_isWord (wsV RX4 88 RJ0 yJ0_charAt_5068e wsJ0_charAt_5068e) := goodIn_app (goodIn_of _ (by decide +kernel)) ggX4_isWord_J0_charAt_5068e
theorem dX4_isWord_0 : decode cX4_isWord 0 = .ok (.aload_n 0, 1) := by decide +kernel
theorem dX4_isWord_1 : decode cX4_isWord 1 = .ok (.getfield 36, 3) := by decide +kernel
theorem dX4_isWord_4 : decode cX4_isWord 4 = .ok (.aload_n 0, 1) := by decide +kernel
theorem dX4_isWord_5 : decode cX4_isWord 5 = .ok (.getfield 49, 3) := by decide +kernel
theorem dX4_isWord_8 : decode cX4_isWord 8 = .ok (.isub, 1) := by decide +kernel
theorem dX4_isWord_9 : decode cX4_isWord 9 = .ok (.aload_n 1, 1) := by decide +kernel
theorem dX4_isWord_10 : decode cX4_isWord 10 = .ok (.invokevirtual 84, 3) := by decide +kernel
theorem dX4_isWord_13 : decode cX4_isWord 13 = .ok (.if_icmp .eq 5, 3) := by decide +kernel
theorem dX4_isWord_16 : decode cX4_isWord 16 = .ok (.iconst 0, 1) := by decide +kernel
theorem dX4_isWord_17 : decode cX4_isWord 17 = .ok (.ireturn, 1) := by decide +kernel
theorem dX4_isWord_18 : decode cX4_isWord 18 = .ok (.iconst 0, 1) := by decide +kernel
theorem dX4_isWord_19 : decode cX4_isWord 19 = .ok (.istore_n 2, 1) := by decide +kernel
theorem dX4_isWord_20 : decode cX4_isWord 20 = .ok (.iload_n 2, 1) := by decide +kernel
theorem dX4_isWord_21 : decode cX4_isWord 21 = .ok (.aload_n 1, 1) := by decide +kernel
theorem dX4_isWord_22 : decode cX4_isWord 22 = .ok (.invokevirtual 84, 3) := by decide +kernel
theorem dX4_isWord_25 : decode cX4_isWord 25 = .ok (.if_icmp .ge 29, 3) := by decide +kernel
theorem dX4_isWord_28 : decode cX4_isWord 28 = .ok (.aload_n 0, 1) := by decide +kernel
theorem dX4_isWord_29 : decode cX4_isWord 29 = .ok (.aload_n 0, 1) := by decide +kernel
theorem dX4_isWord_30 : decode cX4_isWord 30 = .ok (.getfield 49, 3) := by decide +kernel
theorem dX4_isWord_33 : decode cX4_isWord 33 = .ok (.iload_n 2, 1) := by decide +kernel
theorem dX4_isWord_34 : decode cX4_isWord 34 = .ok (.iadd, 1) := by decide +kernel
theorem dX4_isWord_35 : decode cX4_isWord 35 = .ok (.invokevirtual 67, 3) := by decide +kernel
theorem dX4_isWord_38 : decode cX4_isWord 38 = .ok (.aload_n 1, 1) := by decide +kernel
theorem dX4_isWord_39 : decode cX4_isWord 39 = .ok (.iload_n 2, 1) := by decide +kernel
theorem dX4_isWord_40 : decode cX4_isWord 40 = .ok (.invokevirtual 88, 3) := by decide +kernel
theorem dX4_isWord_43 : decode cX4_isWord 43 = .ok (.if_icmp .eq 5, 3) := by decide +kernel
theorem dX4_isWord_46 : decode cX4_isWord 46 = .ok (.iconst 0, 1) := by decide +kernel
theorem dX4_isWord_47 : decode cX4_isWord 47 = .ok (.ireturn, 1) := by decide +kernel
theorem dX4_isWord_48 : decode cX4_isWord 48 = .ok (.iinc 2 1, 3) := by decide +kernel
theorem dX4_isWord_51 : decode cX4_isWord 51 = .ok (.goto (-31), 3) := by decide +kernel
theorem dX4_isWord_54 : decode cX4_isWord 54 = .ok (.iconst 1, 1) := by decide +kernel
theorem dX4_isWord_55 : decode cX4_isWord 55 = .ok (.ireturn, 1) := by decide +kernel
theorem dX4_mayBegin_0 : decode cX4_mayBegin 0 = .ok (.iload_n 1, 1) := by decide +kernel
theorem dX4_mayBegin_1 : decode cX4_mayBegin 1 = .ok (.lookupswitch 70 #[(-9, 35), (3, 37), (4, 50)], 35) := by decide +kernel
theorem dX4_mayBegin_36 : decode cX4_mayBegin 36 = .ok (.iconst 0, 1) := by decide +kernel
theorem dX4_mayBegin_37 : decode cX4_mayBegin 37 = .ok (.ireturn, 1) := by decide +kernel
theorem dX4_mayBegin_38 : decode cX4_mayBegin 38 = .ok (.aload_n 0, 1) := by decide +kernel
theorem dX4_mayBegin_39 : decode cX4_mayBegin 39 = .ok (.getfield 29, 3) := by decide +kernel
theorem dX4_mayBegin_42 : decode cX4_mayBegin 42 = .ok (.ifCond .ne 7, 3) := by decide +kernel
theorem dX4_mayBegin_45 : decode cX4_mayBegin 45 = .ok (.iconst 1, 1) := by decide +kernel
theorem dX4_mayBegin_46 : decode cX4_mayBegin 46 = .ok (.goto 4, 3) := by decide +kernel
theorem dX4_mayBegin_49 : decode cX4_mayBegin 49 = .ok (.iconst 0, 1) := by decide +kernel
theorem dX4_mayBegin_50 : decode cX4_mayBegin 50 = .ok (.ireturn, 1) := by decide +kernel
theorem dX4_mayBegin_51 : decode cX4_mayBegin 51 = .ok (.aload_n 0, 1) := by decide +kernel
theorem dX4_mayBegin_52 : decode cX4_mayBegin 52 = .ok (.getfield 29, 3) := by decide +kernel
theorem dX4_mayBegin_55 : decode cX4_mayBegin 55 = .ok (.ifCond .eq 14, 3) := by decide +kernel
theorem dX4_mayBegin_58 : decode cX4_mayBegin 58 = .ok (.aload_n 0, 1) := by decide +kernel
theorem dX4_mayBegin_59 : decode cX4_mayBegin 59 = .ok (.getfield 33, 3) := by decide +kernel
theorem dX4_mayBegin_62 : decode cX4_mayBegin 62 = .ok (.ifCond .ne 7, 3) := by decide +kernel
theorem dX4_mayBegin_65 : decode cX4_mayBegin 65 = .ok (.iconst 1, 1) := by decide +kernel
theorem dX4_mayBegin_66 : decode cX4_mayBegin 66 = .ok (.goto 4, 3) := by decide +kernel
theorem dX4_mayBegin_69 : decode cX4_mayBegin 69 = .ok (.iconst 0, 1) := by decide +kernel
theorem dX4_mayBegin_70 : decode cX4_mayBegin 70 = .ok (.ireturn, 1) := by decide +kernel
theorem dX4_mayBegin_71 : decode cX4_mayBegin 71 = .ok (.iconst 1, 1) := by decide +kernel
theorem dX4_mayBegin_72 : decode cX4_mayBegin 72 = .ok (.ireturn, 1) := by decide +kernel
set_option maxRecDepth 20000 in
theorem ggX4_takeFigures_X4_takeLine : GoodIn wsX4_takeFigures wsX4_takeLine := goodIn_r _ [5, 6, 7, 8, 9, 10, 11, 12, 13, 4, 14, 15, 16, 17, 18, 19, 20, 21, 22, 23, 24, 25, 26, 27, 53, 54, 55, 56, 57, 58, 59, 60, 61, 62, 63, 64, 65, 66, 67] (by decide +kernel) (by decide +kernel)
set_option maxRecDepth 20000 in
theorem gX4_takeFigures_X4_takeLine : GoodIn wsX4_takeFigures (wsV RX4 92 RX4 yX4_takeLine wsX4_takeLine) := goodIn_app (goodIn_of _ (by decide +kernel)) ggX4_takeFigures_X4_takeLine
set_option maxRecDepth 20000 in
theorem ggX4_takeFigures_X4_takeHands : GoodIn wsX4_takeFigures wsX4_takeHands := goodIn_r _ [31, 6, 7, 8, 9, 32, 33, 34, 11, 12, 13, 4, 14, 15, 16, 17, 18, 19, 20, 35, 36, 37, 53, 54, 55, 56, 57, 58, 59, 60, 61, 62, 63, 64, 65, 66, 67] (by decide +kernel) (by decide +kernel)
set_option maxRecDepth 20000 in
theorem gX4_takeFigures_X4_takeHands : GoodIn wsX4_takeFigures (wsV RX4 95 RX4 yX4_takeHands wsX4_takeHands) := goodIn_app (goodIn_of _ (by decide +kernel)) ggX4_takeFigures_X4_takeHands
set_option maxRecDepth 20000 in
theorem ggX4_takeFigures_X4_takeNumber : GoodIn wsX4_takeFigures wsX4_takeNumber := goodIn_r _ [41, 7, 6, 8, 11, 12, 13, 4, 14, 15, 16, 17, 18, 19, 20, 42, 36, 43, 44, 45, 46, 47, 48, 24, 49, 50, 51, 52, 53, 54, 55, 56, 57, 58, 59, 60, 61, 62, 63, 64, 65, 66, 67] (by decide +kernel) (by decide +kernel)
set_option maxRecDepth 20000 in
theorem gX4_takeFigures_X4_takeNumber : GoodIn wsX4_takeFigures (wsV RX4 98 RX4 yX4_takeNumber wsX4_takeNumber) := goodIn_app (goodIn_of _ (by decide +kernel)) ggX4_takeFigures_X4_takeNumber
theorem dX4_takeFigures_0 : decode cX4_takeFigures 0 = .ok (.iload_n 1, 1) := by decide +kernel
theorem dX4_takeFigures_1 : decode cX4_takeFigures 1 = .ok (.lookupswitch 37 #[(3, 27), (4, 32)], 27) := by decide +kernel
theorem dX4_takeFigures_28 : decode cX4_takeFigures 28 = .ok (.aload_n 0, 1) := by decide +kernel
theorem dX4_takeFigures_29 : decode cX4_takeFigures 29 = .ok (.invokevirtual 92, 3) := by decide +kernel
theorem dX4_takeFigures_32 : decode cX4_takeFigures 32 = .ok (.ireturn, 1) := by decide +kernel
theorem dX4_takeFigures_33 : decode cX4_takeFigures 33 = .ok (.aload_n 0, 1) := by decide +kernel
theorem dX4_takeFigures_34 : decode cX4_takeFigures 34 = .ok (.invokevirtual 95, 3) := by decide +kernel
theorem dX4_takeFigures_37 : decode cX4_takeFigures 37 = .ok (.ireturn, 1) := by decide +kernel
theorem dX4_takeFigures_38 : decode cX4_takeFigures 38 = .ok (.aload_n 0, 1) := by decide +kernel
theorem dX4_takeFigures_39 : decode cX4_takeFigures 39 = .ok (.iload_n 1, 1) := by decide +kernel
theorem dX4_takeFigures_40 : decode cX4_takeFigures 40 = .ok (.invokevirtual 98, 3) := by decide +kernel
theorem dX4_takeFigures_43 : decode cX4_takeFigures 43 = .ok (.ireturn, 1) := by decide +kernel
set_option maxRecDepth 20000 in
theorem ggX4_takeLine_X4_figureAt : GoodIn wsX4_takeLine wsX4_figureAt := goodIn_r _ [10, 11, 12, 13, 9, 14, 15, 16, 24, 25, 26, 27, 28, 29, 30, 31] (by decide +kernel) (by decide +kernel)
set_option maxRecDepth 20000 in
theorem gX4_takeLine_X4_figureAt : GoodIn wsX4_takeLine (wsV RX4 104 RX4 yX4_figureAt wsX4_figureAt) := goodIn_app (goodIn_of _ (by decide +kernel)) ggX4_takeLine_X4_figureAt
set_option maxRecDepth 20000 in
theorem ggX4_takeLine_X0_setPitch : GoodIn wsX4_takeLine wsX0_setPitch := goodIn_r _ [21, 22, 23, 32, 33, 34, 35, 36, 37, 38] (by decide +kernel) (by decide +kernel)
set_option maxRecDepth 20000 in
theorem gX4_takeLine_X0_setPitch : GoodIn wsX4_takeLine (wsV RX4 107 RX0 yX0_setPitch wsX0_setPitch) := goodIn_app (goodIn_of _ (by decide +kernel)) ggX4_takeLine_X0_setPitch
theorem dX4_takeLine_0 : decode cX4_takeLine 0 = .ok (.aload_n 0, 1) := by decide +kernel
theorem dX4_takeLine_1 : decode cX4_takeLine 1 = .ok (.getfield 36, 3) := by decide +kernel
theorem dX4_takeLine_4 : decode cX4_takeLine 4 = .ok (.aload_n 0, 1) := by decide +kernel
theorem dX4_takeLine_5 : decode cX4_takeLine 5 = .ok (.getfield 49, 3) := by decide +kernel
theorem dX4_takeLine_8 : decode cX4_takeLine 8 = .ok (.isub, 1) := by decide +kernel
theorem dX4_takeLine_9 : decode cX4_takeLine 9 = .ok (.bipush 12, 2) := by decide +kernel
theorem dX4_takeLine_11 : decode cX4_takeLine 11 = .ok (.if_icmp .le 5, 3) := by decide +kernel
theorem dX4_takeLine_14 : decode cX4_takeLine 14 = .ok (.iconst 0, 1) := by decide +kernel
theorem dX4_takeLine_15 : decode cX4_takeLine 15 = .ok (.ireturn, 1) := by decide +kernel
theorem dX4_takeLine_16 : decode cX4_takeLine 16 = .ok (.aload_n 0, 1) := by decide +kernel
theorem dX4_takeLine_17 : decode cX4_takeLine 17 = .ok (.getfield 12, 3) := by decide +kernel
theorem dX4_takeLine_20 : decode cX4_takeLine 20 = .ok (.aload_n 0, 1) := by decide +kernel
theorem dX4_takeLine_21 : decode cX4_takeLine 21 = .ok (.getfield 36, 3) := by decide +kernel
theorem dX4_takeLine_24 : decode cX4_takeLine 24 = .ok (.aload_n 0, 1) := by decide +kernel
theorem dX4_takeLine_25 : decode cX4_takeLine 25 = .ok (.getfield 49, 3) := by decide +kernel
theorem dX4_takeLine_28 : decode cX4_takeLine 28 = .ok (.isub, 1) := by decide +kernel
theorem dX4_takeLine_29 : decode cX4_takeLine 29 = .ok (.putfield 101, 3) := by decide +kernel
theorem dX4_takeLine_32 : decode cX4_takeLine 32 = .ok (.iconst 0, 1) := by decide +kernel
theorem dX4_takeLine_33 : decode cX4_takeLine 33 = .ok (.istore_n 1, 1) := by decide +kernel
theorem dX4_takeLine_34 : decode cX4_takeLine 34 = .ok (.iload_n 1, 1) := by decide +kernel
theorem dX4_takeLine_35 : decode cX4_takeLine 35 = .ok (.aload_n 0, 1) := by decide +kernel
theorem dX4_takeLine_36 : decode cX4_takeLine 36 = .ok (.getfield 12, 3) := by decide +kernel
theorem dX4_takeLine_39 : decode cX4_takeLine 39 = .ok (.getfield 101, 3) := by decide +kernel
theorem dX4_takeLine_42 : decode cX4_takeLine 42 = .ok (.if_icmp .ge 37, 3) := by decide +kernel
theorem dX4_takeLine_45 : decode cX4_takeLine 45 = .ok (.aload_n 0, 1) := by decide +kernel
theorem dX4_takeLine_46 : decode cX4_takeLine 46 = .ok (.aload_n 0, 1) := by decide +kernel
theorem dX4_takeLine_47 : decode cX4_takeLine 47 = .ok (.getfield 49, 3) := by decide +kernel
theorem dX4_takeLine_50 : decode cX4_takeLine 50 = .ok (.iload_n 1, 1) := by decide +kernel
theorem dX4_takeLine_51 : decode cX4_takeLine 51 = .ok (.iadd, 1) := by decide +kernel
theorem dX4_takeLine_52 : decode cX4_takeLine 52 = .ok (.invokevirtual 104, 3) := by decide +kernel
theorem dX4_takeLine_55 : decode cX4_takeLine 55 = .ok (.istore_n 2, 1) := by decide +kernel
theorem dX4_takeLine_56 : decode cX4_takeLine 56 = .ok (.iload_n 2, 1) := by decide +kernel
theorem dX4_takeLine_57 : decode cX4_takeLine 57 = .ok (.bipush 7, 2) := by decide +kernel
theorem dX4_takeLine_59 : decode cX4_takeLine 59 = .ok (.if_icmp .le 5, 3) := by decide +kernel
theorem dX4_takeLine_62 : decode cX4_takeLine 62 = .ok (.iconst 0, 1) := by decide +kernel
theorem dX4_takeLine_63 : decode cX4_takeLine 63 = .ok (.ireturn, 1) := by decide +kernel
theorem dX4_takeLine_64 : decode cX4_takeLine 64 = .ok (.aload_n 0, 1) := by decide +kernel
theorem dX4_takeLine_65 : decode cX4_takeLine 65 = .ok (.getfield 12, 3) := by decide +kernel
theorem dX4_takeLine_68 : decode cX4_takeLine 68 = .ok (.iload_n 1, 1) := by decide +kernel
theorem dX4_takeLine_69 : decode cX4_takeLine 69 = .ok (.iload_n 2, 1) := by decide +kernel
theorem dX4_takeLine_70 : decode cX4_takeLine 70 = .ok (.invokevirtual 107, 3) := by decide +kernel
theorem dX4_takeLine_73 : decode cX4_takeLine 73 = .ok (.iinc 1 1, 3) := by decide +kernel
theorem dX4_takeLine_76 : decode cX4_takeLine 76 = .ok (.goto (-42), 3) := by decide +kernel
theorem dX4_takeLine_79 : decode cX4_takeLine 79 = .ok (.aload_n 0, 1) := by decide +kernel
theorem dX4_takeLine_80 : decode cX4_takeLine 80 = .ok (.iconst 1, 1) := by decide +kernel
theorem dX4_takeLine_81 : decode cX4_takeLine 81 = .ok (.putfield 29, 3) := by decide +kernel
theorem dX4_takeLine_84 : decode cX4_takeLine 84 = .ok (.iconst 1, 1) := by decide +kernel
theorem dX4_takeLine_85 : decode cX4_takeLine 85 = .ok (.ireturn, 1) := by decide +kernel
set_option maxRecDepth 20000 in
theorem ggX4_takeHands_X4_figureAt : GoodIn wsX4_takeHands wsX4_figureAt := goodIn_r _ [12, 13, 14, 15, 11, 16, 17, 18, 22, 23, 24, 25, 26, 27, 28, 29] (by decide +kernel) (by decide +kernel)
set_option maxRecDepth 20000 in
theorem gX4_takeHands_X4_figureAt : GoodIn wsX4_takeHands (wsV RX4 104 RX4 yX4_figureAt wsX4_figureAt) := goodIn_app (goodIn_of _ (by decide +kernel)) ggX4_takeHands_X4_figureAt
set_option maxRecDepth 20000 in
theorem ggX4_takeHands_X5_isHand : GoodIn wsX4_takeHands wsX5_isHand := goodIn_r _ [21] (by decide +kernel) (by decide +kernel)
set_option maxRecDepth 20000 in
theorem gX4_takeHands_X5_isHand_n111 : GoodIn wsX4_takeHands (wsX5_isHand) := ggX4_takeHands_X5_isHand
theorem dX4_takeHands_0 : decode cX4_takeHands 0 = .ok (.aload_n 0, 1) := by decide +kernel
theorem dX4_takeHands_1 : decode cX4_takeHands 1 = .ok (.getfield 36, 3) := by decide +kernel
theorem dX4_takeHands_4 : decode cX4_takeHands 4 = .ok (.aload_n 0, 1) := by decide +kernel
theorem dX4_takeHands_5 : decode cX4_takeHands 5 = .ok (.getfield 49, 3) := by decide +kernel
theorem dX4_takeHands_8 : decode cX4_takeHands 8 = .ok (.isub, 1) := by decide +kernel
theorem dX4_takeHands_9 : decode cX4_takeHands 9 = .ok (.aload_n 0, 1) := by decide +kernel
theorem dX4_takeHands_10 : decode cX4_takeHands 10 = .ok (.getfield 12, 3) := by decide +kernel
theorem dX4_takeHands_13 : decode cX4_takeHands 13 = .ok (.getfield 101, 3) := by decide +kernel
theorem dX4_takeHands_16 : decode cX4_takeHands 16 = .ok (.if_icmp .eq 5, 3) := by decide +kernel
theorem dX4_takeHands_19 : decode cX4_takeHands 19 = .ok (.iconst 0, 1) := by decide +kernel
theorem dX4_takeHands_20 : decode cX4_takeHands 20 = .ok (.ireturn, 1) := by decide +kernel
theorem dX4_takeHands_21 : decode cX4_takeHands 21 = .ok (.iconst 0, 1) := by decide +kernel
theorem dX4_takeHands_22 : decode cX4_takeHands 22 = .ok (.istore_n 1, 1) := by decide +kernel
theorem dX4_takeHands_23 : decode cX4_takeHands 23 = .ok (.iload_n 1, 1) := by decide +kernel
theorem dX4_takeHands_24 : decode cX4_takeHands 24 = .ok (.aload_n 0, 1) := by decide +kernel
theorem dX4_takeHands_25 : decode cX4_takeHands 25 = .ok (.getfield 12, 3) := by decide +kernel
theorem dX4_takeHands_28 : decode cX4_takeHands 28 = .ok (.getfield 101, 3) := by decide +kernel
theorem dX4_takeHands_31 : decode cX4_takeHands 31 = .ok (.if_icmp .ge 44, 3) := by decide +kernel
theorem dX4_takeHands_34 : decode cX4_takeHands 34 = .ok (.aload_n 0, 1) := by decide +kernel
theorem dX4_takeHands_35 : decode cX4_takeHands 35 = .ok (.aload_n 0, 1) := by decide +kernel
theorem dX4_takeHands_36 : decode cX4_takeHands 36 = .ok (.getfield 49, 3) := by decide +kernel
theorem dX4_takeHands_39 : decode cX4_takeHands 39 = .ok (.iload_n 1, 1) := by decide +kernel
theorem dX4_takeHands_40 : decode cX4_takeHands 40 = .ok (.iadd, 1) := by decide +kernel
theorem dX4_takeHands_41 : decode cX4_takeHands 41 = .ok (.invokevirtual 104, 3) := by decide +kernel
theorem dX4_takeHands_44 : decode cX4_takeHands 44 = .ok (.istore_n 2, 1) := by decide +kernel
theorem dX4_takeHands_45 : decode cX4_takeHands 45 = .ok (.iload_n 2, 1) := by decide +kernel
theorem dX4_takeHands_46 : decode cX4_takeHands 46 = .ok (.invokestatic 111, 3) := by decide +kernel
theorem dX4_takeHands_49 : decode cX4_takeHands 49 = .ok (.ifCond .ne 5, 3) := by decide +kernel
theorem dX4_takeHands_52 : decode cX4_takeHands 52 = .ok (.iconst 0, 1) := by decide +kernel
theorem dX4_takeHands_53 : decode cX4_takeHands 53 = .ok (.ireturn, 1) := by decide +kernel
theorem dX4_takeHands_54 : decode cX4_takeHands 54 = .ok (.aload_n 0, 1) := by decide +kernel
theorem dX4_takeHands_55 : decode cX4_takeHands 55 = .ok (.getfield 12, 3) := by decide +kernel
theorem dX4_takeHands_58 : decode cX4_takeHands 58 = .ok (.dup, 1) := by decide +kernel
theorem dX4_takeHands_59 : decode cX4_takeHands 59 = .ok (.getfield 114, 3) := by decide +kernel
theorem dX4_takeHands_62 : decode cX4_takeHands 62 = .ok (.iload_n 2, 1) := by decide +kernel
theorem dX4_takeHands_63 : decode cX4_takeHands 63 = .ok (.iload_n 1, 1) := by decide +kernel
theorem dX4_takeHands_64 : decode cX4_takeHands 64 = .ok (.ishl, 1) := by decide +kernel
theorem dX4_takeHands_65 : decode cX4_takeHands 65 = .ok (.ior, 1) := by decide +kernel
theorem dX4_takeHands_66 : decode cX4_takeHands 66 = .ok (.putfield 114, 3) := by decide +kernel
theorem dX4_takeHands_69 : decode cX4_takeHands 69 = .ok (.iinc 1 1, 3) := by decide +kernel
theorem dX4_takeHands_72 : decode cX4_takeHands 72 = .ok (.goto (-49), 3) := by decide +kernel
theorem dX4_takeHands_75 : decode cX4_takeHands 75 = .ok (.aload_n 0, 1) := by decide +kernel
theorem dX4_takeHands_76 : decode cX4_takeHands 76 = .ok (.getfield 12, 3) := by decide +kernel
theorem dX4_takeHands_79 : decode cX4_takeHands 79 = .ok (.dup, 1) := by decide +kernel
theorem dX4_takeHands_80 : decode cX4_takeHands 80 = .ok (.getfield 114, 3) := by decide +kernel
theorem dX4_takeHands_83 : decode cX4_takeHands 83 = .ok (.aload_n 0, 1) := by decide +kernel
theorem dX4_takeHands_84 : decode cX4_takeHands 84 = .ok (.getfield 12, 3) := by decide +kernel
theorem dX4_takeHands_87 : decode cX4_takeHands 87 = .ok (.getfield 116, 3) := by decide +kernel
theorem dX4_takeHands_90 : decode cX4_takeHands 90 = .ok (.iand, 1) := by decide +kernel
theorem dX4_takeHands_91 : decode cX4_takeHands 91 = .ok (.putfield 114, 3) := by decide +kernel
theorem dX4_takeHands_94 : decode cX4_takeHands 94 = .ok (.aload_n 0, 1) := by decide +kernel
theorem dX4_takeHands_95 : decode cX4_takeHands 95 = .ok (.iconst 1, 1) := by decide +kernel
theorem dX4_takeHands_96 : decode cX4_takeHands 96 = .ok (.putfield 33, 3) := by decide +kernel
theorem dX4_takeHands_99 : decode cX4_takeHands 99 = .ok (.iconst 1, 1) := by decide +kernel
theorem dX4_takeHands_100 : decode cX4_takeHands 100 = .ok (.ireturn, 1) := by decide +kernel
set_option maxRecDepth 20000 in
theorem ggX4_takeNumber_X4_figureAt : GoodIn wsX4_takeNumber wsX4_figureAt := goodIn_r _ [8, 9, 10, 11, 7, 12, 13, 14, 28, 29, 30, 31, 32, 33, 34, 35] (by decide +kernel) (by decide +kernel)
set_option maxRecDepth 20000 in
theorem gX4_takeNumber_X4_figureAt : GoodIn wsX4_takeNumber (wsV RX4 104 RX4 yX4_figureAt wsX4_figureAt) := goodIn_app (goodIn_of _ (by decide +kernel)) ggX4_takeNumber_X4_figureAt
set_option maxRecDepth 20000 in
theorem ggX4_takeNumber_X5_isNumber : GoodIn wsX4_takeNumber wsX5_isNumber := goodIn_r _ [17, 18, 19] (by decide +kernel) (by decide +kernel)
set_option maxRecDepth 20000 in
theorem gX4_takeNumber_X5_isNumber_n119 : GoodIn wsX4_takeNumber (wsX5_isNumber) := ggX4_takeNumber_X5_isNumber
set_option maxRecDepth 20000 in
theorem ggX4_takeNumber_X0_setNumber : GoodIn wsX4_takeNumber wsX0_setNumber := goodIn_r _ [24, 25, 26, 27, 36, 37, 38, 39, 40, 41, 42] (by decide +kernel) (by decide +kernel)
set_option maxRecDepth 20000 in
theorem gX4_takeNumber_X0_setNumber : GoodIn wsX4_takeNumber (wsV RX4 123 RX0 yX0_setNumber wsX0_setNumber) := goodIn_app (goodIn_of _ (by decide +kernel)) ggX4_takeNumber_X0_setNumber
theorem dX4_takeNumber_0 : decode cX4_takeNumber 0 = .ok (.aload_n 0, 1) := by decide +kernel
theorem dX4_takeNumber_1 : decode cX4_takeNumber 1 = .ok (.aload_n 0, 1) := by decide +kernel
theorem dX4_takeNumber_2 : decode cX4_takeNumber 2 = .ok (.getfield 49, 3) := by decide +kernel
theorem dX4_takeNumber_5 : decode cX4_takeNumber 5 = .ok (.invokevirtual 104, 3) := by decide +kernel
theorem dX4_takeNumber_8 : decode cX4_takeNumber 8 = .ok (.istore_n 2, 1) := by decide +kernel
theorem dX4_takeNumber_9 : decode cX4_takeNumber 9 = .ok (.aload_n 0, 1) := by decide +kernel
theorem dX4_takeNumber_10 : decode cX4_takeNumber 10 = .ok (.getfield 36, 3) := by decide +kernel
theorem dX4_takeNumber_13 : decode cX4_takeNumber 13 = .ok (.aload_n 0, 1) := by decide +kernel
theorem dX4_takeNumber_14 : decode cX4_takeNumber 14 = .ok (.getfield 49, 3) := by decide +kernel
theorem dX4_takeNumber_17 : decode cX4_takeNumber 17 = .ok (.isub, 1) := by decide +kernel
theorem dX4_takeNumber_18 : decode cX4_takeNumber 18 = .ok (.iconst 1, 1) := by decide +kernel
theorem dX4_takeNumber_19 : decode cX4_takeNumber 19 = .ok (.if_icmp .ne 11, 3) := by decide +kernel
theorem dX4_takeNumber_22 : decode cX4_takeNumber 22 = .ok (.iload_n 1, 1) := by decide +kernel
theorem dX4_takeNumber_23 : decode cX4_takeNumber 23 = .ok (.iload_n 2, 1) := by decide +kernel
theorem dX4_takeNumber_24 : decode cX4_takeNumber 24 = .ok (.invokestatic 119, 3) := by decide +kernel
theorem dX4_takeNumber_27 : decode cX4_takeNumber 27 = .ok (.ifCond .ne 5, 3) := by decide +kernel
theorem dX4_takeNumber_30 : decode cX4_takeNumber 30 = .ok (.iconst 0, 1) := by decide +kernel
theorem dX4_takeNumber_31 : decode cX4_takeNumber 31 = .ok (.ireturn, 1) := by decide +kernel
theorem dX4_takeNumber_32 : decode cX4_takeNumber 32 = .ok (.aload_n 0, 1) := by decide +kernel
theorem dX4_takeNumber_33 : decode cX4_takeNumber 33 = .ok (.getfield 12, 3) := by decide +kernel
theorem dX4_takeNumber_36 : decode cX4_takeNumber 36 = .ok (.iload_n 1, 1) := by decide +kernel
theorem dX4_takeNumber_37 : decode cX4_takeNumber 37 = .ok (.iload_n 2, 1) := by decide +kernel
theorem dX4_takeNumber_38 : decode cX4_takeNumber 38 = .ok (.invokevirtual 123, 3) := by decide +kernel
theorem dX4_takeNumber_41 : decode cX4_takeNumber 41 = .ok (.iconst 1, 1) := by decide +kernel
theorem dX4_takeNumber_42 : decode cX4_takeNumber 42 = .ok (.ireturn, 1) := by decide +kernel
set_option maxRecDepth 20000 in
theorem ggX4_figureAt_X4_letterAt : GoodIn wsX4_figureAt wsX4_letterAt := goodIn_r _ [5, 6, 7, 8, 9, 10, 11, 12, 13, 14, 15] (by decide +kernel) (by decide +kernel)
set_option maxRecDepth 20000 in
theorem gX4_figureAt_X4_letterAt : GoodIn wsX4_figureAt (wsV RX4 67 RX4 yX4_letterAt wsX4_letterAt) := goodIn_app (goodIn_of _ (by decide +kernel)) ggX4_figureAt_X4_letterAt
theorem dX4_figureAt_0 : decode cX4_figureAt 0 = .ok (.aload_n 0, 1) := by decide +kernel
theorem dX4_figureAt_1 : decode cX4_figureAt 1 = .ok (.iload_n 1, 1) := by decide +kernel
theorem dX4_figureAt_2 : decode cX4_figureAt 2 = .ok (.invokevirtual 67, 3) := by decide +kernel
theorem dX4_figureAt_5 : decode cX4_figureAt 5 = .ok (.bipush 48, 2) := by decide +kernel
theorem dX4_figureAt_7 : decode cX4_figureAt 7 = .ok (.isub, 1) := by decide +kernel
theorem dX4_figureAt_8 : decode cX4_figureAt 8 = .ok (.ireturn, 1) := by decide +kernel
theorem dX4_letterAt_0 : decode cX4_letterAt 0 = .ok (.iload_n 1, 1) := by decide +kernel
theorem dX4_letterAt_1 : decode cX4_letterAt 1 = .ok (.ifCond .lt 20, 3) := by decide +kernel
theorem dX4_letterAt_4 : decode cX4_letterAt 4 = .ok (.iload_n 1, 1) := by decide +kernel
theorem dX4_letterAt_5 : decode cX4_letterAt 5 = .ok (.aload_n 0, 1) := by decide +kernel
theorem dX4_letterAt_6 : decode cX4_letterAt 6 = .ok (.getfield 22, 3) := by decide +kernel
theorem dX4_letterAt_9 : decode cX4_letterAt 9 = .ok (.if_icmp .ge 12, 3) := by decide +kernel
theorem dX4_letterAt_12 : decode cX4_letterAt 12 = .ok (.aload_n 0, 1) := by decide +kernel
theorem dX4_letterAt_13 : decode cX4_letterAt 13 = .ok (.getfield 18, 3) := by decide +kernel
theorem dX4_letterAt_16 : decode cX4_letterAt 16 = .ok (.iload_n 1, 1) := by decide +kernel
theorem dX4_letterAt_17 : decode cX4_letterAt 17 = .ok (.iaload, 1) := by decide +kernel
theorem dX4_letterAt_18 : decode cX4_letterAt 18 = .ok (.goto 5, 3) := by decide +kernel
theorem dX4_letterAt_21 : decode cX4_letterAt 21 = .ok (.bipush (-9), 2) := by decide +kernel
theorem dX4_letterAt_23 : decode cX4_letterAt 23 = .ok (.ireturn, 1) := by decide +kernel
end
section
set_option maxRecDepth 20000 in
theorem ggX5_init_X0_init : GoodIn wsX5_init wsX0_init := goodIn_r _ [27, 28, 2, 3, 29, 30, 31, 32, 33, 6, 34, 35, 36, 37, 38, 39, 40, 41, 42, 43, 44, 69, 70, 71, 72, 73, 74, 75] (by decide +kernel) (by decide +kernel)
set_option maxRecDepth 20000 in
theorem gX5_init_X0_init : GoodIn wsX5_init (wsX0_init) := ggX5_init_X0_init
set_option maxRecDepth 20000 in
theorem ggX5_init_X4_init : GoodIn wsX5_init wsX4_init := goodIn_r _ [46, 47, 2, 3, 48, 5, 6, 49, 29, 50, 51, 26, 27, 28, 30, 31, 32, 33, 34, 35, 36, 37, 38, 39, 40, 41, 42, 43, 44, 69, 70, 71, 72, 73, 74, 75, 85, 86, 87, 88, 89, 90, 91, 92] (by decide +kernel) (by decide +kernel)
set_option maxRecDepth 20000 in
theorem gX5_init_X4_init_n18 : GoodIn wsX5_init (wsX4_init) := ggX5_init_X4_init
set_option maxRecDepth 20000 in
theorem ggX5_init_X1_init : GoodIn wsX5_init wsX1_init := goodIn_r _ [54, 55, 2, 3, 56, 57, 5, 6, 58, 26, 27, 28, 29, 30, 31, 32, 33, 34, 35, 36, 37, 38, 39, 40, 41, 42, 43, 44, 93, 94, 69, 70, 71, 72, 73, 74, 75] (by decide +kernel) (by decide +kernel)
set_option maxRecDepth 20000 in
theorem gX5_init_X1_init : GoodIn wsX5_init (wsX1_init) := ggX5_init_X1_init
set_option maxRecDepth 20000 in
theorem ggX5_init_X2_init : GoodIn wsX5_init wsX2_init := goodIn_r _ [60, 61, 2, 3, 62, 5, 6, 63, 64, 26, 27, 28, 29, 30, 31, 32, 33, 34, 35, 36, 37, 38, 39, 40, 41, 42, 43, 44, 69, 70, 71, 72, 73, 74, 75, 95, 96, 97, 98] (by decide +kernel) (by decide +kernel)
set_option maxRecDepth 20000 in
theorem gX5_init_X2_init_n32 : GoodIn wsX5_init (wsX2_init) := ggX5_init_X2_init
set_option maxRecDepth 20000 in
theorem ggX5_init_X3_init : GoodIn wsX5_init wsX3_init := goodIn_r _ [66, 67, 2, 3, 29, 68, 99, 100, 101] (by decide +kernel) (by decide +kernel)
set_option maxRecDepth 20000 in
theorem gX5_init_X3_init_n39 : GoodIn wsX5_init (wsX3_init) := ggX5_init_X3_init
theorem dX5_init_0 : decode cX5_init 0 = .ok (.aload_n 0, 1) := by decide +kernel
theorem dX5_init_1 : decode cX5_init 1 = .ok (.invokespecial 1, 3) := by decide +kernel
theorem dX5_init_4 : decode cX5_init 4 = .ok (.aload_n 0, 1) := by decide +kernel
theorem dX5_init_5 : decode cX5_init 5 = .ok (.new 7, 3) := by decide +kernel
theorem dX5_init_8 : decode cX5_init 8 = .ok (.dup, 1) := by decide +kernel
theorem dX5_init_9 : decode cX5_init 9 = .ok (.invokespecial 9, 3) := by decide +kernel
theorem dX5_init_12 : decode cX5_init 12 = .ok (.putfield 10, 3) := by decide +kernel
theorem dX5_init_15 : decode cX5_init 15 = .ok (.aload_n 0, 1) := by decide +kernel
theorem dX5_init_16 : decode cX5_init 16 = .ok (.new 16, 3) := by decide +kernel
theorem dX5_init_19 : decode cX5_init 19 = .ok (.dup, 1) := by decide +kernel
theorem dX5_init_20 : decode cX5_init 20 = .ok (.invokespecial 18, 3) := by decide +kernel
theorem dX5_init_23 : decode cX5_init 23 = .ok (.putfield 19, 3) := by decide +kernel
theorem dX5_init_26 : decode cX5_init 26 = .ok (.aload_n 0, 1) := by decide +kernel
theorem dX5_init_27 : decode cX5_init 27 = .ok (.new 23, 3) := by decide +kernel
theorem dX5_init_30 : decode cX5_init 30 = .ok (.dup, 1) := by decide +kernel
theorem dX5_init_31 : decode cX5_init 31 = .ok (.invokespecial 25, 3) := by decide +kernel
theorem dX5_init_34 : decode cX5_init 34 = .ok (.putfield 26, 3) := by decide +kernel
theorem dX5_init_37 : decode cX5_init 37 = .ok (.aload_n 0, 1) := by decide +kernel
theorem dX5_init_38 : decode cX5_init 38 = .ok (.new 30, 3) := by decide +kernel
theorem dX5_init_41 : decode cX5_init 41 = .ok (.dup, 1) := by decide +kernel
theorem dX5_init_42 : decode cX5_init 42 = .ok (.invokespecial 32, 3) := by decide +kernel
theorem dX5_init_45 : decode cX5_init 45 = .ok (.putfield 33, 3) := by decide +kernel
theorem dX5_init_48 : decode cX5_init 48 = .ok (.aload_n 0, 1) := by decide +kernel
theorem dX5_init_49 : decode cX5_init 49 = .ok (.new 37, 3) := by decide +kernel
theorem dX5_init_52 : decode cX5_init 52 = .ok (.dup, 1) := by decide +kernel
theorem dX5_init_53 : decode cX5_init 53 = .ok (.invokespecial 39, 3) := by decide +kernel
theorem dX5_init_56 : decode cX5_init 56 = .ok (.putfield 40, 3) := by decide +kernel
theorem dX5_init_59 : decode cX5_init 59 = .ok (.aload_n 0, 1) := by decide +kernel
theorem dX5_init_60 : decode cX5_init 60 = .ok (.iconst 2, 1) := by decide +kernel
theorem dX5_init_61 : decode cX5_init 61 = .ok (.anewarray 7, 3) := by decide +kernel
theorem dX5_init_64 : decode cX5_init 64 = .ok (.putfield 44, 3) := by decide +kernel
theorem dX5_init_67 : decode cX5_init 67 = .ok (.return_, 1) := by decide +kernel
set_option maxRecDepth 20000 in
theorem ggX5_type_X4_add : GoodIn wsX5_type wsX4_add := goodIn_r _ [7, 8, 9, 19, 20, 21, 22, 23, 24, 25, 26] (by decide +kernel) (by decide +kernel)
set_option maxRecDepth 20000 in
theorem gX5_type_X4_add : GoodIn wsX5_type (wsV RX5 48 RX4 yX4_add wsX4_add) := goodIn_app (goodIn_of _ (by decide +kernel)) ggX5_type_X4_add
theorem dX5_type_0 : decode cX5_type 0 = .ok (.iload_n 1, 1) := by decide +kernel
theorem dX5_type_1 : decode cX5_type 1 = .ok (.ifCond .lt 10, 3) := by decide +kernel
theorem dX5_type_4 : decode cX5_type 4 = .ok (.iload_n 1, 1) := by decide +kernel
theorem dX5_type_5 : decode cX5_type 5 = .ok (.sipush 255, 3) := by decide +kernel
theorem dX5_type_8 : decode cX5_type 8 = .ok (.if_icmp .le 5, 3) := by decide +kernel
theorem dX5_type_11 : decode cX5_type 11 = .ok (.iconst (-1), 1) := by decide +kernel
theorem dX5_type_12 : decode cX5_type 12 = .ok (.ireturn, 1) := by decide +kernel
theorem dX5_type_13 : decode cX5_type 13 = .ok (.aload_n 0, 1) := by decide +kernel
theorem dX5_type_14 : decode cX5_type 14 = .ok (.getfield 19, 3) := by decide +kernel
theorem dX5_type_17 : decode cX5_type 17 = .ok (.iload_n 1, 1) := by decide +kernel
theorem dX5_type_18 : decode cX5_type 18 = .ok (.invokevirtual 48, 3) := by decide +kernel
theorem dX5_type_21 : decode cX5_type 21 = .ok (.ifCond .eq 13, 3) := by decide +kernel
theorem dX5_type_24 : decode cX5_type 24 = .ok (.aload_n 0, 1) := by decide +kernel
theorem dX5_type_25 : decode cX5_type 25 = .ok (.getfield 19, 3) := by decide +kernel
theorem dX5_type_28 : decode cX5_type 28 = .ok (.getfield 52, 3) := by decide +kernel
theorem dX5_type_31 : decode cX5_type 31 = .ok (.goto 5, 3) := by decide +kernel
theorem dX5_type_34 : decode cX5_type 34 = .ok (.bipush (-3), 2) := by decide +kernel
theorem dX5_type_36 : decode cX5_type 36 = .ok (.ireturn, 1) := by decide +kernel
theorem dX5_clear_0 : decode cX5_clear 0 = .ok (.aload_n 0, 1) := by decide +kernel
theorem dX5_clear_1 : decode cX5_clear 1 = .ok (.getfield 19, 3) := by decide +kernel
theorem dX5_clear_4 : decode cX5_clear 4 = .ok (.getfield 52, 3) := by decide +kernel
theorem dX5_clear_7 : decode cX5_clear 7 = .ok (.istore_n 1, 1) := by decide +kernel
theorem dX5_clear_8 : decode cX5_clear 8 = .ok (.aload_n 0, 1) := by decide +kernel
theorem dX5_clear_9 : decode cX5_clear 9 = .ok (.getfield 19, 3) := by decide +kernel
theorem dX5_clear_12 : decode cX5_clear 12 = .ok (.iconst 0, 1) := by decide +kernel
theorem dX5_clear_13 : decode cX5_clear 13 = .ok (.putfield 52, 3) := by decide +kernel
theorem dX5_clear_16 : decode cX5_clear 16 = .ok (.iload_n 1, 1) := by decide +kernel
theorem dX5_clear_17 : decode cX5_clear 17 = .ok (.ireturn, 1) := by decide +kernel
set_option maxRecDepth 20000 in
theorem ggX5_tells_X4_read : GoodIn wsX5_tells wsX4_read := goodIn_r _ [10, 11, 12, 13, 14, 15, 16, 17, 18, 19, 20, 21, 22, 23, 24, 25, 26, 27, 28, 29, 30, 31, 32, 33, 34, 35, 9, 36, 37, 38, 39, 40, 41, 42, 43, 44, 45, 46, 47, 48, 49, 50, 51, 52, 53, 54, 55, 56, 57, 58, 59, 60, 61, 62, 63, 64, 65, 66, 67, 68, 69, 70, 71, 72, 73, 74, 75, 76, 77, 78, 79, 80, 81, 82, 83, 84, 85, 86, 87, 88, 89, 90, 91, 92, 93, 94, 95, 96, 97, 98, 99, 100, 101, 102, 103, 104, 105, 106, 107, 108, 109, 110, 111, 112, 113, 114, 115, 116, 117, 118, 119, 120, 121, 122, 123, 124, 125, 126, 127, 128, 129, 130, 131, 132, 133, 134, 135, 136, 137, 138, 139, 140, 141, 142, 143, 144, 145, 146, 147, 148, 149, 179, 180, 181, 182, 183, 184, 185, 186, 187, 188, 189, 190, 191, 192, 193] (by decide +kernel) (by decide +kernel)
set_option maxRecDepth 20000 in
theorem gX5_tells_X4_read : GoodIn wsX5_tells (wsV RX5 56 RX4 yX4_read wsX4_read) := goodIn_app (goodIn_of _ (by decide +kernel)) ggX5_tells_X4_read
set_option maxRecDepth 20000 in
theorem ggX5_tells_X1_remember : GoodIn wsX5_tells wsX1_remember := goodIn_r _ [154, 155, 156, 157, 158, 159, 153, 160, 161, 162, 163, 20, 164, 22, 165, 166, 167, 168, 23, 24, 25, 26, 27, 28, 194, 195, 187, 188, 189, 190, 191, 192, 193] (by decide +kernel) (by decide +kernel)
set_option maxRecDepth 20000 in
theorem gX5_tells_X1_remember : GoodIn wsX5_tells (wsV RX5 60 RX1 yX1_remember wsX1_remember) := goodIn_app (goodIn_of _ (by decide +kernel)) ggX5_tells_X1_remember
set_option maxRecDepth 20000 in
theorem ggX5_tells_X0_copyFrom : GoodIn wsX5_tells wsX0_copyFrom := goodIn_r _ [164, 22, 165, 166, 167, 168, 23, 24, 25, 26, 27, 28, 187, 188, 189, 190, 191, 192, 193] (by decide +kernel) (by decide +kernel)
set_option maxRecDepth 20000 in
theorem gX5_tells_X0_copyFrom : GoodIn wsX5_tells (wsV RX5 67 RX0 yX0_copyFrom wsX0_copyFrom) := goodIn_app (goodIn_of _ (by decide +kernel)) ggX5_tells_X0_copyFrom
theorem dX5_tells_0 : decode cX5_tells 0 = .ok (.aload_n 0, 1) := by decide +kernel
theorem dX5_tells_1 : decode cX5_tells 1 = .ok (.getfield 19, 3) := by decide +kernel
theorem dX5_tells_4 : decode cX5_tells 4 = .ok (.invokevirtual 56, 3) := by decide +kernel
theorem dX5_tells_7 : decode cX5_tells 7 = .ok (.istore_n 1, 1) := by decide +kernel
theorem dX5_tells_8 : decode cX5_tells 8 = .ok (.iload_n 1, 1) := by decide +kernel
theorem dX5_tells_9 : decode cX5_tells 9 = .ok (.ifCond .ge 5, 3) := by decide +kernel
theorem dX5_tells_12 : decode cX5_tells 12 = .ok (.iload_n 1, 1) := by decide +kernel
theorem dX5_tells_13 : decode cX5_tells 13 = .ok (.ireturn, 1) := by decide +kernel
theorem dX5_tells_14 : decode cX5_tells 14 = .ok (.aload_n 0, 1) := by decide +kernel
theorem dX5_tells_15 : decode cX5_tells 15 = .ok (.getfield 26, 3) := by decide +kernel
theorem dX5_tells_18 : decode cX5_tells 18 = .ok (.aload_n 0, 1) := by decide +kernel
theorem dX5_tells_19 : decode cX5_tells 19 = .ok (.getfield 10, 3) := by decide +kernel
theorem dX5_tells_22 : decode cX5_tells 22 = .ok (.invokevirtual 60, 3) := by decide +kernel
theorem dX5_tells_25 : decode cX5_tells 25 = .ok (.aload_n 0, 1) := by decide +kernel
theorem dX5_tells_26 : decode cX5_tells 26 = .ok (.getfield 10, 3) := by decide +kernel
theorem dX5_tells_29 : decode cX5_tells 29 = .ok (.aload_n 0, 1) := by decide +kernel
theorem dX5_tells_30 : decode cX5_tells 30 = .ok (.getfield 19, 3) := by decide +kernel
theorem dX5_tells_33 : decode cX5_tells 33 = .ok (.getfield 64, 3) := by decide +kernel
theorem dX5_tells_36 : decode cX5_tells 36 = .ok (.invokevirtual 67, 3) := by decide +kernel
theorem dX5_tells_39 : decode cX5_tells 39 = .ok (.aload_n 0, 1) := by decide +kernel
theorem dX5_tells_40 : decode cX5_tells 40 = .ok (.getfield 19, 3) := by decide +kernel
theorem dX5_tells_43 : decode cX5_tells 43 = .ok (.iconst 0, 1) := by decide +kernel
theorem dX5_tells_44 : decode cX5_tells 44 = .ok (.putfield 52, 3) := by decide +kernel
theorem dX5_tells_47 : decode cX5_tells 47 = .ok (.iload_n 1, 1) := by decide +kernel
theorem dX5_tells_48 : decode cX5_tells 48 = .ok (.ireturn, 1) := by decide +kernel
set_option maxRecDepth 20000 in
theorem ggX5_gives_X0_hasNote : GoodIn wsX5_gives wsX0_hasNote := goodIn_r _ [8, 9, 10, 63, 64, 65, 66, 67, 68, 69] (by decide +kernel) (by decide +kernel)
set_option maxRecDepth 20000 in
theorem gX5_gives_X0_hasNote : GoodIn wsX5_gives (wsV RX5 70 RX0 yX0_hasNote wsX0_hasNote) := goodIn_app (goodIn_of _ (by decide +kernel)) ggX5_gives_X0_hasNote
set_option maxRecDepth 20000 in
theorem ggX5_gives_X5_isHand : GoodIn wsX5_gives wsX5_isHand := goodIn_r _ [14] (by decide +kernel) (by decide +kernel)
set_option maxRecDepth 20000 in
theorem gX5_gives_X5_isHand : GoodIn wsX5_gives (va_wsS RX5 73 yX5_isHand wsX5_isHand) := goodIn_app (goodIn_of _ (by decide +kernel)) ggX5_gives_X5_isHand
set_option maxRecDepth 20000 in
theorem ggX5_gives_X0_handAt : GoodIn wsX5_gives wsX0_handAt := goodIn_r _ [18, 19, 63, 64, 65, 66, 67, 68, 69] (by decide +kernel) (by decide +kernel)
set_option maxRecDepth 20000 in
theorem gX5_gives_X0_handAt : GoodIn wsX5_gives (wsV RX5 76 RX0 yX0_handAt wsX0_handAt) := goodIn_app (goodIn_of _ (by decide +kernel)) ggX5_gives_X0_handAt
set_option maxRecDepth 20000 in
theorem ggX5_gives_X1_remember : GoodIn wsX5_gives wsX1_remember := goodIn_r _ [24, 25, 26, 27, 28, 29, 23, 30, 31, 32, 33, 7, 34, 35, 36, 37, 38, 39, 9, 10, 19, 40, 41, 42, 70, 71, 63, 64, 65, 66, 67, 68, 69] (by decide +kernel) (by decide +kernel)
set_option maxRecDepth 20000 in
theorem gX5_gives_X1_remember : GoodIn wsX5_gives (wsV RX5 60 RX1 yX1_remember wsX1_remember) := goodIn_app (goodIn_of _ (by decide +kernel)) ggX5_gives_X1_remember
set_option maxRecDepth 20000 in
theorem ggX5_gives_X0_notesOf : GoodIn wsX5_gives wsX0_notesOf := goodIn_r _ [46, 10, 19, 63, 64, 65, 66, 67, 68, 69] (by decide +kernel) (by decide +kernel)
set_option maxRecDepth 20000 in
theorem gX5_gives_X0_notesOf : GoodIn wsX5_gives (wsV RX5 83 RX0 yX0_notesOf wsX0_notesOf) := goodIn_app (goodIn_of _ (by decide +kernel)) ggX5_gives_X0_notesOf
set_option maxRecDepth 20000 in
theorem ggX5_gives_J6_bitCount_0f7a4 : GoodIn wsX5_gives wsJ6_bitCount_0f7a4 := goodIn_r _ [50, 51, 52, 53] (by decide +kernel) (by decide +kernel)
set_option maxRecDepth 20000 in
theorem gX5_gives_J6_bitCount_0f7a4 : GoodIn wsX5_gives (va_wsS RX5 86 yJ6_bitCount_0f7a4 wsJ6_bitCount_0f7a4) := goodIn_app (goodIn_of _ (by decide +kernel)) ggX5_gives_J6_bitCount_0f7a4
theorem dX5_gives_0 : decode cX5_gives 0 = .ok (.aload_n 0, 1) := by decide +kernel
theorem dX5_gives_1 : decode cX5_gives 1 = .ok (.getfield 10, 3) := by decide +kernel
theorem dX5_gives_4 : decode cX5_gives 4 = .ok (.iload_n 1, 1) := by decide +kernel
theorem dX5_gives_5 : decode cX5_gives 5 = .ok (.invokevirtual 70, 3) := by decide +kernel
theorem dX5_gives_8 : decode cX5_gives 8 = .ok (.ifCond .eq 10, 3) := by decide +kernel
theorem dX5_gives_11 : decode cX5_gives 11 = .ok (.iload_n 2, 1) := by decide +kernel
theorem dX5_gives_12 : decode cX5_gives 12 = .ok (.invokestatic 73, 3) := by decide +kernel
theorem dX5_gives_15 : decode cX5_gives 15 = .ok (.ifCond .ne 5, 3) := by decide +kernel
theorem dX5_gives_18 : decode cX5_gives 18 = .ok (.iconst (-1), 1) := by decide +kernel
theorem dX5_gives_19 : decode cX5_gives 19 = .ok (.ireturn, 1) := by decide +kernel
theorem dX5_gives_20 : decode cX5_gives 20 = .ok (.aload_n 0, 1) := by decide +kernel
theorem dX5_gives_21 : decode cX5_gives 21 = .ok (.getfield 10, 3) := by decide +kernel
theorem dX5_gives_24 : decode cX5_gives 24 = .ok (.iload_n 1, 1) := by decide +kernel
theorem dX5_gives_25 : decode cX5_gives 25 = .ok (.invokevirtual 76, 3) := by decide +kernel
theorem dX5_gives_28 : decode cX5_gives 28 = .ok (.iload_n 2, 1) := by decide +kernel
theorem dX5_gives_29 : decode cX5_gives 29 = .ok (.if_icmp .ne 6, 3) := by decide +kernel
theorem dX5_gives_32 : decode cX5_gives 32 = .ok (.bipush (-2), 2) := by decide +kernel
theorem dX5_gives_34 : decode cX5_gives 34 = .ok (.ireturn, 1) := by decide +kernel
theorem dX5_gives_35 : decode cX5_gives 35 = .ok (.aload_n 0, 1) := by decide +kernel
theorem dX5_gives_36 : decode cX5_gives 36 = .ok (.getfield 26, 3) := by decide +kernel
theorem dX5_gives_39 : decode cX5_gives 39 = .ok (.aload_n 0, 1) := by decide +kernel
theorem dX5_gives_40 : decode cX5_gives 40 = .ok (.getfield 10, 3) := by decide +kernel
theorem dX5_gives_43 : decode cX5_gives 43 = .ok (.invokevirtual 60, 3) := by decide +kernel
theorem dX5_gives_46 : decode cX5_gives 46 = .ok (.aload_n 0, 1) := by decide +kernel
theorem dX5_gives_47 : decode cX5_gives 47 = .ok (.getfield 10, 3) := by decide +kernel
theorem dX5_gives_50 : decode cX5_gives 50 = .ok (.dup, 1) := by decide +kernel
theorem dX5_gives_51 : decode cX5_gives 51 = .ok (.getfield 80, 3) := by decide +kernel
theorem dX5_gives_54 : decode cX5_gives 54 = .ok (.iconst 1, 1) := by decide +kernel
theorem dX5_gives_55 : decode cX5_gives 55 = .ok (.iload_n 1, 1) := by decide +kernel
theorem dX5_gives_56 : decode cX5_gives 56 = .ok (.ishl, 1) := by decide +kernel
theorem dX5_gives_57 : decode cX5_gives 57 = .ok (.ixor, 1) := by decide +kernel
theorem dX5_gives_58 : decode cX5_gives 58 = .ok (.putfield 80, 3) := by decide +kernel
theorem dX5_gives_61 : decode cX5_gives 61 = .ok (.aload_n 0, 1) := by decide +kernel
theorem dX5_gives_62 : decode cX5_gives 62 = .ok (.getfield 10, 3) := by decide +kernel
theorem dX5_gives_65 : decode cX5_gives 65 = .ok (.iload_n 2, 1) := by decide +kernel
theorem dX5_gives_66 : decode cX5_gives 66 = .ok (.invokevirtual 83, 3) := by decide +kernel
theorem dX5_gives_69 : decode cX5_gives 69 = .ok (.invokestatic 86, 3) := by decide +kernel
theorem dX5_gives_72 : decode cX5_gives 72 = .ok (.ireturn, 1) := by decide +kernel
set_option maxRecDepth 20000 in
theorem ggX5_flips_X0_hasTick : GoodIn wsX5_flips wsX0_hasTick := goodIn_r _ [9, 10, 56, 57, 58, 59, 60, 61, 62] (by decide +kernel) (by decide +kernel)
set_option maxRecDepth 20000 in
theorem gX5_flips_X0_hasTick : GoodIn wsX5_flips (wsV RX5 91 RX0 yX0_hasTick wsX0_hasTick) := goodIn_app (goodIn_of _ (by decide +kernel)) ggX5_flips_X0_hasTick
set_option maxRecDepth 20000 in
theorem ggX5_flips_X5_ticksFrom : GoodIn wsX5_flips wsX5_ticksFrom := goodIn_r _ [14] (by decide +kernel) (by decide +kernel)
set_option maxRecDepth 20000 in
theorem gX5_flips_X5_ticksFrom : GoodIn wsX5_flips (va_wsS RX5 97 yX5_ticksFrom wsX5_ticksFrom) := goodIn_app (goodIn_of _ (by decide +kernel)) ggX5_flips_X5_ticksFrom
set_option maxRecDepth 20000 in
theorem ggX5_flips_X1_remember : GoodIn wsX5_flips wsX1_remember := goodIn_r _ [19, 20, 21, 22, 23, 24, 18, 25, 26, 27, 28, 8, 29, 30, 31, 32, 33, 34, 10, 35, 36, 37, 38, 39, 63, 64, 56, 57, 58, 59, 60, 61, 62] (by decide +kernel) (by decide +kernel)
set_option maxRecDepth 20000 in
theorem gX5_flips_X1_remember : GoodIn wsX5_flips (wsV RX5 60 RX1 yX1_remember wsX1_remember) := goodIn_app (goodIn_of _ (by decide +kernel)) ggX5_flips_X1_remember
set_option maxRecDepth 20000 in
theorem ggX5_flips_J6_bitCount_0f7a4 : GoodIn wsX5_flips wsJ6_bitCount_0f7a4 := goodIn_r _ [43, 44, 45, 46] (by decide +kernel) (by decide +kernel)
set_option maxRecDepth 20000 in
theorem gX5_flips_J6_bitCount_0f7a4 : GoodIn wsX5_flips (va_wsS RX5 86 yJ6_bitCount_0f7a4 wsJ6_bitCount_0f7a4) := goodIn_app (goodIn_of _ (by decide +kernel)) ggX5_flips_J6_bitCount_0f7a4
theorem dX5_flips_0 : decode cX5_flips 0 = .ok (.aload_n 0, 1) := by decide +kernel
theorem dX5_flips_1 : decode cX5_flips 1 = .ok (.getfield 10, 3) := by decide +kernel
theorem dX5_flips_4 : decode cX5_flips 4 = .ok (.iload_n 1, 1) := by decide +kernel
theorem dX5_flips_5 : decode cX5_flips 5 = .ok (.invokevirtual 91, 3) := by decide +kernel
theorem dX5_flips_8 : decode cX5_flips 8 = .ok (.ifCond .eq 19, 3) := by decide +kernel
theorem dX5_flips_11 : decode cX5_flips 11 = .ok (.aload_n 0, 1) := by decide +kernel
theorem dX5_flips_12 : decode cX5_flips 12 = .ok (.getfield 10, 3) := by decide +kernel
theorem dX5_flips_15 : decode cX5_flips 15 = .ok (.iload_n 2, 1) := by decide +kernel
theorem dX5_flips_16 : decode cX5_flips 16 = .ok (.invokevirtual 91, 3) := by decide +kernel
theorem dX5_flips_19 : decode cX5_flips 19 = .ok (.ifCond .eq 8, 3) := by decide +kernel
theorem dX5_flips_22 : decode cX5_flips 22 = .ok (.iload_n 2, 1) := by decide +kernel
theorem dX5_flips_23 : decode cX5_flips 23 = .ok (.iload_n 1, 1) := by decide +kernel
theorem dX5_flips_24 : decode cX5_flips 24 = .ok (.if_icmp .ge 5, 3) := by decide +kernel
theorem dX5_flips_27 : decode cX5_flips 27 = .ok (.iconst (-1), 1) := by decide +kernel
theorem dX5_flips_28 : decode cX5_flips 28 = .ok (.ireturn, 1) := by decide +kernel
theorem dX5_flips_29 : decode cX5_flips 29 = .ok (.aload_n 0, 1) := by decide +kernel
theorem dX5_flips_30 : decode cX5_flips 30 = .ok (.getfield 10, 3) := by decide +kernel
theorem dX5_flips_33 : decode cX5_flips 33 = .ok (.getfield 94, 3) := by decide +kernel
theorem dX5_flips_36 : decode cX5_flips 36 = .ok (.iload_n 1, 1) := by decide +kernel
theorem dX5_flips_37 : decode cX5_flips 37 = .ok (.iload_n 2, 1) := by decide +kernel
theorem dX5_flips_38 : decode cX5_flips 38 = .ok (.iconst 1, 1) := by decide +kernel
theorem dX5_flips_39 : decode cX5_flips 39 = .ok (.iadd, 1) := by decide +kernel
theorem dX5_flips_40 : decode cX5_flips 40 = .ok (.iload_n 1, 1) := by decide +kernel
theorem dX5_flips_41 : decode cX5_flips 41 = .ok (.isub, 1) := by decide +kernel
theorem dX5_flips_42 : decode cX5_flips 42 = .ok (.invokestatic 97, 3) := by decide +kernel
theorem dX5_flips_45 : decode cX5_flips 45 = .ok (.iand, 1) := by decide +kernel
theorem dX5_flips_46 : decode cX5_flips 46 = .ok (.istore_n 3, 1) := by decide +kernel
theorem dX5_flips_47 : decode cX5_flips 47 = .ok (.iload_n 3, 1) := by decide +kernel
theorem dX5_flips_48 : decode cX5_flips 48 = .ok (.ifCond .ne 6, 3) := by decide +kernel
theorem dX5_flips_51 : decode cX5_flips 51 = .ok (.bipush (-2), 2) := by decide +kernel
theorem dX5_flips_53 : decode cX5_flips 53 = .ok (.ireturn, 1) := by decide +kernel
theorem dX5_flips_54 : decode cX5_flips 54 = .ok (.aload_n 0, 1) := by decide +kernel
theorem dX5_flips_55 : decode cX5_flips 55 = .ok (.getfield 26, 3) := by decide +kernel
theorem dX5_flips_58 : decode cX5_flips 58 = .ok (.aload_n 0, 1) := by decide +kernel
theorem dX5_flips_59 : decode cX5_flips 59 = .ok (.getfield 10, 3) := by decide +kernel
theorem dX5_flips_62 : decode cX5_flips 62 = .ok (.invokevirtual 60, 3) := by decide +kernel
theorem dX5_flips_65 : decode cX5_flips 65 = .ok (.aload_n 0, 1) := by decide +kernel
theorem dX5_flips_66 : decode cX5_flips 66 = .ok (.getfield 10, 3) := by decide +kernel
theorem dX5_flips_69 : decode cX5_flips 69 = .ok (.dup, 1) := by decide +kernel
theorem dX5_flips_70 : decode cX5_flips 70 = .ok (.getfield 80, 3) := by decide +kernel
theorem dX5_flips_73 : decode cX5_flips 73 = .ok (.iload_n 3, 1) := by decide +kernel
theorem dX5_flips_74 : decode cX5_flips 74 = .ok (.ixor, 1) := by decide +kernel
theorem dX5_flips_75 : decode cX5_flips 75 = .ok (.putfield 80, 3) := by decide +kernel
theorem dX5_flips_78 : decode cX5_flips 78 = .ok (.iload_n 3, 1) := by decide +kernel
theorem dX5_flips_79 : decode cX5_flips 79 = .ok (.invokestatic 86, 3) := by decide +kernel
theorem dX5_flips_82 : decode cX5_flips 82 = .ok (.ireturn, 1) := by decide +kernel
set_option maxRecDepth 20000 in
theorem ggX5_mends_X5_mendingChanges : GoodIn wsX5_mends wsX5_mendingChanges := goodIn_r _ [10, 3, 2, 4, 5, 11, 12, 13, 14, 15, 16, 17, 18, 19, 20, 21, 22, 23, 24, 25, 26, 27, 28, 29, 30, 31, 32, 33, 34, 35, 36, 37, 38, 39, 40, 41, 42, 43, 44, 45, 46, 47, 48, 49, 50, 51, 52, 53, 54, 55, 56, 57, 58, 59, 60, 61, 62, 63, 64, 65, 66, 67, 68, 69, 70, 71, 72, 73, 74, 75, 76, 77, 78, 79, 80, 81, 82, 83, 84, 85, 86, 87, 88, 89, 90, 91, 92, 93, 94, 95, 96, 109, 110, 111, 112, 113, 114, 115, 116, 117, 118, 119, 120, 121, 122, 123, 124, 125, 126, 127, 128] (by decide +kernel) (by decide +kernel)
set_option maxRecDepth 20000 in
theorem gX5_mends_X5_mendingChanges : GoodIn wsX5_mends (wsV RX5 101 RX5 yX5_mendingChanges wsX5_mendingChanges) := goodIn_app (goodIn_of _ (by decide +kernel)) ggX5_mends_X5_mendingChanges
set_option maxRecDepth 20000 in
theorem ggX5_mends_X1_remember : GoodIn wsX5_mends wsX1_remember := goodIn_r _ [101, 102, 103, 104, 105, 106, 100, 107, 108, 18, 19, 20, 21, 22, 23, 24, 25, 26, 27, 28, 29, 30, 31, 32, 129, 130, 122, 123, 124, 125, 126, 127, 128] (by decide +kernel) (by decide +kernel)
set_option maxRecDepth 20000 in
theorem gX5_mends_X1_remember : GoodIn wsX5_mends (wsV RX5 60 RX1 yX1_remember wsX1_remember) := goodIn_app (goodIn_of _ (by decide +kernel)) ggX5_mends_X1_remember
theorem dX5_mends_0 : decode cX5_mends 0 = .ok (.aload_n 0, 1) := by decide +kernel
theorem dX5_mends_1 : decode cX5_mends 1 = .ok (.invokevirtual 101, 3) := by decide +kernel
theorem dX5_mends_4 : decode cX5_mends 4 = .ok (.istore_n 1, 1) := by decide +kernel
theorem dX5_mends_5 : decode cX5_mends 5 = .ok (.iload_n 1, 1) := by decide +kernel
theorem dX5_mends_6 : decode cX5_mends 6 = .ok (.ifCond .gt 6, 3) := by decide +kernel
theorem dX5_mends_9 : decode cX5_mends 9 = .ok (.bipush (-2), 2) := by decide +kernel
theorem dX5_mends_11 : decode cX5_mends 11 = .ok (.ireturn, 1) := by decide +kernel
theorem dX5_mends_12 : decode cX5_mends 12 = .ok (.aload_n 0, 1) := by decide +kernel
theorem dX5_mends_13 : decode cX5_mends 13 = .ok (.getfield 26, 3) := by decide +kernel
theorem dX5_mends_16 : decode cX5_mends 16 = .ok (.aload_n 0, 1) := by decide +kernel
theorem dX5_mends_17 : decode cX5_mends 17 = .ok (.getfield 10, 3) := by decide +kernel
theorem dX5_mends_20 : decode cX5_mends 20 = .ok (.invokevirtual 60, 3) := by decide +kernel
theorem dX5_mends_23 : decode cX5_mends 23 = .ok (.aload_n 0, 1) := by decide +kernel
theorem dX5_mends_24 : decode cX5_mends 24 = .ok (.getfield 10, 3) := by decide +kernel
theorem dX5_mends_27 : decode cX5_mends 27 = .ok (.aload_n 0, 1) := by decide +kernel
theorem dX5_mends_28 : decode cX5_mends 28 = .ok (.getfield 33, 3) := by decide +kernel
theorem dX5_mends_31 : decode cX5_mends 31 = .ok (.getfield 104, 3) := by decide +kernel
theorem dX5_mends_34 : decode cX5_mends 34 = .ok (.putfield 80, 3) := by decide +kernel
theorem dX5_mends_37 : decode cX5_mends 37 = .ok (.iload_n 1, 1) := by decide +kernel
theorem dX5_mends_38 : decode cX5_mends 38 = .ok (.ireturn, 1) := by decide +kernel
set_option maxRecDepth 20000 in
theorem ggX5_sets_X5_isNumber : GoodIn wsX5_sets wsX5_isNumber := goodIn_r _ [6, 7, 8] (by decide +kernel) (by decide +kernel)
set_option maxRecDepth 20000 in
theorem gX5_sets_X5_isNumber : GoodIn wsX5_sets (va_wsS RX5 107 yX5_isNumber wsX5_isNumber) := goodIn_app (goodIn_of _ (by decide +kernel)) ggX5_sets_X5_isNumber
set_option maxRecDepth 20000 in
theorem ggX5_sets_X0_number : GoodIn wsX5_sets wsX0_number := goodIn_r _ [13, 14, 15, 16, 53, 54, 55, 56, 57, 58, 59] (by decide +kernel) (by decide +kernel)
set_option maxRecDepth 20000 in
theorem gX5_sets_X0_number : GoodIn wsX5_sets (wsV RX5 111 RX0 yX0_number wsX0_number) := goodIn_app (goodIn_of _ (by decide +kernel)) ggX5_sets_X0_number
set_option maxRecDepth 20000 in
theorem ggX5_sets_X1_remember : GoodIn wsX5_sets wsX1_remember := goodIn_r _ [21, 22, 23, 24, 25, 26, 20, 27, 28, 29, 30, 12, 31, 32, 33, 34, 35, 36, 37, 38, 39, 14, 15, 16, 60, 61, 53, 54, 55, 56, 57, 58, 59] (by decide +kernel) (by decide +kernel)
set_option maxRecDepth 20000 in
theorem gX5_sets_X1_remember : GoodIn wsX5_sets (wsV RX5 60 RX1 yX1_remember wsX1_remember) := goodIn_app (goodIn_of _ (by decide +kernel)) ggX5_sets_X1_remember
set_option maxRecDepth 20000 in
theorem ggX5_sets_X0_setNumber : GoodIn wsX5_sets wsX0_setNumber := goodIn_r _ [43, 14, 15, 16, 53, 54, 55, 56, 57, 58, 59] (by decide +kernel) (by decide +kernel)
set_option maxRecDepth 20000 in
theorem gX5_sets_X0_setNumber : GoodIn wsX5_sets (wsV RX5 114 RX0 yX0_setNumber wsX0_setNumber) := goodIn_app (goodIn_of _ (by decide +kernel)) ggX5_sets_X0_setNumber
theorem dX5_sets_0 : decode cX5_sets 0 = .ok (.iload_n 1, 1) := by decide +kernel
theorem dX5_sets_1 : decode cX5_sets 1 = .ok (.iload_n 2, 1) := by decide +kernel
theorem dX5_sets_2 : decode cX5_sets 2 = .ok (.invokestatic 107, 3) := by decide +kernel
theorem dX5_sets_5 : decode cX5_sets 5 = .ok (.ifCond .ne 5, 3) := by decide +kernel
theorem dX5_sets_8 : decode cX5_sets 8 = .ok (.iconst (-1), 1) := by decide +kernel
theorem dX5_sets_9 : decode cX5_sets 9 = .ok (.ireturn, 1) := by decide +kernel
theorem dX5_sets_10 : decode cX5_sets 10 = .ok (.aload_n 0, 1) := by decide +kernel
theorem dX5_sets_11 : decode cX5_sets 11 = .ok (.getfield 10, 3) := by decide +kernel
theorem dX5_sets_14 : decode cX5_sets 14 = .ok (.iload_n 1, 1) := by decide +kernel
theorem dX5_sets_15 : decode cX5_sets 15 = .ok (.invokevirtual 111, 3) := by decide +kernel
theorem dX5_sets_18 : decode cX5_sets 18 = .ok (.istore_n 3, 1) := by decide +kernel
theorem dX5_sets_19 : decode cX5_sets 19 = .ok (.iload_n 3, 1) := by decide +kernel
theorem dX5_sets_20 : decode cX5_sets 20 = .ok (.iload_n 2, 1) := by decide +kernel
theorem dX5_sets_21 : decode cX5_sets 21 = .ok (.if_icmp .ne 6, 3) := by decide +kernel
theorem dX5_sets_24 : decode cX5_sets 24 = .ok (.bipush (-2), 2) := by decide +kernel
theorem dX5_sets_26 : decode cX5_sets 26 = .ok (.ireturn, 1) := by decide +kernel
theorem dX5_sets_27 : decode cX5_sets 27 = .ok (.aload_n 0, 1) := by decide +kernel
theorem dX5_sets_28 : decode cX5_sets 28 = .ok (.getfield 26, 3) := by decide +kernel
theorem dX5_sets_31 : decode cX5_sets 31 = .ok (.aload_n 0, 1) := by decide +kernel
theorem dX5_sets_32 : decode cX5_sets 32 = .ok (.getfield 10, 3) := by decide +kernel
theorem dX5_sets_35 : decode cX5_sets 35 = .ok (.invokevirtual 60, 3) := by decide +kernel
theorem dX5_sets_38 : decode cX5_sets 38 = .ok (.aload_n 0, 1) := by decide +kernel
theorem dX5_sets_39 : decode cX5_sets 39 = .ok (.getfield 10, 3) := by decide +kernel
theorem dX5_sets_42 : decode cX5_sets 42 = .ok (.iload_n 1, 1) := by decide +kernel
theorem dX5_sets_43 : decode cX5_sets 43 = .ok (.iload_n 2, 1) := by decide +kernel
theorem dX5_sets_44 : decode cX5_sets 44 = .ok (.invokevirtual 114, 3) := by decide +kernel
theorem dX5_sets_47 : decode cX5_sets 47 = .ok (.iload_n 3, 1) := by decide +kernel
theorem dX5_sets_48 : decode cX5_sets 48 = .ok (.ireturn, 1) := by decide +kernel
set_option maxRecDepth 20000 in
theorem ggX5_undo_X1_recall : GoodIn wsX5_undo wsX1_recall := goodIn_r _ [8, 9, 10, 11, 12, 13, 14, 15, 16, 17, 18, 19, 20, 21, 22, 23, 24, 25, 26, 36, 37, 38, 39, 40, 41, 42, 43, 44] (by decide +kernel) (by decide +kernel)
set_option maxRecDepth 20000 in
theorem gX5_undo_X1_recall : GoodIn wsX5_undo (wsV RX5 118 RX1 yX1_recall wsX1_recall) := goodIn_app (goodIn_of _ (by decide +kernel)) ggX5_undo_X1_recall
theorem dX5_undo_0 : decode cX5_undo 0 = .ok (.aload_n 0, 1) := by decide +kernel
theorem dX5_undo_1 : decode cX5_undo 1 = .ok (.getfield 26, 3) := by decide +kernel
theorem dX5_undo_4 : decode cX5_undo 4 = .ok (.aload_n 0, 1) := by decide +kernel
theorem dX5_undo_5 : decode cX5_undo 5 = .ok (.getfield 10, 3) := by decide +kernel
theorem dX5_undo_8 : decode cX5_undo 8 = .ok (.invokevirtual 118, 3) := by decide +kernel
theorem dX5_undo_11 : decode cX5_undo 11 = .ok (.ifCond .eq 13, 3) := by decide +kernel
theorem dX5_undo_14 : decode cX5_undo 14 = .ok (.aload_n 0, 1) := by decide +kernel
theorem dX5_undo_15 : decode cX5_undo 15 = .ok (.getfield 26, 3) := by decide +kernel
theorem dX5_undo_18 : decode cX5_undo 18 = .ok (.getfield 122, 3) := by decide +kernel
theorem dX5_undo_21 : decode cX5_undo 21 = .ok (.goto 5, 3) := by decide +kernel
theorem dX5_undo_24 : decode cX5_undo 24 = .ok (.bipush (-2), 2) := by decide +kernel
theorem dX5_undo_26 : decode cX5_undo 26 = .ok (.ireturn, 1) := by decide +kernel
set_option maxRecDepth 20000 in
theorem ggX5_tick_X0_hasTick : GoodIn wsX5_tick wsX0_hasTick := goodIn_r _ [6, 7, 61, 62, 63, 64, 65, 66, 67] (by decide +kernel) (by decide +kernel)
set_option maxRecDepth 20000 in
theorem gX5_tick_X0_hasTick : GoodIn wsX5_tick (wsV RX5 91 RX0 yX0_hasTick wsX0_hasTick) := goodIn_app (goodIn_of _ (by decide +kernel)) ggX5_tick_X0_hasTick
set_option maxRecDepth 20000 in
theorem ggX5_tick_X0_pitchAt : GoodIn wsX5_tick wsX0_pitchAt := goodIn_r _ [11, 12, 61, 62, 63, 64, 65, 66, 67] (by decide +kernel) (by decide +kernel)
set_option maxRecDepth 20000 in
theorem gX5_tick_X0_pitchAt : GoodIn wsX5_tick (wsV RX5 125 RX0 yX0_pitchAt wsX0_pitchAt) := goodIn_app (goodIn_of _ (by decide +kernel)) ggX5_tick_X0_pitchAt
set_option maxRecDepth 20000 in
theorem ggX5_tick_X0_hasNote : GoodIn wsX5_tick wsX0_hasNote := goodIn_r _ [16, 7, 17, 61, 62, 63, 64, 65, 66, 67] (by decide +kernel) (by decide +kernel)
set_option maxRecDepth 20000 in
theorem gX5_tick_X0_hasNote : GoodIn wsX5_tick (wsV RX5 70 RX0 yX0_hasNote wsX0_hasNote) := goodIn_app (goodIn_of _ (by decide +kernel)) ggX5_tick_X0_hasNote
set_option maxRecDepth 20000 in
theorem ggX5_tick_X0_handAt : GoodIn wsX5_tick wsX0_handAt := goodIn_r _ [21, 22, 61, 62, 63, 64, 65, 66, 67] (by decide +kernel) (by decide +kernel)
set_option maxRecDepth 20000 in
theorem gX5_tick_X0_handAt : GoodIn wsX5_tick (wsV RX5 76 RX0 yX0_handAt wsX0_handAt) := goodIn_app (goodIn_of _ (by decide +kernel)) ggX5_tick_X0_handAt
set_option maxRecDepth 20000 in
theorem ggX5_tick_X0_isSoonBehind : GoodIn wsX5_tick wsX0_isSoonBehind := goodIn_r _ [26, 27, 28, 29, 5, 30, 7, 31, 14, 15, 16, 17, 32, 19, 20, 21, 22, 33, 34, 35, 36, 37, 61, 62, 63, 64, 65, 66, 67] (by decide +kernel) (by decide +kernel)
set_option maxRecDepth 20000 in
theorem gX5_tick_X0_isSoonBehind : GoodIn wsX5_tick (wsV RX5 128 RX0 yX0_isSoonBehind wsX0_isSoonBehind) := goodIn_app (goodIn_of _ (by decide +kernel)) ggX5_tick_X0_isSoonBehind
set_option maxRecDepth 20000 in
theorem ggX5_tick_X0_isFarBehind : GoodIn wsX5_tick wsX0_isFarBehind := goodIn_r _ [41, 27, 28, 29, 5, 30, 7, 31, 14, 15, 16, 17, 32, 19, 20, 21, 22, 42, 43, 44, 45, 46, 47, 48, 49, 50, 51, 9, 10, 11, 12, 61, 62, 63, 64, 65, 66, 67] (by decide +kernel) (by decide +kernel)
set_option maxRecDepth 20000 in
theorem gX5_tick_X0_isFarBehind : GoodIn wsX5_tick (wsV RX5 131 RX0 yX0_isFarBehind wsX0_isFarBehind) := goodIn_app (goodIn_of _ (by decide +kernel)) ggX5_tick_X0_isFarBehind
theorem dX5_tick_0 : decode cX5_tick 0 = .ok (.aload_n 0, 1) := by decide +kernel
theorem dX5_tick_1 : decode cX5_tick 1 = .ok (.getfield 10, 3) := by decide +kernel
theorem dX5_tick_4 : decode cX5_tick 4 = .ok (.iload_n 1, 1) := by decide +kernel
theorem dX5_tick_5 : decode cX5_tick 5 = .ok (.invokevirtual 91, 3) := by decide +kernel
theorem dX5_tick_8 : decode cX5_tick 8 = .ok (.ifCond .ne 5, 3) := by decide +kernel
theorem dX5_tick_11 : decode cX5_tick 11 = .ok (.iconst (-1), 1) := by decide +kernel
theorem dX5_tick_12 : decode cX5_tick 12 = .ok (.ireturn, 1) := by decide +kernel
theorem dX5_tick_13 : decode cX5_tick 13 = .ok (.iload_n 2, 1) := by decide +kernel
theorem dX5_tick_14 : decode cX5_tick 14 = .ok (.tableswitch 98 0 3 #[30, 39, 64, 81], 30) := by decide +kernel
theorem dX5_tick_44 : decode cX5_tick 44 = .ok (.aload_n 0, 1) := by decide +kernel
theorem dX5_tick_45 : decode cX5_tick 45 = .ok (.getfield 10, 3) := by decide +kernel
theorem dX5_tick_48 : decode cX5_tick 48 = .ok (.iload_n 1, 1) := by decide +kernel
theorem dX5_tick_49 : decode cX5_tick 49 = .ok (.invokevirtual 125, 3) := by decide +kernel
theorem dX5_tick_52 : decode cX5_tick 52 = .ok (.ireturn, 1) := by decide +kernel
theorem dX5_tick_53 : decode cX5_tick 53 = .ok (.aload_n 0, 1) := by decide +kernel
theorem dX5_tick_54 : decode cX5_tick 54 = .ok (.getfield 10, 3) := by decide +kernel
theorem dX5_tick_57 : decode cX5_tick 57 = .ok (.iload_n 1, 1) := by decide +kernel
theorem dX5_tick_58 : decode cX5_tick 58 = .ok (.invokevirtual 70, 3) := by decide +kernel
theorem dX5_tick_61 : decode cX5_tick 61 = .ok (.ifCond .eq 14, 3) := by decide +kernel
theorem dX5_tick_64 : decode cX5_tick 64 = .ok (.aload_n 0, 1) := by decide +kernel
theorem dX5_tick_65 : decode cX5_tick 65 = .ok (.getfield 10, 3) := by decide +kernel
theorem dX5_tick_68 : decode cX5_tick 68 = .ok (.iload_n 1, 1) := by decide +kernel
theorem dX5_tick_69 : decode cX5_tick 69 = .ok (.invokevirtual 76, 3) := by decide +kernel
theorem dX5_tick_72 : decode cX5_tick 72 = .ok (.goto 5, 3) := by decide +kernel
theorem dX5_tick_75 : decode cX5_tick 75 = .ok (.bipush (-9), 2) := by decide +kernel
theorem dX5_tick_77 : decode cX5_tick 77 = .ok (.ireturn, 1) := by decide +kernel
theorem dX5_tick_78 : decode cX5_tick 78 = .ok (.aload_n 0, 1) := by decide +kernel
theorem dX5_tick_79 : decode cX5_tick 79 = .ok (.getfield 10, 3) := by decide +kernel
theorem dX5_tick_82 : decode cX5_tick 82 = .ok (.iload_n 1, 1) := by decide +kernel
theorem dX5_tick_83 : decode cX5_tick 83 = .ok (.invokevirtual 128, 3) := by decide +kernel
theorem dX5_tick_86 : decode cX5_tick 86 = .ok (.ifCond .eq 7, 3) := by decide +kernel
theorem dX5_tick_89 : decode cX5_tick 89 = .ok (.iconst 1, 1) := by decide +kernel
theorem dX5_tick_90 : decode cX5_tick 90 = .ok (.goto 4, 3) := by decide +kernel
theorem dX5_tick_93 : decode cX5_tick 93 = .ok (.iconst 0, 1) := by decide +kernel
theorem dX5_tick_94 : decode cX5_tick 94 = .ok (.ireturn, 1) := by decide +kernel
theorem dX5_tick_95 : decode cX5_tick 95 = .ok (.aload_n 0, 1) := by decide +kernel
theorem dX5_tick_96 : decode cX5_tick 96 = .ok (.getfield 10, 3) := by decide +kernel
theorem dX5_tick_99 : decode cX5_tick 99 = .ok (.iload_n 1, 1) := by decide +kernel
theorem dX5_tick_100 : decode cX5_tick 100 = .ok (.invokevirtual 131, 3) := by decide +kernel
theorem dX5_tick_103 : decode cX5_tick 103 = .ok (.ifCond .eq 7, 3) := by decide +kernel
theorem dX5_tick_106 : decode cX5_tick 106 = .ok (.iconst 1, 1) := by decide +kernel
theorem dX5_tick_107 : decode cX5_tick 107 = .ok (.goto 4, 3) := by decide +kernel
theorem dX5_tick_110 : decode cX5_tick 110 = .ok (.iconst 0, 1) := by decide +kernel
theorem dX5_tick_111 : decode cX5_tick 111 = .ok (.ireturn, 1) := by decide +kernel
theorem dX5_tick_112 : decode cX5_tick 112 = .ok (.iconst (-1), 1) := by decide +kernel
theorem dX5_tick_113 : decode cX5_tick 113 = .ok (.ireturn, 1) := by decide +kernel
set_option maxRecDepth 20000 in
theorem ggX5_share_X0_countTooSoon : GoodIn wsX5_share wsX0_countTooSoon := goodIn_r _ [8, 9, 10, 11, 12, 7, 13, 14, 15, 16, 17, 18, 19, 20, 21, 22, 23, 24, 25, 26, 27, 28, 29, 30, 31, 32, 88, 89, 90, 91, 92, 93, 94] (by decide +kernel) (by decide +kernel)
set_option maxRecDepth 20000 in
theorem gX5_share_X0_countTooSoon : GoodIn wsX5_share (wsV RX5 134 RX0 yX0_countTooSoon wsX0_countTooSoon) := goodIn_app (goodIn_of _ (by decide +kernel)) ggX5_share_X0_countTooSoon
set_option maxRecDepth 20000 in
theorem ggX5_share_X0_countTooFar : GoodIn wsX5_share wsX0_countTooFar := goodIn_r _ [36, 9, 37, 38, 39, 7, 40, 14, 15, 16, 17, 18, 19, 20, 21, 22, 23, 24, 25, 26, 27, 41, 42, 43, 44, 45, 46, 47, 48, 49, 50, 51, 52, 53, 54, 88, 89, 90, 91, 92, 93, 94] (by decide +kernel) (by decide +kernel)
set_option maxRecDepth 20000 in
theorem gX5_share_X0_countTooFar : GoodIn wsX5_share (wsV RX5 137 RX0 yX0_countTooFar wsX0_countTooFar) := goodIn_app (goodIn_of _ (by decide +kernel)) ggX5_share_X0_countTooFar
set_option maxRecDepth 20000 in
theorem ggX5_share_X0_likeness : GoodIn wsX5_share wsX0_likeness := goodIn_r _ [58, 22, 59, 60, 61, 62, 63, 64, 65, 66, 88, 89, 90, 91, 92, 93, 94] (by decide +kernel) (by decide +kernel)
set_option maxRecDepth 20000 in
theorem gX5_share_X0_likeness : GoodIn wsX5_share (wsV RX5 140 RX0 yX0_likeness wsX0_likeness) := goodIn_app (goodIn_of _ (by decide +kernel)) ggX5_share_X0_likeness
set_option maxRecDepth 20000 in
theorem ggX5_share_X0_tilt : GoodIn wsX5_share wsX0_tilt := goodIn_r _ [70, 22, 60, 61, 62, 63, 64, 65, 66, 88, 89, 90, 91, 92, 93, 94] (by decide +kernel) (by decide +kernel)
set_option maxRecDepth 20000 in
theorem gX5_share_X0_tilt : GoodIn wsX5_share (wsV RX5 143 RX0 yX0_tilt wsX0_tilt) := goodIn_app (goodIn_of _ (by decide +kernel)) ggX5_share_X0_tilt
set_option maxRecDepth 20000 in
theorem ggX5_share_X0_isLawful : GoodIn wsX5_share wsX0_isLawful := goodIn_r _ [74, 9, 18, 19, 20, 7, 21, 22, 75, 76, 77, 78, 28, 29, 30, 31, 32, 41, 42, 43, 44, 45, 46, 47, 48, 49, 50, 51, 52, 53, 54, 88, 89, 90, 91, 92, 93, 94] (by decide +kernel) (by decide +kernel)
set_option maxRecDepth 20000 in
theorem gX5_share_X0_isLawful : GoodIn wsX5_share (wsV RX5 146 RX0 yX0_isLawful wsX0_isLawful) := goodIn_app (goodIn_of _ (by decide +kernel)) ggX5_share_X0_isLawful
theorem dX5_share_0 : decode cX5_share 0 = .ok (.iload_n 1, 1) := by decide +kernel
theorem dX5_share_1 : decode cX5_share 1 = .ok (.tableswitch 104 0 4 #[35, 43, 51, 66, 81], 35) := by decide +kernel
theorem dX5_share_36 : decode cX5_share 36 = .ok (.aload_n 0, 1) := by decide +kernel
theorem dX5_share_37 : decode cX5_share 37 = .ok (.getfield 10, 3) := by decide +kernel
theorem dX5_share_40 : decode cX5_share 40 = .ok (.invokevirtual 134, 3) := by decide +kernel
theorem dX5_share_43 : decode cX5_share 43 = .ok (.ireturn, 1) := by decide +kernel
theorem dX5_share_44 : decode cX5_share 44 = .ok (.aload_n 0, 1) := by decide +kernel
theorem dX5_share_45 : decode cX5_share 45 = .ok (.getfield 10, 3) := by decide +kernel
theorem dX5_share_48 : decode cX5_share 48 = .ok (.invokevirtual 137, 3) := by decide +kernel
theorem dX5_share_51 : decode cX5_share 51 = .ok (.ireturn, 1) := by decide +kernel
theorem dX5_share_52 : decode cX5_share 52 = .ok (.aload_n 0, 1) := by decide +kernel
theorem dX5_share_53 : decode cX5_share 53 = .ok (.getfield 10, 3) := by decide +kernel
theorem dX5_share_56 : decode cX5_share 56 = .ok (.aload_n 0, 1) := by decide +kernel
theorem dX5_share_57 : decode cX5_share 57 = .ok (.getfield 10, 3) := by decide +kernel
theorem dX5_share_60 : decode cX5_share 60 = .ok (.getfield 80, 3) := by decide +kernel
theorem dX5_share_63 : decode cX5_share 63 = .ok (.invokevirtual 140, 3) := by decide +kernel
theorem dX5_share_66 : decode cX5_share 66 = .ok (.ireturn, 1) := by decide +kernel
theorem dX5_share_67 : decode cX5_share 67 = .ok (.aload_n 0, 1) := by decide +kernel
theorem dX5_share_68 : decode cX5_share 68 = .ok (.getfield 10, 3) := by decide +kernel
theorem dX5_share_71 : decode cX5_share 71 = .ok (.aload_n 0, 1) := by decide +kernel
theorem dX5_share_72 : decode cX5_share 72 = .ok (.getfield 10, 3) := by decide +kernel
theorem dX5_share_75 : decode cX5_share 75 = .ok (.getfield 80, 3) := by decide +kernel
theorem dX5_share_78 : decode cX5_share 78 = .ok (.invokevirtual 143, 3) := by decide +kernel
theorem dX5_share_81 : decode cX5_share 81 = .ok (.ireturn, 1) := by decide +kernel
theorem dX5_share_82 : decode cX5_share 82 = .ok (.aload_n 0, 1) := by decide +kernel
theorem dX5_share_83 : decode cX5_share 83 = .ok (.getfield 10, 3) := by decide +kernel
theorem dX5_share_86 : decode cX5_share 86 = .ok (.aload_n 0, 1) := by decide +kernel
theorem dX5_share_87 : decode cX5_share 87 = .ok (.getfield 10, 3) := by decide +kernel
theorem dX5_share_90 : decode cX5_share 90 = .ok (.getfield 80, 3) := by decide +kernel
theorem dX5_share_93 : decode cX5_share 93 = .ok (.invokevirtual 146, 3) := by decide +kernel
theorem dX5_share_96 : decode cX5_share 96 = .ok (.ifCond .eq 7, 3) := by decide +kernel
theorem dX5_share_99 : decode cX5_share 99 = .ok (.iconst 1, 1) := by decide +kernel
theorem dX5_share_100 : decode cX5_share 100 = .ok (.goto 4, 3) := by decide +kernel
theorem dX5_share_103 : decode cX5_share 103 = .ok (.iconst 0, 1) := by decide +kernel
theorem dX5_share_104 : decode cX5_share 104 = .ok (.ireturn, 1) := by decide +kernel
theorem dX5_share_105 : decode cX5_share 105 = .ok (.ldc 149, 2) := by decide +kernel
theorem dX5_share_107 : decode cX5_share 107 = .ok (.ireturn, 1) := by decide +kernel
set_option maxRecDepth 20000 in
theorem ggX5_best_X2_lookAt : GoodIn wsX5_best wsX2_lookAt := goodIn_r _ [10, 11, 12, 13, 14, 15, 16, 17, 18, 19, 20, 21, 22, 23, 24, 25, 26, 27, 105, 106, 107, 108, 109, 110, 111, 112, 113, 114, 115] (by decide +kernel) (by decide +kernel)
set_option maxRecDepth 20000 in
theorem gX5_best_X2_lookAt : GoodIn wsX5_best (wsV RX5 150 RX2 yX2_lookAt wsX2_lookAt) := goodIn_app (goodIn_of _ (by decide +kernel)) ggX5_best_X2_lookAt
set_option maxRecDepth 20000 in
theorem ggX5_best_X2_find : GoodIn wsX5_best wsX2_find := goodIn_r _ [31, 32, 33, 34, 35, 36, 37, 38, 9, 39, 11, 40, 41, 42, 43, 44, 45, 46, 47, 48, 49, 50, 51, 15, 52, 23, 53, 54, 55, 56, 57, 58, 59, 60, 61, 62, 63, 22, 64, 65, 66, 67, 68, 69, 70, 71, 25, 72, 73, 74, 75, 76, 26, 77, 78, 79, 80, 17, 81, 82, 83, 84, 85, 86, 87, 88, 89, 90, 105, 106, 107, 108, 109, 110, 111, 112, 113, 114, 115] (by decide +kernel) (by decide +kernel)
set_option maxRecDepth 20000 in
theorem gX5_best_X2_find : GoodIn wsX5_best (wsV RX5 153 RX2 yX2_find wsX2_find) := goodIn_app (goodIn_of _ (by decide +kernel)) ggX5_best_X2_find
set_option maxRecDepth 20000 in
theorem ggX5_best_X0_likeness : GoodIn wsX5_best wsX0_likeness := goodIn_r _ [94, 23, 27, 53, 54, 55, 56, 57, 58, 59, 109, 110, 111, 112, 113, 114, 115] (by decide +kernel) (by decide +kernel)
set_option maxRecDepth 20000 in
theorem gX5_best_X0_likeness : GoodIn wsX5_best (wsV RX5 140 RX0 yX0_likeness wsX0_likeness) := goodIn_app (goodIn_of _ (by decide +kernel)) ggX5_best_X0_likeness
set_option maxRecDepth 20000 in
theorem ggX5_best_X0_tilt : GoodIn wsX5_best wsX0_tilt := goodIn_r _ [52, 23, 53, 54, 55, 56, 57, 58, 59, 109, 110, 111, 112, 113, 114, 115] (by decide +kernel) (by decide +kernel)
set_option maxRecDepth 20000 in
theorem gX5_best_X0_tilt : GoodIn wsX5_best (wsV RX5 143 RX0 yX0_tilt wsX0_tilt) := goodIn_app (goodIn_of _ (by decide +kernel)) ggX5_best_X0_tilt
theorem dX5_best_0 : decode cX5_best 0 = .ok (.iload_n 1, 1) := by decide +kernel
theorem dX5_best_1 : decode cX5_best 1 = .ok (.ifCond .lt 8, 3) := by decide +kernel
theorem dX5_best_4 : decode cX5_best 4 = .ok (.iload_n 1, 1) := by decide +kernel
theorem dX5_best_5 : decode cX5_best 5 = .ok (.iconst 2, 1) := by decide +kernel
theorem dX5_best_6 : decode cX5_best 6 = .ok (.if_icmp .le 6, 3) := by decide +kernel
theorem dX5_best_9 : decode cX5_best 9 = .ok (.ldc 149, 2) := by decide +kernel
theorem dX5_best_11 : decode cX5_best 11 = .ok (.ireturn, 1) := by decide +kernel
theorem dX5_best_12 : decode cX5_best 12 = .ok (.aload_n 0, 1) := by decide +kernel
theorem dX5_best_13 : decode cX5_best 13 = .ok (.getfield 33, 3) := by decide +kernel
theorem dX5_best_16 : decode cX5_best 16 = .ok (.aload_n 0, 1) := by decide +kernel
theorem dX5_best_17 : decode cX5_best 17 = .ok (.getfield 10, 3) := by decide +kernel
theorem dX5_best_20 : decode cX5_best 20 = .ok (.invokevirtual 150, 3) := by decide +kernel
theorem dX5_best_23 : decode cX5_best 23 = .ok (.aload_n 0, 1) := by decide +kernel
theorem dX5_best_24 : decode cX5_best 24 = .ok (.getfield 33, 3) := by decide +kernel
theorem dX5_best_27 : decode cX5_best 27 = .ok (.iconst 1, 1) := by decide +kernel
theorem dX5_best_28 : decode cX5_best 28 = .ok (.invokevirtual 153, 3) := by decide +kernel
theorem dX5_best_31 : decode cX5_best 31 = .ok (.ifCond .ne 6, 3) := by decide +kernel
theorem dX5_best_34 : decode cX5_best 34 = .ok (.ldc 156, 2) := by decide +kernel
theorem dX5_best_36 : decode cX5_best 36 = .ok (.ireturn, 1) := by decide +kernel
theorem dX5_best_37 : decode cX5_best 37 = .ok (.iload_n 1, 1) := by decide +kernel
theorem dX5_best_38 : decode cX5_best 38 = .ok (.lookupswitch 56 #[(0, 26), (1, 41)], 26) := by decide +kernel
theorem dX5_best_64 : decode cX5_best 64 = .ok (.aload_n 0, 1) := by decide +kernel
theorem dX5_best_65 : decode cX5_best 65 = .ok (.getfield 10, 3) := by decide +kernel
theorem dX5_best_68 : decode cX5_best 68 = .ok (.aload_n 0, 1) := by decide +kernel
theorem dX5_best_69 : decode cX5_best 69 = .ok (.getfield 33, 3) := by decide +kernel
theorem dX5_best_72 : decode cX5_best 72 = .ok (.getfield 104, 3) := by decide +kernel
theorem dX5_best_75 : decode cX5_best 75 = .ok (.invokevirtual 140, 3) := by decide +kernel
theorem dX5_best_78 : decode cX5_best 78 = .ok (.ireturn, 1) := by decide +kernel
theorem dX5_best_79 : decode cX5_best 79 = .ok (.aload_n 0, 1) := by decide +kernel
theorem dX5_best_80 : decode cX5_best 80 = .ok (.getfield 10, 3) := by decide +kernel
theorem dX5_best_83 : decode cX5_best 83 = .ok (.aload_n 0, 1) := by decide +kernel
theorem dX5_best_84 : decode cX5_best 84 = .ok (.getfield 33, 3) := by decide +kernel
theorem dX5_best_87 : decode cX5_best 87 = .ok (.getfield 104, 3) := by decide +kernel
theorem dX5_best_90 : decode cX5_best 90 = .ok (.invokevirtual 143, 3) := by decide +kernel
theorem dX5_best_93 : decode cX5_best 93 = .ok (.ireturn, 1) := by decide +kernel
theorem dX5_best_94 : decode cX5_best 94 = .ok (.aload_n 0, 1) := by decide +kernel
theorem dX5_best_95 : decode cX5_best 95 = .ok (.getfield 33, 3) := by decide +kernel
theorem dX5_best_98 : decode cX5_best 98 = .ok (.getfield 104, 3) := by decide +kernel
theorem dX5_best_101 : decode cX5_best 101 = .ok (.ireturn, 1) := by decide +kernel
set_option maxRecDepth 20000 in
theorem ggX5_slowest_X2_lookAt : GoodIn wsX5_slowest wsX2_lookAt := goodIn_r _ [11, 12, 13, 14, 15, 16, 17, 18, 19, 20, 21, 22, 23, 24, 25, 26, 27, 28, 101, 102, 103, 104, 105, 106, 107, 108, 109, 110, 111] (by decide +kernel) (by decide +kernel)
set_option maxRecDepth 20000 in
theorem gX5_slowest_X2_lookAt : GoodIn wsX5_slowest (wsV RX5 150 RX2 yX2_lookAt wsX2_lookAt) := goodIn_app (goodIn_of _ (by decide +kernel)) ggX5_slowest_X2_lookAt
set_option maxRecDepth 20000 in
theorem ggX5_slowest_X2_find : GoodIn wsX5_slowest wsX2_find := goodIn_r _ [32, 33, 34, 35, 36, 37, 38, 39, 10, 40, 12, 41, 42, 43, 44, 45, 46, 47, 48, 49, 50, 51, 52, 16, 53, 24, 54, 55, 56, 57, 58, 59, 60, 61, 62, 63, 64, 23, 65, 66, 67, 68, 69, 70, 71, 72, 26, 73, 74, 75, 76, 77, 27, 78, 79, 80, 81, 18, 82, 83, 84, 85, 86, 87, 88, 89, 90, 91, 101, 102, 103, 104, 105, 106, 107, 108, 109, 110, 111] (by decide +kernel) (by decide +kernel)
set_option maxRecDepth 20000 in
theorem gX5_slowest_X2_find : GoodIn wsX5_slowest (wsV RX5 153 RX2 yX2_find wsX2_find) := goodIn_app (goodIn_of _ (by decide +kernel)) ggX5_slowest_X2_find
theorem dX5_slowest_0 : decode cX5_slowest 0 = .ok (.aload_n 0, 1) := by decide +kernel
theorem dX5_slowest_1 : decode cX5_slowest 1 = .ok (.getfield 33, 3) := by decide +kernel
theorem dX5_slowest_4 : decode cX5_slowest 4 = .ok (.aload_n 0, 1) := by decide +kernel
theorem dX5_slowest_5 : decode cX5_slowest 5 = .ok (.getfield 10, 3) := by decide +kernel
theorem dX5_slowest_8 : decode cX5_slowest 8 = .ok (.invokevirtual 150, 3) := by decide +kernel
theorem dX5_slowest_11 : decode cX5_slowest 11 = .ok (.getstatic 157, 3) := by decide +kernel
theorem dX5_slowest_14 : decode cX5_slowest 14 = .ok (.iconst 0, 1) := by decide +kernel
theorem dX5_slowest_15 : decode cX5_slowest 15 = .ok (.iaload, 1) := by decide +kernel
theorem dX5_slowest_16 : decode cX5_slowest 16 = .ok (.istore_n 1, 1) := by decide +kernel
theorem dX5_slowest_17 : decode cX5_slowest 17 = .ok (.iload_n 1, 1) := by decide +kernel
theorem dX5_slowest_18 : decode cX5_slowest 18 = .ok (.getstatic 161, 3) := by decide +kernel
theorem dX5_slowest_21 : decode cX5_slowest 21 = .ok (.iconst 0, 1) := by decide +kernel
theorem dX5_slowest_22 : decode cX5_slowest 22 = .ok (.iaload, 1) := by decide +kernel
theorem dX5_slowest_23 : decode cX5_slowest 23 = .ok (.if_icmp .lt 33, 3) := by decide +kernel
theorem dX5_slowest_26 : decode cX5_slowest 26 = .ok (.aload_n 0, 1) := by decide +kernel
theorem dX5_slowest_27 : decode cX5_slowest 27 = .ok (.getfield 33, 3) := by decide +kernel
theorem dX5_slowest_30 : decode cX5_slowest 30 = .ok (.getfield 164, 3) := by decide +kernel
theorem dX5_slowest_33 : decode cX5_slowest 33 = .ok (.iload_n 1, 1) := by decide +kernel
theorem dX5_slowest_34 : decode cX5_slowest 34 = .ok (.putfield 167, 3) := by decide +kernel
theorem dX5_slowest_37 : decode cX5_slowest 37 = .ok (.aload_n 0, 1) := by decide +kernel
theorem dX5_slowest_38 : decode cX5_slowest 38 = .ok (.getfield 33, 3) := by decide +kernel
theorem dX5_slowest_41 : decode cX5_slowest 41 = .ok (.iconst 0, 1) := by decide +kernel
theorem dX5_slowest_42 : decode cX5_slowest 42 = .ok (.invokevirtual 153, 3) := by decide +kernel
theorem dX5_slowest_45 : decode cX5_slowest 45 = .ok (.ifCond .eq 5, 3) := by decide +kernel
theorem dX5_slowest_48 : decode cX5_slowest 48 = .ok (.iload_n 1, 1) := by decide +kernel
theorem dX5_slowest_49 : decode cX5_slowest 49 = .ok (.ireturn, 1) := by decide +kernel
theorem dX5_slowest_50 : decode cX5_slowest 50 = .ok (.iinc 1 (-1), 3) := by decide +kernel
theorem dX5_slowest_53 : decode cX5_slowest 53 = .ok (.goto (-36), 3) := by decide +kernel
theorem dX5_slowest_56 : decode cX5_slowest 56 = .ok (.bipush (-9), 2) := by decide +kernel
theorem dX5_slowest_58 : decode cX5_slowest 58 = .ok (.ireturn, 1) := by decide +kernel
set_option maxRecDepth 20000 in
theorem ggX5_change_X5_mendingChanges : GoodIn wsX5_change wsX5_mendingChanges := goodIn_r _ [5, 6, 7, 8, 9, 10, 11, 12, 13, 14, 15, 16, 17, 18, 19, 20, 21, 22, 23, 24, 25, 26, 27, 28, 29, 30, 31, 32, 33, 34, 35, 36, 37, 38, 39, 40, 41, 42, 43, 44, 45, 46, 47, 48, 49, 50, 51, 52, 53, 54, 55, 56, 57, 58, 59, 60, 61, 62, 63, 64, 65, 66, 67, 68, 69, 70, 71, 72, 73, 74, 75, 76, 77, 78, 79, 80, 81, 82, 83, 84, 85, 86, 87, 88, 89, 90, 91, 92, 93, 94, 95, 96, 97, 98, 99, 100, 101, 102, 103, 104, 105, 106, 107, 108, 109, 110, 111, 112, 113, 114, 115] (by decide +kernel) (by decide +kernel)
set_option maxRecDepth 20000 in
theorem gX5_change_X5_mendingChanges : GoodIn wsX5_change (wsV RX5 101 RX5 yX5_mendingChanges wsX5_mendingChanges) := goodIn_app (goodIn_of _ (by decide +kernel)) ggX5_change_X5_mendingChanges
theorem dX5_change_0 : decode cX5_change 0 = .ok (.aload_n 0, 1) := by decide +kernel
theorem dX5_change_1 : decode cX5_change 1 = .ok (.invokevirtual 101, 3) := by decide +kernel
theorem dX5_change_4 : decode cX5_change 4 = .ok (.ireturn, 1) := by decide +kernel
set_option maxRecDepth 20000 in
theorem ggX5_busiest_X5_isHand : GoodIn wsX5_busiest wsX5_isHand := goodIn_r _ [7] (by decide +kernel) (by decide +kernel)
set_option maxRecDepth 20000 in
theorem gX5_busiest_X5_isHand : GoodIn wsX5_busiest (va_wsS RX5 73 yX5_isHand wsX5_isHand) := goodIn_app (goodIn_of _ (by decide +kernel)) ggX5_busiest_X5_isHand
set_option maxRecDepth 20000 in
theorem ggX5_busiest_X0_notesOf : GoodIn wsX5_busiest wsX0_notesOf := goodIn_r _ [12, 13, 14, 34, 35, 36, 37, 38, 39, 40] (by decide +kernel) (by decide +kernel)
set_option maxRecDepth 20000 in
theorem gX5_busiest_X0_notesOf : GoodIn wsX5_busiest (wsV RX5 83 RX0 yX0_notesOf wsX0_notesOf) := goodIn_app (goodIn_of _ (by decide +kernel)) ggX5_busiest_X0_notesOf
set_option maxRecDepth 20000 in
theorem ggX5_busiest_X5_ticksFrom : GoodIn wsX5_busiest wsX5_ticksFrom := goodIn_r _ [17] (by decide +kernel) (by decide +kernel)
set_option maxRecDepth 20000 in
theorem gX5_busiest_X5_ticksFrom : GoodIn wsX5_busiest (va_wsS RX5 97 yX5_ticksFrom wsX5_ticksFrom) := goodIn_app (goodIn_of _ (by decide +kernel)) ggX5_busiest_X5_ticksFrom
set_option maxRecDepth 20000 in
theorem ggX5_busiest_J6_bitCount_0f7a4 : GoodIn wsX5_busiest wsJ6_bitCount_0f7a4 := goodIn_r _ [21, 22, 23, 24] (by decide +kernel) (by decide +kernel)
set_option maxRecDepth 20000 in
theorem gX5_busiest_J6_bitCount_0f7a4 : GoodIn wsX5_busiest (va_wsS RX5 86 yJ6_bitCount_0f7a4 wsJ6_bitCount_0f7a4) := goodIn_app (goodIn_of _ (by decide +kernel)) ggX5_busiest_J6_bitCount_0f7a4
theorem dX5_busiest_0 : decode cX5_busiest 0 = .ok (.iload_n 1, 1) := by decide +kernel
theorem dX5_busiest_1 : decode cX5_busiest 1 = .ok (.invokestatic 73, 3) := by decide +kernel
theorem dX5_busiest_4 : decode cX5_busiest 4 = .ok (.ifCond .eq 12, 3) := by decide +kernel
theorem dX5_busiest_7 : decode cX5_busiest 7 = .ok (.iload_n 2, 1) := by decide +kernel
theorem dX5_busiest_8 : decode cX5_busiest 8 = .ok (.ifCond .lt 8, 3) := by decide +kernel
theorem dX5_busiest_11 : decode cX5_busiest 11 = .ok (.iload_n 2, 1) := by decide +kernel
theorem dX5_busiest_12 : decode cX5_busiest 12 = .ok (.iconst 1, 1) := by decide +kernel
theorem dX5_busiest_13 : decode cX5_busiest 13 = .ok (.if_icmp .le 5, 3) := by decide +kernel
theorem dX5_busiest_16 : decode cX5_busiest 16 = .ok (.iconst (-1), 1) := by decide +kernel
theorem dX5_busiest_17 : decode cX5_busiest 17 = .ok (.ireturn, 1) := by decide +kernel
theorem dX5_busiest_18 : decode cX5_busiest 18 = .ok (.aload_n 0, 1) := by decide +kernel
theorem dX5_busiest_19 : decode cX5_busiest 19 = .ok (.getfield 10, 3) := by decide +kernel
theorem dX5_busiest_22 : decode cX5_busiest 22 = .ok (.iload_n 1, 1) := by decide +kernel
theorem dX5_busiest_23 : decode cX5_busiest 23 = .ok (.invokevirtual 83, 3) := by decide +kernel
theorem dX5_busiest_26 : decode cX5_busiest 26 = .ok (.istore_n 3, 1) := by decide +kernel
theorem dX5_busiest_27 : decode cX5_busiest 27 = .ok (.iconst 0, 1) := by decide +kernel
theorem dX5_busiest_28 : decode cX5_busiest 28 = .ok (.istore 4, 2) := by decide +kernel
theorem dX5_busiest_30 : decode cX5_busiest 30 = .ok (.iconst 0, 1) := by decide +kernel
theorem dX5_busiest_31 : decode cX5_busiest 31 = .ok (.istore 5, 2) := by decide +kernel
theorem dX5_busiest_33 : decode cX5_busiest 33 = .ok (.iconst 0, 1) := by decide +kernel
theorem dX5_busiest_34 : decode cX5_busiest 34 = .ok (.istore 6, 2) := by decide +kernel
theorem dX5_busiest_36 : decode cX5_busiest 36 = .ok (.iload 6, 2) := by decide +kernel
theorem dX5_busiest_38 : decode cX5_busiest 38 = .ok (.aload_n 0, 1) := by decide +kernel
theorem dX5_busiest_39 : decode cX5_busiest 39 = .ok (.getfield 10, 3) := by decide +kernel
theorem dX5_busiest_42 : decode cX5_busiest 42 = .ok (.getfield 170, 3) := by decide +kernel
theorem dX5_busiest_45 : decode cX5_busiest 45 = .ok (.if_icmp .ge 43, 3) := by decide +kernel
theorem dX5_busiest_48 : decode cX5_busiest 48 = .ok (.iload_n 3, 1) := by decide +kernel
theorem dX5_busiest_49 : decode cX5_busiest 49 = .ok (.iload 6, 2) := by decide +kernel
theorem dX5_busiest_51 : decode cX5_busiest 51 = .ok (.aload_n 0, 1) := by decide +kernel
theorem dX5_busiest_52 : decode cX5_busiest 52 = .ok (.getfield 10, 3) := by decide +kernel
theorem dX5_busiest_55 : decode cX5_busiest 55 = .ok (.getfield 173, 3) := by decide +kernel
theorem dX5_busiest_58 : decode cX5_busiest 58 = .ok (.invokestatic 97, 3) := by decide +kernel
theorem dX5_busiest_61 : decode cX5_busiest 61 = .ok (.iand, 1) := by decide +kernel
theorem dX5_busiest_62 : decode cX5_busiest 62 = .ok (.invokestatic 86, 3) := by decide +kernel
theorem dX5_busiest_65 : decode cX5_busiest 65 = .ok (.istore 7, 2) := by decide +kernel
theorem dX5_busiest_67 : decode cX5_busiest 67 = .ok (.iload 7, 2) := by decide +kernel
theorem dX5_busiest_69 : decode cX5_busiest 69 = .ok (.iload 5, 2) := by decide +kernel
theorem dX5_busiest_71 : decode cX5_busiest 71 = .ok (.if_icmp .le 11, 3) := by decide +kernel
theorem dX5_busiest_74 : decode cX5_busiest 74 = .ok (.iload 7, 2) := by decide +kernel
theorem dX5_busiest_76 : decode cX5_busiest 76 = .ok (.istore 5, 2) := by decide +kernel
theorem dX5_busiest_78 : decode cX5_busiest 78 = .ok (.iload 6, 2) := by decide +kernel
theorem dX5_busiest_80 : decode cX5_busiest 80 = .ok (.istore 4, 2) := by decide +kernel
theorem dX5_busiest_82 : decode cX5_busiest 82 = .ok (.iinc 6 1, 3) := by decide +kernel
theorem dX5_busiest_85 : decode cX5_busiest 85 = .ok (.goto (-49), 3) := by decide +kernel
theorem dX5_busiest_88 : decode cX5_busiest 88 = .ok (.iload_n 2, 1) := by decide +kernel
theorem dX5_busiest_89 : decode cX5_busiest 89 = .ok (.ifCond .ne 8, 3) := by decide +kernel
theorem dX5_busiest_92 : decode cX5_busiest 92 = .ok (.iload 4, 2) := by decide +kernel
theorem dX5_busiest_94 : decode cX5_busiest 94 = .ok (.goto 5, 3) := by decide +kernel
theorem dX5_busiest_97 : decode cX5_busiest 97 = .ok (.iload 5, 2) := by decide +kernel
theorem dX5_busiest_99 : decode cX5_busiest 99 = .ok (.ireturn, 1) := by decide +kernel
set_option maxRecDepth 20000 in
theorem ggX5_tables_X5_askTables : GoodIn wsX5_tables wsX5_askTables := goodIn_r _ [5, 6, 7, 8, 9, 10, 11, 12, 13, 14, 15, 16, 17, 18, 19, 20, 21, 22, 23, 24, 25, 26, 27, 28, 29, 30, 31, 32, 33, 34, 35, 36, 37, 38, 39, 40, 41, 42, 43, 44, 45, 46, 47, 48, 49, 50, 51, 52, 53, 54, 55, 56, 57, 58, 59, 60, 61, 62, 63, 64, 65, 66, 67, 68, 69, 70, 71, 72, 73, 74, 75, 76, 77, 78, 79, 80, 81, 82, 83, 84, 85, 86, 87] (by decide +kernel) (by decide +kernel)
set_option maxRecDepth 20000 in
theorem gX5_tables_X5_askTables : GoodIn wsX5_tables (wsV RX5 176 RX5 yX5_askTables wsX5_askTables) := goodIn_app (goodIn_of _ (by decide +kernel)) ggX5_tables_X5_askTables
theorem dX5_tables_0 : decode cX5_tables 0 = .ok (.aload_n 0, 1) := by decide +kernel
theorem dX5_tables_1 : decode cX5_tables 1 = .ok (.iload_n 1, 1) := by decide +kernel
theorem dX5_tables_2 : decode cX5_tables 2 = .ok (.iconst 0, 1) := by decide +kernel
theorem dX5_tables_3 : decode cX5_tables 3 = .ok (.iconst 0, 1) := by decide +kernel
theorem dX5_tables_4 : decode cX5_tables 4 = .ok (.invokevirtual 176, 3) := by decide +kernel
theorem dX5_tables_7 : decode cX5_tables 7 = .ok (.ireturn, 1) := by decide +kernel
set_option maxRecDepth 20000 in
theorem ggX5_sees_X5_isHand : GoodIn wsX5_sees wsX5_isHand := goodIn_r _ [7] (by decide +kernel) (by decide +kernel)
set_option maxRecDepth 20000 in
theorem gX5_sees_X5_isHand : GoodIn wsX5_sees (va_wsS RX5 73 yX5_isHand wsX5_isHand) := goodIn_app (goodIn_of _ (by decide +kernel)) ggX5_sees_X5_isHand
theorem dX5_sees_0 : decode cX5_sees 0 = .ok (.iload_n 1, 1) := by decide +kernel
theorem dX5_sees_1 : decode cX5_sees 1 = .ok (.ifCond .lt 16, 3) := by decide +kernel
theorem dX5_sees_4 : decode cX5_sees 4 = .ok (.iload_n 1, 1) := by decide +kernel
theorem dX5_sees_5 : decode cX5_sees 5 = .ok (.bipush 12, 2) := by decide +kernel
theorem dX5_sees_7 : decode cX5_sees 7 = .ok (.if_icmp .ge 10, 3) := by decide +kernel
theorem dX5_sees_10 : decode cX5_sees 10 = .ok (.iload_n 2, 1) := by decide +kernel
theorem dX5_sees_11 : decode cX5_sees 11 = .ok (.invokestatic 73, 3) := by decide +kernel
theorem dX5_sees_14 : decode cX5_sees 14 = .ok (.ifCond .ne 5, 3) := by decide +kernel
theorem dX5_sees_17 : decode cX5_sees 17 = .ok (.iconst (-1), 1) := by decide +kernel
theorem dX5_sees_18 : decode cX5_sees 18 = .ok (.ireturn, 1) := by decide +kernel
theorem dX5_sees_19 : decode cX5_sees 19 = .ok (.aload_n 0, 1) := by decide +kernel
theorem dX5_sees_20 : decode cX5_sees 20 = .ok (.getfield 180, 3) := by decide +kernel
theorem dX5_sees_23 : decode cX5_sees 23 = .ok (.bipush 6, 2) := by decide +kernel
theorem dX5_sees_25 : decode cX5_sees 25 = .ok (.if_icmp .lt 6, 3) := by decide +kernel
theorem dX5_sees_28 : decode cX5_sees 28 = .ok (.bipush (-3), 2) := by decide +kernel
theorem dX5_sees_30 : decode cX5_sees 30 = .ok (.ireturn, 1) := by decide +kernel
theorem dX5_sees_31 : decode cX5_sees 31 = .ok (.iload_n 2, 1) := by decide +kernel
theorem dX5_sees_32 : decode cX5_sees 32 = .ok (.ifCond .ne 18, 3) := by decide +kernel
theorem dX5_sees_35 : decode cX5_sees 35 = .ok (.aload_n 0, 1) := by decide +kernel
theorem dX5_sees_36 : decode cX5_sees 36 = .ok (.dup, 1) := by decide +kernel
theorem dX5_sees_37 : decode cX5_sees 37 = .ok (.getfield 183, 3) := by decide +kernel
theorem dX5_sees_40 : decode cX5_sees 40 = .ok (.iconst 1, 1) := by decide +kernel
theorem dX5_sees_41 : decode cX5_sees 41 = .ok (.iload_n 1, 1) := by decide +kernel
theorem dX5_sees_42 : decode cX5_sees 42 = .ok (.ishl, 1) := by decide +kernel
theorem dX5_sees_43 : decode cX5_sees 43 = .ok (.ior, 1) := by decide +kernel
theorem dX5_sees_44 : decode cX5_sees 44 = .ok (.putfield 183, 3) := by decide +kernel
theorem dX5_sees_47 : decode cX5_sees 47 = .ok (.goto 15, 3) := by decide +kernel
theorem dX5_sees_50 : decode cX5_sees 50 = .ok (.aload_n 0, 1) := by decide +kernel
theorem dX5_sees_51 : decode cX5_sees 51 = .ok (.dup, 1) := by decide +kernel
theorem dX5_sees_52 : decode cX5_sees 52 = .ok (.getfield 186, 3) := by decide +kernel
theorem dX5_sees_55 : decode cX5_sees 55 = .ok (.iconst 1, 1) := by decide +kernel
theorem dX5_sees_56 : decode cX5_sees 56 = .ok (.iload_n 1, 1) := by decide +kernel
theorem dX5_sees_57 : decode cX5_sees 57 = .ok (.ishl, 1) := by decide +kernel
theorem dX5_sees_58 : decode cX5_sees 58 = .ok (.ior, 1) := by decide +kernel
theorem dX5_sees_59 : decode cX5_sees 59 = .ok (.putfield 186, 3) := by decide +kernel
theorem dX5_sees_62 : decode cX5_sees 62 = .ok (.aload_n 0, 1) := by decide +kernel
theorem dX5_sees_63 : decode cX5_sees 63 = .ok (.dup, 1) := by decide +kernel
theorem dX5_sees_64 : decode cX5_sees 64 = .ok (.getfield 180, 3) := by decide +kernel
theorem dX5_sees_67 : decode cX5_sees 67 = .ok (.iconst 1, 1) := by decide +kernel
theorem dX5_sees_68 : decode cX5_sees 68 = .ok (.iadd, 1) := by decide +kernel
theorem dX5_sees_69 : decode cX5_sees 69 = .ok (.putfield 180, 3) := by decide +kernel
theorem dX5_sees_72 : decode cX5_sees 72 = .ok (.aload_n 0, 1) := by decide +kernel
theorem dX5_sees_73 : decode cX5_sees 73 = .ok (.getfield 180, 3) := by decide +kernel
theorem dX5_sees_76 : decode cX5_sees 76 = .ok (.ireturn, 1) := by decide +kernel
theorem dX5_forget_0 : decode cX5_forget 0 = .ok (.aload_n 0, 1) := by decide +kernel
theorem dX5_forget_1 : decode cX5_forget 1 = .ok (.getfield 180, 3) := by decide +kernel
theorem dX5_forget_4 : decode cX5_forget 4 = .ok (.istore_n 1, 1) := by decide +kernel
theorem dX5_forget_5 : decode cX5_forget 5 = .ok (.aload_n 0, 1) := by decide +kernel
theorem dX5_forget_6 : decode cX5_forget 6 = .ok (.iconst 0, 1) := by decide +kernel
theorem dX5_forget_7 : decode cX5_forget 7 = .ok (.putfield 180, 3) := by decide +kernel
theorem dX5_forget_10 : decode cX5_forget 10 = .ok (.aload_n 0, 1) := by decide +kernel
theorem dX5_forget_11 : decode cX5_forget 11 = .ok (.iconst 0, 1) := by decide +kernel
theorem dX5_forget_12 : decode cX5_forget 12 = .ok (.putfield 183, 3) := by decide +kernel
theorem dX5_forget_15 : decode cX5_forget 15 = .ok (.aload_n 0, 1) := by decide +kernel
theorem dX5_forget_16 : decode cX5_forget 16 = .ok (.iconst 0, 1) := by decide +kernel
theorem dX5_forget_17 : decode cX5_forget 17 = .ok (.putfield 186, 3) := by decide +kernel
theorem dX5_forget_20 : decode cX5_forget 20 = .ok (.iload_n 1, 1) := by decide +kernel
theorem dX5_forget_21 : decode cX5_forget 21 = .ok (.ireturn, 1) := by decide +kernel
set_option maxRecDepth 20000 in
theorem ggX5_which_X5_askTables : GoodIn wsX5_which wsX5_askTables := goodIn_r _ [7, 8, 9, 10, 11, 12, 13, 14, 15, 16, 17, 18, 19, 20, 21, 22, 23, 24, 25, 26, 27, 28, 29, 30, 31, 32, 33, 34, 35, 36, 37, 38, 39, 40, 41, 42, 43, 44, 45, 46, 47, 48, 49, 50, 51, 52, 53, 54, 55, 56, 57, 58, 59, 60, 61, 62, 63, 64, 65, 66, 67, 68, 69, 70, 71, 72, 73, 74, 75, 76, 77, 78, 79, 80, 81, 82, 83, 84, 85, 86, 87, 88, 89] (by decide +kernel) (by decide +kernel)
set_option maxRecDepth 20000 in
theorem gX5_which_X5_askTables : GoodIn wsX5_which (wsV RX5 176 RX5 yX5_askTables wsX5_askTables) := goodIn_app (goodIn_of _ (by decide +kernel)) ggX5_which_X5_askTables
theorem dX5_which_0 : decode cX5_which 0 = .ok (.aload_n 0, 1) := by decide +kernel
theorem dX5_which_1 : decode cX5_which 1 = .ok (.iload_n 1, 1) := by decide +kernel
theorem dX5_which_2 : decode cX5_which 2 = .ok (.aload_n 0, 1) := by decide +kernel
theorem dX5_which_3 : decode cX5_which 3 = .ok (.getfield 183, 3) := by decide +kernel
theorem dX5_which_6 : decode cX5_which 6 = .ok (.aload_n 0, 1) := by decide +kernel
theorem dX5_which_7 : decode cX5_which 7 = .ok (.getfield 186, 3) := by decide +kernel
theorem dX5_which_10 : decode cX5_which 10 = .ok (.invokevirtual 176, 3) := by decide +kernel
theorem dX5_which_13 : decode cX5_which 13 = .ok (.ireturn, 1) := by decide +kernel
set_option maxRecDepth 20000 in
theorem ggX5_listen_X3_gather : GoodIn wsX5_listen wsX3_gather := goodIn_r _ [10, 11, 12, 13, 14, 15, 16, 17, 18, 19, 20, 21, 22, 23, 24, 25, 26, 27, 28, 29, 30, 31, 32, 33, 34, 35, 36, 37, 38, 39, 40, 41, 42, 43, 44, 45, 46, 47, 48, 49, 50, 51, 52, 53, 54, 55, 56, 57, 58, 59, 60, 61, 62, 63, 9, 64, 82, 83, 84, 85, 86, 87, 88, 89, 90, 91] (by decide +kernel) (by decide +kernel)
set_option maxRecDepth 20000 in
theorem gX5_listen_X3_gather : GoodIn wsX5_listen (wsV RX5 189 RX3 yX3_gather wsX3_gather) := goodIn_app (goodIn_of _ (by decide +kernel)) ggX5_listen_X3_gather
set_option maxRecDepth 20000 in
theorem ggX5_listen_X3_tickThatHalvesBest : GoodIn wsX5_listen wsX3_tickThatHalvesBest := goodIn_r _ [68, 11, 13, 69, 70, 58, 71, 72, 26, 27, 22, 28, 24, 29, 82, 83, 84, 85, 86, 87, 88, 89, 90, 91] (by decide +kernel) (by decide +kernel)
set_option maxRecDepth 20000 in
theorem gX5_listen_X3_tickThatHalvesBest : GoodIn wsX5_listen (wsV RX5 194 RX3 yX3_tickThatHalvesBest wsX3_tickThatHalvesBest) := goodIn_app (goodIn_of _ (by decide +kernel)) ggX5_listen_X3_tickThatHalvesBest
theorem dX5_listen_0 : decode cX5_listen 0 = .ok (.aload_n 0, 1) := by decide +kernel
theorem dX5_listen_1 : decode cX5_listen 1 = .ok (.getfield 40, 3) := by decide +kernel
theorem dX5_listen_4 : decode cX5_listen 4 = .ok (.aload_n 0, 1) := by decide +kernel
theorem dX5_listen_5 : decode cX5_listen 5 = .ok (.getfield 10, 3) := by decide +kernel
theorem dX5_listen_8 : decode cX5_listen 8 = .ok (.aload_n 0, 1) := by decide +kernel
theorem dX5_listen_9 : decode cX5_listen 9 = .ok (.getfield 183, 3) := by decide +kernel
theorem dX5_listen_12 : decode cX5_listen 12 = .ok (.aload_n 0, 1) := by decide +kernel
theorem dX5_listen_13 : decode cX5_listen 13 = .ok (.getfield 186, 3) := by decide +kernel
theorem dX5_listen_16 : decode cX5_listen 16 = .ok (.invokevirtual 189, 3) := by decide +kernel
theorem dX5_listen_19 : decode cX5_listen 19 = .ok (.aload_n 0, 1) := by decide +kernel
theorem dX5_listen_20 : decode cX5_listen 20 = .ok (.getfield 40, 3) := by decide +kernel
theorem dX5_listen_23 : decode cX5_listen 23 = .ok (.getfield 193, 3) := by decide +kernel
theorem dX5_listen_26 : decode cX5_listen 26 = .ok (.iconst 1, 1) := by decide +kernel
theorem dX5_listen_27 : decode cX5_listen 27 = .ok (.if_icmp .le 17, 3) := by decide +kernel
theorem dX5_listen_30 : decode cX5_listen 30 = .ok (.aload_n 0, 1) := by decide +kernel
theorem dX5_listen_31 : decode cX5_listen 31 = .ok (.getfield 40, 3) := by decide +kernel
theorem dX5_listen_34 : decode cX5_listen 34 = .ok (.aload_n 0, 1) := by decide +kernel
theorem dX5_listen_35 : decode cX5_listen 35 = .ok (.getfield 10, 3) := by decide +kernel
theorem dX5_listen_38 : decode cX5_listen 38 = .ok (.invokevirtual 194, 3) := by decide +kernel
theorem dX5_listen_41 : decode cX5_listen 41 = .ok (.goto 5, 3) := by decide +kernel
theorem dX5_listen_44 : decode cX5_listen 44 = .ok (.bipush (-9), 2) := by decide +kernel
theorem dX5_listen_46 : decode cX5_listen 46 = .ok (.ireturn, 1) := by decide +kernel
set_option maxRecDepth 20000 in
theorem ggX5_keep_X0_init : GoodIn wsX5_keep wsX0_init := goodIn_r _ [9, 10, 11, 12, 13, 14, 15, 16, 17, 4, 18, 19, 20, 21, 22, 23, 24, 25, 26, 27, 28, 46, 47, 48, 49, 50, 51, 52] (by decide +kernel) (by decide +kernel)
set_option maxRecDepth 20000 in
theorem gX5_keep_X0_init : GoodIn wsX5_keep (wsX0_init) := ggX5_keep_X0_init
set_option maxRecDepth 20000 in
theorem ggX5_keep_X0_copyFrom : GoodIn wsX5_keep wsX0_copyFrom := goodIn_r _ [32, 14, 33, 34, 35, 36, 19, 20, 21, 22, 23, 24, 46, 47, 48, 49, 50, 51, 52] (by decide +kernel) (by decide +kernel)
set_option maxRecDepth 20000 in
theorem gX5_keep_X0_copyFrom : GoodIn wsX5_keep (wsV RX5 67 RX0 yX0_copyFrom wsX0_copyFrom) := goodIn_app (goodIn_of _ (by decide +kernel)) ggX5_keep_X0_copyFrom
theorem dX5_keep_0 : decode cX5_keep 0 = .ok (.iload_n 1, 1) := by decide +kernel
theorem dX5_keep_1 : decode cX5_keep 1 = .ok (.ifCond .lt 8, 3) := by decide +kernel
theorem dX5_keep_4 : decode cX5_keep 4 = .ok (.iload_n 1, 1) := by decide +kernel
theorem dX5_keep_5 : decode cX5_keep 5 = .ok (.iconst 2, 1) := by decide +kernel
theorem dX5_keep_6 : decode cX5_keep 6 = .ok (.if_icmp .lt 5, 3) := by decide +kernel
theorem dX5_keep_9 : decode cX5_keep 9 = .ok (.iconst (-1), 1) := by decide +kernel
theorem dX5_keep_10 : decode cX5_keep 10 = .ok (.ireturn, 1) := by decide +kernel
theorem dX5_keep_11 : decode cX5_keep 11 = .ok (.aload_n 0, 1) := by decide +kernel
theorem dX5_keep_12 : decode cX5_keep 12 = .ok (.getfield 44, 3) := by decide +kernel
theorem dX5_keep_15 : decode cX5_keep 15 = .ok (.iload_n 1, 1) := by decide +kernel
theorem dX5_keep_16 : decode cX5_keep 16 = .ok (.aaload, 1) := by decide +kernel
theorem dX5_keep_17 : decode cX5_keep 17 = .ok (.astore_n 2, 1) := by decide +kernel
theorem dX5_keep_18 : decode cX5_keep 18 = .ok (.aload_n 2, 1) := by decide +kernel
theorem dX5_keep_19 : decode cX5_keep 19 = .ok (.ifnonnull 18, 3) := by decide +kernel
theorem dX5_keep_22 : decode cX5_keep 22 = .ok (.new 7, 3) := by decide +kernel
theorem dX5_keep_25 : decode cX5_keep 25 = .ok (.dup, 1) := by decide +kernel
theorem dX5_keep_26 : decode cX5_keep 26 = .ok (.invokespecial 9, 3) := by decide +kernel
theorem dX5_keep_29 : decode cX5_keep 29 = .ok (.astore_n 2, 1) := by decide +kernel
theorem dX5_keep_30 : decode cX5_keep 30 = .ok (.aload_n 0, 1) := by decide +kernel
theorem dX5_keep_31 : decode cX5_keep 31 = .ok (.getfield 44, 3) := by decide +kernel
theorem dX5_keep_34 : decode cX5_keep 34 = .ok (.iload_n 1, 1) := by decide +kernel
theorem dX5_keep_35 : decode cX5_keep 35 = .ok (.aload_n 2, 1) := by decide +kernel
theorem dX5_keep_36 : decode cX5_keep 36 = .ok (.aastore, 1) := by decide +kernel
theorem dX5_keep_37 : decode cX5_keep 37 = .ok (.aload_n 2, 1) := by decide +kernel
theorem dX5_keep_38 : decode cX5_keep 38 = .ok (.aload_n 0, 1) := by decide +kernel
theorem dX5_keep_39 : decode cX5_keep 39 = .ok (.getfield 10, 3) := by decide +kernel
theorem dX5_keep_42 : decode cX5_keep 42 = .ok (.invokevirtual 67, 3) := by decide +kernel
theorem dX5_keep_45 : decode cX5_keep 45 = .ok (.aload_n 0, 1) := by decide +kernel
theorem dX5_keep_46 : decode cX5_keep 46 = .ok (.getfield 10, 3) := by decide +kernel
theorem dX5_keep_49 : decode cX5_keep 49 = .ok (.getfield 170, 3) := by decide +kernel
theorem dX5_keep_52 : decode cX5_keep 52 = .ok (.ireturn, 1) := by decide +kernel
set_option maxRecDepth 20000 in
theorem ggX5_back_X0_copyFrom : GoodIn wsX5_back wsX0_copyFrom := goodIn_r _ [10, 11, 12, 13, 14, 15, 16, 17, 18, 19, 20, 21, 33, 34, 35, 36, 37, 38, 39] (by decide +kernel) (by decide +kernel)
set_option maxRecDepth 20000 in
theorem gX5_back_X0_copyFrom : GoodIn wsX5_back (wsV RX5 67 RX0 yX0_copyFrom wsX0_copyFrom) := goodIn_app (goodIn_of _ (by decide +kernel)) ggX5_back_X0_copyFrom
theorem dX5_back_0 : decode cX5_back 0 = .ok (.iload_n 1, 1) := by decide +kernel
theorem dX5_back_1 : decode cX5_back 1 = .ok (.ifCond .lt 8, 3) := by decide +kernel
theorem dX5_back_4 : decode cX5_back 4 = .ok (.iload_n 1, 1) := by decide +kernel
theorem dX5_back_5 : decode cX5_back 5 = .ok (.iconst 2, 1) := by decide +kernel
theorem dX5_back_6 : decode cX5_back 6 = .ok (.if_icmp .lt 5, 3) := by decide +kernel
theorem dX5_back_9 : decode cX5_back 9 = .ok (.iconst (-1), 1) := by decide +kernel
theorem dX5_back_10 : decode cX5_back 10 = .ok (.ireturn, 1) := by decide +kernel
theorem dX5_back_11 : decode cX5_back 11 = .ok (.aload_n 0, 1) := by decide +kernel
theorem dX5_back_12 : decode cX5_back 12 = .ok (.getfield 44, 3) := by decide +kernel
theorem dX5_back_15 : decode cX5_back 15 = .ok (.iload_n 1, 1) := by decide +kernel
theorem dX5_back_16 : decode cX5_back 16 = .ok (.aaload, 1) := by decide +kernel
theorem dX5_back_17 : decode cX5_back 17 = .ok (.astore_n 2, 1) := by decide +kernel
theorem dX5_back_18 : decode cX5_back 18 = .ok (.aload_n 2, 1) := by decide +kernel
theorem dX5_back_19 : decode cX5_back 19 = .ok (.ifnonnull 6, 3) := by decide +kernel
theorem dX5_back_22 : decode cX5_back 22 = .ok (.bipush (-2), 2) := by decide +kernel
theorem dX5_back_24 : decode cX5_back 24 = .ok (.ireturn, 1) := by decide +kernel
theorem dX5_back_25 : decode cX5_back 25 = .ok (.aload_n 0, 1) := by decide +kernel
theorem dX5_back_26 : decode cX5_back 26 = .ok (.getfield 10, 3) := by decide +kernel
theorem dX5_back_29 : decode cX5_back 29 = .ok (.aload_n 2, 1) := by decide +kernel
theorem dX5_back_30 : decode cX5_back 30 = .ok (.invokevirtual 67, 3) := by decide +kernel
theorem dX5_back_33 : decode cX5_back 33 = .ok (.aload_n 0, 1) := by decide +kernel
theorem dX5_back_34 : decode cX5_back 34 = .ok (.getfield 26, 3) := by decide +kernel
theorem dX5_back_37 : decode cX5_back 37 = .ok (.iconst 0, 1) := by decide +kernel
theorem dX5_back_38 : decode cX5_back 38 = .ok (.putfield 122, 3) := by decide +kernel
theorem dX5_back_41 : decode cX5_back 41 = .ok (.aload_n 0, 1) := by decide +kernel
theorem dX5_back_42 : decode cX5_back 42 = .ok (.getfield 10, 3) := by decide +kernel
theorem dX5_back_45 : decode cX5_back 45 = .ok (.getfield 170, 3) := by decide +kernel
theorem dX5_back_48 : decode cX5_back 48 = .ok (.ireturn, 1) := by decide +kernel
set_option maxRecDepth 20000 in
theorem ggX5_count_J6_bitCount_0f7a4 : GoodIn wsX5_count wsJ6_bitCount_0f7a4 := goodIn_r _ [15, 16, 17, 18] (by decide +kernel) (by decide +kernel)
set_option maxRecDepth 20000 in
theorem gX5_count_J6_bitCount_0f7a4 : GoodIn wsX5_count (va_wsS RX5 86 yJ6_bitCount_0f7a4 wsJ6_bitCount_0f7a4) := goodIn_app (goodIn_of _ (by decide +kernel)) ggX5_count_J6_bitCount_0f7a4
theorem dX5_count_0 : decode cX5_count 0 = .ok (.iload_n 1, 1) := by decide +kernel
theorem dX5_count_1 : decode cX5_count 1 = .ok (.tableswitch 111 0 7 #[47, 55, 66, 74, 82, 90, 95, 103], 47) := by decide +kernel
theorem dX5_count_48 : decode cX5_count 48 = .ok (.aload_n 0, 1) := by decide +kernel
theorem dX5_count_49 : decode cX5_count 49 = .ok (.getfield 10, 3) := by decide +kernel
theorem dX5_count_52 : decode cX5_count 52 = .ok (.getfield 170, 3) := by decide +kernel
theorem dX5_count_55 : decode cX5_count 55 = .ok (.ireturn, 1) := by decide +kernel
theorem dX5_count_56 : decode cX5_count 56 = .ok (.aload_n 0, 1) := by decide +kernel
theorem dX5_count_57 : decode cX5_count 57 = .ok (.getfield 10, 3) := by decide +kernel
theorem dX5_count_60 : decode cX5_count 60 = .ok (.getfield 94, 3) := by decide +kernel
theorem dX5_count_63 : decode cX5_count 63 = .ok (.invokestatic 86, 3) := by decide +kernel
theorem dX5_count_66 : decode cX5_count 66 = .ok (.ireturn, 1) := by decide +kernel
theorem dX5_count_67 : decode cX5_count 67 = .ok (.aload_n 0, 1) := by decide +kernel
theorem dX5_count_68 : decode cX5_count 68 = .ok (.getfield 10, 3) := by decide +kernel
theorem dX5_count_71 : decode cX5_count 71 = .ok (.getfield 167, 3) := by decide +kernel
theorem dX5_count_74 : decode cX5_count 74 = .ok (.ireturn, 1) := by decide +kernel
theorem dX5_count_75 : decode cX5_count 75 = .ok (.aload_n 0, 1) := by decide +kernel
theorem dX5_count_76 : decode cX5_count 76 = .ok (.getfield 10, 3) := by decide +kernel
theorem dX5_count_79 : decode cX5_count 79 = .ok (.getfield 198, 3) := by decide +kernel
theorem dX5_count_82 : decode cX5_count 82 = .ok (.ireturn, 1) := by decide +kernel
theorem dX5_count_83 : decode cX5_count 83 = .ok (.aload_n 0, 1) := by decide +kernel
theorem dX5_count_84 : decode cX5_count 84 = .ok (.getfield 10, 3) := by decide +kernel
theorem dX5_count_87 : decode cX5_count 87 = .ok (.getfield 173, 3) := by decide +kernel
theorem dX5_count_90 : decode cX5_count 90 = .ok (.ireturn, 1) := by decide +kernel
theorem dX5_count_91 : decode cX5_count 91 = .ok (.aload_n 0, 1) := by decide +kernel
theorem dX5_count_92 : decode cX5_count 92 = .ok (.getfield 180, 3) := by decide +kernel
theorem dX5_count_95 : decode cX5_count 95 = .ok (.ireturn, 1) := by decide +kernel
theorem dX5_count_96 : decode cX5_count 96 = .ok (.aload_n 0, 1) := by decide +kernel
theorem dX5_count_97 : decode cX5_count 97 = .ok (.getfield 19, 3) := by decide +kernel
theorem dX5_count_100 : decode cX5_count 100 = .ok (.getfield 52, 3) := by decide +kernel
theorem dX5_count_103 : decode cX5_count 103 = .ok (.ireturn, 1) := by decide +kernel
theorem dX5_count_104 : decode cX5_count 104 = .ok (.aload_n 0, 1) := by decide +kernel
theorem dX5_count_105 : decode cX5_count 105 = .ok (.getfield 26, 3) := by decide +kernel
theorem dX5_count_108 : decode cX5_count 108 = .ok (.getfield 122, 3) := by decide +kernel
theorem dX5_count_111 : decode cX5_count 111 = .ok (.ireturn, 1) := by decide +kernel
theorem dX5_count_112 : decode cX5_count 112 = .ok (.iconst (-1), 1) := by decide +kernel
theorem dX5_count_113 : decode cX5_count 113 = .ok (.ireturn, 1) := by decide +kernel
set_option maxRecDepth 20000 in
theorem ggX5_mendingChanges_X2_lookAt : GoodIn wsX5_mendingChanges wsX2_lookAt := goodIn_r _ [9, 10, 11, 12, 13, 14, 15, 16, 17, 18, 19, 20, 21, 22, 23, 24, 25, 26, 100, 101, 102, 103, 104, 105, 106, 107, 108, 109, 110] (by decide +kernel) (by decide +kernel)
set_option maxRecDepth 20000 in
theorem gX5_mendingChanges_X2_lookAt : GoodIn wsX5_mendingChanges (wsV RX5 150 RX2 yX2_lookAt wsX2_lookAt) := goodIn_app (goodIn_of _ (by decide +kernel)) ggX5_mendingChanges_X2_lookAt
set_option maxRecDepth 20000 in
theorem ggX5_mendingChanges_X2_find : GoodIn wsX5_mendingChanges wsX2_find := goodIn_r _ [30, 31, 32, 33, 34, 35, 36, 37, 8, 38, 10, 39, 40, 41, 42, 43, 44, 45, 46, 47, 48, 49, 50, 14, 51, 22, 52, 53, 54, 55, 56, 57, 58, 59, 60, 61, 62, 21, 63, 64, 65, 66, 67, 68, 69, 70, 24, 71, 72, 73, 74, 75, 25, 76, 77, 78, 79, 16, 80, 81, 82, 83, 84, 85, 86, 87, 88, 89, 100, 101, 102, 103, 104, 105, 106, 107, 108, 109, 110] (by decide +kernel) (by decide +kernel)
set_option maxRecDepth 20000 in
theorem gX5_mendingChanges_X2_find : GoodIn wsX5_mendingChanges (wsV RX5 153 RX2 yX2_find wsX2_find) := goodIn_app (goodIn_of _ (by decide +kernel)) ggX5_mendingChanges_X2_find
set_option maxRecDepth 20000 in
theorem ggX5_mendingChanges_J6_bitCount_0f7a4 : GoodIn wsX5_mendingChanges wsJ6_bitCount_0f7a4 := goodIn_r _ [55, 56, 57, 58] (by decide +kernel) (by decide +kernel)
set_option maxRecDepth 20000 in
theorem gX5_mendingChanges_J6_bitCount_0f7a4 : GoodIn wsX5_mendingChanges (va_wsS RX5 86 yJ6_bitCount_0f7a4 wsJ6_bitCount_0f7a4) := goodIn_app (goodIn_of _ (by decide +kernel)) ggX5_mendingChanges_J6_bitCount_0f7a4
theorem dX5_mendingChanges_0 : decode cX5_mendingChanges 0 = .ok (.aload_n 0, 1) := by decide +kernel
theorem dX5_mendingChanges_1 : decode cX5_mendingChanges 1 = .ok (.getfield 33, 3) := by decide +kernel
theorem dX5_mendingChanges_4 : decode cX5_mendingChanges 4 = .ok (.aload_n 0, 1) := by decide +kernel
theorem dX5_mendingChanges_5 : decode cX5_mendingChanges 5 = .ok (.getfield 10, 3) := by decide +kernel
theorem dX5_mendingChanges_8 : decode cX5_mendingChanges 8 = .ok (.invokevirtual 150, 3) := by decide +kernel
theorem dX5_mendingChanges_11 : decode cX5_mendingChanges 11 = .ok (.aload_n 0, 1) := by decide +kernel
theorem dX5_mendingChanges_12 : decode cX5_mendingChanges 12 = .ok (.getfield 33, 3) := by decide +kernel
theorem dX5_mendingChanges_15 : decode cX5_mendingChanges 15 = .ok (.iconst 2, 1) := by decide +kernel
theorem dX5_mendingChanges_16 : decode cX5_mendingChanges 16 = .ok (.invokevirtual 153, 3) := by decide +kernel
theorem dX5_mendingChanges_19 : decode cX5_mendingChanges 19 = .ok (.ifCond .eq 24, 3) := by decide +kernel
theorem dX5_mendingChanges_22 : decode cX5_mendingChanges 22 = .ok (.aload_n 0, 1) := by decide +kernel
theorem dX5_mendingChanges_23 : decode cX5_mendingChanges 23 = .ok (.getfield 33, 3) := by decide +kernel
theorem dX5_mendingChanges_26 : decode cX5_mendingChanges 26 = .ok (.getfield 104, 3) := by decide +kernel
theorem dX5_mendingChanges_29 : decode cX5_mendingChanges 29 = .ok (.aload_n 0, 1) := by decide +kernel
theorem dX5_mendingChanges_30 : decode cX5_mendingChanges 30 = .ok (.getfield 10, 3) := by decide +kernel
theorem dX5_mendingChanges_33 : decode cX5_mendingChanges 33 = .ok (.getfield 80, 3) := by decide +kernel
theorem dX5_mendingChanges_36 : decode cX5_mendingChanges 36 = .ok (.ixor, 1) := by decide +kernel
theorem dX5_mendingChanges_37 : decode cX5_mendingChanges 37 = .ok (.invokestatic 86, 3) := by decide +kernel
theorem dX5_mendingChanges_40 : decode cX5_mendingChanges 40 = .ok (.goto 5, 3) := by decide +kernel
theorem dX5_mendingChanges_43 : decode cX5_mendingChanges 43 = .ok (.bipush (-9), 2) := by decide +kernel
theorem dX5_mendingChanges_45 : decode cX5_mendingChanges 45 = .ok (.ireturn, 1) := by decide +kernel
set_option maxRecDepth 20000 in
theorem ggX5_askTables_X3_gather : GoodIn wsX5_askTables wsX3_gather := goodIn_r _ [9, 10, 11, 12, 13, 14, 15, 16, 17, 18, 19, 20, 21, 22, 23, 24, 25, 26, 27, 28, 29, 30, 31, 32, 33, 34, 35, 36, 37, 38, 39, 40, 41, 42, 43, 44, 45, 46, 47, 48, 49, 50, 51, 52, 53, 54, 55, 56, 57, 58, 59, 60, 61, 62, 8, 63, 73, 74, 75, 76, 77, 78, 79, 80, 81, 82] (by decide +kernel) (by decide +kernel)
set_option maxRecDepth 20000 in
theorem gX5_askTables_X3_gather : GoodIn wsX5_askTables (wsV RX5 189 RX3 yX3_gather wsX3_gather) := goodIn_app (goodIn_of _ (by decide +kernel)) ggX5_askTables_X3_gather
theorem dX5_askTables_0 : decode cX5_askTables 0 = .ok (.iload_n 1, 1) := by decide +kernel
theorem dX5_askTables_1 : decode cX5_askTables 1 = .ok (.ifCond .lt 8, 3) := by decide +kernel
theorem dX5_askTables_4 : decode cX5_askTables 4 = .ok (.iload_n 1, 1) := by decide +kernel
theorem dX5_askTables_5 : decode cX5_askTables 5 = .ok (.iconst 1, 1) := by decide +kernel
theorem dX5_askTables_6 : decode cX5_askTables 6 = .ok (.if_icmp .le 5, 3) := by decide +kernel
theorem dX5_askTables_9 : decode cX5_askTables 9 = .ok (.iconst (-1), 1) := by decide +kernel
theorem dX5_askTables_10 : decode cX5_askTables 10 = .ok (.ireturn, 1) := by decide +kernel
theorem dX5_askTables_11 : decode cX5_askTables 11 = .ok (.aload_n 0, 1) := by decide +kernel
theorem dX5_askTables_12 : decode cX5_askTables 12 = .ok (.getfield 40, 3) := by decide +kernel
theorem dX5_askTables_15 : decode cX5_askTables 15 = .ok (.aload_n 0, 1) := by decide +kernel
theorem dX5_askTables_16 : decode cX5_askTables 16 = .ok (.getfield 10, 3) := by decide +kernel
theorem dX5_askTables_19 : decode cX5_askTables 19 = .ok (.iload_n 2, 1) := by decide +kernel
theorem dX5_askTables_20 : decode cX5_askTables 20 = .ok (.iload_n 3, 1) := by decide +kernel
theorem dX5_askTables_21 : decode cX5_askTables 21 = .ok (.invokevirtual 189, 3) := by decide +kernel
theorem dX5_askTables_24 : decode cX5_askTables 24 = .ok (.iload_n 1, 1) := by decide +kernel
theorem dX5_askTables_25 : decode cX5_askTables 25 = .ok (.ifCond .ne 13, 3) := by decide +kernel
theorem dX5_askTables_28 : decode cX5_askTables 28 = .ok (.aload_n 0, 1) := by decide +kernel
theorem dX5_askTables_29 : decode cX5_askTables 29 = .ok (.getfield 40, 3) := by decide +kernel
theorem dX5_askTables_32 : decode cX5_askTables 32 = .ok (.getfield 193, 3) := by decide +kernel
theorem dX5_askTables_35 : decode cX5_askTables 35 = .ok (.goto 10, 3) := by decide +kernel
theorem dX5_askTables_38 : decode cX5_askTables 38 = .ok (.aload_n 0, 1) := by decide +kernel
theorem dX5_askTables_39 : decode cX5_askTables 39 = .ok (.getfield 40, 3) := by decide +kernel
theorem dX5_askTables_42 : decode cX5_askTables 42 = .ok (.getfield 201, 3) := by decide +kernel
theorem dX5_askTables_45 : decode cX5_askTables 45 = .ok (.ireturn, 1) := by decide +kernel
theorem dX5_isHand_0 : decode cX5_isHand 0 = .ok (.iload_n 0, 1) := by decide +kernel
theorem dX5_isHand_1 : decode cX5_isHand 1 = .ok (.ifCond .eq 8, 3) := by decide +kernel
theorem dX5_isHand_4 : decode cX5_isHand 4 = .ok (.iload_n 0, 1) := by decide +kernel
theorem dX5_isHand_5 : decode cX5_isHand 5 = .ok (.iconst 1, 1) := by decide +kernel
theorem dX5_isHand_6 : decode cX5_isHand 6 = .ok (.if_icmp .ne 7, 3) := by decide +kernel
theorem dX5_isHand_9 : decode cX5_isHand 9 = .ok (.iconst 1, 1) := by decide +kernel
theorem dX5_isHand_10 : decode cX5_isHand 10 = .ok (.goto 4, 3) := by decide +kernel
theorem dX5_isHand_13 : decode cX5_isHand 13 = .ok (.iconst 0, 1) := by decide +kernel
theorem dX5_isHand_14 : decode cX5_isHand 14 = .ok (.ireturn, 1) := by decide +kernel
theorem dX5_isNumber_0 : decode cX5_isNumber 0 = .ok (.iload_n 0, 1) := by decide +kernel
theorem dX5_isNumber_1 : decode cX5_isNumber 1 = .ok (.ifCond .lt 30, 3) := by decide +kernel
theorem dX5_isNumber_4 : decode cX5_isNumber 4 = .ok (.iload_n 0, 1) := by decide +kernel
theorem dX5_isNumber_5 : decode cX5_isNumber 5 = .ok (.iconst 2, 1) := by decide +kernel
theorem dX5_isNumber_6 : decode cX5_isNumber 6 = .ok (.if_icmp .gt 25, 3) := by decide +kernel
theorem dX5_isNumber_9 : decode cX5_isNumber 9 = .ok (.iload_n 1, 1) := by decide +kernel
theorem dX5_isNumber_10 : decode cX5_isNumber 10 = .ok (.getstatic 161, 3) := by decide +kernel
theorem dX5_isNumber_13 : decode cX5_isNumber 13 = .ok (.iload_n 0, 1) := by decide +kernel
theorem dX5_isNumber_14 : decode cX5_isNumber 14 = .ok (.iaload, 1) := by decide +kernel
theorem dX5_isNumber_15 : decode cX5_isNumber 15 = .ok (.if_icmp .lt 16, 3) := by decide +kernel
theorem dX5_isNumber_18 : decode cX5_isNumber 18 = .ok (.iload_n 1, 1) := by decide +kernel
theorem dX5_isNumber_19 : decode cX5_isNumber 19 = .ok (.getstatic 157, 3) := by decide +kernel
theorem dX5_isNumber_22 : decode cX5_isNumber 22 = .ok (.iload_n 0, 1) := by decide +kernel
theorem dX5_isNumber_23 : decode cX5_isNumber 23 = .ok (.iaload, 1) := by decide +kernel
theorem dX5_isNumber_24 : decode cX5_isNumber 24 = .ok (.if_icmp .gt 7, 3) := by decide +kernel
theorem dX5_isNumber_27 : decode cX5_isNumber 27 = .ok (.iconst 1, 1) := by decide +kernel
theorem dX5_isNumber_28 : decode cX5_isNumber 28 = .ok (.goto 4, 3) := by decide +kernel
theorem dX5_isNumber_31 : decode cX5_isNumber 31 = .ok (.iconst 0, 1) := by decide +kernel
theorem dX5_isNumber_32 : decode cX5_isNumber 32 = .ok (.ireturn, 1) := by decide +kernel
theorem dX5_ticksFrom_0 : decode cX5_ticksFrom 0 = .ok (.iconst 1, 1) := by decide +kernel
theorem dX5_ticksFrom_1 : decode cX5_ticksFrom 1 = .ok (.iload_n 1, 1) := by decide +kernel
theorem dX5_ticksFrom_2 : decode cX5_ticksFrom 2 = .ok (.ishl, 1) := by decide +kernel
theorem dX5_ticksFrom_3 : decode cX5_ticksFrom 3 = .ok (.iconst 1, 1) := by decide +kernel
theorem dX5_ticksFrom_4 : decode cX5_ticksFrom 4 = .ok (.isub, 1) := by decide +kernel
theorem dX5_ticksFrom_5 : decode cX5_ticksFrom 5 = .ok (.iload_n 0, 1) := by decide +kernel
theorem dX5_ticksFrom_6 : decode cX5_ticksFrom 6 = .ok (.ishl, 1) := by decide +kernel
theorem dX5_ticksFrom_7 : decode cX5_ticksFrom 7 = .ok (.ireturn, 1) := by decide +kernel
end
section
set_option maxRecDepth 20000 in
theorem ggX6_init_X6_bares : GoodIn wsX6_init wsX6_bares := goodIn_r _ [18] (by decide +kernel) (by decide +kernel)
set_option maxRecDepth 20000 in
theorem gX6_init_X6_bares : GoodIn wsX6_init (va_wsS RX6 38 yX6_bares wsX6_bares) := goodIn_app (goodIn_of _ (by decide +kernel)) ggX6_init_X6_bares
theorem dX6_init_0 : decode cX6_init 0 = .ok (.aload_n 0, 1) := by decide +kernel
theorem dX6_init_1 : decode cX6_init 1 = .ok (.invokespecial 1, 3) := by decide +kernel
theorem dX6_init_4 : decode cX6_init 4 = .ok (.aload_n 0, 1) := by decide +kernel
theorem dX6_init_5 : decode cX6_init 5 = .ok (.bipush 17, 2) := by decide +kernel
theorem dX6_init_7 : decode cX6_init 7 = .ok (.newarray .int, 2) := by decide +kernel
theorem dX6_init_9 : decode cX6_init 9 = .ok (.putfield 7, 3) := by decide +kernel
theorem dX6_init_12 : decode cX6_init 12 = .ok (.aload_n 0, 1) := by decide +kernel
theorem dX6_init_13 : decode cX6_init 13 = .ok (.bipush 17, 2) := by decide +kernel
theorem dX6_init_15 : decode cX6_init 15 = .ok (.newarray .int, 2) := by decide +kernel
theorem dX6_init_17 : decode cX6_init 17 = .ok (.putfield 13, 3) := by decide +kernel
theorem dX6_init_20 : decode cX6_init 20 = .ok (.aload_n 0, 1) := by decide +kernel
theorem dX6_init_21 : decode cX6_init 21 = .ok (.bipush 102, 2) := by decide +kernel
theorem dX6_init_23 : decode cX6_init 23 = .ok (.newarray .int, 2) := by decide +kernel
theorem dX6_init_25 : decode cX6_init 25 = .ok (.putfield 16, 3) := by decide +kernel
theorem dX6_init_28 : decode cX6_init 28 = .ok (.aload_n 0, 1) := by decide +kernel
theorem dX6_init_29 : decode cX6_init 29 = .ok (.bipush 34, 2) := by decide +kernel
theorem dX6_init_31 : decode cX6_init 31 = .ok (.newarray .int, 2) := by decide +kernel
theorem dX6_init_33 : decode cX6_init 33 = .ok (.putfield 19, 3) := by decide +kernel
theorem dX6_init_36 : decode cX6_init 36 = .ok (.aload_n 0, 1) := by decide +kernel
theorem dX6_init_37 : decode cX6_init 37 = .ok (.iconst 2, 1) := by decide +kernel
theorem dX6_init_38 : decode cX6_init 38 = .ok (.newarray .boolean, 2) := by decide +kernel
theorem dX6_init_40 : decode cX6_init 40 = .ok (.putfield 22, 3) := by decide +kernel
theorem dX6_init_43 : decode cX6_init 43 = .ok (.aload_n 0, 1) := by decide +kernel
theorem dX6_init_44 : decode cX6_init 44 = .ok (.bipush 6, 2) := by decide +kernel
theorem dX6_init_46 : decode cX6_init 46 = .ok (.newarray .int, 2) := by decide +kernel
theorem dX6_init_48 : decode cX6_init 48 = .ok (.putfield 26, 3) := by decide +kernel
theorem dX6_init_51 : decode cX6_init 51 = .ok (.aload_n 0, 1) := by decide +kernel
theorem dX6_init_52 : decode cX6_init 52 = .ok (.bipush 6, 2) := by decide +kernel
theorem dX6_init_54 : decode cX6_init 54 = .ok (.newarray .int, 2) := by decide +kernel
theorem dX6_init_56 : decode cX6_init 56 = .ok (.putfield 29, 3) := by decide +kernel
theorem dX6_init_59 : decode cX6_init 59 = .ok (.aload_n 0, 1) := by decide +kernel
theorem dX6_init_60 : decode cX6_init 60 = .ok (.bipush 120, 2) := by decide +kernel
theorem dX6_init_62 : decode cX6_init 62 = .ok (.newarray .int, 2) := by decide +kernel
theorem dX6_init_64 : decode cX6_init 64 = .ok (.putfield 32, 3) := by decide +kernel
theorem dX6_init_67 : decode cX6_init 67 = .ok (.aload_n 0, 1) := by decide +kernel
theorem dX6_init_68 : decode cX6_init 68 = .ok (.bipush 12, 2) := by decide +kernel
theorem dX6_init_70 : decode cX6_init 70 = .ok (.newarray .int, 2) := by decide +kernel
theorem dX6_init_72 : decode cX6_init 72 = .ok (.putfield 35, 3) := by decide +kernel
theorem dX6_init_75 : decode cX6_init 75 = .ok (.aload_n 0, 1) := by decide +kernel
theorem dX6_init_76 : decode cX6_init 76 = .ok (.getfield 7, 3) := by decide +kernel
theorem dX6_init_79 : decode cX6_init 79 = .ok (.invokestatic 38, 3) := by decide +kernel
theorem dX6_init_82 : decode cX6_init 82 = .ok (.aload_n 0, 1) := by decide +kernel
theorem dX6_init_83 : decode cX6_init 83 = .ok (.getfield 7, 3) := by decide +kernel
theorem dX6_init_86 : decode cX6_init 86 = .ok (.iconst 0, 1) := by decide +kernel
theorem dX6_init_87 : decode cX6_init 87 = .ok (.iconst 1, 1) := by decide +kernel
theorem dX6_init_88 : decode cX6_init 88 = .ok (.iastore, 1) := by decide +kernel
theorem dX6_init_89 : decode cX6_init 89 = .ok (.return_, 1) := by decide +kernel
theorem dX6_within_0 : decode cX6_within 0 = .ok (.iload_n 0, 1) := by decide +kernel
theorem dX6_within_1 : decode cX6_within 1 = .ok (.iload_n 1, 1) := by decide +kernel
theorem dX6_within_2 : decode cX6_within 2 = .ok (.if_icmp .lt 12, 3) := by decide +kernel
theorem dX6_within_5 : decode cX6_within 5 = .ok (.iload_n 0, 1) := by decide +kernel
theorem dX6_within_6 : decode cX6_within 6 = .ok (.iload_n 2, 1) := by decide +kernel
theorem dX6_within_7 : decode cX6_within 7 = .ok (.if_icmp .gt 7, 3) := by decide +kernel
theorem dX6_within_10 : decode cX6_within 10 = .ok (.iconst 1, 1) := by decide +kernel
theorem dX6_within_11 : decode cX6_within 11 = .ok (.goto 4, 3) := by decide +kernel
theorem dX6_within_14 : decode cX6_within 14 = .ok (.iconst 0, 1) := by decide +kernel
theorem dX6_within_15 : decode cX6_within 15 = .ok (.ireturn, 1) := by decide +kernel
theorem dX6_has_0 : decode cX6_has 0 = .ok (.iload_n 0, 1) := by decide +kernel
theorem dX6_has_1 : decode cX6_has 1 = .ok (.iload_n 1, 1) := by decide +kernel
theorem dX6_has_2 : decode cX6_has 2 = .ok (.ishr, 1) := by decide +kernel
theorem dX6_has_3 : decode cX6_has 3 = .ok (.iconst 1, 1) := by decide +kernel
theorem dX6_has_4 : decode cX6_has 4 = .ok (.iand, 1) := by decide +kernel
theorem dX6_has_5 : decode cX6_has 5 = .ok (.iconst 1, 1) := by decide +kernel
theorem dX6_has_6 : decode cX6_has 6 = .ok (.if_icmp .ne 7, 3) := by decide +kernel
theorem dX6_has_9 : decode cX6_has 9 = .ok (.iconst 1, 1) := by decide +kernel
theorem dX6_has_10 : decode cX6_has 10 = .ok (.goto 4, 3) := by decide +kernel
theorem dX6_has_13 : decode cX6_has 13 = .ok (.iconst 0, 1) := by decide +kernel
theorem dX6_has_14 : decode cX6_has 14 = .ok (.ireturn, 1) := by decide +kernel
theorem dX6_bares_0 : decode cX6_bares 0 = .ok (.iconst 0, 1) := by decide +kernel
theorem dX6_bares_1 : decode cX6_bares 1 = .ok (.istore_n 1, 1) := by decide +kernel
theorem dX6_bares_2 : decode cX6_bares 2 = .ok (.iload_n 1, 1) := by decide +kernel
theorem dX6_bares_3 : decode cX6_bares 3 = .ok (.bipush 17, 2) := by decide +kernel
theorem dX6_bares_5 : decode cX6_bares 5 = .ok (.if_icmp .ge 13, 3) := by decide +kernel
theorem dX6_bares_8 : decode cX6_bares 8 = .ok (.aload_n 0, 1) := by decide +kernel
theorem dX6_bares_9 : decode cX6_bares 9 = .ok (.iload_n 1, 1) := by decide +kernel
theorem dX6_bares_10 : decode cX6_bares 10 = .ok (.iconst 0, 1) := by decide +kernel
theorem dX6_bares_11 : decode cX6_bares 11 = .ok (.iastore, 1) := by decide +kernel
theorem dX6_bares_12 : decode cX6_bares 12 = .ok (.iinc 1 1, 3) := by decide +kernel
theorem dX6_bares_15 : decode cX6_bares 15 = .ok (.goto (-13), 3) := by decide +kernel
theorem dX6_bares_18 : decode cX6_bares 18 = .ok (.aload_n 0, 1) := by decide +kernel
theorem dX6_bares_19 : decode cX6_bares 19 = .ok (.iconst 1, 1) := by decide +kernel
theorem dX6_bares_20 : decode cX6_bares 20 = .ok (.iconst 2, 1) := by decide +kernel
theorem dX6_bares_21 : decode cX6_bares 21 = .ok (.iastore, 1) := by decide +kernel
theorem dX6_bares_22 : decode cX6_bares 22 = .ok (.aload_n 0, 1) := by decide +kernel
theorem dX6_bares_23 : decode cX6_bares 23 = .ok (.iconst 2, 1) := by decide +kernel
theorem dX6_bares_24 : decode cX6_bares 24 = .ok (.iconst 2, 1) := by decide +kernel
theorem dX6_bares_25 : decode cX6_bares 25 = .ok (.iastore, 1) := by decide +kernel
theorem dX6_bares_26 : decode cX6_bares 26 = .ok (.aload_n 0, 1) := by decide +kernel
theorem dX6_bares_27 : decode cX6_bares 27 = .ok (.iconst 3, 1) := by decide +kernel
theorem dX6_bares_28 : decode cX6_bares 28 = .ok (.iconst 4, 1) := by decide +kernel
theorem dX6_bares_29 : decode cX6_bares 29 = .ok (.iastore, 1) := by decide +kernel
theorem dX6_bares_30 : decode cX6_bares 30 = .ok (.return_, 1) := by decide +kernel
theorem dX6_least_0 : decode cX6_least 0 = .ok (.iload_n 0, 1) := by decide +kernel
theorem dX6_least_1 : decode cX6_least 1 = .ok (.iconst 1, 1) := by decide +kernel
theorem dX6_least_2 : decode cX6_least 2 = .ok (.if_icmp .ne 7, 3) := by decide +kernel
theorem dX6_least_5 : decode cX6_least 5 = .ok (.iconst 1, 1) := by decide +kernel
theorem dX6_least_6 : decode cX6_least 6 = .ok (.goto 13, 3) := by decide +kernel
theorem dX6_least_9 : decode cX6_least 9 = .ok (.iload_n 0, 1) := by decide +kernel
theorem dX6_least_10 : decode cX6_least 10 = .ok (.iconst 2, 1) := by decide +kernel
theorem dX6_least_11 : decode cX6_least 11 = .ok (.if_icmp .ne 7, 3) := by decide +kernel
theorem dX6_least_14 : decode cX6_least 14 = .ok (.iconst 0, 1) := by decide +kernel
theorem dX6_least_15 : decode cX6_least 15 = .ok (.goto 4, 3) := by decide +kernel
theorem dX6_least_18 : decode cX6_least 18 = .ok (.iconst 2, 1) := by decide +kernel
theorem dX6_least_19 : decode cX6_least 19 = .ok (.ireturn, 1) := by decide +kernel
theorem dX6_greatest_0 : decode cX6_greatest 0 = .ok (.iload_n 0, 1) := by decide +kernel
theorem dX6_greatest_1 : decode cX6_greatest 1 = .ok (.iconst 1, 1) := by decide +kernel
theorem dX6_greatest_2 : decode cX6_greatest 2 = .ok (.if_icmp .ne 7, 3) := by decide +kernel
theorem dX6_greatest_5 : decode cX6_greatest 5 = .ok (.iconst 5, 1) := by decide +kernel
theorem dX6_greatest_6 : decode cX6_greatest 6 = .ok (.goto 5, 3) := by decide +kernel
theorem dX6_greatest_9 : decode cX6_greatest 9 = .ok (.bipush 6, 2) := by decide +kernel
theorem dX6_greatest_11 : decode cX6_greatest 11 = .ok (.ireturn, 1) := by decide +kernel
theorem dX6_skips_0 : decode cX6_skips 0 = .ok (.aload_n 0, 1) := by decide +kernel
theorem dX6_skips_1 : decode cX6_skips 1 = .ok (.getfield 42, 3) := by decide +kernel
theorem dX6_skips_4 : decode cX6_skips 4 = .ok (.aload_n 0, 1) := by decide +kernel
theorem dX6_skips_5 : decode cX6_skips 5 = .ok (.getfield 46, 3) := by decide +kernel
theorem dX6_skips_8 : decode cX6_skips 8 = .ok (.if_icmp .ge 30, 3) := by decide +kernel
theorem dX6_skips_11 : decode cX6_skips 11 = .ok (.aload_n 0, 1) := by decide +kernel
theorem dX6_skips_12 : decode cX6_skips 12 = .ok (.getfield 32, 3) := by decide +kernel
theorem dX6_skips_15 : decode cX6_skips 15 = .ok (.aload_n 0, 1) := by decide +kernel
theorem dX6_skips_16 : decode cX6_skips 16 = .ok (.getfield 42, 3) := by decide +kernel
theorem dX6_skips_19 : decode cX6_skips 19 = .ok (.iaload, 1) := by decide +kernel
theorem dX6_skips_20 : decode cX6_skips 20 = .ok (.bipush 32, 2) := by decide +kernel
theorem dX6_skips_22 : decode cX6_skips 22 = .ok (.if_icmp .ne 16, 3) := by decide +kernel
theorem dX6_skips_25 : decode cX6_skips 25 = .ok (.aload_n 0, 1) := by decide +kernel
theorem dX6_skips_26 : decode cX6_skips 26 = .ok (.dup, 1) := by decide +kernel
theorem dX6_skips_27 : decode cX6_skips 27 = .ok (.getfield 42, 3) := by decide +kernel
theorem dX6_skips_30 : decode cX6_skips 30 = .ok (.iconst 1, 1) := by decide +kernel
theorem dX6_skips_31 : decode cX6_skips 31 = .ok (.iadd, 1) := by decide +kernel
theorem dX6_skips_32 : decode cX6_skips 32 = .ok (.putfield 42, 3) := by decide +kernel
theorem dX6_skips_35 : decode cX6_skips 35 = .ok (.goto (-35), 3) := by decide +kernel
theorem dX6_skips_38 : decode cX6_skips 38 = .ok (.aload_n 0, 1) := by decide +kernel
theorem dX6_skips_39 : decode cX6_skips 39 = .ok (.aload_n 0, 1) := by decide +kernel
theorem dX6_skips_40 : decode cX6_skips 40 = .ok (.getfield 42, 3) := by decide +kernel
theorem dX6_skips_43 : decode cX6_skips 43 = .ok (.putfield 49, 3) := by decide +kernel
theorem dX6_skips_46 : decode cX6_skips 46 = .ok (.return_, 1) := by decide +kernel
set_option maxRecDepth 20000 in
theorem ggX6_isAt_X6_within : GoodIn wsX6_isAt wsX6_within := goodIn_r _ [7] (by decide +kernel) (by decide +kernel)
set_option maxRecDepth 20000 in
theorem gX6_isAt_X6_within : GoodIn wsX6_isAt (va_wsS RX6 52 yX6_within wsX6_within) := goodIn_app (goodIn_of _ (by decide +kernel)) ggX6_isAt_X6_within
theorem dX6_isAt_0 : decode cX6_isAt 0 = .ok (.aload_n 0, 1) := by decide +kernel
theorem dX6_isAt_1 : decode cX6_isAt 1 = .ok (.getfield 42, 3) := by decide +kernel
theorem dX6_isAt_4 : decode cX6_isAt 4 = .ok (.aload_n 0, 1) := by decide +kernel
theorem dX6_isAt_5 : decode cX6_isAt 5 = .ok (.getfield 46, 3) := by decide +kernel
theorem dX6_isAt_8 : decode cX6_isAt 8 = .ok (.if_icmp .ge 24, 3) := by decide +kernel
theorem dX6_isAt_11 : decode cX6_isAt 11 = .ok (.aload_n 0, 1) := by decide +kernel
theorem dX6_isAt_12 : decode cX6_isAt 12 = .ok (.getfield 32, 3) := by decide +kernel
theorem dX6_isAt_15 : decode cX6_isAt 15 = .ok (.aload_n 0, 1) := by decide +kernel
theorem dX6_isAt_16 : decode cX6_isAt 16 = .ok (.getfield 42, 3) := by decide +kernel
theorem dX6_isAt_19 : decode cX6_isAt 19 = .ok (.iaload, 1) := by decide +kernel
theorem dX6_isAt_20 : decode cX6_isAt 20 = .ok (.iload_n 1, 1) := by decide +kernel
theorem dX6_isAt_21 : decode cX6_isAt 21 = .ok (.iload_n 2, 1) := by decide +kernel
theorem dX6_isAt_22 : decode cX6_isAt 22 = .ok (.invokestatic 52, 3) := by decide +kernel
theorem dX6_isAt_25 : decode cX6_isAt 25 = .ok (.ifCond .eq 7, 3) := by decide +kernel
theorem dX6_isAt_28 : decode cX6_isAt 28 = .ok (.iconst 1, 1) := by decide +kernel
theorem dX6_isAt_29 : decode cX6_isAt 29 = .ok (.goto 4, 3) := by decide +kernel
theorem dX6_isAt_32 : decode cX6_isAt 32 = .ok (.iconst 0, 1) := by decide +kernel
theorem dX6_isAt_33 : decode cX6_isAt 33 = .ok (.ireturn, 1) := by decide +kernel
set_option maxRecDepth 20000 in
theorem ggX6_passesEnd_X6_skips : GoodIn wsX6_passesEnd wsX6_skips := goodIn_r _ [6, 1, 7, 8, 9, 17, 18, 19, 20, 21, 22, 23, 24, 25, 26, 27, 28, 29, 30, 31] (by decide +kernel) (by decide +kernel)
set_option maxRecDepth 20000 in
theorem gX6_passesEnd_X6_skips : GoodIn wsX6_passesEnd (wsV RX6 56 RX6 yX6_skips wsX6_skips) := goodIn_app (goodIn_of _ (by decide +kernel)) ggX6_passesEnd_X6_skips
set_option maxRecDepth 20000 in
theorem ggX6_passesEnd_X6_isAt : GoodIn wsX6_passesEnd wsX6_isAt := goodIn_r _ [13, 1, 7, 8, 14, 15, 5, 16, 17, 18, 19, 20, 21, 22, 23, 24, 25, 26, 27, 28, 29, 30, 31] (by decide +kernel) (by decide +kernel)
set_option maxRecDepth 20000 in
theorem gX6_passesEnd_X6_isAt : GoodIn wsX6_passesEnd (wsV RX6 59 RX6 yX6_isAt wsX6_isAt) := goodIn_app (goodIn_of _ (by decide +kernel)) ggX6_passesEnd_X6_isAt
theorem dX6_passesEnd_0 : decode cX6_passesEnd 0 = .ok (.aload_n 0, 1) := by decide +kernel
theorem dX6_passesEnd_1 : decode cX6_passesEnd 1 = .ok (.invokevirtual 56, 3) := by decide +kernel
theorem dX6_passesEnd_4 : decode cX6_passesEnd 4 = .ok (.aload_n 0, 1) := by decide +kernel
theorem dX6_passesEnd_5 : decode cX6_passesEnd 5 = .ok (.bipush 59, 2) := by decide +kernel
theorem dX6_passesEnd_7 : decode cX6_passesEnd 7 = .ok (.bipush 59, 2) := by decide +kernel
theorem dX6_passesEnd_9 : decode cX6_passesEnd 9 = .ok (.invokevirtual 59, 3) := by decide +kernel
theorem dX6_passesEnd_12 : decode cX6_passesEnd 12 = .ok (.istore_n 1, 1) := by decide +kernel
theorem dX6_passesEnd_13 : decode cX6_passesEnd 13 = .ok (.aload_n 0, 1) := by decide +kernel
theorem dX6_passesEnd_14 : decode cX6_passesEnd 14 = .ok (.dup, 1) := by decide +kernel
theorem dX6_passesEnd_15 : decode cX6_passesEnd 15 = .ok (.getfield 42, 3) := by decide +kernel
theorem dX6_passesEnd_18 : decode cX6_passesEnd 18 = .ok (.iload_n 1, 1) := by decide +kernel
theorem dX6_passesEnd_19 : decode cX6_passesEnd 19 = .ok (.ifCond .eq 7, 3) := by decide +kernel
theorem dX6_passesEnd_22 : decode cX6_passesEnd 22 = .ok (.iconst 1, 1) := by decide +kernel
theorem dX6_passesEnd_23 : decode cX6_passesEnd 23 = .ok (.goto 4, 3) := by decide +kernel
theorem dX6_passesEnd_26 : decode cX6_passesEnd 26 = .ok (.iconst 0, 1) := by decide +kernel
theorem dX6_passesEnd_27 : decode cX6_passesEnd 27 = .ok (.iadd, 1) := by decide +kernel
theorem dX6_passesEnd_28 : decode cX6_passesEnd 28 = .ok (.putfield 42, 3) := by decide +kernel
theorem dX6_passesEnd_31 : decode cX6_passesEnd 31 = .ok (.iload_n 1, 1) := by decide +kernel
theorem dX6_passesEnd_32 : decode cX6_passesEnd 32 = .ok (.ireturn, 1) := by decide +kernel
set_option maxRecDepth 20000 in
theorem ggX6_figures_X6_skips : GoodIn wsX6_figures wsX6_skips := goodIn_r _ [8, 2, 9, 1, 3, 17, 18, 19, 20, 21, 22, 23, 24, 25, 26, 27, 28, 29, 30, 31] (by decide +kernel) (by decide +kernel)
set_option maxRecDepth 20000 in
theorem gX6_figures_X6_skips : GoodIn wsX6_figures (wsV RX6 56 RX6 yX6_skips wsX6_skips) := goodIn_app (goodIn_of _ (by decide +kernel)) ggX6_figures_X6_skips
set_option maxRecDepth 20000 in
theorem ggX6_figures_X6_isAt : GoodIn wsX6_figures wsX6_isAt := goodIn_r _ [13, 2, 9, 1, 14, 15, 7, 16, 17, 18, 19, 20, 21, 22, 23, 24, 25, 26, 27, 28, 29, 30, 31] (by decide +kernel) (by decide +kernel)
set_option maxRecDepth 20000 in
theorem gX6_figures_X6_isAt : GoodIn wsX6_figures (wsV RX6 59 RX6 yX6_isAt wsX6_isAt) := goodIn_app (goodIn_of _ (by decide +kernel)) ggX6_figures_X6_isAt
theorem dX6_figures_0 : decode cX6_figures 0 = .ok (.aload_n 0, 1) := by decide +kernel
theorem dX6_figures_1 : decode cX6_figures 1 = .ok (.invokevirtual 56, 3) := by decide +kernel
theorem dX6_figures_4 : decode cX6_figures 4 = .ok (.iconst 1, 1) := by decide +kernel
theorem dX6_figures_5 : decode cX6_figures 5 = .ok (.istore_n 2, 1) := by decide +kernel
theorem dX6_figures_6 : decode cX6_figures 6 = .ok (.aload_n 0, 1) := by decide +kernel
theorem dX6_figures_7 : decode cX6_figures 7 = .ok (.bipush 48, 2) := by decide +kernel
theorem dX6_figures_9 : decode cX6_figures 9 = .ok (.bipush 57, 2) := by decide +kernel
theorem dX6_figures_11 : decode cX6_figures 11 = .ok (.invokevirtual 59, 3) := by decide +kernel
theorem dX6_figures_14 : decode cX6_figures 14 = .ok (.ifCond .eq 42, 3) := by decide +kernel
theorem dX6_figures_17 : decode cX6_figures 17 = .ok (.iload_n 2, 1) := by decide +kernel
theorem dX6_figures_18 : decode cX6_figures 18 = .ok (.ifCond .eq 23, 3) := by decide +kernel
theorem dX6_figures_21 : decode cX6_figures 21 = .ok (.aload_n 0, 1) := by decide +kernel
theorem dX6_figures_22 : decode cX6_figures 22 = .ok (.getfield 32, 3) := by decide +kernel
theorem dX6_figures_25 : decode cX6_figures 25 = .ok (.aload_n 0, 1) := by decide +kernel
theorem dX6_figures_26 : decode cX6_figures 26 = .ok (.getfield 42, 3) := by decide +kernel
theorem dX6_figures_29 : decode cX6_figures 29 = .ok (.iaload, 1) := by decide +kernel
theorem dX6_figures_30 : decode cX6_figures 30 = .ok (.bipush 48, 2) := by decide +kernel
theorem dX6_figures_32 : decode cX6_figures 32 = .ok (.isub, 1) := by decide +kernel
theorem dX6_figures_33 : decode cX6_figures 33 = .ok (.iload_n 1, 1) := by decide +kernel
theorem dX6_figures_34 : decode cX6_figures 34 = .ok (.if_icmp .gt 7, 3) := by decide +kernel
theorem dX6_figures_37 : decode cX6_figures 37 = .ok (.iconst 1, 1) := by decide +kernel
theorem dX6_figures_38 : decode cX6_figures 38 = .ok (.goto 4, 3) := by decide +kernel
theorem dX6_figures_41 : decode cX6_figures 41 = .ok (.iconst 0, 1) := by decide +kernel
theorem dX6_figures_42 : decode cX6_figures 42 = .ok (.istore_n 2, 1) := by decide +kernel
theorem dX6_figures_43 : decode cX6_figures 43 = .ok (.aload_n 0, 1) := by decide +kernel
theorem dX6_figures_44 : decode cX6_figures 44 = .ok (.dup, 1) := by decide +kernel
theorem dX6_figures_45 : decode cX6_figures 45 = .ok (.getfield 42, 3) := by decide +kernel
theorem dX6_figures_48 : decode cX6_figures 48 = .ok (.iconst 1, 1) := by decide +kernel
theorem dX6_figures_49 : decode cX6_figures 49 = .ok (.iadd, 1) := by decide +kernel
theorem dX6_figures_50 : decode cX6_figures 50 = .ok (.putfield 42, 3) := by decide +kernel
theorem dX6_figures_53 : decode cX6_figures 53 = .ok (.goto (-47), 3) := by decide +kernel
theorem dX6_figures_56 : decode cX6_figures 56 = .ok (.iload_n 2, 1) := by decide +kernel
theorem dX6_figures_57 : decode cX6_figures 57 = .ok (.ifCond .eq 26, 3) := by decide +kernel
theorem dX6_figures_60 : decode cX6_figures 60 = .ok (.aload_n 0, 1) := by decide +kernel
theorem dX6_figures_61 : decode cX6_figures 61 = .ok (.getfield 42, 3) := by decide +kernel
theorem dX6_figures_64 : decode cX6_figures 64 = .ok (.aload_n 0, 1) := by decide +kernel
theorem dX6_figures_65 : decode cX6_figures 65 = .ok (.getfield 49, 3) := by decide +kernel
theorem dX6_figures_68 : decode cX6_figures 68 = .ok (.if_icmp .le 15, 3) := by decide +kernel
theorem dX6_figures_71 : decode cX6_figures 71 = .ok (.aload_n 0, 1) := by decide +kernel
theorem dX6_figures_72 : decode cX6_figures 72 = .ok (.getfield 42, 3) := by decide +kernel
theorem dX6_figures_75 : decode cX6_figures 75 = .ok (.aload_n 0, 1) := by decide +kernel
theorem dX6_figures_76 : decode cX6_figures 76 = .ok (.getfield 49, 3) := by decide +kernel
theorem dX6_figures_79 : decode cX6_figures 79 = .ok (.isub, 1) := by decide +kernel
theorem dX6_figures_80 : decode cX6_figures 80 = .ok (.goto 4, 3) := by decide +kernel
theorem dX6_figures_83 : decode cX6_figures 83 = .ok (.iconst (-1), 1) := by decide +kernel
theorem dX6_figures_84 : decode cX6_figures 84 = .ok (.ireturn, 1) := by decide +kernel
set_option maxRecDepth 20000 in
theorem ggX6_wordPassed_X6_skips : GoodIn wsX6_wordPassed wsX6_skips := goodIn_r _ [8, 1, 9, 3, 2, 17, 18, 19, 20, 21, 22, 23, 24, 25, 26, 27, 28, 29, 30, 31] (by decide +kernel) (by decide +kernel)
set_option maxRecDepth 20000 in
theorem gX6_wordPassed_X6_skips : GoodIn wsX6_wordPassed (wsV RX6 56 RX6 yX6_skips wsX6_skips) := goodIn_app (goodIn_of _ (by decide +kernel)) ggX6_wordPassed_X6_skips
set_option maxRecDepth 20000 in
theorem ggX6_wordPassed_X6_isAt : GoodIn wsX6_wordPassed wsX6_isAt := goodIn_r _ [13, 1, 9, 3, 14, 15, 7, 16, 17, 18, 19, 20, 21, 22, 23, 24, 25, 26, 27, 28, 29, 30, 31] (by decide +kernel) (by decide +kernel)
set_option maxRecDepth 20000 in
theorem gX6_wordPassed_X6_isAt : GoodIn wsX6_wordPassed (wsV RX6 59 RX6 yX6_isAt wsX6_isAt) := goodIn_app (goodIn_of _ (by decide +kernel)) ggX6_wordPassed_X6_isAt
theorem dX6_wordPassed_0 : decode cX6_wordPassed 0 = .ok (.aload_n 0, 1) := by decide +kernel
theorem dX6_wordPassed_1 : decode cX6_wordPassed 1 = .ok (.invokevirtual 56, 3) := by decide +kernel
theorem dX6_wordPassed_4 : decode cX6_wordPassed 4 = .ok (.iconst 0, 1) := by decide +kernel
theorem dX6_wordPassed_5 : decode cX6_wordPassed 5 = .ok (.istore_n 1, 1) := by decide +kernel
theorem dX6_wordPassed_6 : decode cX6_wordPassed 6 = .ok (.aload_n 0, 1) := by decide +kernel
theorem dX6_wordPassed_7 : decode cX6_wordPassed 7 = .ok (.bipush 97, 2) := by decide +kernel
theorem dX6_wordPassed_9 : decode cX6_wordPassed 9 = .ok (.bipush 122, 2) := by decide +kernel
theorem dX6_wordPassed_11 : decode cX6_wordPassed 11 = .ok (.invokevirtual 59, 3) := by decide +kernel
theorem dX6_wordPassed_14 : decode cX6_wordPassed 14 = .ok (.ifCond .eq 53, 3) := by decide +kernel
theorem dX6_wordPassed_17 : decode cX6_wordPassed 17 = .ok (.aload_n 0, 1) := by decide +kernel
theorem dX6_wordPassed_18 : decode cX6_wordPassed 18 = .ok (.getfield 42, 3) := by decide +kernel
theorem dX6_wordPassed_21 : decode cX6_wordPassed 21 = .ok (.aload_n 0, 1) := by decide +kernel
theorem dX6_wordPassed_22 : decode cX6_wordPassed 22 = .ok (.getfield 49, 3) := by decide +kernel
theorem dX6_wordPassed_25 : decode cX6_wordPassed 25 = .ok (.isub, 1) := by decide +kernel
theorem dX6_wordPassed_26 : decode cX6_wordPassed 26 = .ok (.iconst 4, 1) := by decide +kernel
theorem dX6_wordPassed_27 : decode cX6_wordPassed 27 = .ok (.if_icmp .le 7, 3) := by decide +kernel
theorem dX6_wordPassed_30 : decode cX6_wordPassed 30 = .ok (.iconst 0, 1) := by decide +kernel
theorem dX6_wordPassed_31 : decode cX6_wordPassed 31 = .ok (.goto 22, 3) := by decide +kernel
theorem dX6_wordPassed_34 : decode cX6_wordPassed 34 = .ok (.bipush 27, 2) := by decide +kernel
theorem dX6_wordPassed_36 : decode cX6_wordPassed 36 = .ok (.iload_n 1, 1) := by decide +kernel
theorem dX6_wordPassed_37 : decode cX6_wordPassed 37 = .ok (.imul, 1) := by decide +kernel
theorem dX6_wordPassed_38 : decode cX6_wordPassed 38 = .ok (.aload_n 0, 1) := by decide +kernel
theorem dX6_wordPassed_39 : decode cX6_wordPassed 39 = .ok (.getfield 32, 3) := by decide +kernel
theorem dX6_wordPassed_42 : decode cX6_wordPassed 42 = .ok (.aload_n 0, 1) := by decide +kernel
theorem dX6_wordPassed_43 : decode cX6_wordPassed 43 = .ok (.getfield 42, 3) := by decide +kernel
theorem dX6_wordPassed_46 : decode cX6_wordPassed 46 = .ok (.iaload, 1) := by decide +kernel
theorem dX6_wordPassed_47 : decode cX6_wordPassed 47 = .ok (.iadd, 1) := by decide +kernel
theorem dX6_wordPassed_48 : decode cX6_wordPassed 48 = .ok (.bipush 97, 2) := by decide +kernel
theorem dX6_wordPassed_50 : decode cX6_wordPassed 50 = .ok (.isub, 1) := by decide +kernel
theorem dX6_wordPassed_51 : decode cX6_wordPassed 51 = .ok (.iconst 1, 1) := by decide +kernel
theorem dX6_wordPassed_52 : decode cX6_wordPassed 52 = .ok (.iadd, 1) := by decide +kernel
theorem dX6_wordPassed_53 : decode cX6_wordPassed 53 = .ok (.istore_n 1, 1) := by decide +kernel
theorem dX6_wordPassed_54 : decode cX6_wordPassed 54 = .ok (.aload_n 0, 1) := by decide +kernel
theorem dX6_wordPassed_55 : decode cX6_wordPassed 55 = .ok (.dup, 1) := by decide +kernel
theorem dX6_wordPassed_56 : decode cX6_wordPassed 56 = .ok (.getfield 42, 3) := by decide +kernel
theorem dX6_wordPassed_59 : decode cX6_wordPassed 59 = .ok (.iconst 1, 1) := by decide +kernel
theorem dX6_wordPassed_60 : decode cX6_wordPassed 60 = .ok (.iadd, 1) := by decide +kernel
theorem dX6_wordPassed_61 : decode cX6_wordPassed 61 = .ok (.putfield 42, 3) := by decide +kernel
theorem dX6_wordPassed_64 : decode cX6_wordPassed 64 = .ok (.goto (-58), 3) := by decide +kernel
theorem dX6_wordPassed_67 : decode cX6_wordPassed 67 = .ok (.aload_n 0, 1) := by decide +kernel
theorem dX6_wordPassed_68 : decode cX6_wordPassed 68 = .ok (.getfield 42, 3) := by decide +kernel
theorem dX6_wordPassed_71 : decode cX6_wordPassed 71 = .ok (.aload_n 0, 1) := by decide +kernel
theorem dX6_wordPassed_72 : decode cX6_wordPassed 72 = .ok (.getfield 49, 3) := by decide +kernel
theorem dX6_wordPassed_75 : decode cX6_wordPassed 75 = .ok (.isub, 1) := by decide +kernel
theorem dX6_wordPassed_76 : decode cX6_wordPassed 76 = .ok (.iconst 5, 1) := by decide +kernel
theorem dX6_wordPassed_77 : decode cX6_wordPassed 77 = .ok (.if_icmp .le 7, 3) := by decide +kernel
theorem dX6_wordPassed_80 : decode cX6_wordPassed 80 = .ok (.iconst 0, 1) := by decide +kernel
theorem dX6_wordPassed_81 : decode cX6_wordPassed 81 = .ok (.goto 4, 3) := by decide +kernel
theorem dX6_wordPassed_84 : decode cX6_wordPassed 84 = .ok (.iload_n 1, 1) := by decide +kernel
theorem dX6_wordPassed_85 : decode cX6_wordPassed 85 = .ok (.lookupswitch 61 #[(1503, 59), (243140, 51), (453701, 55), (4281544, 53), (9665171, 57)], 51) := by decide +kernel
theorem dX6_wordPassed_136 : decode cX6_wordPassed 136 = .ok (.iconst 0, 1) := by decide +kernel
theorem dX6_wordPassed_137 : decode cX6_wordPassed 137 = .ok (.ireturn, 1) := by decide +kernel
theorem dX6_wordPassed_138 : decode cX6_wordPassed 138 = .ok (.iconst 1, 1) := by decide +kernel
theorem dX6_wordPassed_139 : decode cX6_wordPassed 139 = .ok (.ireturn, 1) := by decide +kernel
theorem dX6_wordPassed_140 : decode cX6_wordPassed 140 = .ok (.iconst 2, 1) := by decide +kernel
theorem dX6_wordPassed_141 : decode cX6_wordPassed 141 = .ok (.ireturn, 1) := by decide +kernel
theorem dX6_wordPassed_142 : decode cX6_wordPassed 142 = .ok (.iconst 3, 1) := by decide +kernel
theorem dX6_wordPassed_143 : decode cX6_wordPassed 143 = .ok (.ireturn, 1) := by decide +kernel
theorem dX6_wordPassed_144 : decode cX6_wordPassed 144 = .ok (.iconst 4, 1) := by decide +kernel
theorem dX6_wordPassed_145 : decode cX6_wordPassed 145 = .ok (.ireturn, 1) := by decide +kernel
theorem dX6_wordPassed_146 : decode cX6_wordPassed 146 = .ok (.bipush (-9), 2) := by decide +kernel
theorem dX6_wordPassed_148 : decode cX6_wordPassed 148 = .ok (.ireturn, 1) := by decide +kernel
set_option maxRecDepth 20000 in
theorem ggX6_readsLine_X6_figures : GoodIn wsX6_readsLine wsX6_figures := goodIn_r _ [8, 2, 9, 3, 10, 11, 12, 7, 13, 14, 15, 16, 17, 18, 19, 20, 21, 22, 23, 24, 25, 26, 27, 28, 29, 30, 31, 32, 33, 34, 35, 36] (by decide +kernel) (by decide +kernel)
set_option maxRecDepth 20000 in
theorem gX6_readsLine_X6_figures : GoodIn wsX6_readsLine (wsV RX6 63 RX6 yX6_figures wsX6_figures) := goodIn_app (goodIn_of _ (by decide +kernel)) ggX6_readsLine_X6_figures
set_option maxRecDepth 20000 in
theorem ggX6_readsLine_X6_within : GoodIn wsX6_readsLine wsX6_within := goodIn_r _ [21] (by decide +kernel) (by decide +kernel)
set_option maxRecDepth 20000 in
theorem gX6_readsLine_X6_within : GoodIn wsX6_readsLine (va_wsS RX6 52 yX6_within wsX6_within) := goodIn_app (goodIn_of _ (by decide +kernel)) ggX6_readsLine_X6_within
theorem dX6_readsLine_0 : decode cX6_readsLine 0 = .ok (.aload_n 0, 1) := by decide +kernel
theorem dX6_readsLine_1 : decode cX6_readsLine 1 = .ok (.getfield 13, 3) := by decide +kernel
theorem dX6_readsLine_4 : decode cX6_readsLine 4 = .ok (.iconst 0, 1) := by decide +kernel
theorem dX6_readsLine_5 : decode cX6_readsLine 5 = .ok (.iaload, 1) := by decide +kernel
theorem dX6_readsLine_6 : decode cX6_readsLine 6 = .ok (.ifCond .le 7, 3) := by decide +kernel
theorem dX6_readsLine_9 : decode cX6_readsLine 9 = .ok (.iconst (-1), 1) := by decide +kernel
theorem dX6_readsLine_10 : decode cX6_readsLine 10 = .ok (.goto 9, 3) := by decide +kernel
theorem dX6_readsLine_13 : decode cX6_readsLine 13 = .ok (.aload_n 0, 1) := by decide +kernel
theorem dX6_readsLine_14 : decode cX6_readsLine 14 = .ok (.bipush 7, 2) := by decide +kernel
theorem dX6_readsLine_16 : decode cX6_readsLine 16 = .ok (.invokevirtual 63, 3) := by decide +kernel
theorem dX6_readsLine_19 : decode cX6_readsLine 19 = .ok (.istore_n 1, 1) := by decide +kernel
theorem dX6_readsLine_20 : decode cX6_readsLine 20 = .ok (.iload_n 1, 1) := by decide +kernel
theorem dX6_readsLine_21 : decode cX6_readsLine 21 = .ok (.iconst 1, 1) := by decide +kernel
theorem dX6_readsLine_22 : decode cX6_readsLine 22 = .ok (.bipush 12, 2) := by decide +kernel
theorem dX6_readsLine_24 : decode cX6_readsLine 24 = .ok (.invokestatic 52, 3) := by decide +kernel
theorem dX6_readsLine_27 : decode cX6_readsLine 27 = .ok (.ifCond .ne 5, 3) := by decide +kernel
theorem dX6_readsLine_30 : decode cX6_readsLine 30 = .ok (.iconst 0, 1) := by decide +kernel
theorem dX6_readsLine_31 : decode cX6_readsLine 31 = .ok (.ireturn, 1) := by decide +kernel
theorem dX6_readsLine_32 : decode cX6_readsLine 32 = .ok (.aload_n 0, 1) := by decide +kernel
theorem dX6_readsLine_33 : decode cX6_readsLine 33 = .ok (.getfield 13, 3) := by decide +kernel
theorem dX6_readsLine_36 : decode cX6_readsLine 36 = .ok (.iconst 0, 1) := by decide +kernel
theorem dX6_readsLine_37 : decode cX6_readsLine 37 = .ok (.iload_n 1, 1) := by decide +kernel
theorem dX6_readsLine_38 : decode cX6_readsLine 38 = .ok (.iastore, 1) := by decide +kernel
theorem dX6_readsLine_39 : decode cX6_readsLine 39 = .ok (.iconst 0, 1) := by decide +kernel
theorem dX6_readsLine_40 : decode cX6_readsLine 40 = .ok (.istore_n 2, 1) := by decide +kernel
theorem dX6_readsLine_41 : decode cX6_readsLine 41 = .ok (.iload_n 2, 1) := by decide +kernel
theorem dX6_readsLine_42 : decode cX6_readsLine 42 = .ok (.iload_n 1, 1) := by decide +kernel
theorem dX6_readsLine_43 : decode cX6_readsLine 43 = .ok (.if_icmp .ge 31, 3) := by decide +kernel
theorem dX6_readsLine_46 : decode cX6_readsLine 46 = .ok (.aload_n 0, 1) := by decide +kernel
theorem dX6_readsLine_47 : decode cX6_readsLine 47 = .ok (.getfield 13, 3) := by decide +kernel
theorem dX6_readsLine_50 : decode cX6_readsLine 50 = .ok (.iconst 4, 1) := by decide +kernel
theorem dX6_readsLine_51 : decode cX6_readsLine 51 = .ok (.iload_n 2, 1) := by decide +kernel
theorem dX6_readsLine_52 : decode cX6_readsLine 52 = .ok (.iadd, 1) := by decide +kernel
theorem dX6_readsLine_53 : decode cX6_readsLine 53 = .ok (.aload_n 0, 1) := by decide +kernel
theorem dX6_readsLine_54 : decode cX6_readsLine 54 = .ok (.getfield 32, 3) := by decide +kernel
theorem dX6_readsLine_57 : decode cX6_readsLine 57 = .ok (.aload_n 0, 1) := by decide +kernel
theorem dX6_readsLine_58 : decode cX6_readsLine 58 = .ok (.getfield 49, 3) := by decide +kernel
theorem dX6_readsLine_61 : decode cX6_readsLine 61 = .ok (.iload_n 2, 1) := by decide +kernel
theorem dX6_readsLine_62 : decode cX6_readsLine 62 = .ok (.iadd, 1) := by decide +kernel
theorem dX6_readsLine_63 : decode cX6_readsLine 63 = .ok (.iaload, 1) := by decide +kernel
theorem dX6_readsLine_64 : decode cX6_readsLine 64 = .ok (.bipush 48, 2) := by decide +kernel
theorem dX6_readsLine_66 : decode cX6_readsLine 66 = .ok (.isub, 1) := by decide +kernel
theorem dX6_readsLine_67 : decode cX6_readsLine 67 = .ok (.iastore, 1) := by decide +kernel
theorem dX6_readsLine_68 : decode cX6_readsLine 68 = .ok (.iinc 2 1, 3) := by decide +kernel
theorem dX6_readsLine_71 : decode cX6_readsLine 71 = .ok (.goto (-30), 3) := by decide +kernel
theorem dX6_readsLine_74 : decode cX6_readsLine 74 = .ok (.iconst 1, 1) := by decide +kernel
theorem dX6_readsLine_75 : decode cX6_readsLine 75 = .ok (.ireturn, 1) := by decide +kernel
set_option maxRecDepth 20000 in
theorem ggX6_readsHands_X6_figures : GoodIn wsX6_readsHands wsX6_figures := goodIn_r _ [9, 3, 10, 4, 11, 12, 13, 8, 14, 15, 16, 17, 18, 19, 20, 21, 22, 23, 24, 25, 26, 27, 28, 29, 30, 31, 32, 33, 34, 35, 36, 37] (by decide +kernel) (by decide +kernel)
set_option maxRecDepth 20000 in
theorem gX6_readsHands_X6_figures : GoodIn wsX6_readsHands (wsV RX6 63 RX6 yX6_figures wsX6_figures) := goodIn_app (goodIn_of _ (by decide +kernel)) ggX6_readsHands_X6_figures
theorem dX6_readsHands_0 : decode cX6_readsHands 0 = .ok (.aload_n 0, 1) := by decide +kernel
theorem dX6_readsHands_1 : decode cX6_readsHands 1 = .ok (.getfield 67, 3) := by decide +kernel
theorem dX6_readsHands_4 : decode cX6_readsHands 4 = .ok (.ifCond .ne 26, 3) := by decide +kernel
theorem dX6_readsHands_7 : decode cX6_readsHands 7 = .ok (.aload_n 0, 1) := by decide +kernel
theorem dX6_readsHands_8 : decode cX6_readsHands 8 = .ok (.getfield 13, 3) := by decide +kernel
theorem dX6_readsHands_11 : decode cX6_readsHands 11 = .ok (.iconst 0, 1) := by decide +kernel
theorem dX6_readsHands_12 : decode cX6_readsHands 12 = .ok (.iaload, 1) := by decide +kernel
theorem dX6_readsHands_13 : decode cX6_readsHands 13 = .ok (.ifCond .eq 17, 3) := by decide +kernel
theorem dX6_readsHands_16 : decode cX6_readsHands 16 = .ok (.aload_n 0, 1) := by decide +kernel
theorem dX6_readsHands_17 : decode cX6_readsHands 17 = .ok (.iconst 1, 1) := by decide +kernel
theorem dX6_readsHands_18 : decode cX6_readsHands 18 = .ok (.invokevirtual 63, 3) := by decide +kernel
theorem dX6_readsHands_21 : decode cX6_readsHands 21 = .ok (.aload_n 0, 1) := by decide +kernel
theorem dX6_readsHands_22 : decode cX6_readsHands 22 = .ok (.getfield 13, 3) := by decide +kernel
theorem dX6_readsHands_25 : decode cX6_readsHands 25 = .ok (.iconst 0, 1) := by decide +kernel
theorem dX6_readsHands_26 : decode cX6_readsHands 26 = .ok (.iaload, 1) := by decide +kernel
theorem dX6_readsHands_27 : decode cX6_readsHands 27 = .ok (.if_icmp .eq 5, 3) := by decide +kernel
theorem dX6_readsHands_30 : decode cX6_readsHands 30 = .ok (.iconst 0, 1) := by decide +kernel
theorem dX6_readsHands_31 : decode cX6_readsHands 31 = .ok (.ireturn, 1) := by decide +kernel
theorem dX6_readsHands_32 : decode cX6_readsHands 32 = .ok (.aload_n 0, 1) := by decide +kernel
theorem dX6_readsHands_33 : decode cX6_readsHands 33 = .ok (.iconst 1, 1) := by decide +kernel
theorem dX6_readsHands_34 : decode cX6_readsHands 34 = .ok (.putfield 67, 3) := by decide +kernel
theorem dX6_readsHands_37 : decode cX6_readsHands 37 = .ok (.iconst 0, 1) := by decide +kernel
theorem dX6_readsHands_38 : decode cX6_readsHands 38 = .ok (.istore_n 1, 1) := by decide +kernel
theorem dX6_readsHands_39 : decode cX6_readsHands 39 = .ok (.iload_n 1, 1) := by decide +kernel
theorem dX6_readsHands_40 : decode cX6_readsHands 40 = .ok (.aload_n 0, 1) := by decide +kernel
theorem dX6_readsHands_41 : decode cX6_readsHands 41 = .ok (.getfield 13, 3) := by decide +kernel
theorem dX6_readsHands_44 : decode cX6_readsHands 44 = .ok (.iconst 0, 1) := by decide +kernel
theorem dX6_readsHands_45 : decode cX6_readsHands 45 = .ok (.iaload, 1) := by decide +kernel
theorem dX6_readsHands_46 : decode cX6_readsHands 46 = .ok (.if_icmp .ge 53, 3) := by decide +kernel
theorem dX6_readsHands_49 : decode cX6_readsHands 49 = .ok (.aload_n 0, 1) := by decide +kernel
theorem dX6_readsHands_50 : decode cX6_readsHands 50 = .ok (.getfield 13, 3) := by decide +kernel
theorem dX6_readsHands_53 : decode cX6_readsHands 53 = .ok (.bipush 16, 2) := by decide +kernel
theorem dX6_readsHands_55 : decode cX6_readsHands 55 = .ok (.dup2, 1) := by decide +kernel
theorem dX6_readsHands_56 : decode cX6_readsHands 56 = .ok (.iaload, 1) := by decide +kernel
theorem dX6_readsHands_57 : decode cX6_readsHands 57 = .ok (.aload_n 0, 1) := by decide +kernel
theorem dX6_readsHands_58 : decode cX6_readsHands 58 = .ok (.getfield 13, 3) := by decide +kernel
theorem dX6_readsHands_61 : decode cX6_readsHands 61 = .ok (.iconst 4, 1) := by decide +kernel
theorem dX6_readsHands_62 : decode cX6_readsHands 62 = .ok (.iload_n 1, 1) := by decide +kernel
theorem dX6_readsHands_63 : decode cX6_readsHands 63 = .ok (.iadd, 1) := by decide +kernel
theorem dX6_readsHands_64 : decode cX6_readsHands 64 = .ok (.iaload, 1) := by decide +kernel
theorem dX6_readsHands_65 : decode cX6_readsHands 65 = .ok (.ifCond .le 25, 3) := by decide +kernel
theorem dX6_readsHands_68 : decode cX6_readsHands 68 = .ok (.aload_n 0, 1) := by decide +kernel
theorem dX6_readsHands_69 : decode cX6_readsHands 69 = .ok (.getfield 32, 3) := by decide +kernel
theorem dX6_readsHands_72 : decode cX6_readsHands 72 = .ok (.aload_n 0, 1) := by decide +kernel
theorem dX6_readsHands_73 : decode cX6_readsHands 73 = .ok (.getfield 49, 3) := by decide +kernel
theorem dX6_readsHands_76 : decode cX6_readsHands 76 = .ok (.iload_n 1, 1) := by decide +kernel
theorem dX6_readsHands_77 : decode cX6_readsHands 77 = .ok (.iadd, 1) := by decide +kernel
theorem dX6_readsHands_78 : decode cX6_readsHands 78 = .ok (.iaload, 1) := by decide +kernel
theorem dX6_readsHands_79 : decode cX6_readsHands 79 = .ok (.bipush 49, 2) := by decide +kernel
theorem dX6_readsHands_81 : decode cX6_readsHands 81 = .ok (.if_icmp .ne 9, 3) := by decide +kernel
theorem dX6_readsHands_84 : decode cX6_readsHands 84 = .ok (.iconst 1, 1) := by decide +kernel
theorem dX6_readsHands_85 : decode cX6_readsHands 85 = .ok (.iload_n 1, 1) := by decide +kernel
theorem dX6_readsHands_86 : decode cX6_readsHands 86 = .ok (.ishl, 1) := by decide +kernel
theorem dX6_readsHands_87 : decode cX6_readsHands 87 = .ok (.goto 4, 3) := by decide +kernel
theorem dX6_readsHands_90 : decode cX6_readsHands 90 = .ok (.iconst 0, 1) := by decide +kernel
theorem dX6_readsHands_91 : decode cX6_readsHands 91 = .ok (.ior, 1) := by decide +kernel
theorem dX6_readsHands_92 : decode cX6_readsHands 92 = .ok (.iastore, 1) := by decide +kernel
theorem dX6_readsHands_93 : decode cX6_readsHands 93 = .ok (.iinc 1 1, 3) := by decide +kernel
theorem dX6_readsHands_96 : decode cX6_readsHands 96 = .ok (.goto (-57), 3) := by decide +kernel
theorem dX6_readsHands_99 : decode cX6_readsHands 99 = .ok (.iconst 1, 1) := by decide +kernel
theorem dX6_readsHands_100 : decode cX6_readsHands 100 = .ok (.ireturn, 1) := by decide +kernel
set_option maxRecDepth 20000 in
theorem ggX6_readsNumber_X6_figures : GoodIn wsX6_readsNumber wsX6_figures := goodIn_r _ [8, 2, 9, 3, 10, 11, 12, 7, 13, 14, 15, 16, 17, 18, 19, 20, 21, 28, 29, 30, 31, 32, 33, 34, 35, 36, 37, 38, 39, 40, 41, 42] (by decide +kernel) (by decide +kernel)
set_option maxRecDepth 20000 in
theorem gX6_readsNumber_X6_figures : GoodIn wsX6_readsNumber (wsV RX6 63 RX6 yX6_figures wsX6_figures) := goodIn_app (goodIn_of _ (by decide +kernel)) ggX6_readsNumber_X6_figures
set_option maxRecDepth 20000 in
theorem ggX6_readsNumber_X6_least : GoodIn wsX6_readsNumber wsX6_least := goodIn_r _ [24] (by decide +kernel) (by decide +kernel)
set_option maxRecDepth 20000 in
theorem gX6_readsNumber_X6_least : GoodIn wsX6_readsNumber (va_wsS RX6 71 yX6_least wsX6_least) := goodIn_app (goodIn_of _ (by decide +kernel)) ggX6_readsNumber_X6_least
set_option maxRecDepth 20000 in
theorem ggX6_readsNumber_X6_greatest : GoodIn wsX6_readsNumber wsX6_greatest := goodIn_r _ [27] (by decide +kernel) (by decide +kernel)
set_option maxRecDepth 20000 in
theorem gX6_readsNumber_X6_greatest : GoodIn wsX6_readsNumber (va_wsS RX6 74 yX6_greatest wsX6_greatest) := goodIn_app (goodIn_of _ (by decide +kernel)) ggX6_readsNumber_X6_greatest
set_option maxRecDepth 20000 in
theorem ggX6_readsNumber_X6_within : GoodIn wsX6_readsNumber wsX6_within := goodIn_r _ [21] (by decide +kernel) (by decide +kernel)
set_option maxRecDepth 20000 in
theorem gX6_readsNumber_X6_within : GoodIn wsX6_readsNumber (va_wsS RX6 52 yX6_within wsX6_within) := goodIn_app (goodIn_of _ (by decide +kernel)) ggX6_readsNumber_X6_within
theorem dX6_readsNumber_0 : decode cX6_readsNumber 0 = .ok (.aload_n 0, 1) := by decide +kernel
theorem dX6_readsNumber_1 : decode cX6_readsNumber 1 = .ok (.bipush 9, 2) := by decide +kernel
theorem dX6_readsNumber_3 : decode cX6_readsNumber 3 = .ok (.invokevirtual 63, 3) := by decide +kernel
theorem dX6_readsNumber_6 : decode cX6_readsNumber 6 = .ok (.iconst 1, 1) := by decide +kernel
theorem dX6_readsNumber_7 : decode cX6_readsNumber 7 = .ok (.if_icmp .eq 5, 3) := by decide +kernel
theorem dX6_readsNumber_10 : decode cX6_readsNumber 10 = .ok (.iconst 0, 1) := by decide +kernel
theorem dX6_readsNumber_11 : decode cX6_readsNumber 11 = .ok (.ireturn, 1) := by decide +kernel
theorem dX6_readsNumber_12 : decode cX6_readsNumber 12 = .ok (.aload_n 0, 1) := by decide +kernel
theorem dX6_readsNumber_13 : decode cX6_readsNumber 13 = .ok (.getfield 13, 3) := by decide +kernel
theorem dX6_readsNumber_16 : decode cX6_readsNumber 16 = .ok (.iload_n 1, 1) := by decide +kernel
theorem dX6_readsNumber_17 : decode cX6_readsNumber 17 = .ok (.aload_n 0, 1) := by decide +kernel
theorem dX6_readsNumber_18 : decode cX6_readsNumber 18 = .ok (.getfield 32, 3) := by decide +kernel
theorem dX6_readsNumber_21 : decode cX6_readsNumber 21 = .ok (.aload_n 0, 1) := by decide +kernel
theorem dX6_readsNumber_22 : decode cX6_readsNumber 22 = .ok (.getfield 49, 3) := by decide +kernel
theorem dX6_readsNumber_25 : decode cX6_readsNumber 25 = .ok (.iaload, 1) := by decide +kernel
theorem dX6_readsNumber_26 : decode cX6_readsNumber 26 = .ok (.bipush 48, 2) := by decide +kernel
theorem dX6_readsNumber_28 : decode cX6_readsNumber 28 = .ok (.isub, 1) := by decide +kernel
theorem dX6_readsNumber_29 : decode cX6_readsNumber 29 = .ok (.iastore, 1) := by decide +kernel
theorem dX6_readsNumber_30 : decode cX6_readsNumber 30 = .ok (.aload_n 0, 1) := by decide +kernel
theorem dX6_readsNumber_31 : decode cX6_readsNumber 31 = .ok (.getfield 13, 3) := by decide +kernel
theorem dX6_readsNumber_34 : decode cX6_readsNumber 34 = .ok (.iload_n 1, 1) := by decide +kernel
theorem dX6_readsNumber_35 : decode cX6_readsNumber 35 = .ok (.iaload, 1) := by decide +kernel
theorem dX6_readsNumber_36 : decode cX6_readsNumber 36 = .ok (.iload_n 1, 1) := by decide +kernel
theorem dX6_readsNumber_37 : decode cX6_readsNumber 37 = .ok (.invokestatic 71, 3) := by decide +kernel
theorem dX6_readsNumber_40 : decode cX6_readsNumber 40 = .ok (.iload_n 1, 1) := by decide +kernel
theorem dX6_readsNumber_41 : decode cX6_readsNumber 41 = .ok (.invokestatic 74, 3) := by decide +kernel
theorem dX6_readsNumber_44 : decode cX6_readsNumber 44 = .ok (.invokestatic 52, 3) := by decide +kernel
theorem dX6_readsNumber_47 : decode cX6_readsNumber 47 = .ok (.ireturn, 1) := by decide +kernel
set_option maxRecDepth 20000 in
theorem ggX6_readsItem_X6_wordPassed : GoodIn wsX6_readsItem wsX6_wordPassed := goodIn_r _ [5, 6, 7, 8, 9, 10, 11, 4, 12, 13, 14, 15, 16, 17, 18, 19, 20, 45, 46, 47, 48, 49, 50, 51, 52, 53, 54, 55, 56, 57, 58, 59] (by decide +kernel) (by decide +kernel)
set_option maxRecDepth 20000 in
theorem gX6_readsItem_X6_wordPassed : GoodIn wsX6_readsItem (wsV RX6 77 RX6 yX6_wordPassed wsX6_wordPassed) := goodIn_app (goodIn_of _ (by decide +kernel)) ggX6_readsItem_X6_wordPassed
set_option maxRecDepth 20000 in
theorem ggX6_readsItem_X6_readsLine : GoodIn wsX6_readsItem wsX6_readsLine := goodIn_r _ [24, 25, 8, 7, 26, 27, 28, 4, 29, 6, 9, 10, 11, 12, 13, 14, 15, 16, 17, 18, 19, 20, 45, 46, 47, 48, 49, 50, 51, 52, 53, 54, 55, 56, 57, 58, 59] (by decide +kernel) (by decide +kernel)
set_option maxRecDepth 20000 in
theorem gX6_readsItem_X6_readsLine : GoodIn wsX6_readsItem (wsV RX6 81 RX6 yX6_readsLine wsX6_readsLine) := goodIn_app (goodIn_of _ (by decide +kernel)) ggX6_readsItem_X6_readsLine
set_option maxRecDepth 20000 in
theorem ggX6_readsItem_X6_readsHands : GoodIn wsX6_readsItem wsX6_readsHands := goodIn_r _ [33, 34, 25, 8, 7, 26, 27, 28, 4, 29, 6, 9, 10, 11, 12, 13, 14, 15, 16, 17, 18, 19, 20, 45, 46, 47, 48, 49, 50, 51, 52, 53, 54, 55, 56, 57, 58, 59] (by decide +kernel) (by decide +kernel)
set_option maxRecDepth 20000 in
theorem gX6_readsItem_X6_readsHands : GoodIn wsX6_readsItem (wsV RX6 85 RX6 yX6_readsHands wsX6_readsHands) := goodIn_app (goodIn_of _ (by decide +kernel)) ggX6_readsItem_X6_readsHands
set_option maxRecDepth 20000 in
theorem ggX6_readsItem_X6_readsNumber : GoodIn wsX6_readsItem wsX6_readsNumber := goodIn_r _ [38, 25, 8, 7, 26, 27, 28, 4, 29, 6, 9, 10, 11, 12, 13, 14, 15, 16, 17, 18, 19, 20, 39, 40, 41, 42, 43, 44, 45, 46, 47, 48, 49, 50, 51, 52, 53, 54, 55, 56, 57, 58, 59] (by decide +kernel) (by decide +kernel)
set_option maxRecDepth 20000 in
theorem gX6_readsItem_X6_readsNumber : GoodIn wsX6_readsItem (wsV RX6 88 RX6 yX6_readsNumber wsX6_readsNumber) := goodIn_app (goodIn_of _ (by decide +kernel)) ggX6_readsItem_X6_readsNumber
theorem dX6_readsItem_0 : decode cX6_readsItem 0 = .ok (.aload_n 0, 1) := by decide +kernel
theorem dX6_readsItem_1 : decode cX6_readsItem 1 = .ok (.invokevirtual 77, 3) := by decide +kernel
theorem dX6_readsItem_4 : decode cX6_readsItem 4 = .ok (.istore_n 1, 1) := by decide +kernel
theorem dX6_readsItem_5 : decode cX6_readsItem 5 = .ok (.iload_n 1, 1) := by decide +kernel
theorem dX6_readsItem_6 : decode cX6_readsItem 6 = .ok (.bipush (-9), 2) := by decide +kernel
theorem dX6_readsItem_8 : decode cX6_readsItem 8 = .ok (.if_icmp .ne 5, 3) := by decide +kernel
theorem dX6_readsItem_11 : decode cX6_readsItem 11 = .ok (.iconst 0, 1) := by decide +kernel
theorem dX6_readsItem_12 : decode cX6_readsItem 12 = .ok (.ireturn, 1) := by decide +kernel
theorem dX6_readsItem_13 : decode cX6_readsItem 13 = .ok (.iload_n 1, 1) := by decide +kernel
theorem dX6_readsItem_14 : decode cX6_readsItem 14 = .ok (.ifCond .ne 10, 3) := by decide +kernel
theorem dX6_readsItem_17 : decode cX6_readsItem 17 = .ok (.aload_n 0, 1) := by decide +kernel
theorem dX6_readsItem_18 : decode cX6_readsItem 18 = .ok (.invokevirtual 81, 3) := by decide +kernel
theorem dX6_readsItem_21 : decode cX6_readsItem 21 = .ok (.goto 22, 3) := by decide +kernel
theorem dX6_readsItem_24 : decode cX6_readsItem 24 = .ok (.iload_n 1, 1) := by decide +kernel
theorem dX6_readsItem_25 : decode cX6_readsItem 25 = .ok (.iconst 1, 1) := by decide +kernel
theorem dX6_readsItem_26 : decode cX6_readsItem 26 = .ok (.if_icmp .ne 10, 3) := by decide +kernel
theorem dX6_readsItem_29 : decode cX6_readsItem 29 = .ok (.aload_n 0, 1) := by decide +kernel
theorem dX6_readsItem_30 : decode cX6_readsItem 30 = .ok (.invokevirtual 85, 3) := by decide +kernel
theorem dX6_readsItem_33 : decode cX6_readsItem 33 = .ok (.goto 10, 3) := by decide +kernel
theorem dX6_readsItem_36 : decode cX6_readsItem 36 = .ok (.aload_n 0, 1) := by decide +kernel
theorem dX6_readsItem_37 : decode cX6_readsItem 37 = .ok (.iload_n 1, 1) := by decide +kernel
theorem dX6_readsItem_38 : decode cX6_readsItem 38 = .ok (.iconst 1, 1) := by decide +kernel
theorem dX6_readsItem_39 : decode cX6_readsItem 39 = .ok (.isub, 1) := by decide +kernel
theorem dX6_readsItem_40 : decode cX6_readsItem 40 = .ok (.invokevirtual 88, 3) := by decide +kernel
theorem dX6_readsItem_43 : decode cX6_readsItem 43 = .ok (.ireturn, 1) := by decide +kernel
set_option maxRecDepth 20000 in
theorem ggX6_reads_X6_bares : GoodIn wsX6_reads wsX6_bares := goodIn_r _ [8] (by decide +kernel) (by decide +kernel)
set_option maxRecDepth 20000 in
theorem gX6_reads_X6_bares : GoodIn wsX6_reads (va_wsS RX6 38 yX6_bares wsX6_bares) := goodIn_app (goodIn_of _ (by decide +kernel)) ggX6_reads_X6_bares
set_option maxRecDepth 20000 in
theorem ggX6_reads_X6_skips : GoodIn wsX6_reads wsX6_skips := goodIn_r _ [12, 3, 4, 13, 14, 56, 57, 58, 59, 60, 61, 62, 63, 64, 65, 66, 67, 68, 69, 70] (by decide +kernel) (by decide +kernel)
set_option maxRecDepth 20000 in
theorem gX6_reads_X6_skips : GoodIn wsX6_reads (wsV RX6 56 RX6 yX6_skips wsX6_skips) := goodIn_app (goodIn_of _ (by decide +kernel)) ggX6_reads_X6_skips
set_option maxRecDepth 20000 in
theorem ggX6_reads_X6_readsItem : GoodIn wsX6_reads wsX6_readsItem := goodIn_r _ [18, 19, 20, 21, 7, 22, 3, 14, 13, 9, 10, 11, 12, 4, 23, 24, 25, 26, 27, 28, 29, 30, 31, 32, 33, 1, 34, 35, 36, 37, 38, 39, 40, 41, 2, 42, 43, 44, 45, 46, 47, 48, 49, 50, 51, 56, 57, 58, 59, 60, 61, 62, 63, 64, 65, 66, 67, 68, 69, 70] (by decide +kernel) (by decide +kernel)
set_option maxRecDepth 20000 in
theorem gX6_reads_X6_readsItem : GoodIn wsX6_reads (wsV RX6 92 RX6 yX6_readsItem wsX6_readsItem) := goodIn_app (goodIn_of _ (by decide +kernel)) ggX6_reads_X6_readsItem
set_option maxRecDepth 20000 in
theorem ggX6_reads_X6_passesEnd : GoodIn wsX6_reads wsX6_passesEnd := goodIn_r _ [55, 3, 9, 10, 11, 7, 12, 4, 13, 14, 23, 24, 25, 26, 27, 28, 29, 56, 57, 58, 59, 60, 61, 62, 63, 64, 65, 66, 67, 68, 69, 70] (by decide +kernel) (by decide +kernel)
set_option maxRecDepth 20000 in
theorem gX6_reads_X6_passesEnd : GoodIn wsX6_reads (wsV RX6 95 RX6 yX6_passesEnd wsX6_passesEnd) := goodIn_app (goodIn_of _ (by decide +kernel)) ggX6_reads_X6_passesEnd
theorem dX6_reads_0 : decode cX6_reads 0 = .ok (.aload_n 0, 1) := by decide +kernel
theorem dX6_reads_1 : decode cX6_reads 1 = .ok (.getfield 13, 3) := by decide +kernel
theorem dX6_reads_4 : decode cX6_reads 4 = .ok (.invokestatic 38, 3) := by decide +kernel
theorem dX6_reads_7 : decode cX6_reads 7 = .ok (.aload_n 0, 1) := by decide +kernel
theorem dX6_reads_8 : decode cX6_reads 8 = .ok (.iconst 0, 1) := by decide +kernel
theorem dX6_reads_9 : decode cX6_reads 9 = .ok (.putfield 67, 3) := by decide +kernel
theorem dX6_reads_12 : decode cX6_reads 12 = .ok (.aload_n 0, 1) := by decide +kernel
theorem dX6_reads_13 : decode cX6_reads 13 = .ok (.iconst 0, 1) := by decide +kernel
theorem dX6_reads_14 : decode cX6_reads 14 = .ok (.putfield 42, 3) := by decide +kernel
theorem dX6_reads_17 : decode cX6_reads 17 = .ok (.iconst 0, 1) := by decide +kernel
theorem dX6_reads_18 : decode cX6_reads 18 = .ok (.istore_n 1, 1) := by decide +kernel
theorem dX6_reads_19 : decode cX6_reads 19 = .ok (.aload_n 0, 1) := by decide +kernel
theorem dX6_reads_20 : decode cX6_reads 20 = .ok (.invokevirtual 56, 3) := by decide +kernel
theorem dX6_reads_23 : decode cX6_reads 23 = .ok (.aload_n 0, 1) := by decide +kernel
theorem dX6_reads_24 : decode cX6_reads 24 = .ok (.getfield 42, 3) := by decide +kernel
theorem dX6_reads_27 : decode cX6_reads 27 = .ok (.aload_n 0, 1) := by decide +kernel
theorem dX6_reads_28 : decode cX6_reads 28 = .ok (.getfield 46, 3) := by decide +kernel
theorem dX6_reads_31 : decode cX6_reads 31 = .ok (.if_icmp .ge 29, 3) := by decide +kernel
theorem dX6_reads_34 : decode cX6_reads 34 = .ok (.aload_n 0, 1) := by decide +kernel
theorem dX6_reads_35 : decode cX6_reads 35 = .ok (.invokevirtual 92, 3) := by decide +kernel
theorem dX6_reads_38 : decode cX6_reads 38 = .ok (.ifCond .eq 10, 3) := by decide +kernel
theorem dX6_reads_41 : decode cX6_reads 41 = .ok (.aload_n 0, 1) := by decide +kernel
theorem dX6_reads_42 : decode cX6_reads 42 = .ok (.invokevirtual 95, 3) := by decide +kernel
theorem dX6_reads_45 : decode cX6_reads 45 = .ok (.ifCond .ne 5, 3) := by decide +kernel
theorem dX6_reads_48 : decode cX6_reads 48 = .ok (.iconst (-1), 1) := by decide +kernel
theorem dX6_reads_49 : decode cX6_reads 49 = .ok (.ireturn, 1) := by decide +kernel
theorem dX6_reads_50 : decode cX6_reads 50 = .ok (.iinc 1 1, 3) := by decide +kernel
theorem dX6_reads_53 : decode cX6_reads 53 = .ok (.aload_n 0, 1) := by decide +kernel
theorem dX6_reads_54 : decode cX6_reads 54 = .ok (.invokevirtual 56, 3) := by decide +kernel
theorem dX6_reads_57 : decode cX6_reads 57 = .ok (.goto (-34), 3) := by decide +kernel
theorem dX6_reads_60 : decode cX6_reads 60 = .ok (.aload_n 0, 1) := by decide +kernel
theorem dX6_reads_61 : decode cX6_reads 61 = .ok (.getfield 13, 3) := by decide +kernel
theorem dX6_reads_64 : decode cX6_reads 64 = .ok (.iconst 0, 1) := by decide +kernel
theorem dX6_reads_65 : decode cX6_reads 65 = .ok (.iaload, 1) := by decide +kernel
theorem dX6_reads_66 : decode cX6_reads 66 = .ok (.ifCond .le 7, 3) := by decide +kernel
theorem dX6_reads_69 : decode cX6_reads 69 = .ok (.iload_n 1, 1) := by decide +kernel
theorem dX6_reads_70 : decode cX6_reads 70 = .ok (.goto 4, 3) := by decide +kernel
theorem dX6_reads_73 : decode cX6_reads 73 = .ok (.iconst (-1), 1) := by decide +kernel
theorem dX6_reads_74 : decode cX6_reads 74 = .ok (.ireturn, 1) := by decide +kernel
set_option maxRecDepth 20000 in
theorem ggX6_type_X6_within : GoodIn wsX6_type wsX6_within := goodIn_r _ [6] (by decide +kernel) (by decide +kernel)
set_option maxRecDepth 20000 in
theorem gX6_type_X6_within : GoodIn wsX6_type (va_wsS RX6 52 yX6_within wsX6_within) := goodIn_app (goodIn_of _ (by decide +kernel)) ggX6_type_X6_within
theorem dX6_type_0 : decode cX6_type 0 = .ok (.iload_n 1, 1) := by decide +kernel
theorem dX6_type_1 : decode cX6_type 1 = .ok (.iconst 0, 1) := by decide +kernel
theorem dX6_type_2 : decode cX6_type 2 = .ok (.sipush 255, 3) := by decide +kernel
theorem dX6_type_5 : decode cX6_type 5 = .ok (.invokestatic 52, 3) := by decide +kernel
theorem dX6_type_8 : decode cX6_type 8 = .ok (.ifCond .ne 5, 3) := by decide +kernel
theorem dX6_type_11 : decode cX6_type 11 = .ok (.iconst (-1), 1) := by decide +kernel
theorem dX6_type_12 : decode cX6_type 12 = .ok (.ireturn, 1) := by decide +kernel
theorem dX6_type_13 : decode cX6_type 13 = .ok (.aload_n 0, 1) := by decide +kernel
theorem dX6_type_14 : decode cX6_type 14 = .ok (.getfield 46, 3) := by decide +kernel
theorem dX6_type_17 : decode cX6_type 17 = .ok (.bipush 120, 2) := by decide +kernel
theorem dX6_type_19 : decode cX6_type 19 = .ok (.if_icmp .ne 6, 3) := by decide +kernel
theorem dX6_type_22 : decode cX6_type 22 = .ok (.bipush (-3), 2) := by decide +kernel
theorem dX6_type_24 : decode cX6_type 24 = .ok (.ireturn, 1) := by decide +kernel
theorem dX6_type_25 : decode cX6_type 25 = .ok (.aload_n 0, 1) := by decide +kernel
theorem dX6_type_26 : decode cX6_type 26 = .ok (.getfield 32, 3) := by decide +kernel
theorem dX6_type_29 : decode cX6_type 29 = .ok (.aload_n 0, 1) := by decide +kernel
theorem dX6_type_30 : decode cX6_type 30 = .ok (.getfield 46, 3) := by decide +kernel
theorem dX6_type_33 : decode cX6_type 33 = .ok (.iload_n 1, 1) := by decide +kernel
theorem dX6_type_34 : decode cX6_type 34 = .ok (.iastore, 1) := by decide +kernel
theorem dX6_type_35 : decode cX6_type 35 = .ok (.aload_n 0, 1) := by decide +kernel
theorem dX6_type_36 : decode cX6_type 36 = .ok (.dup, 1) := by decide +kernel
theorem dX6_type_37 : decode cX6_type 37 = .ok (.getfield 46, 3) := by decide +kernel
theorem dX6_type_40 : decode cX6_type 40 = .ok (.iconst 1, 1) := by decide +kernel
theorem dX6_type_41 : decode cX6_type 41 = .ok (.iadd, 1) := by decide +kernel
theorem dX6_type_42 : decode cX6_type 42 = .ok (.putfield 46, 3) := by decide +kernel
theorem dX6_type_45 : decode cX6_type 45 = .ok (.aload_n 0, 1) := by decide +kernel
theorem dX6_type_46 : decode cX6_type 46 = .ok (.getfield 46, 3) := by decide +kernel
theorem dX6_type_49 : decode cX6_type 49 = .ok (.ireturn, 1) := by decide +kernel
theorem dX6_clear_0 : decode cX6_clear 0 = .ok (.aload_n 0, 1) := by decide +kernel
theorem dX6_clear_1 : decode cX6_clear 1 = .ok (.getfield 46, 3) := by decide +kernel
theorem dX6_clear_4 : decode cX6_clear 4 = .ok (.istore_n 1, 1) := by decide +kernel
theorem dX6_clear_5 : decode cX6_clear 5 = .ok (.aload_n 0, 1) := by decide +kernel
theorem dX6_clear_6 : decode cX6_clear 6 = .ok (.iconst 0, 1) := by decide +kernel
theorem dX6_clear_7 : decode cX6_clear 7 = .ok (.putfield 46, 3) := by decide +kernel
theorem dX6_clear_10 : decode cX6_clear 10 = .ok (.iload_n 1, 1) := by decide +kernel
theorem dX6_clear_11 : decode cX6_clear 11 = .ok (.ireturn, 1) := by decide +kernel
theorem dX6_keeps_0 : decode cX6_keeps 0 = .ok (.aload_n 0, 1) := by decide +kernel
theorem dX6_keeps_1 : decode cX6_keeps 1 = .ok (.getfield 98, 3) := by decide +kernel
theorem dX6_keeps_4 : decode cX6_keeps 4 = .ok (.bipush 6, 2) := by decide +kernel
theorem dX6_keeps_6 : decode cX6_keeps 6 = .ok (.if_icmp .ne 42, 3) := by decide +kernel
theorem dX6_keeps_9 : decode cX6_keeps 9 = .ok (.iconst 0, 1) := by decide +kernel
theorem dX6_keeps_10 : decode cX6_keeps 10 = .ok (.istore_n 1, 1) := by decide +kernel
theorem dX6_keeps_11 : decode cX6_keeps 11 = .ok (.iload_n 1, 1) := by decide +kernel
theorem dX6_keeps_12 : decode cX6_keeps 12 = .ok (.bipush 85, 2) := by decide +kernel
theorem dX6_keeps_14 : decode cX6_keeps 14 = .ok (.if_icmp .ge 24, 3) := by decide +kernel
theorem dX6_keeps_17 : decode cX6_keeps 17 = .ok (.aload_n 0, 1) := by decide +kernel
theorem dX6_keeps_18 : decode cX6_keeps 18 = .ok (.getfield 16, 3) := by decide +kernel
theorem dX6_keeps_21 : decode cX6_keeps 21 = .ok (.iload_n 1, 1) := by decide +kernel
theorem dX6_keeps_22 : decode cX6_keeps 22 = .ok (.aload_n 0, 1) := by decide +kernel
theorem dX6_keeps_23 : decode cX6_keeps 23 = .ok (.getfield 16, 3) := by decide +kernel
theorem dX6_keeps_26 : decode cX6_keeps 26 = .ok (.iload_n 1, 1) := by decide +kernel
theorem dX6_keeps_27 : decode cX6_keeps 27 = .ok (.bipush 17, 2) := by decide +kernel
theorem dX6_keeps_29 : decode cX6_keeps 29 = .ok (.iadd, 1) := by decide +kernel
theorem dX6_keeps_30 : decode cX6_keeps 30 = .ok (.iaload, 1) := by decide +kernel
theorem dX6_keeps_31 : decode cX6_keeps 31 = .ok (.iastore, 1) := by decide +kernel
theorem dX6_keeps_32 : decode cX6_keeps 32 = .ok (.iinc 1 1, 3) := by decide +kernel
theorem dX6_keeps_35 : decode cX6_keeps 35 = .ok (.goto (-24), 3) := by decide +kernel
theorem dX6_keeps_38 : decode cX6_keeps 38 = .ok (.aload_n 0, 1) := by decide +kernel
theorem dX6_keeps_39 : decode cX6_keeps 39 = .ok (.dup, 1) := by decide +kernel
theorem dX6_keeps_40 : decode cX6_keeps 40 = .ok (.getfield 98, 3) := by decide +kernel
theorem dX6_keeps_43 : decode cX6_keeps 43 = .ok (.iconst 1, 1) := by decide +kernel
theorem dX6_keeps_44 : decode cX6_keeps 44 = .ok (.isub, 1) := by decide +kernel
theorem dX6_keeps_45 : decode cX6_keeps 45 = .ok (.putfield 98, 3) := by decide +kernel
theorem dX6_keeps_48 : decode cX6_keeps 48 = .ok (.iconst 0, 1) := by decide +kernel
theorem dX6_keeps_49 : decode cX6_keeps 49 = .ok (.istore_n 1, 1) := by decide +kernel
theorem dX6_keeps_50 : decode cX6_keeps 50 = .ok (.iload_n 1, 1) := by decide +kernel
theorem dX6_keeps_51 : decode cX6_keeps 51 = .ok (.bipush 17, 2) := by decide +kernel
theorem dX6_keeps_53 : decode cX6_keeps 53 = .ok (.if_icmp .ge 29, 3) := by decide +kernel
theorem dX6_keeps_56 : decode cX6_keeps 56 = .ok (.aload_n 0, 1) := by decide +kernel
theorem dX6_keeps_57 : decode cX6_keeps 57 = .ok (.getfield 16, 3) := by decide +kernel
theorem dX6_keeps_60 : decode cX6_keeps 60 = .ok (.bipush 17, 2) := by decide +kernel
theorem dX6_keeps_62 : decode cX6_keeps 62 = .ok (.aload_n 0, 1) := by decide +kernel
theorem dX6_keeps_63 : decode cX6_keeps 63 = .ok (.getfield 98, 3) := by decide +kernel
theorem dX6_keeps_66 : decode cX6_keeps 66 = .ok (.imul, 1) := by decide +kernel
theorem dX6_keeps_67 : decode cX6_keeps 67 = .ok (.iload_n 1, 1) := by decide +kernel
theorem dX6_keeps_68 : decode cX6_keeps 68 = .ok (.iadd, 1) := by decide +kernel
theorem dX6_keeps_69 : decode cX6_keeps 69 = .ok (.aload_n 0, 1) := by decide +kernel
theorem dX6_keeps_70 : decode cX6_keeps 70 = .ok (.getfield 7, 3) := by decide +kernel
theorem dX6_keeps_73 : decode cX6_keeps 73 = .ok (.iload_n 1, 1) := by decide +kernel
theorem dX6_keeps_74 : decode cX6_keeps 74 = .ok (.iaload, 1) := by decide +kernel
theorem dX6_keeps_75 : decode cX6_keeps 75 = .ok (.iastore, 1) := by decide +kernel
theorem dX6_keeps_76 : decode cX6_keeps 76 = .ok (.iinc 1 1, 3) := by decide +kernel
theorem dX6_keeps_79 : decode cX6_keeps 79 = .ok (.goto (-29), 3) := by decide +kernel
theorem dX6_keeps_82 : decode cX6_keeps 82 = .ok (.aload_n 0, 1) := by decide +kernel
theorem dX6_keeps_83 : decode cX6_keeps 83 = .ok (.dup, 1) := by decide +kernel
theorem dX6_keeps_84 : decode cX6_keeps 84 = .ok (.getfield 98, 3) := by decide +kernel
theorem dX6_keeps_87 : decode cX6_keeps 87 = .ok (.iconst 1, 1) := by decide +kernel
theorem dX6_keeps_88 : decode cX6_keeps 88 = .ok (.iadd, 1) := by decide +kernel
theorem dX6_keeps_89 : decode cX6_keeps 89 = .ok (.putfield 98, 3) := by decide +kernel
theorem dX6_keeps_92 : decode cX6_keeps 92 = .ok (.return_, 1) := by decide +kernel
set_option maxRecDepth 20000 in
theorem ggX6_tells_X6_reads : GoodIn wsX6_tells wsX6_reads := goodIn_r _ [9, 3, 10, 11, 4, 12, 13, 8, 14, 15, 16, 17, 18, 19, 1, 20, 21, 22, 23, 24, 25, 26, 27, 28, 29, 30, 31, 32, 33, 34, 35, 36, 37, 38, 39, 40, 41, 42, 43, 44, 45, 46, 47, 48, 49, 50, 51, 52, 53, 54, 55, 56, 57, 58, 59, 60, 67, 68, 69, 70, 71, 72, 73, 74, 75, 76, 77, 78, 79, 80, 81] (by decide +kernel) (by decide +kernel)
set_option maxRecDepth 20000 in
theorem gX6_tells_X6_reads : GoodIn wsX6_tells (wsV RX6 101 RX6 yX6_reads wsX6_reads) := goodIn_app (goodIn_of _ (by decide +kernel)) ggX6_tells_X6_reads
set_option maxRecDepth 20000 in
theorem ggX6_tells_X6_keeps : GoodIn wsX6_tells wsX6_keeps := goodIn_r _ [64, 65, 66, 2, 67, 68, 69, 70, 71, 72, 73, 74, 75, 76, 77, 78, 79, 80, 81] (by decide +kernel) (by decide +kernel)
set_option maxRecDepth 20000 in
theorem gX6_tells_X6_keeps : GoodIn wsX6_tells (wsV RX6 104 RX6 yX6_keeps wsX6_keeps) := goodIn_app (goodIn_of _ (by decide +kernel)) ggX6_tells_X6_keeps
theorem dX6_tells_0 : decode cX6_tells 0 = .ok (.aload_n 0, 1) := by decide +kernel
theorem dX6_tells_1 : decode cX6_tells 1 = .ok (.invokevirtual 101, 3) := by decide +kernel
theorem dX6_tells_4 : decode cX6_tells 4 = .ok (.istore_n 1, 1) := by decide +kernel
theorem dX6_tells_5 : decode cX6_tells 5 = .ok (.iload_n 1, 1) := by decide +kernel
theorem dX6_tells_6 : decode cX6_tells 6 = .ok (.ifCond .ge 11, 3) := by decide +kernel
theorem dX6_tells_9 : decode cX6_tells 9 = .ok (.bipush (-10), 2) := by decide +kernel
theorem dX6_tells_11 : decode cX6_tells 11 = .ok (.aload_n 0, 1) := by decide +kernel
theorem dX6_tells_12 : decode cX6_tells 12 = .ok (.getfield 49, 3) := by decide +kernel
theorem dX6_tells_15 : decode cX6_tells 15 = .ok (.isub, 1) := by decide +kernel
theorem dX6_tells_16 : decode cX6_tells 16 = .ok (.ireturn, 1) := by decide +kernel
theorem dX6_tells_17 : decode cX6_tells 17 = .ok (.aload_n 0, 1) := by decide +kernel
theorem dX6_tells_18 : decode cX6_tells 18 = .ok (.invokevirtual 104, 3) := by decide +kernel
theorem dX6_tells_21 : decode cX6_tells 21 = .ok (.iconst 0, 1) := by decide +kernel
theorem dX6_tells_22 : decode cX6_tells 22 = .ok (.istore_n 2, 1) := by decide +kernel
theorem dX6_tells_23 : decode cX6_tells 23 = .ok (.iload_n 2, 1) := by decide +kernel
theorem dX6_tells_24 : decode cX6_tells 24 = .ok (.bipush 17, 2) := by decide +kernel
theorem dX6_tells_26 : decode cX6_tells 26 = .ok (.if_icmp .ge 21, 3) := by decide +kernel
theorem dX6_tells_29 : decode cX6_tells 29 = .ok (.aload_n 0, 1) := by decide +kernel
theorem dX6_tells_30 : decode cX6_tells 30 = .ok (.getfield 7, 3) := by decide +kernel
theorem dX6_tells_33 : decode cX6_tells 33 = .ok (.iload_n 2, 1) := by decide +kernel
theorem dX6_tells_34 : decode cX6_tells 34 = .ok (.aload_n 0, 1) := by decide +kernel
theorem dX6_tells_35 : decode cX6_tells 35 = .ok (.getfield 13, 3) := by decide +kernel
theorem dX6_tells_38 : decode cX6_tells 38 = .ok (.iload_n 2, 1) := by decide +kernel
theorem dX6_tells_39 : decode cX6_tells 39 = .ok (.iaload, 1) := by decide +kernel
theorem dX6_tells_40 : decode cX6_tells 40 = .ok (.iastore, 1) := by decide +kernel
theorem dX6_tells_41 : decode cX6_tells 41 = .ok (.iinc 2 1, 3) := by decide +kernel
theorem dX6_tells_44 : decode cX6_tells 44 = .ok (.goto (-21), 3) := by decide +kernel
theorem dX6_tells_47 : decode cX6_tells 47 = .ok (.aload_n 0, 1) := by decide +kernel
theorem dX6_tells_48 : decode cX6_tells 48 = .ok (.iconst 0, 1) := by decide +kernel
theorem dX6_tells_49 : decode cX6_tells 49 = .ok (.putfield 46, 3) := by decide +kernel
theorem dX6_tells_52 : decode cX6_tells 52 = .ok (.iload_n 1, 1) := by decide +kernel
theorem dX6_tells_53 : decode cX6_tells 53 = .ok (.ireturn, 1) := by decide +kernel
set_option maxRecDepth 20000 in
theorem ggX6_isTick_X6_within : GoodIn wsX6_isTick wsX6_within := goodIn_r _ [5] (by decide +kernel) (by decide +kernel)
set_option maxRecDepth 20000 in
theorem gX6_isTick_X6_within : GoodIn wsX6_isTick (va_wsS RX6 52 yX6_within wsX6_within) := goodIn_app (goodIn_of _ (by decide +kernel)) ggX6_isTick_X6_within
theorem dX6_isTick_0 : decode cX6_isTick 0 = .ok (.iload_n 1, 1) := by decide +kernel
theorem dX6_isTick_1 : decode cX6_isTick 1 = .ok (.iconst 0, 1) := by decide +kernel
theorem dX6_isTick_2 : decode cX6_isTick 2 = .ok (.aload_n 0, 1) := by decide +kernel
theorem dX6_isTick_3 : decode cX6_isTick 3 = .ok (.getfield 7, 3) := by decide +kernel
theorem dX6_isTick_6 : decode cX6_isTick 6 = .ok (.iconst 0, 1) := by decide +kernel
theorem dX6_isTick_7 : decode cX6_isTick 7 = .ok (.iaload, 1) := by decide +kernel
theorem dX6_isTick_8 : decode cX6_isTick 8 = .ok (.iconst 1, 1) := by decide +kernel
theorem dX6_isTick_9 : decode cX6_isTick 9 = .ok (.isub, 1) := by decide +kernel
theorem dX6_isTick_10 : decode cX6_isTick 10 = .ok (.invokestatic 52, 3) := by decide +kernel
theorem dX6_isTick_13 : decode cX6_isTick 13 = .ok (.ireturn, 1) := by decide +kernel
set_option maxRecDepth 20000 in
theorem ggX6_isNote_X6_isTick : GoodIn wsX6_isNote wsX6_isTick := goodIn_r _ [6, 1, 7, 8, 5, 9, 10, 11, 12, 13, 14, 15, 16, 17, 18, 19, 20, 21, 22, 23, 24] (by decide +kernel) (by decide +kernel)
set_option maxRecDepth 20000 in
theorem gX6_isNote_X6_isTick : GoodIn wsX6_isNote (wsV RX6 107 RX6 yX6_isTick wsX6_isTick) := goodIn_app (goodIn_of _ (by decide +kernel)) ggX6_isNote_X6_isTick
theorem dX6_isNote_0 : decode cX6_isNote 0 = .ok (.aload_n 0, 1) := by decide +kernel
theorem dX6_isNote_1 : decode cX6_isNote 1 = .ok (.iload_n 1, 1) := by decide +kernel
theorem dX6_isNote_2 : decode cX6_isNote 2 = .ok (.invokevirtual 107, 3) := by decide +kernel
theorem dX6_isNote_5 : decode cX6_isNote 5 = .ok (.ifCond .eq 18, 3) := by decide +kernel
theorem dX6_isNote_8 : decode cX6_isNote 8 = .ok (.aload_n 0, 1) := by decide +kernel
theorem dX6_isNote_9 : decode cX6_isNote 9 = .ok (.getfield 7, 3) := by decide +kernel
theorem dX6_isNote_12 : decode cX6_isNote 12 = .ok (.iconst 4, 1) := by decide +kernel
theorem dX6_isNote_13 : decode cX6_isNote 13 = .ok (.iload_n 1, 1) := by decide +kernel
theorem dX6_isNote_14 : decode cX6_isNote 14 = .ok (.iadd, 1) := by decide +kernel
theorem dX6_isNote_15 : decode cX6_isNote 15 = .ok (.iaload, 1) := by decide +kernel
theorem dX6_isNote_16 : decode cX6_isNote 16 = .ok (.ifCond .le 7, 3) := by decide +kernel
theorem dX6_isNote_19 : decode cX6_isNote 19 = .ok (.iconst 1, 1) := by decide +kernel
theorem dX6_isNote_20 : decode cX6_isNote 20 = .ok (.goto 4, 3) := by decide +kernel
theorem dX6_isNote_23 : decode cX6_isNote 23 = .ok (.iconst 0, 1) := by decide +kernel
theorem dX6_isNote_24 : decode cX6_isNote 24 = .ok (.ireturn, 1) := by decide +kernel
theorem dX6_isHand_0 : decode cX6_isHand 0 = .ok (.iload_n 0, 1) := by decide +kernel
theorem dX6_isHand_1 : decode cX6_isHand 1 = .ok (.ifCond .eq 8, 3) := by decide +kernel
theorem dX6_isHand_4 : decode cX6_isHand 4 = .ok (.iload_n 0, 1) := by decide +kernel
theorem dX6_isHand_5 : decode cX6_isHand 5 = .ok (.iconst 1, 1) := by decide +kernel
theorem dX6_isHand_6 : decode cX6_isHand 6 = .ok (.if_icmp .ne 7, 3) := by decide +kernel
theorem dX6_isHand_9 : decode cX6_isHand 9 = .ok (.iconst 1, 1) := by decide +kernel
theorem dX6_isHand_10 : decode cX6_isHand 10 = .ok (.goto 4, 3) := by decide +kernel
theorem dX6_isHand_13 : decode cX6_isHand 13 = .ok (.iconst 0, 1) := by decide +kernel
theorem dX6_isHand_14 : decode cX6_isHand 14 = .ok (.ireturn, 1) := by decide +kernel
set_option maxRecDepth 20000 in
theorem ggX6_notes_X6_isNote : GoodIn wsX6_notes wsX6_isNote := goodIn_r _ [6, 1, 7, 8, 9, 5, 10, 11, 12, 13, 14, 15, 16, 17, 18, 19, 20, 21, 22, 23, 24, 25, 26, 27, 28] (by decide +kernel) (by decide +kernel)
set_option maxRecDepth 20000 in
theorem gX6_notes_X6_isNote : GoodIn wsX6_notes (wsV RX6 110 RX6 yX6_isNote wsX6_isNote) := goodIn_app (goodIn_of _ (by decide +kernel)) ggX6_notes_X6_isNote
theorem dX6_notes_0 : decode cX6_notes 0 = .ok (.iconst 0, 1) := by decide +kernel
theorem dX6_notes_1 : decode cX6_notes 1 = .ok (.istore_n 1, 1) := by decide +kernel
theorem dX6_notes_2 : decode cX6_notes 2 = .ok (.iconst 0, 1) := by decide +kernel
theorem dX6_notes_3 : decode cX6_notes 3 = .ok (.istore_n 2, 1) := by decide +kernel
theorem dX6_notes_4 : decode cX6_notes 4 = .ok (.iload_n 2, 1) := by decide +kernel
theorem dX6_notes_5 : decode cX6_notes 5 = .ok (.aload_n 0, 1) := by decide +kernel
theorem dX6_notes_6 : decode cX6_notes 6 = .ok (.getfield 7, 3) := by decide +kernel
theorem dX6_notes_9 : decode cX6_notes 9 = .ok (.iconst 0, 1) := by decide +kernel
theorem dX6_notes_10 : decode cX6_notes 10 = .ok (.iaload, 1) := by decide +kernel
theorem dX6_notes_11 : decode cX6_notes 11 = .ok (.if_icmp .ge 25, 3) := by decide +kernel
theorem dX6_notes_14 : decode cX6_notes 14 = .ok (.iload_n 1, 1) := by decide +kernel
theorem dX6_notes_15 : decode cX6_notes 15 = .ok (.aload_n 0, 1) := by decide +kernel
theorem dX6_notes_16 : decode cX6_notes 16 = .ok (.iload_n 2, 1) := by decide +kernel
theorem dX6_notes_17 : decode cX6_notes 17 = .ok (.invokevirtual 110, 3) := by decide +kernel
theorem dX6_notes_20 : decode cX6_notes 20 = .ok (.ifCond .eq 7, 3) := by decide +kernel
theorem dX6_notes_23 : decode cX6_notes 23 = .ok (.iconst 1, 1) := by decide +kernel
theorem dX6_notes_24 : decode cX6_notes 24 = .ok (.goto 4, 3) := by decide +kernel
theorem dX6_notes_27 : decode cX6_notes 27 = .ok (.iconst 0, 1) := by decide +kernel
theorem dX6_notes_28 : decode cX6_notes 28 = .ok (.iadd, 1) := by decide +kernel
theorem dX6_notes_29 : decode cX6_notes 29 = .ok (.istore_n 1, 1) := by decide +kernel
theorem dX6_notes_30 : decode cX6_notes 30 = .ok (.iinc 2 1, 3) := by decide +kernel
theorem dX6_notes_33 : decode cX6_notes 33 = .ok (.goto (-29), 3) := by decide +kernel
theorem dX6_notes_36 : decode cX6_notes 36 = .ok (.iload_n 1, 1) := by decide +kernel
theorem dX6_notes_37 : decode cX6_notes 37 = .ok (.ireturn, 1) := by decide +kernel
set_option maxRecDepth 20000 in
theorem ggX6_nextOf_X6_isNote : GoodIn wsX6_nextOf wsX6_isNote := goodIn_r _ [6, 1, 7, 8, 9, 5, 10, 11, 12, 13, 17, 18, 19, 20, 21, 22, 23, 24, 25, 26, 27, 28, 29, 30, 31] (by decide +kernel) (by decide +kernel)
set_option maxRecDepth 20000 in
theorem gX6_nextOf_X6_isNote : GoodIn wsX6_nextOf (wsV RX6 110 RX6 yX6_isNote wsX6_isNote) := goodIn_app (goodIn_of _ (by decide +kernel)) ggX6_nextOf_X6_isNote
set_option maxRecDepth 20000 in
theorem ggX6_nextOf_X6_has : GoodIn wsX6_nextOf wsX6_has := goodIn_r _ [16] (by decide +kernel) (by decide +kernel)
set_option maxRecDepth 20000 in
theorem gX6_nextOf_X6_has : GoodIn wsX6_nextOf (va_wsS RX6 113 yX6_has wsX6_has) := goodIn_app (goodIn_of _ (by decide +kernel)) ggX6_nextOf_X6_has
theorem dX6_nextOf_0 : decode cX6_nextOf 0 = .ok (.iload_n 2, 1) := by decide +kernel
theorem dX6_nextOf_1 : decode cX6_nextOf 1 = .ok (.iconst 1, 1) := by decide +kernel
theorem dX6_nextOf_2 : decode cX6_nextOf 2 = .ok (.iadd, 1) := by decide +kernel
theorem dX6_nextOf_3 : decode cX6_nextOf 3 = .ok (.istore_n 3, 1) := by decide +kernel
theorem dX6_nextOf_4 : decode cX6_nextOf 4 = .ok (.iload_n 3, 1) := by decide +kernel
theorem dX6_nextOf_5 : decode cX6_nextOf 5 = .ok (.aload_n 0, 1) := by decide +kernel
theorem dX6_nextOf_6 : decode cX6_nextOf 6 = .ok (.getfield 7, 3) := by decide +kernel
theorem dX6_nextOf_9 : decode cX6_nextOf 9 = .ok (.iconst 0, 1) := by decide +kernel
theorem dX6_nextOf_10 : decode cX6_nextOf 10 = .ok (.iaload, 1) := by decide +kernel
theorem dX6_nextOf_11 : decode cX6_nextOf 11 = .ok (.if_icmp .ge 30, 3) := by decide +kernel
theorem dX6_nextOf_14 : decode cX6_nextOf 14 = .ok (.aload_n 0, 1) := by decide +kernel
theorem dX6_nextOf_15 : decode cX6_nextOf 15 = .ok (.iload_n 3, 1) := by decide +kernel
theorem dX6_nextOf_16 : decode cX6_nextOf 16 = .ok (.invokevirtual 110, 3) := by decide +kernel
theorem dX6_nextOf_19 : decode cX6_nextOf 19 = .ok (.ifCond .eq 16, 3) := by decide +kernel
theorem dX6_nextOf_22 : decode cX6_nextOf 22 = .ok (.iload_n 1, 1) := by decide +kernel
theorem dX6_nextOf_23 : decode cX6_nextOf 23 = .ok (.iload_n 3, 1) := by decide +kernel
theorem dX6_nextOf_24 : decode cX6_nextOf 24 = .ok (.invokestatic 113, 3) := by decide +kernel
theorem dX6_nextOf_27 : decode cX6_nextOf 27 = .ok (.iload_n 1, 1) := by decide +kernel
theorem dX6_nextOf_28 : decode cX6_nextOf 28 = .ok (.iload_n 2, 1) := by decide +kernel
theorem dX6_nextOf_29 : decode cX6_nextOf 29 = .ok (.invokestatic 113, 3) := by decide +kernel
theorem dX6_nextOf_32 : decode cX6_nextOf 32 = .ok (.if_icmp .eq 9, 3) := by decide +kernel
theorem dX6_nextOf_35 : decode cX6_nextOf 35 = .ok (.iinc 3 1, 3) := by decide +kernel
theorem dX6_nextOf_38 : decode cX6_nextOf 38 = .ok (.goto (-34), 3) := by decide +kernel
theorem dX6_nextOf_41 : decode cX6_nextOf 41 = .ok (.iload_n 3, 1) := by decide +kernel
theorem dX6_nextOf_42 : decode cX6_nextOf 42 = .ok (.aload_n 0, 1) := by decide +kernel
theorem dX6_nextOf_43 : decode cX6_nextOf 43 = .ok (.getfield 7, 3) := by decide +kernel
theorem dX6_nextOf_46 : decode cX6_nextOf 46 = .ok (.iconst 0, 1) := by decide +kernel
theorem dX6_nextOf_47 : decode cX6_nextOf 47 = .ok (.iaload, 1) := by decide +kernel
theorem dX6_nextOf_48 : decode cX6_nextOf 48 = .ok (.if_icmp .ge 7, 3) := by decide +kernel
theorem dX6_nextOf_51 : decode cX6_nextOf 51 = .ok (.iload_n 3, 1) := by decide +kernel
theorem dX6_nextOf_52 : decode cX6_nextOf 52 = .ok (.goto 5, 3) := by decide +kernel
theorem dX6_nextOf_55 : decode cX6_nextOf 55 = .ok (.bipush (-9), 2) := by decide +kernel
theorem dX6_nextOf_57 : decode cX6_nextOf 57 = .ok (.ireturn, 1) := by decide +kernel
set_option maxRecDepth 20000 in
theorem ggX6_isSoon_X6_isNote : GoodIn wsX6_isSoon wsX6_isNote := goodIn_r _ [5, 6, 7, 8, 9, 4, 10, 11, 12, 13, 21, 22, 23, 24, 25, 26, 27, 28, 29, 30, 31, 32, 33, 34, 35] (by decide +kernel) (by decide +kernel)
set_option maxRecDepth 20000 in
theorem gX6_isSoon_X6_isNote : GoodIn wsX6_isSoon (wsV RX6 110 RX6 yX6_isNote wsX6_isNote) := goodIn_app (goodIn_of _ (by decide +kernel)) ggX6_isSoon_X6_isNote
set_option maxRecDepth 20000 in
theorem ggX6_isSoon_X6_nextOf : GoodIn wsX6_isSoon wsX6_nextOf := goodIn_r _ [17, 6, 1, 2, 3, 4, 5, 7, 8, 9, 10, 11, 12, 13, 18, 19, 20, 21, 22, 23, 24, 25, 26, 27, 28, 29, 30, 31, 32, 33, 34, 35] (by decide +kernel) (by decide +kernel)
set_option maxRecDepth 20000 in
theorem gX6_isSoon_X6_nextOf : GoodIn wsX6_isSoon (wsV RX6 116 RX6 yX6_nextOf wsX6_nextOf) := goodIn_app (goodIn_of _ (by decide +kernel)) ggX6_isSoon_X6_nextOf
theorem dX6_isSoon_0 : decode cX6_isSoon 0 = .ok (.aload_n 0, 1) := by decide +kernel
theorem dX6_isSoon_1 : decode cX6_isSoon 1 = .ok (.iload_n 2, 1) := by decide +kernel
theorem dX6_isSoon_2 : decode cX6_isSoon 2 = .ok (.invokevirtual 110, 3) := by decide +kernel
theorem dX6_isSoon_5 : decode cX6_isSoon 5 = .ok (.ifCond .eq 12, 3) := by decide +kernel
theorem dX6_isSoon_8 : decode cX6_isSoon 8 = .ok (.aload_n 0, 1) := by decide +kernel
theorem dX6_isSoon_9 : decode cX6_isSoon 9 = .ok (.iload_n 1, 1) := by decide +kernel
theorem dX6_isSoon_10 : decode cX6_isSoon 10 = .ok (.iload_n 2, 1) := by decide +kernel
theorem dX6_isSoon_11 : decode cX6_isSoon 11 = .ok (.invokevirtual 116, 3) := by decide +kernel
theorem dX6_isSoon_14 : decode cX6_isSoon 14 = .ok (.goto 5, 3) := by decide +kernel
theorem dX6_isSoon_17 : decode cX6_isSoon 17 = .ok (.bipush (-9), 2) := by decide +kernel
theorem dX6_isSoon_19 : decode cX6_isSoon 19 = .ok (.istore 4, 2) := by decide +kernel
theorem dX6_isSoon_21 : decode cX6_isSoon 21 = .ok (.iload 4, 2) := by decide +kernel
theorem dX6_isSoon_23 : decode cX6_isSoon 23 = .ok (.bipush (-9), 2) := by decide +kernel
theorem dX6_isSoon_25 : decode cX6_isSoon 25 = .ok (.if_icmp .eq 15, 3) := by decide +kernel
theorem dX6_isSoon_28 : decode cX6_isSoon 28 = .ok (.iload 4, 2) := by decide +kernel
theorem dX6_isSoon_30 : decode cX6_isSoon 30 = .ok (.iload_n 2, 1) := by decide +kernel
theorem dX6_isSoon_31 : decode cX6_isSoon 31 = .ok (.isub, 1) := by decide +kernel
theorem dX6_isSoon_32 : decode cX6_isSoon 32 = .ok (.iload_n 3, 1) := by decide +kernel
theorem dX6_isSoon_33 : decode cX6_isSoon 33 = .ok (.if_icmp .ge 7, 3) := by decide +kernel
theorem dX6_isSoon_36 : decode cX6_isSoon 36 = .ok (.iconst 1, 1) := by decide +kernel
theorem dX6_isSoon_37 : decode cX6_isSoon 37 = .ok (.goto 4, 3) := by decide +kernel
theorem dX6_isSoon_40 : decode cX6_isSoon 40 = .ok (.iconst 0, 1) := by decide +kernel
theorem dX6_isSoon_41 : decode cX6_isSoon 41 = .ok (.ireturn, 1) := by decide +kernel
set_option maxRecDepth 20000 in
theorem ggX6_isFar_X6_isNote : GoodIn wsX6_isFar wsX6_isNote := goodIn_r _ [6, 1, 7, 8, 9, 5, 10, 11, 12, 13, 21, 22, 23, 24, 25, 26, 27, 28, 29, 30, 31, 32, 33, 34, 35] (by decide +kernel) (by decide +kernel)
set_option maxRecDepth 20000 in
theorem gX6_isFar_X6_isNote : GoodIn wsX6_isFar (wsV RX6 110 RX6 yX6_isNote wsX6_isNote) := goodIn_app (goodIn_of _ (by decide +kernel)) ggX6_isFar_X6_isNote
set_option maxRecDepth 20000 in
theorem ggX6_isFar_X6_nextOf : GoodIn wsX6_isFar wsX6_nextOf := goodIn_r _ [17, 1, 2, 3, 4, 5, 6, 7, 8, 9, 10, 11, 12, 13, 18, 19, 20, 21, 22, 23, 24, 25, 26, 27, 28, 29, 30, 31, 32, 33, 34, 35] (by decide +kernel) (by decide +kernel)
set_option maxRecDepth 20000 in
theorem gX6_isFar_X6_nextOf : GoodIn wsX6_isFar (wsV RX6 116 RX6 yX6_nextOf wsX6_nextOf) := goodIn_app (goodIn_of _ (by decide +kernel)) ggX6_isFar_X6_nextOf
theorem dX6_isFar_0 : decode cX6_isFar 0 = .ok (.aload_n 0, 1) := by decide +kernel
theorem dX6_isFar_1 : decode cX6_isFar 1 = .ok (.iload_n 2, 1) := by decide +kernel
theorem dX6_isFar_2 : decode cX6_isFar 2 = .ok (.invokevirtual 110, 3) := by decide +kernel
theorem dX6_isFar_5 : decode cX6_isFar 5 = .ok (.ifCond .eq 12, 3) := by decide +kernel
theorem dX6_isFar_8 : decode cX6_isFar 8 = .ok (.aload_n 0, 1) := by decide +kernel
theorem dX6_isFar_9 : decode cX6_isFar 9 = .ok (.iload_n 1, 1) := by decide +kernel
theorem dX6_isFar_10 : decode cX6_isFar 10 = .ok (.iload_n 2, 1) := by decide +kernel
theorem dX6_isFar_11 : decode cX6_isFar 11 = .ok (.invokevirtual 116, 3) := by decide +kernel
theorem dX6_isFar_14 : decode cX6_isFar 14 = .ok (.goto 5, 3) := by decide +kernel
theorem dX6_isFar_17 : decode cX6_isFar 17 = .ok (.bipush (-9), 2) := by decide +kernel
theorem dX6_isFar_19 : decode cX6_isFar 19 = .ok (.istore_n 3, 1) := by decide +kernel
theorem dX6_isFar_20 : decode cX6_isFar 20 = .ok (.iload_n 3, 1) := by decide +kernel
theorem dX6_isFar_21 : decode cX6_isFar 21 = .ok (.bipush (-9), 2) := by decide +kernel
theorem dX6_isFar_23 : decode cX6_isFar 23 = .ok (.if_icmp .ne 7, 3) := by decide +kernel
theorem dX6_isFar_26 : decode cX6_isFar 26 = .ok (.iconst 0, 1) := by decide +kernel
theorem dX6_isFar_27 : decode cX6_isFar 27 = .ok (.goto 20, 3) := by decide +kernel
theorem dX6_isFar_30 : decode cX6_isFar 30 = .ok (.aload_n 0, 1) := by decide +kernel
theorem dX6_isFar_31 : decode cX6_isFar 31 = .ok (.getfield 7, 3) := by decide +kernel
theorem dX6_isFar_34 : decode cX6_isFar 34 = .ok (.iconst 4, 1) := by decide +kernel
theorem dX6_isFar_35 : decode cX6_isFar 35 = .ok (.iload_n 3, 1) := by decide +kernel
theorem dX6_isFar_36 : decode cX6_isFar 36 = .ok (.iadd, 1) := by decide +kernel
theorem dX6_isFar_37 : decode cX6_isFar 37 = .ok (.iaload, 1) := by decide +kernel
theorem dX6_isFar_38 : decode cX6_isFar 38 = .ok (.aload_n 0, 1) := by decide +kernel
theorem dX6_isFar_39 : decode cX6_isFar 39 = .ok (.getfield 7, 3) := by decide +kernel
theorem dX6_isFar_42 : decode cX6_isFar 42 = .ok (.iconst 4, 1) := by decide +kernel
theorem dX6_isFar_43 : decode cX6_isFar 43 = .ok (.iload_n 2, 1) := by decide +kernel
theorem dX6_isFar_44 : decode cX6_isFar 44 = .ok (.iadd, 1) := by decide +kernel
theorem dX6_isFar_45 : decode cX6_isFar 45 = .ok (.iaload, 1) := by decide +kernel
theorem dX6_isFar_46 : decode cX6_isFar 46 = .ok (.isub, 1) := by decide +kernel
theorem dX6_isFar_47 : decode cX6_isFar 47 = .ok (.istore 4, 2) := by decide +kernel
theorem dX6_isFar_49 : decode cX6_isFar 49 = .ok (.iload_n 3, 1) := by decide +kernel
theorem dX6_isFar_50 : decode cX6_isFar 50 = .ok (.bipush (-9), 2) := by decide +kernel
theorem dX6_isFar_52 : decode cX6_isFar 52 = .ok (.if_icmp .eq 33, 3) := by decide +kernel
theorem dX6_isFar_55 : decode cX6_isFar 55 = .ok (.iload 4, 2) := by decide +kernel
theorem dX6_isFar_57 : decode cX6_isFar 57 = .ok (.ifCond .ge 9, 3) := by decide +kernel
theorem dX6_isFar_60 : decode cX6_isFar 60 = .ok (.iload 4, 2) := by decide +kernel
theorem dX6_isFar_62 : decode cX6_isFar 62 = .ok (.ineg, 1) := by decide +kernel
theorem dX6_isFar_63 : decode cX6_isFar 63 = .ok (.goto 5, 3) := by decide +kernel
theorem dX6_isFar_66 : decode cX6_isFar 66 = .ok (.iload 4, 2) := by decide +kernel
theorem dX6_isFar_68 : decode cX6_isFar 68 = .ok (.aload_n 0, 1) := by decide +kernel
theorem dX6_isFar_69 : decode cX6_isFar 69 = .ok (.getfield 7, 3) := by decide +kernel
theorem dX6_isFar_72 : decode cX6_isFar 72 = .ok (.iconst 2, 1) := by decide +kernel
theorem dX6_isFar_73 : decode cX6_isFar 73 = .ok (.iaload, 1) := by decide +kernel
theorem dX6_isFar_74 : decode cX6_isFar 74 = .ok (.iload_n 3, 1) := by decide +kernel
theorem dX6_isFar_75 : decode cX6_isFar 75 = .ok (.iadd, 1) := by decide +kernel
theorem dX6_isFar_76 : decode cX6_isFar 76 = .ok (.iload_n 2, 1) := by decide +kernel
theorem dX6_isFar_77 : decode cX6_isFar 77 = .ok (.isub, 1) := by decide +kernel
theorem dX6_isFar_78 : decode cX6_isFar 78 = .ok (.if_icmp .le 7, 3) := by decide +kernel
theorem dX6_isFar_81 : decode cX6_isFar 81 = .ok (.iconst 1, 1) := by decide +kernel
theorem dX6_isFar_82 : decode cX6_isFar 82 = .ok (.goto 4, 3) := by decide +kernel
theorem dX6_isFar_85 : decode cX6_isFar 85 = .ok (.iconst 0, 1) := by decide +kernel
theorem dX6_isFar_86 : decode cX6_isFar 86 = .ok (.ireturn, 1) := by decide +kernel
set_option maxRecDepth 20000 in
theorem ggX6_isLawful_X6_isSoon : GoodIn wsX6_isLawful wsX6_isSoon := goodIn_r _ [6, 7, 8, 9, 5, 10, 1, 11, 12, 13, 14, 15, 16, 17, 18, 19, 20, 21, 22, 23, 24, 29, 30, 31, 32, 33, 34, 35, 36, 37, 38, 39, 40, 41, 42, 43] (by decide +kernel) (by decide +kernel)
set_option maxRecDepth 20000 in
theorem gX6_isLawful_X6_isSoon : GoodIn wsX6_isLawful (wsV RX6 120 RX6 yX6_isSoon wsX6_isSoon) := goodIn_app (goodIn_of _ (by decide +kernel)) ggX6_isLawful_X6_isSoon
set_option maxRecDepth 20000 in
theorem ggX6_isLawful_X6_isFar : GoodIn wsX6_isLawful wsX6_isFar := goodIn_r _ [28, 1, 7, 8, 9, 5, 10, 11, 12, 13, 14, 15, 16, 17, 18, 19, 20, 21, 22, 23, 24, 29, 30, 31, 32, 33, 34, 35, 36, 37, 38, 39, 40, 41, 42, 43] (by decide +kernel) (by decide +kernel)
set_option maxRecDepth 20000 in
theorem gX6_isLawful_X6_isFar : GoodIn wsX6_isLawful (wsV RX6 123 RX6 yX6_isFar wsX6_isFar) := goodIn_app (goodIn_of _ (by decide +kernel)) ggX6_isLawful_X6_isFar
theorem dX6_isLawful_0 : decode cX6_isLawful 0 = .ok (.iconst 1, 1) := by decide +kernel
theorem dX6_isLawful_1 : decode cX6_isLawful 1 = .ok (.istore_n 3, 1) := by decide +kernel
theorem dX6_isLawful_2 : decode cX6_isLawful 2 = .ok (.iconst 0, 1) := by decide +kernel
theorem dX6_isLawful_3 : decode cX6_isLawful 3 = .ok (.istore 4, 2) := by decide +kernel
theorem dX6_isLawful_5 : decode cX6_isLawful 5 = .ok (.iload 4, 2) := by decide +kernel
theorem dX6_isLawful_7 : decode cX6_isLawful 7 = .ok (.aload_n 0, 1) := by decide +kernel
theorem dX6_isLawful_8 : decode cX6_isLawful 8 = .ok (.getfield 7, 3) := by decide +kernel
theorem dX6_isLawful_11 : decode cX6_isLawful 11 = .ok (.iconst 0, 1) := by decide +kernel
theorem dX6_isLawful_12 : decode cX6_isLawful 12 = .ok (.iaload, 1) := by decide +kernel
theorem dX6_isLawful_13 : decode cX6_isLawful 13 = .ok (.if_icmp .ge 40, 3) := by decide +kernel
theorem dX6_isLawful_16 : decode cX6_isLawful 16 = .ok (.iload_n 3, 1) := by decide +kernel
theorem dX6_isLawful_17 : decode cX6_isLawful 17 = .ok (.ifCond .eq 36, 3) := by decide +kernel
theorem dX6_isLawful_20 : decode cX6_isLawful 20 = .ok (.aload_n 0, 1) := by decide +kernel
theorem dX6_isLawful_21 : decode cX6_isLawful 21 = .ok (.iload_n 1, 1) := by decide +kernel
theorem dX6_isLawful_22 : decode cX6_isLawful 22 = .ok (.iload 4, 2) := by decide +kernel
theorem dX6_isLawful_24 : decode cX6_isLawful 24 = .ok (.iload_n 2, 1) := by decide +kernel
theorem dX6_isLawful_25 : decode cX6_isLawful 25 = .ok (.invokevirtual 120, 3) := by decide +kernel
theorem dX6_isLawful_28 : decode cX6_isLawful 28 = .ok (.ifCond .ne 17, 3) := by decide +kernel
theorem dX6_isLawful_31 : decode cX6_isLawful 31 = .ok (.aload_n 0, 1) := by decide +kernel
theorem dX6_isLawful_32 : decode cX6_isLawful 32 = .ok (.iload_n 1, 1) := by decide +kernel
theorem dX6_isLawful_33 : decode cX6_isLawful 33 = .ok (.iload 4, 2) := by decide +kernel
theorem dX6_isLawful_35 : decode cX6_isLawful 35 = .ok (.invokevirtual 123, 3) := by decide +kernel
theorem dX6_isLawful_38 : decode cX6_isLawful 38 = .ok (.ifCond .ne 7, 3) := by decide +kernel
theorem dX6_isLawful_41 : decode cX6_isLawful 41 = .ok (.iconst 1, 1) := by decide +kernel
theorem dX6_isLawful_42 : decode cX6_isLawful 42 = .ok (.goto 4, 3) := by decide +kernel
theorem dX6_isLawful_45 : decode cX6_isLawful 45 = .ok (.iconst 0, 1) := by decide +kernel
theorem dX6_isLawful_46 : decode cX6_isLawful 46 = .ok (.istore_n 3, 1) := by decide +kernel
theorem dX6_isLawful_47 : decode cX6_isLawful 47 = .ok (.iinc 4 1, 3) := by decide +kernel
theorem dX6_isLawful_50 : decode cX6_isLawful 50 = .ok (.goto (-45), 3) := by decide +kernel
theorem dX6_isLawful_53 : decode cX6_isLawful 53 = .ok (.iload_n 3, 1) := by decide +kernel
theorem dX6_isLawful_54 : decode cX6_isLawful 54 = .ok (.ireturn, 1) := by decide +kernel
set_option maxRecDepth 20000 in
theorem ggX6_isLawfulNow_X6_isLawful : GoodIn wsX6_isLawfulNow wsX6_isLawful := goodIn_r _ [6, 1, 7, 8, 9, 5, 10, 11, 12, 13, 14, 15, 16, 17, 18, 19, 20, 21, 22, 23, 24, 25, 26, 27, 28, 29, 30, 31, 32, 33, 34, 35, 36, 37, 38, 39, 40, 41, 42, 43, 44, 45, 46, 47] (by decide +kernel) (by decide +kernel)
set_option maxRecDepth 20000 in
theorem gX6_isLawfulNow_X6_isLawful : GoodIn wsX6_isLawfulNow (wsV RX6 126 RX6 yX6_isLawful wsX6_isLawful) := goodIn_app (goodIn_of _ (by decide +kernel)) ggX6_isLawfulNow_X6_isLawful
theorem dX6_isLawfulNow_0 : decode cX6_isLawfulNow 0 = .ok (.aload_n 0, 1) := by decide +kernel
theorem dX6_isLawfulNow_1 : decode cX6_isLawfulNow 1 = .ok (.iload_n 1, 1) := by decide +kernel
theorem dX6_isLawfulNow_2 : decode cX6_isLawfulNow 2 = .ok (.aload_n 0, 1) := by decide +kernel
theorem dX6_isLawfulNow_3 : decode cX6_isLawfulNow 3 = .ok (.getfield 7, 3) := by decide +kernel
theorem dX6_isLawfulNow_6 : decode cX6_isLawfulNow 6 = .ok (.iconst 1, 1) := by decide +kernel
theorem dX6_isLawfulNow_7 : decode cX6_isLawfulNow 7 = .ok (.iaload, 1) := by decide +kernel
theorem dX6_isLawfulNow_8 : decode cX6_isLawfulNow 8 = .ok (.invokevirtual 126, 3) := by decide +kernel
theorem dX6_isLawfulNow_11 : decode cX6_isLawfulNow 11 = .ok (.ireturn, 1) := by decide +kernel
set_option maxRecDepth 20000 in
theorem ggX6_likeness_X6_isNote : GoodIn wsX6_likeness wsX6_isNote := goodIn_r _ [6, 1, 7, 8, 9, 5, 10, 11, 12, 13, 17, 18, 19, 20, 21, 22, 23, 24, 25, 26, 27, 28, 29, 30, 31] (by decide +kernel) (by decide +kernel)
set_option maxRecDepth 20000 in
theorem gX6_likeness_X6_isNote : GoodIn wsX6_likeness (wsV RX6 110 RX6 yX6_isNote wsX6_isNote) := goodIn_app (goodIn_of _ (by decide +kernel)) ggX6_likeness_X6_isNote
set_option maxRecDepth 20000 in
theorem ggX6_likeness_X6_has : GoodIn wsX6_likeness wsX6_has := goodIn_r _ [16] (by decide +kernel) (by decide +kernel)
set_option maxRecDepth 20000 in
theorem gX6_likeness_X6_has : GoodIn wsX6_likeness (va_wsS RX6 113 yX6_has wsX6_has) := goodIn_app (goodIn_of _ (by decide +kernel)) ggX6_likeness_X6_has
theorem dX6_likeness_0 : decode cX6_likeness 0 = .ok (.iconst 0, 1) := by decide +kernel
theorem dX6_likeness_1 : decode cX6_likeness 1 = .ok (.istore_n 2, 1) := by decide +kernel
theorem dX6_likeness_2 : decode cX6_likeness 2 = .ok (.iconst 0, 1) := by decide +kernel
theorem dX6_likeness_3 : decode cX6_likeness 3 = .ok (.istore_n 3, 1) := by decide +kernel
theorem dX6_likeness_4 : decode cX6_likeness 4 = .ok (.iload_n 3, 1) := by decide +kernel
theorem dX6_likeness_5 : decode cX6_likeness 5 = .ok (.aload_n 0, 1) := by decide +kernel
theorem dX6_likeness_6 : decode cX6_likeness 6 = .ok (.getfield 7, 3) := by decide +kernel
theorem dX6_likeness_9 : decode cX6_likeness 9 = .ok (.iconst 0, 1) := by decide +kernel
theorem dX6_likeness_10 : decode cX6_likeness 10 = .ok (.iaload, 1) := by decide +kernel
theorem dX6_likeness_11 : decode cX6_likeness 11 = .ok (.if_icmp .ge 58, 3) := by decide +kernel
theorem dX6_likeness_14 : decode cX6_likeness 14 = .ok (.iload_n 3, 1) := by decide +kernel
theorem dX6_likeness_15 : decode cX6_likeness 15 = .ok (.aload_n 0, 1) := by decide +kernel
theorem dX6_likeness_16 : decode cX6_likeness 16 = .ok (.getfield 7, 3) := by decide +kernel
theorem dX6_likeness_19 : decode cX6_likeness 19 = .ok (.iconst 3, 1) := by decide +kernel
theorem dX6_likeness_20 : decode cX6_likeness 20 = .ok (.iaload, 1) := by decide +kernel
theorem dX6_likeness_21 : decode cX6_likeness 21 = .ok (.iadd, 1) := by decide +kernel
theorem dX6_likeness_22 : decode cX6_likeness 22 = .ok (.istore 4, 2) := by decide +kernel
theorem dX6_likeness_24 : decode cX6_likeness 24 = .ok (.iload_n 2, 1) := by decide +kernel
theorem dX6_likeness_25 : decode cX6_likeness 25 = .ok (.aload_n 0, 1) := by decide +kernel
theorem dX6_likeness_26 : decode cX6_likeness 26 = .ok (.iload_n 3, 1) := by decide +kernel
theorem dX6_likeness_27 : decode cX6_likeness 27 = .ok (.invokevirtual 110, 3) := by decide +kernel
theorem dX6_likeness_30 : decode cX6_likeness 30 = .ok (.ifCond .eq 30, 3) := by decide +kernel
theorem dX6_likeness_33 : decode cX6_likeness 33 = .ok (.aload_n 0, 1) := by decide +kernel
theorem dX6_likeness_34 : decode cX6_likeness 34 = .ok (.iload 4, 2) := by decide +kernel
theorem dX6_likeness_36 : decode cX6_likeness 36 = .ok (.invokevirtual 110, 3) := by decide +kernel
theorem dX6_likeness_39 : decode cX6_likeness 39 = .ok (.ifCond .eq 21, 3) := by decide +kernel
theorem dX6_likeness_42 : decode cX6_likeness 42 = .ok (.iload_n 1, 1) := by decide +kernel
theorem dX6_likeness_43 : decode cX6_likeness 43 = .ok (.iload_n 3, 1) := by decide +kernel
theorem dX6_likeness_44 : decode cX6_likeness 44 = .ok (.invokestatic 113, 3) := by decide +kernel
theorem dX6_likeness_47 : decode cX6_likeness 47 = .ok (.iload_n 1, 1) := by decide +kernel
theorem dX6_likeness_48 : decode cX6_likeness 48 = .ok (.iload 4, 2) := by decide +kernel
theorem dX6_likeness_50 : decode cX6_likeness 50 = .ok (.invokestatic 113, 3) := by decide +kernel
theorem dX6_likeness_53 : decode cX6_likeness 53 = .ok (.if_icmp .ne 7, 3) := by decide +kernel
theorem dX6_likeness_56 : decode cX6_likeness 56 = .ok (.iconst 1, 1) := by decide +kernel
theorem dX6_likeness_57 : decode cX6_likeness 57 = .ok (.goto 4, 3) := by decide +kernel
theorem dX6_likeness_60 : decode cX6_likeness 60 = .ok (.iconst 0, 1) := by decide +kernel
theorem dX6_likeness_61 : decode cX6_likeness 61 = .ok (.iadd, 1) := by decide +kernel
theorem dX6_likeness_62 : decode cX6_likeness 62 = .ok (.istore_n 2, 1) := by decide +kernel
theorem dX6_likeness_63 : decode cX6_likeness 63 = .ok (.iinc 3 1, 3) := by decide +kernel
theorem dX6_likeness_66 : decode cX6_likeness 66 = .ok (.goto (-62), 3) := by decide +kernel
theorem dX6_likeness_69 : decode cX6_likeness 69 = .ok (.iload_n 2, 1) := by decide +kernel
theorem dX6_likeness_70 : decode cX6_likeness 70 = .ok (.ireturn, 1) := by decide +kernel
set_option maxRecDepth 20000 in
theorem ggX6_tilt_X6_isNote : GoodIn wsX6_tilt wsX6_isNote := goodIn_r _ [6, 1, 7, 8, 9, 5, 10, 11, 12, 13, 17, 18, 19, 20, 21, 22, 23, 24, 25, 26, 27, 28, 29, 30, 31] (by decide +kernel) (by decide +kernel)
set_option maxRecDepth 20000 in
theorem gX6_tilt_X6_isNote : GoodIn wsX6_tilt (wsV RX6 110 RX6 yX6_isNote wsX6_isNote) := goodIn_app (goodIn_of _ (by decide +kernel)) ggX6_tilt_X6_isNote
set_option maxRecDepth 20000 in
theorem ggX6_tilt_X6_has : GoodIn wsX6_tilt wsX6_has := goodIn_r _ [16] (by decide +kernel) (by decide +kernel)
set_option maxRecDepth 20000 in
theorem gX6_tilt_X6_has : GoodIn wsX6_tilt (va_wsS RX6 113 yX6_has wsX6_has) := goodIn_app (goodIn_of _ (by decide +kernel)) ggX6_tilt_X6_has
theorem dX6_tilt_0 : decode cX6_tilt 0 = .ok (.iconst 0, 1) := by decide +kernel
theorem dX6_tilt_1 : decode cX6_tilt 1 = .ok (.istore_n 2, 1) := by decide +kernel
theorem dX6_tilt_2 : decode cX6_tilt 2 = .ok (.iconst 0, 1) := by decide +kernel
theorem dX6_tilt_3 : decode cX6_tilt 3 = .ok (.istore_n 3, 1) := by decide +kernel
theorem dX6_tilt_4 : decode cX6_tilt 4 = .ok (.iload_n 3, 1) := by decide +kernel
theorem dX6_tilt_5 : decode cX6_tilt 5 = .ok (.aload_n 0, 1) := by decide +kernel
theorem dX6_tilt_6 : decode cX6_tilt 6 = .ok (.getfield 7, 3) := by decide +kernel
theorem dX6_tilt_9 : decode cX6_tilt 9 = .ok (.iconst 0, 1) := by decide +kernel
theorem dX6_tilt_10 : decode cX6_tilt 10 = .ok (.iaload, 1) := by decide +kernel
theorem dX6_tilt_11 : decode cX6_tilt 11 = .ok (.if_icmp .ge 37, 3) := by decide +kernel
theorem dX6_tilt_14 : decode cX6_tilt 14 = .ok (.iload_n 2, 1) := by decide +kernel
theorem dX6_tilt_15 : decode cX6_tilt 15 = .ok (.aload_n 0, 1) := by decide +kernel
theorem dX6_tilt_16 : decode cX6_tilt 16 = .ok (.iload_n 3, 1) := by decide +kernel
theorem dX6_tilt_17 : decode cX6_tilt 17 = .ok (.invokevirtual 110, 3) := by decide +kernel
theorem dX6_tilt_20 : decode cX6_tilt 20 = .ok (.ifCond .ne 7, 3) := by decide +kernel
theorem dX6_tilt_23 : decode cX6_tilt 23 = .ok (.iconst 0, 1) := by decide +kernel
theorem dX6_tilt_24 : decode cX6_tilt 24 = .ok (.goto 16, 3) := by decide +kernel
theorem dX6_tilt_27 : decode cX6_tilt 27 = .ok (.iload_n 1, 1) := by decide +kernel
theorem dX6_tilt_28 : decode cX6_tilt 28 = .ok (.iload_n 3, 1) := by decide +kernel
theorem dX6_tilt_29 : decode cX6_tilt 29 = .ok (.invokestatic 113, 3) := by decide +kernel
theorem dX6_tilt_32 : decode cX6_tilt 32 = .ok (.ifCond .eq 7, 3) := by decide +kernel
theorem dX6_tilt_35 : decode cX6_tilt 35 = .ok (.iconst (-1), 1) := by decide +kernel
theorem dX6_tilt_36 : decode cX6_tilt 36 = .ok (.goto 4, 3) := by decide +kernel
theorem dX6_tilt_39 : decode cX6_tilt 39 = .ok (.iconst 1, 1) := by decide +kernel
theorem dX6_tilt_40 : decode cX6_tilt 40 = .ok (.iadd, 1) := by decide +kernel
theorem dX6_tilt_41 : decode cX6_tilt 41 = .ok (.istore_n 2, 1) := by decide +kernel
theorem dX6_tilt_42 : decode cX6_tilt 42 = .ok (.iinc 3 1, 3) := by decide +kernel
theorem dX6_tilt_45 : decode cX6_tilt 45 = .ok (.goto (-41), 3) := by decide +kernel
theorem dX6_tilt_48 : decode cX6_tilt 48 = .ok (.iload_n 2, 1) := by decide +kernel
theorem dX6_tilt_49 : decode cX6_tilt 49 = .ok (.ireturn, 1) := by decide +kernel
set_option maxRecDepth 20000 in
theorem ggX6_ofHand_X6_isNote : GoodIn wsX6_ofHand wsX6_isNote := goodIn_r _ [6, 1, 7, 8, 9, 5, 10, 11, 12, 13, 14, 15, 16, 17, 18, 19, 20, 21, 22, 23, 24, 25, 26, 27, 28] (by decide +kernel) (by decide +kernel)
set_option maxRecDepth 20000 in
theorem gX6_ofHand_X6_isNote : GoodIn wsX6_ofHand (wsV RX6 110 RX6 yX6_isNote wsX6_isNote) := goodIn_app (goodIn_of _ (by decide +kernel)) ggX6_ofHand_X6_isNote
theorem dX6_ofHand_0 : decode cX6_ofHand 0 = .ok (.iconst 0, 1) := by decide +kernel
theorem dX6_ofHand_1 : decode cX6_ofHand 1 = .ok (.istore_n 2, 1) := by decide +kernel
theorem dX6_ofHand_2 : decode cX6_ofHand 2 = .ok (.iconst 0, 1) := by decide +kernel
theorem dX6_ofHand_3 : decode cX6_ofHand 3 = .ok (.istore_n 3, 1) := by decide +kernel
theorem dX6_ofHand_4 : decode cX6_ofHand 4 = .ok (.iload_n 3, 1) := by decide +kernel
theorem dX6_ofHand_5 : decode cX6_ofHand 5 = .ok (.aload_n 0, 1) := by decide +kernel
theorem dX6_ofHand_6 : decode cX6_ofHand 6 = .ok (.getfield 7, 3) := by decide +kernel
theorem dX6_ofHand_9 : decode cX6_ofHand 9 = .ok (.iconst 0, 1) := by decide +kernel
theorem dX6_ofHand_10 : decode cX6_ofHand 10 = .ok (.iaload, 1) := by decide +kernel
theorem dX6_ofHand_11 : decode cX6_ofHand 11 = .ok (.if_icmp .ge 40, 3) := by decide +kernel
theorem dX6_ofHand_14 : decode cX6_ofHand 14 = .ok (.iload_n 2, 1) := by decide +kernel
theorem dX6_ofHand_15 : decode cX6_ofHand 15 = .ok (.aload_n 0, 1) := by decide +kernel
theorem dX6_ofHand_16 : decode cX6_ofHand 16 = .ok (.iload_n 3, 1) := by decide +kernel
theorem dX6_ofHand_17 : decode cX6_ofHand 17 = .ok (.invokevirtual 110, 3) := by decide +kernel
theorem dX6_ofHand_20 : decode cX6_ofHand 20 = .ok (.ifCond .eq 22, 3) := by decide +kernel
theorem dX6_ofHand_23 : decode cX6_ofHand 23 = .ok (.aload_n 0, 1) := by decide +kernel
theorem dX6_ofHand_24 : decode cX6_ofHand 24 = .ok (.getfield 7, 3) := by decide +kernel
theorem dX6_ofHand_27 : decode cX6_ofHand 27 = .ok (.bipush 16, 2) := by decide +kernel
theorem dX6_ofHand_29 : decode cX6_ofHand 29 = .ok (.iaload, 1) := by decide +kernel
theorem dX6_ofHand_30 : decode cX6_ofHand 30 = .ok (.iload_n 3, 1) := by decide +kernel
theorem dX6_ofHand_31 : decode cX6_ofHand 31 = .ok (.ishr, 1) := by decide +kernel
theorem dX6_ofHand_32 : decode cX6_ofHand 32 = .ok (.iconst 1, 1) := by decide +kernel
theorem dX6_ofHand_33 : decode cX6_ofHand 33 = .ok (.iand, 1) := by decide +kernel
theorem dX6_ofHand_34 : decode cX6_ofHand 34 = .ok (.iload_n 1, 1) := by decide +kernel
theorem dX6_ofHand_35 : decode cX6_ofHand 35 = .ok (.if_icmp .ne 7, 3) := by decide +kernel
theorem dX6_ofHand_38 : decode cX6_ofHand 38 = .ok (.iconst 1, 1) := by decide +kernel
theorem dX6_ofHand_39 : decode cX6_ofHand 39 = .ok (.goto 4, 3) := by decide +kernel
theorem dX6_ofHand_42 : decode cX6_ofHand 42 = .ok (.iconst 0, 1) := by decide +kernel
theorem dX6_ofHand_43 : decode cX6_ofHand 43 = .ok (.iadd, 1) := by decide +kernel
theorem dX6_ofHand_44 : decode cX6_ofHand 44 = .ok (.istore_n 2, 1) := by decide +kernel
theorem dX6_ofHand_45 : decode cX6_ofHand 45 = .ok (.iinc 3 1, 3) := by decide +kernel
theorem dX6_ofHand_48 : decode cX6_ofHand 48 = .ok (.goto (-44), 3) := by decide +kernel
theorem dX6_ofHand_51 : decode cX6_ofHand 51 = .ok (.iload_n 2, 1) := by decide +kernel
theorem dX6_ofHand_52 : decode cX6_ofHand 52 = .ok (.ireturn, 1) := by decide +kernel
set_option maxRecDepth 20000 in
theorem ggX6_shareOf_X6_isNote : GoodIn wsX6_shareOf wsX6_isNote := goodIn_r _ [6, 1, 7, 8, 9, 5, 10, 11, 12, 13, 14, 15, 16, 17, 18, 19, 20, 21, 22, 23, 24, 25, 26, 27, 28] (by decide +kernel) (by decide +kernel)
set_option maxRecDepth 20000 in
theorem gX6_shareOf_X6_isNote : GoodIn wsX6_shareOf (wsV RX6 110 RX6 yX6_isNote wsX6_isNote) := goodIn_app (goodIn_of _ (by decide +kernel)) ggX6_shareOf_X6_isNote
theorem dX6_shareOf_0 : decode cX6_shareOf 0 = .ok (.iload_n 1, 1) := by decide +kernel
theorem dX6_shareOf_1 : decode cX6_shareOf 1 = .ok (.istore_n 2, 1) := by decide +kernel
theorem dX6_shareOf_2 : decode cX6_shareOf 2 = .ok (.iconst 0, 1) := by decide +kernel
theorem dX6_shareOf_3 : decode cX6_shareOf 3 = .ok (.istore_n 3, 1) := by decide +kernel
theorem dX6_shareOf_4 : decode cX6_shareOf 4 = .ok (.aload_n 0, 1) := by decide +kernel
theorem dX6_shareOf_5 : decode cX6_shareOf 5 = .ok (.getfield 7, 3) := by decide +kernel
theorem dX6_shareOf_8 : decode cX6_shareOf 8 = .ok (.iconst 0, 1) := by decide +kernel
theorem dX6_shareOf_9 : decode cX6_shareOf 9 = .ok (.iaload, 1) := by decide +kernel
theorem dX6_shareOf_10 : decode cX6_shareOf 10 = .ok (.iconst 1, 1) := by decide +kernel
theorem dX6_shareOf_11 : decode cX6_shareOf 11 = .ok (.isub, 1) := by decide +kernel
theorem dX6_shareOf_12 : decode cX6_shareOf 12 = .ok (.istore 4, 2) := by decide +kernel
theorem dX6_shareOf_14 : decode cX6_shareOf 14 = .ok (.iload 4, 2) := by decide +kernel
theorem dX6_shareOf_16 : decode cX6_shareOf 16 = .ok (.ifCond .lt 31, 3) := by decide +kernel
theorem dX6_shareOf_19 : decode cX6_shareOf 19 = .ok (.aload_n 0, 1) := by decide +kernel
theorem dX6_shareOf_20 : decode cX6_shareOf 20 = .ok (.iload 4, 2) := by decide +kernel
theorem dX6_shareOf_22 : decode cX6_shareOf 22 = .ok (.invokevirtual 110, 3) := by decide +kernel
theorem dX6_shareOf_25 : decode cX6_shareOf 25 = .ok (.ifCond .eq 16, 3) := by decide +kernel
theorem dX6_shareOf_28 : decode cX6_shareOf 28 = .ok (.iload_n 3, 1) := by decide +kernel
theorem dX6_shareOf_29 : decode cX6_shareOf 29 = .ok (.iload_n 2, 1) := by decide +kernel
theorem dX6_shareOf_30 : decode cX6_shareOf 30 = .ok (.iconst 1, 1) := by decide +kernel
theorem dX6_shareOf_31 : decode cX6_shareOf 31 = .ok (.iand, 1) := by decide +kernel
theorem dX6_shareOf_32 : decode cX6_shareOf 32 = .ok (.iload 4, 2) := by decide +kernel
theorem dX6_shareOf_34 : decode cX6_shareOf 34 = .ok (.ishl, 1) := by decide +kernel
theorem dX6_shareOf_35 : decode cX6_shareOf 35 = .ok (.ior, 1) := by decide +kernel
theorem dX6_shareOf_36 : decode cX6_shareOf 36 = .ok (.istore_n 3, 1) := by decide +kernel
theorem dX6_shareOf_37 : decode cX6_shareOf 37 = .ok (.iload_n 2, 1) := by decide +kernel
theorem dX6_shareOf_38 : decode cX6_shareOf 38 = .ok (.iconst 1, 1) := by decide +kernel
theorem dX6_shareOf_39 : decode cX6_shareOf 39 = .ok (.ishr, 1) := by decide +kernel
theorem dX6_shareOf_40 : decode cX6_shareOf 40 = .ok (.istore_n 2, 1) := by decide +kernel
theorem dX6_shareOf_41 : decode cX6_shareOf 41 = .ok (.iinc 4 (-1), 3) := by decide +kernel
theorem dX6_shareOf_44 : decode cX6_shareOf 44 = .ok (.goto (-30), 3) := by decide +kernel
theorem dX6_shareOf_47 : decode cX6_shareOf 47 = .ok (.iload_n 3, 1) := by decide +kernel
theorem dX6_shareOf_48 : decode cX6_shareOf 48 = .ok (.ireturn, 1) := by decide +kernel
set_option maxRecDepth 20000 in
theorem ggX6_gives_X6_isNote : GoodIn wsX6_gives wsX6_isNote := goodIn_r _ [6, 1, 7, 8, 9, 5, 10, 11, 12, 13, 27, 28, 29, 30, 31, 32, 33, 34, 35, 36, 37, 38, 39, 40, 41] (by decide +kernel) (by decide +kernel)
set_option maxRecDepth 20000 in
theorem gX6_gives_X6_isNote : GoodIn wsX6_gives (wsV RX6 110 RX6 yX6_isNote wsX6_isNote) := goodIn_app (goodIn_of _ (by decide +kernel)) ggX6_gives_X6_isNote
set_option maxRecDepth 20000 in
theorem ggX6_gives_X6_isHand : GoodIn wsX6_gives wsX6_isHand := goodIn_r _ [16] (by decide +kernel) (by decide +kernel)
set_option maxRecDepth 20000 in
theorem gX6_gives_X6_isHand : GoodIn wsX6_gives (va_wsS RX6 129 yX6_isHand wsX6_isHand) := goodIn_app (goodIn_of _ (by decide +kernel)) ggX6_gives_X6_isHand
set_option maxRecDepth 20000 in
theorem ggX6_gives_X6_keeps : GoodIn wsX6_gives wsX6_keeps := goodIn_r _ [20, 21, 22, 1, 27, 28, 29, 30, 31, 32, 33, 34, 35, 36, 37, 38, 39, 40, 41] (by decide +kernel) (by decide +kernel)
set_option maxRecDepth 20000 in
theorem gX6_gives_X6_keeps : GoodIn wsX6_gives (wsV RX6 104 RX6 yX6_keeps wsX6_keeps) := goodIn_app (goodIn_of _ (by decide +kernel)) ggX6_gives_X6_keeps
set_option maxRecDepth 20000 in
theorem ggX6_gives_X6_ofHand : GoodIn wsX6_gives wsX6_ofHand := goodIn_r _ [26, 1, 2, 3, 4, 5, 6, 7, 8, 9, 10, 11, 12, 13, 27, 28, 29, 30, 31, 32, 33, 34, 35, 36, 37, 38, 39, 40, 41] (by decide +kernel) (by decide +kernel)
set_option maxRecDepth 20000 in
theorem gX6_gives_X6_ofHand : GoodIn wsX6_gives (wsV RX6 132 RX6 yX6_ofHand wsX6_ofHand) := goodIn_app (goodIn_of _ (by decide +kernel)) ggX6_gives_X6_ofHand
theorem dX6_gives_0 : decode cX6_gives 0 = .ok (.aload_n 0, 1) := by decide +kernel
theorem dX6_gives_1 : decode cX6_gives 1 = .ok (.iload_n 1, 1) := by decide +kernel
theorem dX6_gives_2 : decode cX6_gives 2 = .ok (.invokevirtual 110, 3) := by decide +kernel
theorem dX6_gives_5 : decode cX6_gives 5 = .ok (.ifCond .eq 10, 3) := by decide +kernel
theorem dX6_gives_8 : decode cX6_gives 8 = .ok (.iload_n 2, 1) := by decide +kernel
theorem dX6_gives_9 : decode cX6_gives 9 = .ok (.invokestatic 129, 3) := by decide +kernel
theorem dX6_gives_12 : decode cX6_gives 12 = .ok (.ifCond .ne 5, 3) := by decide +kernel
theorem dX6_gives_15 : decode cX6_gives 15 = .ok (.iconst (-1), 1) := by decide +kernel
theorem dX6_gives_16 : decode cX6_gives 16 = .ok (.ireturn, 1) := by decide +kernel
theorem dX6_gives_17 : decode cX6_gives 17 = .ok (.aload_n 0, 1) := by decide +kernel
theorem dX6_gives_18 : decode cX6_gives 18 = .ok (.getfield 7, 3) := by decide +kernel
theorem dX6_gives_21 : decode cX6_gives 21 = .ok (.bipush 16, 2) := by decide +kernel
theorem dX6_gives_23 : decode cX6_gives 23 = .ok (.iaload, 1) := by decide +kernel
theorem dX6_gives_24 : decode cX6_gives 24 = .ok (.iload_n 1, 1) := by decide +kernel
theorem dX6_gives_25 : decode cX6_gives 25 = .ok (.ishr, 1) := by decide +kernel
theorem dX6_gives_26 : decode cX6_gives 26 = .ok (.iconst 1, 1) := by decide +kernel
theorem dX6_gives_27 : decode cX6_gives 27 = .ok (.iand, 1) := by decide +kernel
theorem dX6_gives_28 : decode cX6_gives 28 = .ok (.iload_n 2, 1) := by decide +kernel
theorem dX6_gives_29 : decode cX6_gives 29 = .ok (.if_icmp .ne 6, 3) := by decide +kernel
theorem dX6_gives_32 : decode cX6_gives 32 = .ok (.bipush (-2), 2) := by decide +kernel
theorem dX6_gives_34 : decode cX6_gives 34 = .ok (.ireturn, 1) := by decide +kernel
theorem dX6_gives_35 : decode cX6_gives 35 = .ok (.aload_n 0, 1) := by decide +kernel
theorem dX6_gives_36 : decode cX6_gives 36 = .ok (.invokevirtual 104, 3) := by decide +kernel
theorem dX6_gives_39 : decode cX6_gives 39 = .ok (.aload_n 0, 1) := by decide +kernel
theorem dX6_gives_40 : decode cX6_gives 40 = .ok (.getfield 7, 3) := by decide +kernel
theorem dX6_gives_43 : decode cX6_gives 43 = .ok (.bipush 16, 2) := by decide +kernel
theorem dX6_gives_45 : decode cX6_gives 45 = .ok (.dup2, 1) := by decide +kernel
theorem dX6_gives_46 : decode cX6_gives 46 = .ok (.iaload, 1) := by decide +kernel
theorem dX6_gives_47 : decode cX6_gives 47 = .ok (.iconst 1, 1) := by decide +kernel
theorem dX6_gives_48 : decode cX6_gives 48 = .ok (.iload_n 1, 1) := by decide +kernel
theorem dX6_gives_49 : decode cX6_gives 49 = .ok (.ishl, 1) := by decide +kernel
theorem dX6_gives_50 : decode cX6_gives 50 = .ok (.ixor, 1) := by decide +kernel
theorem dX6_gives_51 : decode cX6_gives 51 = .ok (.iastore, 1) := by decide +kernel
theorem dX6_gives_52 : decode cX6_gives 52 = .ok (.aload_n 0, 1) := by decide +kernel
theorem dX6_gives_53 : decode cX6_gives 53 = .ok (.iload_n 2, 1) := by decide +kernel
theorem dX6_gives_54 : decode cX6_gives 54 = .ok (.invokevirtual 132, 3) := by decide +kernel
theorem dX6_gives_57 : decode cX6_gives 57 = .ok (.ireturn, 1) := by decide +kernel
set_option maxRecDepth 20000 in
theorem ggX6_flips_X6_isTick : GoodIn wsX6_flips wsX6_isTick := goodIn_r _ [6, 1, 7, 8, 5, 9, 20, 21, 22, 23, 24, 25, 26, 27, 28, 29, 30, 31, 32, 33, 34] (by decide +kernel) (by decide +kernel)
set_option maxRecDepth 20000 in
theorem gX6_flips_X6_isTick : GoodIn wsX6_flips (wsV RX6 107 RX6 yX6_isTick wsX6_isTick) := goodIn_app (goodIn_of _ (by decide +kernel)) ggX6_flips_X6_isTick
set_option maxRecDepth 20000 in
theorem ggX6_flips_X6_isNote : GoodIn wsX6_flips wsX6_isNote := goodIn_r _ [13, 1, 2, 3, 4, 5, 6, 7, 8, 9, 20, 21, 22, 23, 24, 25, 26, 27, 28, 29, 30, 31, 32, 33, 34] (by decide +kernel) (by decide +kernel)
set_option maxRecDepth 20000 in
theorem gX6_flips_X6_isNote : GoodIn wsX6_flips (wsV RX6 110 RX6 yX6_isNote wsX6_isNote) := goodIn_app (goodIn_of _ (by decide +kernel)) ggX6_flips_X6_isNote
set_option maxRecDepth 20000 in
theorem ggX6_flips_X6_keeps : GoodIn wsX6_flips wsX6_keeps := goodIn_r _ [17, 18, 19, 1, 20, 21, 22, 23, 24, 25, 26, 27, 28, 29, 30, 31, 32, 33, 34] (by decide +kernel) (by decide +kernel)
set_option maxRecDepth 20000 in
theorem gX6_flips_X6_keeps : GoodIn wsX6_flips (wsV RX6 104 RX6 yX6_keeps wsX6_keeps) := goodIn_app (goodIn_of _ (by decide +kernel)) ggX6_flips_X6_keeps
theorem dX6_flips_0 : decode cX6_flips 0 = .ok (.aload_n 0, 1) := by decide +kernel
theorem dX6_flips_1 : decode cX6_flips 1 = .ok (.iload_n 1, 1) := by decide +kernel
theorem dX6_flips_2 : decode cX6_flips 2 = .ok (.invokevirtual 107, 3) := by decide +kernel
theorem dX6_flips_5 : decode cX6_flips 5 = .ok (.ifCond .eq 16, 3) := by decide +kernel
theorem dX6_flips_8 : decode cX6_flips 8 = .ok (.aload_n 0, 1) := by decide +kernel
theorem dX6_flips_9 : decode cX6_flips 9 = .ok (.iload_n 2, 1) := by decide +kernel
theorem dX6_flips_10 : decode cX6_flips 10 = .ok (.invokevirtual 107, 3) := by decide +kernel
theorem dX6_flips_13 : decode cX6_flips 13 = .ok (.ifCond .eq 8, 3) := by decide +kernel
theorem dX6_flips_16 : decode cX6_flips 16 = .ok (.iload_n 2, 1) := by decide +kernel
theorem dX6_flips_17 : decode cX6_flips 17 = .ok (.iload_n 1, 1) := by decide +kernel
theorem dX6_flips_18 : decode cX6_flips 18 = .ok (.if_icmp .ge 5, 3) := by decide +kernel
theorem dX6_flips_21 : decode cX6_flips 21 = .ok (.iconst (-1), 1) := by decide +kernel
theorem dX6_flips_22 : decode cX6_flips 22 = .ok (.ireturn, 1) := by decide +kernel
theorem dX6_flips_23 : decode cX6_flips 23 = .ok (.iconst 0, 1) := by decide +kernel
theorem dX6_flips_24 : decode cX6_flips 24 = .ok (.istore_n 3, 1) := by decide +kernel
theorem dX6_flips_25 : decode cX6_flips 25 = .ok (.iconst 0, 1) := by decide +kernel
theorem dX6_flips_26 : decode cX6_flips 26 = .ok (.istore 4, 2) := by decide +kernel
theorem dX6_flips_28 : decode cX6_flips 28 = .ok (.iload_n 1, 1) := by decide +kernel
theorem dX6_flips_29 : decode cX6_flips 29 = .ok (.istore 5, 2) := by decide +kernel
theorem dX6_flips_31 : decode cX6_flips 31 = .ok (.iload 5, 2) := by decide +kernel
theorem dX6_flips_33 : decode cX6_flips 33 = .ok (.iload_n 2, 1) := by decide +kernel
theorem dX6_flips_34 : decode cX6_flips 34 = .ok (.if_icmp .gt 48, 3) := by decide +kernel
theorem dX6_flips_37 : decode cX6_flips 37 = .ok (.iload_n 3, 1) := by decide +kernel
theorem dX6_flips_38 : decode cX6_flips 38 = .ok (.aload_n 0, 1) := by decide +kernel
theorem dX6_flips_39 : decode cX6_flips 39 = .ok (.iload 5, 2) := by decide +kernel
theorem dX6_flips_41 : decode cX6_flips 41 = .ok (.invokevirtual 110, 3) := by decide +kernel
theorem dX6_flips_44 : decode cX6_flips 44 = .ok (.ifCond .eq 10, 3) := by decide +kernel
theorem dX6_flips_47 : decode cX6_flips 47 = .ok (.iconst 1, 1) := by decide +kernel
theorem dX6_flips_48 : decode cX6_flips 48 = .ok (.iload 5, 2) := by decide +kernel
theorem dX6_flips_50 : decode cX6_flips 50 = .ok (.ishl, 1) := by decide +kernel
theorem dX6_flips_51 : decode cX6_flips 51 = .ok (.goto 4, 3) := by decide +kernel
theorem dX6_flips_54 : decode cX6_flips 54 = .ok (.iconst 0, 1) := by decide +kernel
theorem dX6_flips_55 : decode cX6_flips 55 = .ok (.ior, 1) := by decide +kernel
theorem dX6_flips_56 : decode cX6_flips 56 = .ok (.istore_n 3, 1) := by decide +kernel
theorem dX6_flips_57 : decode cX6_flips 57 = .ok (.iload 4, 2) := by decide +kernel
theorem dX6_flips_59 : decode cX6_flips 59 = .ok (.aload_n 0, 1) := by decide +kernel
theorem dX6_flips_60 : decode cX6_flips 60 = .ok (.iload 5, 2) := by decide +kernel
theorem dX6_flips_62 : decode cX6_flips 62 = .ok (.invokevirtual 110, 3) := by decide +kernel
theorem dX6_flips_65 : decode cX6_flips 65 = .ok (.ifCond .eq 7, 3) := by decide +kernel
theorem dX6_flips_68 : decode cX6_flips 68 = .ok (.iconst 1, 1) := by decide +kernel
theorem dX6_flips_69 : decode cX6_flips 69 = .ok (.goto 4, 3) := by decide +kernel
theorem dX6_flips_72 : decode cX6_flips 72 = .ok (.iconst 0, 1) := by decide +kernel
theorem dX6_flips_73 : decode cX6_flips 73 = .ok (.iadd, 1) := by decide +kernel
theorem dX6_flips_74 : decode cX6_flips 74 = .ok (.istore 4, 2) := by decide +kernel
theorem dX6_flips_76 : decode cX6_flips 76 = .ok (.iinc 5 1, 3) := by decide +kernel
theorem dX6_flips_79 : decode cX6_flips 79 = .ok (.goto (-48), 3) := by decide +kernel
theorem dX6_flips_82 : decode cX6_flips 82 = .ok (.iload 4, 2) := by decide +kernel
theorem dX6_flips_84 : decode cX6_flips 84 = .ok (.ifCond .ne 6, 3) := by decide +kernel
theorem dX6_flips_87 : decode cX6_flips 87 = .ok (.bipush (-2), 2) := by decide +kernel
theorem dX6_flips_89 : decode cX6_flips 89 = .ok (.ireturn, 1) := by decide +kernel
theorem dX6_flips_90 : decode cX6_flips 90 = .ok (.aload_n 0, 1) := by decide +kernel
theorem dX6_flips_91 : decode cX6_flips 91 = .ok (.invokevirtual 104, 3) := by decide +kernel
theorem dX6_flips_94 : decode cX6_flips 94 = .ok (.aload_n 0, 1) := by decide +kernel
theorem dX6_flips_95 : decode cX6_flips 95 = .ok (.getfield 7, 3) := by decide +kernel
theorem dX6_flips_98 : decode cX6_flips 98 = .ok (.bipush 16, 2) := by decide +kernel
theorem dX6_flips_100 : decode cX6_flips 100 = .ok (.dup2, 1) := by decide +kernel
theorem dX6_flips_101 : decode cX6_flips 101 = .ok (.iaload, 1) := by decide +kernel
theorem dX6_flips_102 : decode cX6_flips 102 = .ok (.iload_n 3, 1) := by decide +kernel
theorem dX6_flips_103 : decode cX6_flips 103 = .ok (.ixor, 1) := by decide +kernel
theorem dX6_flips_104 : decode cX6_flips 104 = .ok (.iastore, 1) := by decide +kernel
theorem dX6_flips_105 : decode cX6_flips 105 = .ok (.iload 4, 2) := by decide +kernel
theorem dX6_flips_107 : decode cX6_flips 107 = .ok (.ireturn, 1) := by decide +kernel
theorem dX6_ones_0 : decode cX6_ones 0 = .ok (.iconst 0, 1) := by decide +kernel
theorem dX6_ones_1 : decode cX6_ones 1 = .ok (.istore_n 1, 1) := by decide +kernel
theorem dX6_ones_2 : decode cX6_ones 2 = .ok (.iconst 0, 1) := by decide +kernel
theorem dX6_ones_3 : decode cX6_ones 3 = .ok (.istore_n 2, 1) := by decide +kernel
theorem dX6_ones_4 : decode cX6_ones 4 = .ok (.iload_n 2, 1) := by decide +kernel
theorem dX6_ones_5 : decode cX6_ones 5 = .ok (.bipush 12, 2) := by decide +kernel
theorem dX6_ones_7 : decode cX6_ones 7 = .ok (.if_icmp .ge 17, 3) := by decide +kernel
theorem dX6_ones_10 : decode cX6_ones 10 = .ok (.iload_n 1, 1) := by decide +kernel
theorem dX6_ones_11 : decode cX6_ones 11 = .ok (.iload_n 0, 1) := by decide +kernel
theorem dX6_ones_12 : decode cX6_ones 12 = .ok (.iload_n 2, 1) := by decide +kernel
theorem dX6_ones_13 : decode cX6_ones 13 = .ok (.ishr, 1) := by decide +kernel
theorem dX6_ones_14 : decode cX6_ones 14 = .ok (.iconst 1, 1) := by decide +kernel
theorem dX6_ones_15 : decode cX6_ones 15 = .ok (.iand, 1) := by decide +kernel
theorem dX6_ones_16 : decode cX6_ones 16 = .ok (.iadd, 1) := by decide +kernel
theorem dX6_ones_17 : decode cX6_ones 17 = .ok (.istore_n 1, 1) := by decide +kernel
theorem dX6_ones_18 : decode cX6_ones 18 = .ok (.iinc 2 1, 3) := by decide +kernel
theorem dX6_ones_21 : decode cX6_ones 21 = .ok (.goto (-17), 3) := by decide +kernel
theorem dX6_ones_24 : decode cX6_ones 24 = .ok (.iload_n 1, 1) := by decide +kernel
theorem dX6_ones_25 : decode cX6_ones 25 = .ok (.ireturn, 1) := by decide +kernel
set_option maxRecDepth 20000 in
theorem ggX6_nearest_X6_notes : GoodIn wsX6_nearest wsX6_notes := goodIn_r _ [6, 1, 7, 8, 9, 5, 10, 11, 12, 13, 14, 15, 16, 17, 48, 49, 50, 51, 52, 53, 54, 55, 56, 57, 58, 59, 60, 61, 62] (by decide +kernel) (by decide +kernel)
set_option maxRecDepth 20000 in
theorem gX6_nearest_X6_notes : GoodIn wsX6_nearest (wsV RX6 135 RX6 yX6_notes wsX6_notes) := goodIn_app (goodIn_of _ (by decide +kernel)) ggX6_nearest_X6_notes
set_option maxRecDepth 20000 in
theorem ggX6_nearest_X6_shareOf : GoodIn wsX6_nearest wsX6_shareOf := goodIn_r _ [21, 1, 7, 8, 9, 5, 10, 11, 12, 13, 14, 15, 16, 17, 48, 49, 50, 51, 52, 53, 54, 55, 56, 57, 58, 59, 60, 61, 62] (by decide +kernel) (by decide +kernel)
set_option maxRecDepth 20000 in
theorem gX6_nearest_X6_shareOf : GoodIn wsX6_nearest (wsV RX6 138 RX6 yX6_shareOf wsX6_shareOf) := goodIn_app (goodIn_of _ (by decide +kernel)) ggX6_nearest_X6_shareOf
set_option maxRecDepth 20000 in
theorem ggX6_nearest_X6_ones : GoodIn wsX6_nearest wsX6_ones := goodIn_r _ [24] (by decide +kernel) (by decide +kernel)
set_option maxRecDepth 20000 in
theorem gX6_nearest_X6_ones : GoodIn wsX6_nearest (va_wsS RX6 141 yX6_ones wsX6_ones) := goodIn_app (goodIn_of _ (by decide +kernel)) ggX6_nearest_X6_ones
set_option maxRecDepth 20000 in
theorem ggX6_nearest_X6_isLawfulNow : GoodIn wsX6_nearest wsX6_isLawfulNow := goodIn_r _ [28, 1, 29, 30, 31, 5, 32, 33, 34, 35, 36, 7, 8, 9, 10, 11, 12, 13, 14, 15, 16, 17, 37, 38, 39, 40, 41, 42, 43, 44, 45, 46, 47, 48, 49, 50, 51, 52, 53, 54, 55, 56, 57, 58, 59, 60, 61, 62] (by decide +kernel) (by decide +kernel)
set_option maxRecDepth 20000 in
theorem gX6_nearest_X6_isLawfulNow : GoodIn wsX6_nearest (wsV RX6 144 RX6 yX6_isLawfulNow wsX6_isLawfulNow) := goodIn_app (goodIn_of _ (by decide +kernel)) ggX6_nearest_X6_isLawfulNow
theorem dX6_nearest_0 : decode cX6_nearest 0 = .ok (.bipush (-9), 2) := by decide +kernel
theorem dX6_nearest_2 : decode cX6_nearest 2 = .ok (.istore_n 1, 1) := by decide +kernel
theorem dX6_nearest_3 : decode cX6_nearest 3 = .ok (.iconst 0, 1) := by decide +kernel
theorem dX6_nearest_4 : decode cX6_nearest 4 = .ok (.istore_n 2, 1) := by decide +kernel
theorem dX6_nearest_5 : decode cX6_nearest 5 = .ok (.iload_n 2, 1) := by decide +kernel
theorem dX6_nearest_6 : decode cX6_nearest 6 = .ok (.iconst 1, 1) := by decide +kernel
theorem dX6_nearest_7 : decode cX6_nearest 7 = .ok (.aload_n 0, 1) := by decide +kernel
theorem dX6_nearest_8 : decode cX6_nearest 8 = .ok (.invokevirtual 135, 3) := by decide +kernel
theorem dX6_nearest_11 : decode cX6_nearest 11 = .ok (.ishl, 1) := by decide +kernel
theorem dX6_nearest_12 : decode cX6_nearest 12 = .ok (.if_icmp .ge 74, 3) := by decide +kernel
theorem dX6_nearest_15 : decode cX6_nearest 15 = .ok (.aload_n 0, 1) := by decide +kernel
theorem dX6_nearest_16 : decode cX6_nearest 16 = .ok (.iload_n 2, 1) := by decide +kernel
theorem dX6_nearest_17 : decode cX6_nearest 17 = .ok (.invokevirtual 138, 3) := by decide +kernel
theorem dX6_nearest_20 : decode cX6_nearest 20 = .ok (.istore_n 3, 1) := by decide +kernel
theorem dX6_nearest_21 : decode cX6_nearest 21 = .ok (.iload_n 1, 1) := by decide +kernel
theorem dX6_nearest_22 : decode cX6_nearest 22 = .ok (.bipush (-9), 2) := by decide +kernel
theorem dX6_nearest_24 : decode cX6_nearest 24 = .ok (.if_icmp .eq 30, 3) := by decide +kernel
theorem dX6_nearest_27 : decode cX6_nearest 27 = .ok (.iload_n 3, 1) := by decide +kernel
theorem dX6_nearest_28 : decode cX6_nearest 28 = .ok (.aload_n 0, 1) := by decide +kernel
theorem dX6_nearest_29 : decode cX6_nearest 29 = .ok (.getfield 7, 3) := by decide +kernel
theorem dX6_nearest_32 : decode cX6_nearest 32 = .ok (.bipush 16, 2) := by decide +kernel
theorem dX6_nearest_34 : decode cX6_nearest 34 = .ok (.iaload, 1) := by decide +kernel
theorem dX6_nearest_35 : decode cX6_nearest 35 = .ok (.ixor, 1) := by decide +kernel
theorem dX6_nearest_36 : decode cX6_nearest 36 = .ok (.invokestatic 141, 3) := by decide +kernel
theorem dX6_nearest_39 : decode cX6_nearest 39 = .ok (.iload_n 1, 1) := by decide +kernel
theorem dX6_nearest_40 : decode cX6_nearest 40 = .ok (.aload_n 0, 1) := by decide +kernel
theorem dX6_nearest_41 : decode cX6_nearest 41 = .ok (.getfield 7, 3) := by decide +kernel
theorem dX6_nearest_44 : decode cX6_nearest 44 = .ok (.bipush 16, 2) := by decide +kernel
theorem dX6_nearest_46 : decode cX6_nearest 46 = .ok (.iaload, 1) := by decide +kernel
theorem dX6_nearest_47 : decode cX6_nearest 47 = .ok (.ixor, 1) := by decide +kernel
theorem dX6_nearest_48 : decode cX6_nearest 48 = .ok (.invokestatic 141, 3) := by decide +kernel
theorem dX6_nearest_51 : decode cX6_nearest 51 = .ok (.if_icmp .ge 7, 3) := by decide +kernel
theorem dX6_nearest_54 : decode cX6_nearest 54 = .ok (.iconst 1, 1) := by decide +kernel
theorem dX6_nearest_55 : decode cX6_nearest 55 = .ok (.goto 4, 3) := by decide +kernel
theorem dX6_nearest_58 : decode cX6_nearest 58 = .ok (.iconst 0, 1) := by decide +kernel
theorem dX6_nearest_59 : decode cX6_nearest 59 = .ok (.istore 4, 2) := by decide +kernel
theorem dX6_nearest_61 : decode cX6_nearest 61 = .ok (.iload 4, 2) := by decide +kernel
theorem dX6_nearest_63 : decode cX6_nearest 63 = .ok (.ifCond .eq 15, 3) := by decide +kernel
theorem dX6_nearest_66 : decode cX6_nearest 66 = .ok (.aload_n 0, 1) := by decide +kernel
theorem dX6_nearest_67 : decode cX6_nearest 67 = .ok (.iload_n 3, 1) := by decide +kernel
theorem dX6_nearest_68 : decode cX6_nearest 68 = .ok (.invokevirtual 144, 3) := by decide +kernel
theorem dX6_nearest_71 : decode cX6_nearest 71 = .ok (.ifCond .eq 7, 3) := by decide +kernel
theorem dX6_nearest_74 : decode cX6_nearest 74 = .ok (.iload_n 3, 1) := by decide +kernel
theorem dX6_nearest_75 : decode cX6_nearest 75 = .ok (.goto 4, 3) := by decide +kernel
theorem dX6_nearest_78 : decode cX6_nearest 78 = .ok (.iload_n 1, 1) := by decide +kernel
theorem dX6_nearest_79 : decode cX6_nearest 79 = .ok (.istore_n 1, 1) := by decide +kernel
theorem dX6_nearest_80 : decode cX6_nearest 80 = .ok (.iinc 2 1, 3) := by decide +kernel
theorem dX6_nearest_83 : decode cX6_nearest 83 = .ok (.goto (-78), 3) := by decide +kernel
theorem dX6_nearest_86 : decode cX6_nearest 86 = .ok (.iload_n 1, 1) := by decide +kernel
theorem dX6_nearest_87 : decode cX6_nearest 87 = .ok (.ireturn, 1) := by decide +kernel
set_option maxRecDepth 20000 in
theorem ggX6_mends_X6_isLawfulNow : GoodIn wsX6_mends wsX6_isLawfulNow := goodIn_r _ [6, 1, 7, 8, 9, 5, 10, 11, 12, 13, 14, 15, 16, 17, 18, 19, 20, 21, 22, 23, 24, 25, 26, 27, 28, 29, 30, 31, 32, 33, 34, 35, 36, 58, 59, 60, 61, 62, 63, 64, 65, 66, 67, 68, 69, 70, 71, 72] (by decide +kernel) (by decide +kernel)
set_option maxRecDepth 20000 in
theorem gX6_mends_X6_isLawfulNow : GoodIn wsX6_mends (wsV RX6 144 RX6 yX6_isLawfulNow wsX6_isLawfulNow) := goodIn_app (goodIn_of _ (by decide +kernel)) ggX6_mends_X6_isLawfulNow
set_option maxRecDepth 20000 in
theorem ggX6_mends_X6_nearest : GoodIn wsX6_mends wsX6_nearest := goodIn_r _ [40, 1, 41, 42, 43, 5, 44, 15, 16, 17, 18, 19, 20, 21, 22, 23, 24, 25, 45, 46, 47, 48, 49, 50, 51, 2, 3, 4, 6, 7, 8, 9, 10, 11, 12, 13, 14, 26, 27, 28, 29, 30, 31, 32, 33, 34, 35, 36, 58, 59, 60, 61, 62, 63, 64, 65, 66, 67, 68, 69, 70, 71, 72] (by decide +kernel) (by decide +kernel)
set_option maxRecDepth 20000 in
theorem gX6_mends_X6_nearest : GoodIn wsX6_mends (wsV RX6 147 RX6 yX6_nearest wsX6_nearest) := goodIn_app (goodIn_of _ (by decide +kernel)) ggX6_mends_X6_nearest
set_option maxRecDepth 20000 in
theorem ggX6_mends_X6_keeps : GoodIn wsX6_mends wsX6_keeps := goodIn_r _ [55, 56, 57, 1, 58, 59, 60, 61, 62, 63, 64, 65, 66, 67, 68, 69, 70, 71, 72] (by decide +kernel) (by decide +kernel)
set_option maxRecDepth 20000 in
theorem gX6_mends_X6_keeps : GoodIn wsX6_mends (wsV RX6 104 RX6 yX6_keeps wsX6_keeps) := goodIn_app (goodIn_of _ (by decide +kernel)) ggX6_mends_X6_keeps
set_option maxRecDepth 20000 in
theorem ggX6_mends_X6_ones : GoodIn wsX6_mends wsX6_ones := goodIn_r _ [51] (by decide +kernel) (by decide +kernel)
set_option maxRecDepth 20000 in
theorem gX6_mends_X6_ones : GoodIn wsX6_mends (va_wsS RX6 141 yX6_ones wsX6_ones) := goodIn_app (goodIn_of _ (by decide +kernel)) ggX6_mends_X6_ones
theorem dX6_mends_0 : decode cX6_mends 0 = .ok (.aload_n 0, 1) := by decide +kernel
theorem dX6_mends_1 : decode cX6_mends 1 = .ok (.aload_n 0, 1) := by decide +kernel
theorem dX6_mends_2 : decode cX6_mends 2 = .ok (.getfield 7, 3) := by decide +kernel
theorem dX6_mends_5 : decode cX6_mends 5 = .ok (.bipush 16, 2) := by decide +kernel
theorem dX6_mends_7 : decode cX6_mends 7 = .ok (.iaload, 1) := by decide +kernel
theorem dX6_mends_8 : decode cX6_mends 8 = .ok (.invokevirtual 144, 3) := by decide +kernel
theorem dX6_mends_11 : decode cX6_mends 11 = .ok (.ifCond .eq 8, 3) := by decide +kernel
theorem dX6_mends_14 : decode cX6_mends 14 = .ok (.bipush (-9), 2) := by decide +kernel
theorem dX6_mends_16 : decode cX6_mends 16 = .ok (.goto 7, 3) := by decide +kernel
theorem dX6_mends_19 : decode cX6_mends 19 = .ok (.aload_n 0, 1) := by decide +kernel
theorem dX6_mends_20 : decode cX6_mends 20 = .ok (.invokevirtual 147, 3) := by decide +kernel
theorem dX6_mends_23 : decode cX6_mends 23 = .ok (.istore_n 1, 1) := by decide +kernel
theorem dX6_mends_24 : decode cX6_mends 24 = .ok (.iload_n 1, 1) := by decide +kernel
theorem dX6_mends_25 : decode cX6_mends 25 = .ok (.bipush (-9), 2) := by decide +kernel
theorem dX6_mends_27 : decode cX6_mends 27 = .ok (.if_icmp .ne 6, 3) := by decide +kernel
theorem dX6_mends_30 : decode cX6_mends 30 = .ok (.bipush (-2), 2) := by decide +kernel
theorem dX6_mends_32 : decode cX6_mends 32 = .ok (.ireturn, 1) := by decide +kernel
theorem dX6_mends_33 : decode cX6_mends 33 = .ok (.aload_n 0, 1) := by decide +kernel
theorem dX6_mends_34 : decode cX6_mends 34 = .ok (.invokevirtual 104, 3) := by decide +kernel
theorem dX6_mends_37 : decode cX6_mends 37 = .ok (.iload_n 1, 1) := by decide +kernel
theorem dX6_mends_38 : decode cX6_mends 38 = .ok (.aload_n 0, 1) := by decide +kernel
theorem dX6_mends_39 : decode cX6_mends 39 = .ok (.getfield 7, 3) := by decide +kernel
theorem dX6_mends_42 : decode cX6_mends 42 = .ok (.bipush 16, 2) := by decide +kernel
theorem dX6_mends_44 : decode cX6_mends 44 = .ok (.iaload, 1) := by decide +kernel
theorem dX6_mends_45 : decode cX6_mends 45 = .ok (.ixor, 1) := by decide +kernel
theorem dX6_mends_46 : decode cX6_mends 46 = .ok (.invokestatic 141, 3) := by decide +kernel
theorem dX6_mends_49 : decode cX6_mends 49 = .ok (.istore_n 2, 1) := by decide +kernel
theorem dX6_mends_50 : decode cX6_mends 50 = .ok (.aload_n 0, 1) := by decide +kernel
theorem dX6_mends_51 : decode cX6_mends 51 = .ok (.getfield 7, 3) := by decide +kernel
theorem dX6_mends_54 : decode cX6_mends 54 = .ok (.bipush 16, 2) := by decide +kernel
theorem dX6_mends_56 : decode cX6_mends 56 = .ok (.iload_n 1, 1) := by decide +kernel
theorem dX6_mends_57 : decode cX6_mends 57 = .ok (.iastore, 1) := by decide +kernel
theorem dX6_mends_58 : decode cX6_mends 58 = .ok (.iload_n 2, 1) := by decide +kernel
theorem dX6_mends_59 : decode cX6_mends 59 = .ok (.ireturn, 1) := by decide +kernel
set_option maxRecDepth 20000 in
theorem ggX6_sets_X6_within : GoodIn wsX6_sets wsX6_within := goodIn_r _ [5] (by decide +kernel) (by decide +kernel)
set_option maxRecDepth 20000 in
theorem gX6_sets_X6_within : GoodIn wsX6_sets (va_wsS RX6 52 yX6_within wsX6_within) := goodIn_app (goodIn_of _ (by decide +kernel)) ggX6_sets_X6_within
set_option maxRecDepth 20000 in
theorem ggX6_sets_X6_least : GoodIn wsX6_sets wsX6_least := goodIn_r _ [8] (by decide +kernel) (by decide +kernel)
set_option maxRecDepth 20000 in
theorem gX6_sets_X6_least : GoodIn wsX6_sets (va_wsS RX6 71 yX6_least wsX6_least) := goodIn_app (goodIn_of _ (by decide +kernel)) ggX6_sets_X6_least
set_option maxRecDepth 20000 in
theorem ggX6_sets_X6_greatest : GoodIn wsX6_sets wsX6_greatest := goodIn_r _ [11] (by decide +kernel) (by decide +kernel)
set_option maxRecDepth 20000 in
theorem gX6_sets_X6_greatest : GoodIn wsX6_sets (va_wsS RX6 74 yX6_greatest wsX6_greatest) := goodIn_app (goodIn_of _ (by decide +kernel)) ggX6_sets_X6_greatest
set_option maxRecDepth 20000 in
theorem ggX6_sets_X6_keeps : GoodIn wsX6_sets wsX6_keeps := goodIn_r _ [15, 16, 17, 1, 18, 19, 20, 21, 22, 23, 24, 25, 26, 27, 28, 29, 30, 31, 32] (by decide +kernel) (by decide +kernel)
set_option maxRecDepth 20000 in
theorem gX6_sets_X6_keeps : GoodIn wsX6_sets (wsV RX6 104 RX6 yX6_keeps wsX6_keeps) := goodIn_app (goodIn_of _ (by decide +kernel)) ggX6_sets_X6_keeps
theorem dX6_sets_0 : decode cX6_sets 0 = .ok (.iload_n 1, 1) := by decide +kernel
theorem dX6_sets_1 : decode cX6_sets 1 = .ok (.iconst 0, 1) := by decide +kernel
theorem dX6_sets_2 : decode cX6_sets 2 = .ok (.iconst 2, 1) := by decide +kernel
theorem dX6_sets_3 : decode cX6_sets 3 = .ok (.invokestatic 52, 3) := by decide +kernel
theorem dX6_sets_6 : decode cX6_sets 6 = .ok (.ifCond .eq 22, 3) := by decide +kernel
theorem dX6_sets_9 : decode cX6_sets 9 = .ok (.iload_n 2, 1) := by decide +kernel
theorem dX6_sets_10 : decode cX6_sets 10 = .ok (.iload_n 1, 1) := by decide +kernel
theorem dX6_sets_11 : decode cX6_sets 11 = .ok (.iconst 1, 1) := by decide +kernel
theorem dX6_sets_12 : decode cX6_sets 12 = .ok (.iadd, 1) := by decide +kernel
theorem dX6_sets_13 : decode cX6_sets 13 = .ok (.invokestatic 71, 3) := by decide +kernel
theorem dX6_sets_16 : decode cX6_sets 16 = .ok (.iload_n 1, 1) := by decide +kernel
theorem dX6_sets_17 : decode cX6_sets 17 = .ok (.iconst 1, 1) := by decide +kernel
theorem dX6_sets_18 : decode cX6_sets 18 = .ok (.iadd, 1) := by decide +kernel
theorem dX6_sets_19 : decode cX6_sets 19 = .ok (.invokestatic 74, 3) := by decide +kernel
theorem dX6_sets_22 : decode cX6_sets 22 = .ok (.invokestatic 52, 3) := by decide +kernel
theorem dX6_sets_25 : decode cX6_sets 25 = .ok (.ifCond .ne 5, 3) := by decide +kernel
theorem dX6_sets_28 : decode cX6_sets 28 = .ok (.iconst (-1), 1) := by decide +kernel
theorem dX6_sets_29 : decode cX6_sets 29 = .ok (.ireturn, 1) := by decide +kernel
theorem dX6_sets_30 : decode cX6_sets 30 = .ok (.aload_n 0, 1) := by decide +kernel
theorem dX6_sets_31 : decode cX6_sets 31 = .ok (.getfield 7, 3) := by decide +kernel
theorem dX6_sets_34 : decode cX6_sets 34 = .ok (.iload_n 1, 1) := by decide +kernel
theorem dX6_sets_35 : decode cX6_sets 35 = .ok (.iconst 1, 1) := by decide +kernel
theorem dX6_sets_36 : decode cX6_sets 36 = .ok (.iadd, 1) := by decide +kernel
theorem dX6_sets_37 : decode cX6_sets 37 = .ok (.iaload, 1) := by decide +kernel
theorem dX6_sets_38 : decode cX6_sets 38 = .ok (.istore_n 3, 1) := by decide +kernel
theorem dX6_sets_39 : decode cX6_sets 39 = .ok (.iload_n 3, 1) := by decide +kernel
theorem dX6_sets_40 : decode cX6_sets 40 = .ok (.iload_n 2, 1) := by decide +kernel
theorem dX6_sets_41 : decode cX6_sets 41 = .ok (.if_icmp .ne 6, 3) := by decide +kernel
theorem dX6_sets_44 : decode cX6_sets 44 = .ok (.bipush (-2), 2) := by decide +kernel
theorem dX6_sets_46 : decode cX6_sets 46 = .ok (.ireturn, 1) := by decide +kernel
theorem dX6_sets_47 : decode cX6_sets 47 = .ok (.aload_n 0, 1) := by decide +kernel
theorem dX6_sets_48 : decode cX6_sets 48 = .ok (.invokevirtual 104, 3) := by decide +kernel
theorem dX6_sets_51 : decode cX6_sets 51 = .ok (.aload_n 0, 1) := by decide +kernel
theorem dX6_sets_52 : decode cX6_sets 52 = .ok (.getfield 7, 3) := by decide +kernel
theorem dX6_sets_55 : decode cX6_sets 55 = .ok (.iload_n 1, 1) := by decide +kernel
theorem dX6_sets_56 : decode cX6_sets 56 = .ok (.iconst 1, 1) := by decide +kernel
theorem dX6_sets_57 : decode cX6_sets 57 = .ok (.iadd, 1) := by decide +kernel
theorem dX6_sets_58 : decode cX6_sets 58 = .ok (.iload_n 2, 1) := by decide +kernel
theorem dX6_sets_59 : decode cX6_sets 59 = .ok (.iastore, 1) := by decide +kernel
theorem dX6_sets_60 : decode cX6_sets 60 = .ok (.iload_n 3, 1) := by decide +kernel
theorem dX6_sets_61 : decode cX6_sets 61 = .ok (.ireturn, 1) := by decide +kernel
theorem dX6_undo_0 : decode cX6_undo 0 = .ok (.aload_n 0, 1) := by decide +kernel
theorem dX6_undo_1 : decode cX6_undo 1 = .ok (.getfield 98, 3) := by decide +kernel
theorem dX6_undo_4 : decode cX6_undo 4 = .ok (.ifCond .ne 6, 3) := by decide +kernel
theorem dX6_undo_7 : decode cX6_undo 7 = .ok (.bipush (-2), 2) := by decide +kernel
theorem dX6_undo_9 : decode cX6_undo 9 = .ok (.ireturn, 1) := by decide +kernel
theorem dX6_undo_10 : decode cX6_undo 10 = .ok (.aload_n 0, 1) := by decide +kernel
theorem dX6_undo_11 : decode cX6_undo 11 = .ok (.dup, 1) := by decide +kernel
theorem dX6_undo_12 : decode cX6_undo 12 = .ok (.getfield 98, 3) := by decide +kernel
theorem dX6_undo_15 : decode cX6_undo 15 = .ok (.iconst 1, 1) := by decide +kernel
theorem dX6_undo_16 : decode cX6_undo 16 = .ok (.isub, 1) := by decide +kernel
theorem dX6_undo_17 : decode cX6_undo 17 = .ok (.putfield 98, 3) := by decide +kernel
theorem dX6_undo_20 : decode cX6_undo 20 = .ok (.iconst 0, 1) := by decide +kernel
theorem dX6_undo_21 : decode cX6_undo 21 = .ok (.istore_n 1, 1) := by decide +kernel
theorem dX6_undo_22 : decode cX6_undo 22 = .ok (.iload_n 1, 1) := by decide +kernel
theorem dX6_undo_23 : decode cX6_undo 23 = .ok (.bipush 17, 2) := by decide +kernel
theorem dX6_undo_25 : decode cX6_undo 25 = .ok (.if_icmp .ge 29, 3) := by decide +kernel
theorem dX6_undo_28 : decode cX6_undo 28 = .ok (.aload_n 0, 1) := by decide +kernel
theorem dX6_undo_29 : decode cX6_undo 29 = .ok (.getfield 7, 3) := by decide +kernel
theorem dX6_undo_32 : decode cX6_undo 32 = .ok (.iload_n 1, 1) := by decide +kernel
theorem dX6_undo_33 : decode cX6_undo 33 = .ok (.aload_n 0, 1) := by decide +kernel
theorem dX6_undo_34 : decode cX6_undo 34 = .ok (.getfield 16, 3) := by decide +kernel
theorem dX6_undo_37 : decode cX6_undo 37 = .ok (.bipush 17, 2) := by decide +kernel
theorem dX6_undo_39 : decode cX6_undo 39 = .ok (.aload_n 0, 1) := by decide +kernel
theorem dX6_undo_40 : decode cX6_undo 40 = .ok (.getfield 98, 3) := by decide +kernel
theorem dX6_undo_43 : decode cX6_undo 43 = .ok (.imul, 1) := by decide +kernel
theorem dX6_undo_44 : decode cX6_undo 44 = .ok (.iload_n 1, 1) := by decide +kernel
theorem dX6_undo_45 : decode cX6_undo 45 = .ok (.iadd, 1) := by decide +kernel
theorem dX6_undo_46 : decode cX6_undo 46 = .ok (.iaload, 1) := by decide +kernel
theorem dX6_undo_47 : decode cX6_undo 47 = .ok (.iastore, 1) := by decide +kernel
theorem dX6_undo_48 : decode cX6_undo 48 = .ok (.iinc 1 1, 3) := by decide +kernel
theorem dX6_undo_51 : decode cX6_undo 51 = .ok (.goto (-29), 3) := by decide +kernel
theorem dX6_undo_54 : decode cX6_undo 54 = .ok (.aload_n 0, 1) := by decide +kernel
theorem dX6_undo_55 : decode cX6_undo 55 = .ok (.getfield 98, 3) := by decide +kernel
theorem dX6_undo_58 : decode cX6_undo 58 = .ok (.ireturn, 1) := by decide +kernel
set_option maxRecDepth 20000 in
theorem ggX6_tick_X6_isTick : GoodIn wsX6_tick wsX6_isTick := goodIn_r _ [6, 1, 7, 8, 5, 9, 29, 30, 31, 32, 33, 34, 35, 36, 37, 38, 39, 40, 41, 42, 43] (by decide +kernel) (by decide +kernel)
set_option maxRecDepth 20000 in
theorem gX6_tick_X6_isTick : GoodIn wsX6_tick (wsV RX6 107 RX6 yX6_isTick wsX6_isTick) := goodIn_app (goodIn_of _ (by decide +kernel)) ggX6_tick_X6_isTick
set_option maxRecDepth 20000 in
theorem ggX6_tick_X6_within : GoodIn wsX6_tick wsX6_within := goodIn_r _ [9] (by decide +kernel) (by decide +kernel)
set_option maxRecDepth 20000 in
theorem gX6_tick_X6_within : GoodIn wsX6_tick (va_wsS RX6 52 yX6_within wsX6_within) := goodIn_app (goodIn_of _ (by decide +kernel)) ggX6_tick_X6_within
set_option maxRecDepth 20000 in
theorem ggX6_tick_X6_isNote : GoodIn wsX6_tick wsX6_isNote := goodIn_r _ [13, 1, 2, 3, 4, 5, 6, 7, 8, 9, 29, 30, 31, 32, 33, 34, 35, 36, 37, 38, 39, 40, 41, 42, 43] (by decide +kernel) (by decide +kernel)
set_option maxRecDepth 20000 in
theorem gX6_tick_X6_isNote : GoodIn wsX6_tick (wsV RX6 110 RX6 yX6_isNote wsX6_isNote) := goodIn_app (goodIn_of _ (by decide +kernel)) ggX6_tick_X6_isNote
set_option maxRecDepth 20000 in
theorem ggX6_tick_X6_isSoon : GoodIn wsX6_tick wsX6_isSoon := goodIn_r _ [17, 10, 11, 12, 5, 13, 1, 2, 3, 4, 6, 7, 8, 9, 18, 19, 20, 21, 22, 23, 24, 29, 30, 31, 32, 33, 34, 35, 36, 37, 38, 39, 40, 41, 42, 43] (by decide +kernel) (by decide +kernel)
set_option maxRecDepth 20000 in
theorem gX6_tick_X6_isSoon : GoodIn wsX6_tick (wsV RX6 120 RX6 yX6_isSoon wsX6_isSoon) := goodIn_app (goodIn_of _ (by decide +kernel)) ggX6_tick_X6_isSoon
set_option maxRecDepth 20000 in
theorem ggX6_tick_X6_isFar : GoodIn wsX6_tick wsX6_isFar := goodIn_r _ [28, 1, 10, 11, 12, 5, 13, 2, 3, 4, 6, 7, 8, 9, 18, 19, 20, 21, 22, 23, 24, 29, 30, 31, 32, 33, 34, 35, 36, 37, 38, 39, 40, 41, 42, 43] (by decide +kernel) (by decide +kernel)
set_option maxRecDepth 20000 in
theorem gX6_tick_X6_isFar : GoodIn wsX6_tick (wsV RX6 123 RX6 yX6_isFar wsX6_isFar) := goodIn_app (goodIn_of _ (by decide +kernel)) ggX6_tick_X6_isFar
theorem dX6_tick_0 : decode cX6_tick 0 = .ok (.aload_n 0, 1) := by decide +kernel
theorem dX6_tick_1 : decode cX6_tick 1 = .ok (.iload_n 1, 1) := by decide +kernel
theorem dX6_tick_2 : decode cX6_tick 2 = .ok (.invokevirtual 107, 3) := by decide +kernel
theorem dX6_tick_5 : decode cX6_tick 5 = .ok (.ifCond .eq 12, 3) := by decide +kernel
theorem dX6_tick_8 : decode cX6_tick 8 = .ok (.iload_n 2, 1) := by decide +kernel
theorem dX6_tick_9 : decode cX6_tick 9 = .ok (.iconst 0, 1) := by decide +kernel
theorem dX6_tick_10 : decode cX6_tick 10 = .ok (.iconst 3, 1) := by decide +kernel
theorem dX6_tick_11 : decode cX6_tick 11 = .ok (.invokestatic 52, 3) := by decide +kernel
theorem dX6_tick_14 : decode cX6_tick 14 = .ok (.ifCond .ne 5, 3) := by decide +kernel
theorem dX6_tick_17 : decode cX6_tick 17 = .ok (.iconst (-1), 1) := by decide +kernel
theorem dX6_tick_18 : decode cX6_tick 18 = .ok (.ireturn, 1) := by decide +kernel
theorem dX6_tick_19 : decode cX6_tick 19 = .ok (.iload_n 2, 1) := by decide +kernel
theorem dX6_tick_20 : decode cX6_tick 20 = .ok (.tableswitch 89 0 2 #[28, 37, 62], 28) := by decide +kernel
theorem dX6_tick_48 : decode cX6_tick 48 = .ok (.aload_n 0, 1) := by decide +kernel
theorem dX6_tick_49 : decode cX6_tick 49 = .ok (.getfield 7, 3) := by decide +kernel
theorem dX6_tick_52 : decode cX6_tick 52 = .ok (.iconst 4, 1) := by decide +kernel
theorem dX6_tick_53 : decode cX6_tick 53 = .ok (.iload_n 1, 1) := by decide +kernel
theorem dX6_tick_54 : decode cX6_tick 54 = .ok (.iadd, 1) := by decide +kernel
theorem dX6_tick_55 : decode cX6_tick 55 = .ok (.iaload, 1) := by decide +kernel
theorem dX6_tick_56 : decode cX6_tick 56 = .ok (.ireturn, 1) := by decide +kernel
theorem dX6_tick_57 : decode cX6_tick 57 = .ok (.aload_n 0, 1) := by decide +kernel
theorem dX6_tick_58 : decode cX6_tick 58 = .ok (.iload_n 1, 1) := by decide +kernel
theorem dX6_tick_59 : decode cX6_tick 59 = .ok (.invokevirtual 110, 3) := by decide +kernel
theorem dX6_tick_62 : decode cX6_tick 62 = .ok (.ifCond .eq 17, 3) := by decide +kernel
theorem dX6_tick_65 : decode cX6_tick 65 = .ok (.aload_n 0, 1) := by decide +kernel
theorem dX6_tick_66 : decode cX6_tick 66 = .ok (.getfield 7, 3) := by decide +kernel
theorem dX6_tick_69 : decode cX6_tick 69 = .ok (.bipush 16, 2) := by decide +kernel
theorem dX6_tick_71 : decode cX6_tick 71 = .ok (.iaload, 1) := by decide +kernel
theorem dX6_tick_72 : decode cX6_tick 72 = .ok (.iload_n 1, 1) := by decide +kernel
theorem dX6_tick_73 : decode cX6_tick 73 = .ok (.ishr, 1) := by decide +kernel
theorem dX6_tick_74 : decode cX6_tick 74 = .ok (.iconst 1, 1) := by decide +kernel
theorem dX6_tick_75 : decode cX6_tick 75 = .ok (.iand, 1) := by decide +kernel
theorem dX6_tick_76 : decode cX6_tick 76 = .ok (.goto 5, 3) := by decide +kernel
theorem dX6_tick_79 : decode cX6_tick 79 = .ok (.bipush (-9), 2) := by decide +kernel
theorem dX6_tick_81 : decode cX6_tick 81 = .ok (.ireturn, 1) := by decide +kernel
theorem dX6_tick_82 : decode cX6_tick 82 = .ok (.aload_n 0, 1) := by decide +kernel
theorem dX6_tick_83 : decode cX6_tick 83 = .ok (.aload_n 0, 1) := by decide +kernel
theorem dX6_tick_84 : decode cX6_tick 84 = .ok (.getfield 7, 3) := by decide +kernel
theorem dX6_tick_87 : decode cX6_tick 87 = .ok (.bipush 16, 2) := by decide +kernel
theorem dX6_tick_89 : decode cX6_tick 89 = .ok (.iaload, 1) := by decide +kernel
theorem dX6_tick_90 : decode cX6_tick 90 = .ok (.iload_n 1, 1) := by decide +kernel
theorem dX6_tick_91 : decode cX6_tick 91 = .ok (.aload_n 0, 1) := by decide +kernel
theorem dX6_tick_92 : decode cX6_tick 92 = .ok (.getfield 7, 3) := by decide +kernel
theorem dX6_tick_95 : decode cX6_tick 95 = .ok (.iconst 1, 1) := by decide +kernel
theorem dX6_tick_96 : decode cX6_tick 96 = .ok (.iaload, 1) := by decide +kernel
theorem dX6_tick_97 : decode cX6_tick 97 = .ok (.invokevirtual 120, 3) := by decide +kernel
theorem dX6_tick_100 : decode cX6_tick 100 = .ok (.ifCond .eq 7, 3) := by decide +kernel
theorem dX6_tick_103 : decode cX6_tick 103 = .ok (.iconst 1, 1) := by decide +kernel
theorem dX6_tick_104 : decode cX6_tick 104 = .ok (.goto 4, 3) := by decide +kernel
theorem dX6_tick_107 : decode cX6_tick 107 = .ok (.iconst 0, 1) := by decide +kernel
theorem dX6_tick_108 : decode cX6_tick 108 = .ok (.ireturn, 1) := by decide +kernel
theorem dX6_tick_109 : decode cX6_tick 109 = .ok (.aload_n 0, 1) := by decide +kernel
theorem dX6_tick_110 : decode cX6_tick 110 = .ok (.aload_n 0, 1) := by decide +kernel
theorem dX6_tick_111 : decode cX6_tick 111 = .ok (.getfield 7, 3) := by decide +kernel
theorem dX6_tick_114 : decode cX6_tick 114 = .ok (.bipush 16, 2) := by decide +kernel
theorem dX6_tick_116 : decode cX6_tick 116 = .ok (.iaload, 1) := by decide +kernel
theorem dX6_tick_117 : decode cX6_tick 117 = .ok (.iload_n 1, 1) := by decide +kernel
theorem dX6_tick_118 : decode cX6_tick 118 = .ok (.invokevirtual 123, 3) := by decide +kernel
theorem dX6_tick_121 : decode cX6_tick 121 = .ok (.ifCond .eq 7, 3) := by decide +kernel
theorem dX6_tick_124 : decode cX6_tick 124 = .ok (.iconst 1, 1) := by decide +kernel
theorem dX6_tick_125 : decode cX6_tick 125 = .ok (.goto 4, 3) := by decide +kernel
theorem dX6_tick_128 : decode cX6_tick 128 = .ok (.iconst 0, 1) := by decide +kernel
theorem dX6_tick_129 : decode cX6_tick 129 = .ok (.ireturn, 1) := by decide +kernel
set_option maxRecDepth 20000 in
theorem ggX6_pairs_X6_isSoon : GoodIn wsX6_pairs wsX6_isSoon := goodIn_r _ [6, 7, 8, 9, 5, 10, 1, 11, 12, 13, 14, 15, 16, 17, 18, 19, 20, 21, 22, 23, 24, 29, 30, 31, 32, 33, 34, 35, 36, 37, 38, 39, 40, 41, 42, 43] (by decide +kernel) (by decide +kernel)
set_option maxRecDepth 20000 in
theorem gX6_pairs_X6_isSoon : GoodIn wsX6_pairs (wsV RX6 120 RX6 yX6_isSoon wsX6_isSoon) := goodIn_app (goodIn_of _ (by decide +kernel)) ggX6_pairs_X6_isSoon
set_option maxRecDepth 20000 in
theorem ggX6_pairs_X6_isFar : GoodIn wsX6_pairs wsX6_isFar := goodIn_r _ [28, 1, 7, 8, 9, 5, 10, 11, 12, 13, 14, 15, 16, 17, 18, 19, 20, 21, 22, 23, 24, 29, 30, 31, 32, 33, 34, 35, 36, 37, 38, 39, 40, 41, 42, 43] (by decide +kernel) (by decide +kernel)
set_option maxRecDepth 20000 in
theorem gX6_pairs_X6_isFar : GoodIn wsX6_pairs (wsV RX6 123 RX6 yX6_isFar wsX6_isFar) := goodIn_app (goodIn_of _ (by decide +kernel)) ggX6_pairs_X6_isFar
theorem dX6_pairs_0 : decode cX6_pairs 0 = .ok (.iconst 0, 1) := by decide +kernel
theorem dX6_pairs_1 : decode cX6_pairs 1 = .ok (.istore_n 2, 1) := by decide +kernel
theorem dX6_pairs_2 : decode cX6_pairs 2 = .ok (.iconst 0, 1) := by decide +kernel
theorem dX6_pairs_3 : decode cX6_pairs 3 = .ok (.istore_n 3, 1) := by decide +kernel
theorem dX6_pairs_4 : decode cX6_pairs 4 = .ok (.iload_n 3, 1) := by decide +kernel
theorem dX6_pairs_5 : decode cX6_pairs 5 = .ok (.aload_n 0, 1) := by decide +kernel
theorem dX6_pairs_6 : decode cX6_pairs 6 = .ok (.getfield 7, 3) := by decide +kernel
theorem dX6_pairs_9 : decode cX6_pairs 9 = .ok (.iconst 0, 1) := by decide +kernel
theorem dX6_pairs_10 : decode cX6_pairs 10 = .ok (.iaload, 1) := by decide +kernel
theorem dX6_pairs_11 : decode cX6_pairs 11 = .ok (.if_icmp .ge 60, 3) := by decide +kernel
theorem dX6_pairs_14 : decode cX6_pairs 14 = .ok (.iload_n 2, 1) := by decide +kernel
theorem dX6_pairs_15 : decode cX6_pairs 15 = .ok (.iload_n 1, 1) := by decide +kernel
theorem dX6_pairs_16 : decode cX6_pairs 16 = .ok (.ifCond .eq 27, 3) := by decide +kernel
theorem dX6_pairs_19 : decode cX6_pairs 19 = .ok (.aload_n 0, 1) := by decide +kernel
theorem dX6_pairs_20 : decode cX6_pairs 20 = .ok (.aload_n 0, 1) := by decide +kernel
theorem dX6_pairs_21 : decode cX6_pairs 21 = .ok (.getfield 7, 3) := by decide +kernel
theorem dX6_pairs_24 : decode cX6_pairs 24 = .ok (.bipush 16, 2) := by decide +kernel
theorem dX6_pairs_26 : decode cX6_pairs 26 = .ok (.iaload, 1) := by decide +kernel
theorem dX6_pairs_27 : decode cX6_pairs 27 = .ok (.iload_n 3, 1) := by decide +kernel
theorem dX6_pairs_28 : decode cX6_pairs 28 = .ok (.aload_n 0, 1) := by decide +kernel
theorem dX6_pairs_29 : decode cX6_pairs 29 = .ok (.getfield 7, 3) := by decide +kernel
theorem dX6_pairs_32 : decode cX6_pairs 32 = .ok (.iconst 1, 1) := by decide +kernel
theorem dX6_pairs_33 : decode cX6_pairs 33 = .ok (.iaload, 1) := by decide +kernel
theorem dX6_pairs_34 : decode cX6_pairs 34 = .ok (.invokevirtual 120, 3) := by decide +kernel
theorem dX6_pairs_37 : decode cX6_pairs 37 = .ok (.ifCond .eq 25, 3) := by decide +kernel
theorem dX6_pairs_40 : decode cX6_pairs 40 = .ok (.goto 18, 3) := by decide +kernel
theorem dX6_pairs_43 : decode cX6_pairs 43 = .ok (.aload_n 0, 1) := by decide +kernel
theorem dX6_pairs_44 : decode cX6_pairs 44 = .ok (.aload_n 0, 1) := by decide +kernel
theorem dX6_pairs_45 : decode cX6_pairs 45 = .ok (.getfield 7, 3) := by decide +kernel
theorem dX6_pairs_48 : decode cX6_pairs 48 = .ok (.bipush 16, 2) := by decide +kernel
theorem dX6_pairs_50 : decode cX6_pairs 50 = .ok (.iaload, 1) := by decide +kernel
theorem dX6_pairs_51 : decode cX6_pairs 51 = .ok (.iload_n 3, 1) := by decide +kernel
theorem dX6_pairs_52 : decode cX6_pairs 52 = .ok (.invokevirtual 123, 3) := by decide +kernel
theorem dX6_pairs_55 : decode cX6_pairs 55 = .ok (.ifCond .eq 7, 3) := by decide +kernel
theorem dX6_pairs_58 : decode cX6_pairs 58 = .ok (.iconst 1, 1) := by decide +kernel
theorem dX6_pairs_59 : decode cX6_pairs 59 = .ok (.goto 4, 3) := by decide +kernel
theorem dX6_pairs_62 : decode cX6_pairs 62 = .ok (.iconst 0, 1) := by decide +kernel
theorem dX6_pairs_63 : decode cX6_pairs 63 = .ok (.iadd, 1) := by decide +kernel
theorem dX6_pairs_64 : decode cX6_pairs 64 = .ok (.istore_n 2, 1) := by decide +kernel
theorem dX6_pairs_65 : decode cX6_pairs 65 = .ok (.iinc 3 1, 3) := by decide +kernel
theorem dX6_pairs_68 : decode cX6_pairs 68 = .ok (.goto (-64), 3) := by decide +kernel
theorem dX6_pairs_71 : decode cX6_pairs 71 = .ok (.iload_n 2, 1) := by decide +kernel
theorem dX6_pairs_72 : decode cX6_pairs 72 = .ok (.ireturn, 1) := by decide +kernel
set_option maxRecDepth 20000 in
theorem ggX6_share_X6_pairs : GoodIn wsX6_share wsX6_pairs := goodIn_r _ [7, 1, 8, 9, 10, 6, 11, 12, 13, 14, 15, 16, 17, 18, 19, 20, 21, 22, 23, 24, 25, 26, 27, 28, 29, 30, 31, 32, 33, 50, 51, 52, 53, 54, 55, 56, 57, 58, 59, 60, 61, 62, 63, 64] (by decide +kernel) (by decide +kernel)
set_option maxRecDepth 20000 in
theorem gX6_share_X6_pairs : GoodIn wsX6_share (wsV RX6 150 RX6 yX6_pairs wsX6_pairs) := goodIn_app (goodIn_of _ (by decide +kernel)) ggX6_share_X6_pairs
set_option maxRecDepth 20000 in
theorem ggX6_share_X6_likeness : GoodIn wsX6_share wsX6_likeness := goodIn_r _ [37, 1, 12, 13, 14, 6, 15, 16, 17, 18, 19, 20, 21, 22, 27, 28, 29, 50, 51, 52, 53, 54, 55, 56, 57, 58, 59, 60, 61, 62, 63, 64] (by decide +kernel) (by decide +kernel)
set_option maxRecDepth 20000 in
theorem gX6_share_X6_likeness : GoodIn wsX6_share (wsV RX6 154 RX6 yX6_likeness wsX6_likeness) := goodIn_app (goodIn_of _ (by decide +kernel)) ggX6_share_X6_likeness
set_option maxRecDepth 20000 in
theorem ggX6_share_X6_tilt : GoodIn wsX6_share wsX6_tilt := goodIn_r _ [41, 1, 12, 13, 14, 6, 15, 16, 17, 18, 19, 20, 21, 22, 27, 28, 29, 50, 51, 52, 53, 54, 55, 56, 57, 58, 59, 60, 61, 62, 63, 64] (by decide +kernel) (by decide +kernel)
set_option maxRecDepth 20000 in
theorem gX6_share_X6_tilt : GoodIn wsX6_share (wsV RX6 157 RX6 yX6_tilt wsX6_tilt) := goodIn_app (goodIn_of _ (by decide +kernel)) ggX6_share_X6_tilt
set_option maxRecDepth 20000 in
theorem ggX6_share_X6_isLawfulNow : GoodIn wsX6_share wsX6_isLawfulNow := goodIn_r _ [45, 1, 46, 47, 48, 6, 49, 8, 9, 10, 11, 12, 13, 14, 15, 16, 17, 18, 19, 20, 21, 22, 23, 24, 25, 26, 27, 28, 29, 30, 31, 32, 33, 50, 51, 52, 53, 54, 55, 56, 57, 58, 59, 60, 61, 62, 63, 64] (by decide +kernel) (by decide +kernel)
set_option maxRecDepth 20000 in
theorem gX6_share_X6_isLawfulNow : GoodIn wsX6_share (wsV RX6 144 RX6 yX6_isLawfulNow wsX6_isLawfulNow) := goodIn_app (goodIn_of _ (by decide +kernel)) ggX6_share_X6_isLawfulNow
theorem dX6_share_0 : decode cX6_share 0 = .ok (.iload_n 1, 1) := by decide +kernel
theorem dX6_share_1 : decode cX6_share 1 = .ok (.tableswitch 91 0 4 #[35, 41, 47, 59, 71], 35) := by decide +kernel
theorem dX6_share_36 : decode cX6_share 36 = .ok (.aload_n 0, 1) := by decide +kernel
theorem dX6_share_37 : decode cX6_share 37 = .ok (.iconst 1, 1) := by decide +kernel
theorem dX6_share_38 : decode cX6_share 38 = .ok (.invokevirtual 150, 3) := by decide +kernel
theorem dX6_share_41 : decode cX6_share 41 = .ok (.ireturn, 1) := by decide +kernel
theorem dX6_share_42 : decode cX6_share 42 = .ok (.aload_n 0, 1) := by decide +kernel
theorem dX6_share_43 : decode cX6_share 43 = .ok (.iconst 0, 1) := by decide +kernel
theorem dX6_share_44 : decode cX6_share 44 = .ok (.invokevirtual 150, 3) := by decide +kernel
theorem dX6_share_47 : decode cX6_share 47 = .ok (.ireturn, 1) := by decide +kernel
theorem dX6_share_48 : decode cX6_share 48 = .ok (.aload_n 0, 1) := by decide +kernel
theorem dX6_share_49 : decode cX6_share 49 = .ok (.aload_n 0, 1) := by decide +kernel
theorem dX6_share_50 : decode cX6_share 50 = .ok (.getfield 7, 3) := by decide +kernel
theorem dX6_share_53 : decode cX6_share 53 = .ok (.bipush 16, 2) := by decide +kernel
theorem dX6_share_55 : decode cX6_share 55 = .ok (.iaload, 1) := by decide +kernel
theorem dX6_share_56 : decode cX6_share 56 = .ok (.invokevirtual 154, 3) := by decide +kernel
theorem dX6_share_59 : decode cX6_share 59 = .ok (.ireturn, 1) := by decide +kernel
theorem dX6_share_60 : decode cX6_share 60 = .ok (.aload_n 0, 1) := by decide +kernel
theorem dX6_share_61 : decode cX6_share 61 = .ok (.aload_n 0, 1) := by decide +kernel
theorem dX6_share_62 : decode cX6_share 62 = .ok (.getfield 7, 3) := by decide +kernel
theorem dX6_share_65 : decode cX6_share 65 = .ok (.bipush 16, 2) := by decide +kernel
theorem dX6_share_67 : decode cX6_share 67 = .ok (.iaload, 1) := by decide +kernel
theorem dX6_share_68 : decode cX6_share 68 = .ok (.invokevirtual 157, 3) := by decide +kernel
theorem dX6_share_71 : decode cX6_share 71 = .ok (.ireturn, 1) := by decide +kernel
theorem dX6_share_72 : decode cX6_share 72 = .ok (.aload_n 0, 1) := by decide +kernel
theorem dX6_share_73 : decode cX6_share 73 = .ok (.aload_n 0, 1) := by decide +kernel
theorem dX6_share_74 : decode cX6_share 74 = .ok (.getfield 7, 3) := by decide +kernel
theorem dX6_share_77 : decode cX6_share 77 = .ok (.bipush 16, 2) := by decide +kernel
theorem dX6_share_79 : decode cX6_share 79 = .ok (.iaload, 1) := by decide +kernel
theorem dX6_share_80 : decode cX6_share 80 = .ok (.invokevirtual 144, 3) := by decide +kernel
theorem dX6_share_83 : decode cX6_share 83 = .ok (.ifCond .eq 7, 3) := by decide +kernel
theorem dX6_share_86 : decode cX6_share 86 = .ok (.iconst 1, 1) := by decide +kernel
theorem dX6_share_87 : decode cX6_share 87 = .ok (.goto 4, 3) := by decide +kernel
theorem dX6_share_90 : decode cX6_share 90 = .ok (.iconst 0, 1) := by decide +kernel
theorem dX6_share_91 : decode cX6_share 91 = .ok (.ireturn, 1) := by decide +kernel
theorem dX6_share_92 : decode cX6_share 92 = .ok (.ldc 160, 2) := by decide +kernel
theorem dX6_share_94 : decode cX6_share 94 = .ok (.ireturn, 1) := by decide +kernel
theorem dX6_off_0 : decode cX6_off 0 = .ok (.iload_n 0, 1) := by decide +kernel
theorem dX6_off_1 : decode cX6_off 1 = .ok (.ifCond .ge 8, 3) := by decide +kernel
theorem dX6_off_4 : decode cX6_off 4 = .ok (.iload_n 0, 1) := by decide +kernel
theorem dX6_off_5 : decode cX6_off 5 = .ok (.ineg, 1) := by decide +kernel
theorem dX6_off_6 : decode cX6_off 6 = .ok (.goto 4, 3) := by decide +kernel
theorem dX6_off_9 : decode cX6_off 9 = .ok (.iload_n 0, 1) := by decide +kernel
theorem dX6_off_10 : decode cX6_off 10 = .ok (.ireturn, 1) := by decide +kernel
set_option maxRecDepth 20000 in
theorem ggX6_isBetter_X6_likeness : GoodIn wsX6_isBetter wsX6_likeness := goodIn_r _ [5, 6, 7, 8, 9, 4, 10, 11, 12, 13, 14, 15, 16, 17, 18, 19, 20, 28, 29, 30, 31, 32, 33, 34, 35, 36, 37, 38, 39, 40, 41, 42] (by decide +kernel) (by decide +kernel)
set_option maxRecDepth 20000 in
theorem gX6_isBetter_X6_likeness : GoodIn wsX6_isBetter (wsV RX6 154 RX6 yX6_likeness wsX6_likeness) := goodIn_app (goodIn_of _ (by decide +kernel)) ggX6_isBetter_X6_likeness
set_option maxRecDepth 20000 in
theorem ggX6_isBetter_X6_tilt : GoodIn wsX6_isBetter wsX6_tilt := goodIn_r _ [24, 6, 7, 8, 9, 4, 10, 11, 12, 13, 14, 15, 16, 17, 18, 19, 20, 28, 29, 30, 31, 32, 33, 34, 35, 36, 37, 38, 39, 40, 41, 42] (by decide +kernel) (by decide +kernel)
set_option maxRecDepth 20000 in
theorem gX6_isBetter_X6_tilt : GoodIn wsX6_isBetter (wsV RX6 157 RX6 yX6_tilt wsX6_tilt) := goodIn_app (goodIn_of _ (by decide +kernel)) ggX6_isBetter_X6_tilt
set_option maxRecDepth 20000 in
theorem ggX6_isBetter_X6_off : GoodIn wsX6_isBetter wsX6_off := goodIn_r _ [27] (by decide +kernel) (by decide +kernel)
set_option maxRecDepth 20000 in
theorem gX6_isBetter_X6_off : GoodIn wsX6_isBetter (va_wsS RX6 161 yX6_off wsX6_off) := goodIn_app (goodIn_of _ (by decide +kernel)) ggX6_isBetter_X6_off
theorem dX6_isBetter_0 : decode cX6_isBetter 0 = .ok (.aload_n 0, 1) := by decide +kernel
theorem dX6_isBetter_1 : decode cX6_isBetter 1 = .ok (.iload_n 1, 1) := by decide +kernel
theorem dX6_isBetter_2 : decode cX6_isBetter 2 = .ok (.invokevirtual 154, 3) := by decide +kernel
theorem dX6_isBetter_5 : decode cX6_isBetter 5 = .ok (.aload_n 0, 1) := by decide +kernel
theorem dX6_isBetter_6 : decode cX6_isBetter 6 = .ok (.iload_n 2, 1) := by decide +kernel
theorem dX6_isBetter_7 : decode cX6_isBetter 7 = .ok (.invokevirtual 154, 3) := by decide +kernel
theorem dX6_isBetter_10 : decode cX6_isBetter 10 = .ok (.isub, 1) := by decide +kernel
theorem dX6_isBetter_11 : decode cX6_isBetter 11 = .ok (.istore_n 3, 1) := by decide +kernel
theorem dX6_isBetter_12 : decode cX6_isBetter 12 = .ok (.iload_n 3, 1) := by decide +kernel
theorem dX6_isBetter_13 : decode cX6_isBetter 13 = .ok (.ifCond .gt 26, 3) := by decide +kernel
theorem dX6_isBetter_16 : decode cX6_isBetter 16 = .ok (.iload_n 3, 1) := by decide +kernel
theorem dX6_isBetter_17 : decode cX6_isBetter 17 = .ok (.ifCond .ne 26, 3) := by decide +kernel
theorem dX6_isBetter_20 : decode cX6_isBetter 20 = .ok (.aload_n 0, 1) := by decide +kernel
theorem dX6_isBetter_21 : decode cX6_isBetter 21 = .ok (.iload_n 1, 1) := by decide +kernel
theorem dX6_isBetter_22 : decode cX6_isBetter 22 = .ok (.invokevirtual 157, 3) := by decide +kernel
theorem dX6_isBetter_25 : decode cX6_isBetter 25 = .ok (.invokestatic 161, 3) := by decide +kernel
theorem dX6_isBetter_28 : decode cX6_isBetter 28 = .ok (.aload_n 0, 1) := by decide +kernel
theorem dX6_isBetter_29 : decode cX6_isBetter 29 = .ok (.iload_n 2, 1) := by decide +kernel
theorem dX6_isBetter_30 : decode cX6_isBetter 30 = .ok (.invokevirtual 157, 3) := by decide +kernel
theorem dX6_isBetter_33 : decode cX6_isBetter 33 = .ok (.invokestatic 161, 3) := by decide +kernel
theorem dX6_isBetter_36 : decode cX6_isBetter 36 = .ok (.if_icmp .ge 7, 3) := by decide +kernel
theorem dX6_isBetter_39 : decode cX6_isBetter 39 = .ok (.iconst 1, 1) := by decide +kernel
theorem dX6_isBetter_40 : decode cX6_isBetter 40 = .ok (.goto 4, 3) := by decide +kernel
theorem dX6_isBetter_43 : decode cX6_isBetter 43 = .ok (.iconst 0, 1) := by decide +kernel
theorem dX6_isBetter_44 : decode cX6_isBetter 44 = .ok (.ireturn, 1) := by decide +kernel
set_option maxRecDepth 20000 in
theorem ggX6_best_X6_within : GoodIn wsX6_best wsX6_within := goodIn_r _ [6] (by decide +kernel) (by decide +kernel)
set_option maxRecDepth 20000 in
theorem gX6_best_X6_within : GoodIn wsX6_best (va_wsS RX6 52 yX6_within wsX6_within) := goodIn_app (goodIn_of _ (by decide +kernel)) ggX6_best_X6_within
set_option maxRecDepth 20000 in
theorem ggX6_best_X6_notes : GoodIn wsX6_best wsX6_notes := goodIn_r _ [10, 11, 12, 13, 14, 5, 15, 16, 17, 18, 19, 3, 4, 6, 62, 63, 64, 65, 66, 67, 68, 69, 70, 71, 72, 73, 74, 75, 76] (by decide +kernel) (by decide +kernel)
set_option maxRecDepth 20000 in
theorem gX6_best_X6_notes : GoodIn wsX6_best (wsV RX6 135 RX6 yX6_notes wsX6_notes) := goodIn_app (goodIn_of _ (by decide +kernel)) ggX6_best_X6_notes
set_option maxRecDepth 20000 in
theorem ggX6_best_X6_shareOf : GoodIn wsX6_best wsX6_shareOf := goodIn_r _ [23, 11, 12, 13, 14, 5, 15, 16, 17, 18, 19, 3, 4, 6, 62, 63, 64, 65, 66, 67, 68, 69, 70, 71, 72, 73, 74, 75, 76] (by decide +kernel) (by decide +kernel)
set_option maxRecDepth 20000 in
theorem gX6_best_X6_shareOf : GoodIn wsX6_best (wsV RX6 138 RX6 yX6_shareOf wsX6_shareOf) := goodIn_app (goodIn_of _ (by decide +kernel)) ggX6_best_X6_shareOf
set_option maxRecDepth 20000 in
theorem ggX6_best_X6_isLawfulNow : GoodIn wsX6_best wsX6_isLawfulNow := goodIn_r _ [27, 11, 28, 29, 30, 5, 31, 32, 33, 34, 35, 12, 13, 14, 15, 16, 17, 18, 19, 3, 4, 6, 36, 37, 38, 39, 40, 41, 42, 43, 44, 45, 46, 62, 63, 64, 65, 66, 67, 68, 69, 70, 71, 72, 73, 74, 75, 76] (by decide +kernel) (by decide +kernel)
set_option maxRecDepth 20000 in
theorem gX6_best_X6_isLawfulNow : GoodIn wsX6_best (wsV RX6 144 RX6 yX6_isLawfulNow wsX6_isLawfulNow) := goodIn_app (goodIn_of _ (by decide +kernel)) ggX6_best_X6_isLawfulNow
set_option maxRecDepth 20000 in
theorem ggX6_best_X6_isBetter : GoodIn wsX6_best wsX6_isBetter := goodIn_r _ [50, 51, 52, 53, 5, 54, 11, 12, 13, 14, 15, 16, 17, 18, 19, 3, 4, 6, 40, 41, 42, 55, 56, 57, 58, 59, 60, 61, 62, 63, 64, 65, 66, 67, 68, 69, 70, 71, 72, 73, 74, 75, 76] (by decide +kernel) (by decide +kernel)
set_option maxRecDepth 20000 in
theorem gX6_best_X6_isBetter : GoodIn wsX6_best (wsV RX6 164 RX6 yX6_isBetter wsX6_isBetter) := goodIn_app (goodIn_of _ (by decide +kernel)) ggX6_best_X6_isBetter
set_option maxRecDepth 20000 in
theorem ggX6_best_X6_likeness : GoodIn wsX6_best wsX6_likeness := goodIn_r _ [54, 11, 12, 13, 14, 5, 15, 16, 17, 18, 19, 3, 4, 6, 40, 41, 42, 62, 63, 64, 65, 66, 67, 68, 69, 70, 71, 72, 73, 74, 75, 76] (by decide +kernel) (by decide +kernel)
set_option maxRecDepth 20000 in
theorem gX6_best_X6_likeness : GoodIn wsX6_best (wsV RX6 154 RX6 yX6_likeness wsX6_likeness) := goodIn_app (goodIn_of _ (by decide +kernel)) ggX6_best_X6_likeness
set_option maxRecDepth 20000 in
theorem ggX6_best_X6_tilt : GoodIn wsX6_best wsX6_tilt := goodIn_r _ [58, 11, 12, 13, 14, 5, 15, 16, 17, 18, 19, 3, 4, 6, 40, 41, 42, 62, 63, 64, 65, 66, 67, 68, 69, 70, 71, 72, 73, 74, 75, 76] (by decide +kernel) (by decide +kernel)
set_option maxRecDepth 20000 in
theorem gX6_best_X6_tilt : GoodIn wsX6_best (wsV RX6 157 RX6 yX6_tilt wsX6_tilt) := goodIn_app (goodIn_of _ (by decide +kernel)) ggX6_best_X6_tilt
theorem dX6_best_0 : decode cX6_best 0 = .ok (.iload_n 1, 1) := by decide +kernel
theorem dX6_best_1 : decode cX6_best 1 = .ok (.iconst 0, 1) := by decide +kernel
theorem dX6_best_2 : decode cX6_best 2 = .ok (.iconst 2, 1) := by decide +kernel
theorem dX6_best_3 : decode cX6_best 3 = .ok (.invokestatic 52, 3) := by decide +kernel
theorem dX6_best_6 : decode cX6_best 6 = .ok (.ifCond .ne 6, 3) := by decide +kernel
theorem dX6_best_9 : decode cX6_best 9 = .ok (.ldc 160, 2) := by decide +kernel
theorem dX6_best_11 : decode cX6_best 11 = .ok (.ireturn, 1) := by decide +kernel
theorem dX6_best_12 : decode cX6_best 12 = .ok (.bipush (-9), 2) := by decide +kernel
theorem dX6_best_14 : decode cX6_best 14 = .ok (.istore_n 2, 1) := by decide +kernel
theorem dX6_best_15 : decode cX6_best 15 = .ok (.iconst 0, 1) := by decide +kernel
theorem dX6_best_16 : decode cX6_best 16 = .ok (.istore_n 3, 1) := by decide +kernel
theorem dX6_best_17 : decode cX6_best 17 = .ok (.iload_n 3, 1) := by decide +kernel
theorem dX6_best_18 : decode cX6_best 18 = .ok (.iconst 1, 1) := by decide +kernel
theorem dX6_best_19 : decode cX6_best 19 = .ok (.aload_n 0, 1) := by decide +kernel
theorem dX6_best_20 : decode cX6_best 20 = .ok (.invokevirtual 135, 3) := by decide +kernel
theorem dX6_best_23 : decode cX6_best 23 = .ok (.ishl, 1) := by decide +kernel
theorem dX6_best_24 : decode cX6_best 24 = .ok (.if_icmp .ge 48, 3) := by decide +kernel
theorem dX6_best_27 : decode cX6_best 27 = .ok (.aload_n 0, 1) := by decide +kernel
theorem dX6_best_28 : decode cX6_best 28 = .ok (.iload_n 3, 1) := by decide +kernel
theorem dX6_best_29 : decode cX6_best 29 = .ok (.invokevirtual 138, 3) := by decide +kernel
theorem dX6_best_32 : decode cX6_best 32 = .ok (.istore 4, 2) := by decide +kernel
theorem dX6_best_34 : decode cX6_best 34 = .ok (.aload_n 0, 1) := by decide +kernel
theorem dX6_best_35 : decode cX6_best 35 = .ok (.iload 4, 2) := by decide +kernel
theorem dX6_best_37 : decode cX6_best 37 = .ok (.invokevirtual 144, 3) := by decide +kernel
theorem dX6_best_40 : decode cX6_best 40 = .ok (.ifCond .eq 24, 3) := by decide +kernel
theorem dX6_best_43 : decode cX6_best 43 = .ok (.iload_n 2, 1) := by decide +kernel
theorem dX6_best_44 : decode cX6_best 44 = .ok (.bipush (-9), 2) := by decide +kernel
theorem dX6_best_46 : decode cX6_best 46 = .ok (.if_icmp .eq 13, 3) := by decide +kernel
theorem dX6_best_49 : decode cX6_best 49 = .ok (.aload_n 0, 1) := by decide +kernel
theorem dX6_best_50 : decode cX6_best 50 = .ok (.iload 4, 2) := by decide +kernel
theorem dX6_best_52 : decode cX6_best 52 = .ok (.iload_n 2, 1) := by decide +kernel
theorem dX6_best_53 : decode cX6_best 53 = .ok (.invokevirtual 164, 3) := by decide +kernel
theorem dX6_best_56 : decode cX6_best 56 = .ok (.ifCond .eq 8, 3) := by decide +kernel
theorem dX6_best_59 : decode cX6_best 59 = .ok (.iload 4, 2) := by decide +kernel
theorem dX6_best_61 : decode cX6_best 61 = .ok (.goto 4, 3) := by decide +kernel
theorem dX6_best_64 : decode cX6_best 64 = .ok (.iload_n 2, 1) := by decide +kernel
theorem dX6_best_65 : decode cX6_best 65 = .ok (.istore_n 2, 1) := by decide +kernel
theorem dX6_best_66 : decode cX6_best 66 = .ok (.iinc 3 1, 3) := by decide +kernel
theorem dX6_best_69 : decode cX6_best 69 = .ok (.goto (-52), 3) := by decide +kernel
theorem dX6_best_72 : decode cX6_best 72 = .ok (.iload_n 2, 1) := by decide +kernel
theorem dX6_best_73 : decode cX6_best 73 = .ok (.bipush (-9), 2) := by decide +kernel
theorem dX6_best_75 : decode cX6_best 75 = .ok (.if_icmp .ne 6, 3) := by decide +kernel
theorem dX6_best_78 : decode cX6_best 78 = .ok (.ldc 167, 2) := by decide +kernel
theorem dX6_best_80 : decode cX6_best 80 = .ok (.ireturn, 1) := by decide +kernel
theorem dX6_best_81 : decode cX6_best 81 = .ok (.iload_n 1, 1) := by decide +kernel
theorem dX6_best_82 : decode cX6_best 82 = .ok (.ifCond .ne 11, 3) := by decide +kernel
theorem dX6_best_85 : decode cX6_best 85 = .ok (.aload_n 0, 1) := by decide +kernel
theorem dX6_best_86 : decode cX6_best 86 = .ok (.iload_n 2, 1) := by decide +kernel
theorem dX6_best_87 : decode cX6_best 87 = .ok (.invokevirtual 154, 3) := by decide +kernel
theorem dX6_best_90 : decode cX6_best 90 = .ok (.goto 17, 3) := by decide +kernel
theorem dX6_best_93 : decode cX6_best 93 = .ok (.iload_n 1, 1) := by decide +kernel
theorem dX6_best_94 : decode cX6_best 94 = .ok (.iconst 1, 1) := by decide +kernel
theorem dX6_best_95 : decode cX6_best 95 = .ok (.if_icmp .ne 11, 3) := by decide +kernel
theorem dX6_best_98 : decode cX6_best 98 = .ok (.aload_n 0, 1) := by decide +kernel
theorem dX6_best_99 : decode cX6_best 99 = .ok (.iload_n 2, 1) := by decide +kernel
theorem dX6_best_100 : decode cX6_best 100 = .ok (.invokevirtual 157, 3) := by decide +kernel
theorem dX6_best_103 : decode cX6_best 103 = .ok (.goto 4, 3) := by decide +kernel
theorem dX6_best_106 : decode cX6_best 106 = .ok (.iload_n 2, 1) := by decide +kernel
theorem dX6_best_107 : decode cX6_best 107 = .ok (.ireturn, 1) := by decide +kernel
set_option maxRecDepth 20000 in
theorem ggX6_slowest_X6_notes : GoodIn wsX6_slowest wsX6_notes := goodIn_r _ [5, 6, 7, 8, 9, 4, 10, 11, 12, 13, 14, 15, 16, 17, 41, 42, 43, 44, 45, 46, 47, 48, 49, 50, 51, 52, 53, 54, 55] (by decide +kernel) (by decide +kernel)
set_option maxRecDepth 20000 in
theorem gX6_slowest_X6_notes : GoodIn wsX6_slowest (wsV RX6 135 RX6 yX6_notes wsX6_notes) := goodIn_app (goodIn_of _ (by decide +kernel)) ggX6_slowest_X6_notes
set_option maxRecDepth 20000 in
theorem ggX6_slowest_X6_shareOf : GoodIn wsX6_slowest wsX6_shareOf := goodIn_r _ [21, 6, 7, 8, 9, 4, 10, 11, 12, 13, 14, 15, 16, 17, 41, 42, 43, 44, 45, 46, 47, 48, 49, 50, 51, 52, 53, 54, 55] (by decide +kernel) (by decide +kernel)
set_option maxRecDepth 20000 in
theorem gX6_slowest_X6_shareOf : GoodIn wsX6_slowest (wsV RX6 138 RX6 yX6_shareOf wsX6_shareOf) := goodIn_app (goodIn_of _ (by decide +kernel)) ggX6_slowest_X6_shareOf
set_option maxRecDepth 20000 in
theorem ggX6_slowest_X6_isLawful : GoodIn wsX6_slowest wsX6_isLawful := goodIn_r _ [25, 6, 26, 27, 28, 4, 29, 7, 8, 9, 10, 11, 12, 13, 14, 15, 16, 17, 30, 31, 32, 33, 34, 35, 36, 37, 38, 39, 40, 41, 42, 43, 44, 45, 46, 47, 48, 49, 50, 51, 52, 53, 54, 55] (by decide +kernel) (by decide +kernel)
set_option maxRecDepth 20000 in
theorem gX6_slowest_X6_isLawful : GoodIn wsX6_slowest (wsV RX6 126 RX6 yX6_isLawful wsX6_isLawful) := goodIn_app (goodIn_of _ (by decide +kernel)) ggX6_slowest_X6_isLawful
theorem dX6_slowest_0 : decode cX6_slowest 0 = .ok (.iconst 5, 1) := by decide +kernel
theorem dX6_slowest_1 : decode cX6_slowest 1 = .ok (.istore_n 1, 1) := by decide +kernel
theorem dX6_slowest_2 : decode cX6_slowest 2 = .ok (.iload_n 1, 1) := by decide +kernel
theorem dX6_slowest_3 : decode cX6_slowest 3 = .ok (.ifCond .le 42, 3) := by decide +kernel
theorem dX6_slowest_6 : decode cX6_slowest 6 = .ok (.iconst 0, 1) := by decide +kernel
theorem dX6_slowest_7 : decode cX6_slowest 7 = .ok (.istore_n 2, 1) := by decide +kernel
theorem dX6_slowest_8 : decode cX6_slowest 8 = .ok (.iload_n 2, 1) := by decide +kernel
theorem dX6_slowest_9 : decode cX6_slowest 9 = .ok (.iconst 1, 1) := by decide +kernel
theorem dX6_slowest_10 : decode cX6_slowest 10 = .ok (.aload_n 0, 1) := by decide +kernel
theorem dX6_slowest_11 : decode cX6_slowest 11 = .ok (.invokevirtual 135, 3) := by decide +kernel
theorem dX6_slowest_14 : decode cX6_slowest 14 = .ok (.ishl, 1) := by decide +kernel
theorem dX6_slowest_15 : decode cX6_slowest 15 = .ok (.if_icmp .ge 24, 3) := by decide +kernel
theorem dX6_slowest_18 : decode cX6_slowest 18 = .ok (.aload_n 0, 1) := by decide +kernel
theorem dX6_slowest_19 : decode cX6_slowest 19 = .ok (.aload_n 0, 1) := by decide +kernel
theorem dX6_slowest_20 : decode cX6_slowest 20 = .ok (.iload_n 2, 1) := by decide +kernel
theorem dX6_slowest_21 : decode cX6_slowest 21 = .ok (.invokevirtual 138, 3) := by decide +kernel
theorem dX6_slowest_24 : decode cX6_slowest 24 = .ok (.iload_n 1, 1) := by decide +kernel
theorem dX6_slowest_25 : decode cX6_slowest 25 = .ok (.invokevirtual 126, 3) := by decide +kernel
theorem dX6_slowest_28 : decode cX6_slowest 28 = .ok (.ifCond .eq 5, 3) := by decide +kernel
theorem dX6_slowest_31 : decode cX6_slowest 31 = .ok (.iload_n 1, 1) := by decide +kernel
theorem dX6_slowest_32 : decode cX6_slowest 32 = .ok (.ireturn, 1) := by decide +kernel
theorem dX6_slowest_33 : decode cX6_slowest 33 = .ok (.iinc 2 1, 3) := by decide +kernel
theorem dX6_slowest_36 : decode cX6_slowest 36 = .ok (.goto (-28), 3) := by decide +kernel
theorem dX6_slowest_39 : decode cX6_slowest 39 = .ok (.iinc 1 (-1), 3) := by decide +kernel
theorem dX6_slowest_42 : decode cX6_slowest 42 = .ok (.goto (-40), 3) := by decide +kernel
theorem dX6_slowest_45 : decode cX6_slowest 45 = .ok (.bipush (-9), 2) := by decide +kernel
theorem dX6_slowest_47 : decode cX6_slowest 47 = .ok (.ireturn, 1) := by decide +kernel
set_option maxRecDepth 20000 in
theorem ggX6_change_X6_nearest : GoodIn wsX6_change wsX6_nearest := goodIn_r _ [6, 1, 7, 8, 9, 5, 10, 11, 12, 13, 14, 15, 16, 17, 18, 19, 20, 21, 22, 23, 24, 25, 26, 27, 28, 29, 30, 31, 32, 33, 34, 35, 36, 37, 38, 39, 40, 41, 42, 43, 44, 45, 46, 47, 48, 49, 50, 51, 52, 53, 54, 55, 56, 57, 58, 59, 60, 61, 62, 63, 64, 65, 66] (by decide +kernel) (by decide +kernel)
set_option maxRecDepth 20000 in
theorem gX6_change_X6_nearest : GoodIn wsX6_change (wsV RX6 147 RX6 yX6_nearest wsX6_nearest) := goodIn_app (goodIn_of _ (by decide +kernel)) ggX6_change_X6_nearest
set_option maxRecDepth 20000 in
theorem ggX6_change_X6_ones : GoodIn wsX6_change wsX6_ones := goodIn_r _ [28] (by decide +kernel) (by decide +kernel)
set_option maxRecDepth 20000 in
theorem gX6_change_X6_ones : GoodIn wsX6_change (va_wsS RX6 141 yX6_ones wsX6_ones) := goodIn_app (goodIn_of _ (by decide +kernel)) ggX6_change_X6_ones
theorem dX6_change_0 : decode cX6_change 0 = .ok (.aload_n 0, 1) := by decide +kernel
theorem dX6_change_1 : decode cX6_change 1 = .ok (.invokevirtual 147, 3) := by decide +kernel
theorem dX6_change_4 : decode cX6_change 4 = .ok (.istore_n 1, 1) := by decide +kernel
theorem dX6_change_5 : decode cX6_change 5 = .ok (.iload_n 1, 1) := by decide +kernel
theorem dX6_change_6 : decode cX6_change 6 = .ok (.bipush (-9), 2) := by decide +kernel
theorem dX6_change_8 : decode cX6_change 8 = .ok (.if_icmp .ne 8, 3) := by decide +kernel
theorem dX6_change_11 : decode cX6_change 11 = .ok (.bipush (-9), 2) := by decide +kernel
theorem dX6_change_13 : decode cX6_change 13 = .ok (.goto 15, 3) := by decide +kernel
theorem dX6_change_16 : decode cX6_change 16 = .ok (.iload_n 1, 1) := by decide +kernel
theorem dX6_change_17 : decode cX6_change 17 = .ok (.aload_n 0, 1) := by decide +kernel
theorem dX6_change_18 : decode cX6_change 18 = .ok (.getfield 7, 3) := by decide +kernel
theorem dX6_change_21 : decode cX6_change 21 = .ok (.bipush 16, 2) := by decide +kernel
theorem dX6_change_23 : decode cX6_change 23 = .ok (.iaload, 1) := by decide +kernel
theorem dX6_change_24 : decode cX6_change 24 = .ok (.ixor, 1) := by decide +kernel
theorem dX6_change_25 : decode cX6_change 25 = .ok (.invokestatic 141, 3) := by decide +kernel
theorem dX6_change_28 : decode cX6_change 28 = .ok (.ireturn, 1) := by decide +kernel
set_option maxRecDepth 20000 in
theorem ggX6_busyAt_X6_isNote : GoodIn wsX6_busyAt wsX6_isNote := goodIn_r _ [6, 1, 7, 8, 9, 5, 10, 11, 12, 13, 14, 15, 16, 17, 18, 19, 20, 21, 22, 23, 24, 25, 26, 27, 28] (by decide +kernel) (by decide +kernel)
set_option maxRecDepth 20000 in
theorem gX6_busyAt_X6_isNote : GoodIn wsX6_busyAt (wsV RX6 110 RX6 yX6_isNote wsX6_isNote) := goodIn_app (goodIn_of _ (by decide +kernel)) ggX6_busyAt_X6_isNote
theorem dX6_busyAt_0 : decode cX6_busyAt 0 = .ok (.iconst 0, 1) := by decide +kernel
theorem dX6_busyAt_1 : decode cX6_busyAt 1 = .ok (.istore_n 3, 1) := by decide +kernel
theorem dX6_busyAt_2 : decode cX6_busyAt 2 = .ok (.iload_n 2, 1) := by decide +kernel
theorem dX6_busyAt_3 : decode cX6_busyAt 3 = .ok (.istore 4, 2) := by decide +kernel
theorem dX6_busyAt_5 : decode cX6_busyAt 5 = .ok (.iload 4, 2) := by decide +kernel
theorem dX6_busyAt_7 : decode cX6_busyAt 7 = .ok (.iload_n 2, 1) := by decide +kernel
theorem dX6_busyAt_8 : decode cX6_busyAt 8 = .ok (.aload_n 0, 1) := by decide +kernel
theorem dX6_busyAt_9 : decode cX6_busyAt 9 = .ok (.getfield 7, 3) := by decide +kernel
theorem dX6_busyAt_12 : decode cX6_busyAt 12 = .ok (.iconst 3, 1) := by decide +kernel
theorem dX6_busyAt_13 : decode cX6_busyAt 13 = .ok (.iaload, 1) := by decide +kernel
theorem dX6_busyAt_14 : decode cX6_busyAt 14 = .ok (.iadd, 1) := by decide +kernel
theorem dX6_busyAt_15 : decode cX6_busyAt 15 = .ok (.if_icmp .ge 42, 3) := by decide +kernel
theorem dX6_busyAt_18 : decode cX6_busyAt 18 = .ok (.iload_n 3, 1) := by decide +kernel
theorem dX6_busyAt_19 : decode cX6_busyAt 19 = .ok (.aload_n 0, 1) := by decide +kernel
theorem dX6_busyAt_20 : decode cX6_busyAt 20 = .ok (.iload 4, 2) := by decide +kernel
theorem dX6_busyAt_22 : decode cX6_busyAt 22 = .ok (.invokevirtual 110, 3) := by decide +kernel
theorem dX6_busyAt_25 : decode cX6_busyAt 25 = .ok (.ifCond .eq 23, 3) := by decide +kernel
theorem dX6_busyAt_28 : decode cX6_busyAt 28 = .ok (.aload_n 0, 1) := by decide +kernel
theorem dX6_busyAt_29 : decode cX6_busyAt 29 = .ok (.getfield 7, 3) := by decide +kernel
theorem dX6_busyAt_32 : decode cX6_busyAt 32 = .ok (.bipush 16, 2) := by decide +kernel
theorem dX6_busyAt_34 : decode cX6_busyAt 34 = .ok (.iaload, 1) := by decide +kernel
theorem dX6_busyAt_35 : decode cX6_busyAt 35 = .ok (.iload 4, 2) := by decide +kernel
theorem dX6_busyAt_37 : decode cX6_busyAt 37 = .ok (.ishr, 1) := by decide +kernel
theorem dX6_busyAt_38 : decode cX6_busyAt 38 = .ok (.iconst 1, 1) := by decide +kernel
theorem dX6_busyAt_39 : decode cX6_busyAt 39 = .ok (.iand, 1) := by decide +kernel
theorem dX6_busyAt_40 : decode cX6_busyAt 40 = .ok (.iload_n 1, 1) := by decide +kernel
theorem dX6_busyAt_41 : decode cX6_busyAt 41 = .ok (.if_icmp .ne 7, 3) := by decide +kernel
theorem dX6_busyAt_44 : decode cX6_busyAt 44 = .ok (.iconst 1, 1) := by decide +kernel
theorem dX6_busyAt_45 : decode cX6_busyAt 45 = .ok (.goto 4, 3) := by decide +kernel
theorem dX6_busyAt_48 : decode cX6_busyAt 48 = .ok (.iconst 0, 1) := by decide +kernel
theorem dX6_busyAt_49 : decode cX6_busyAt 49 = .ok (.iadd, 1) := by decide +kernel
theorem dX6_busyAt_50 : decode cX6_busyAt 50 = .ok (.istore_n 3, 1) := by decide +kernel
theorem dX6_busyAt_51 : decode cX6_busyAt 51 = .ok (.iinc 4 1, 3) := by decide +kernel
theorem dX6_busyAt_54 : decode cX6_busyAt 54 = .ok (.goto (-49), 3) := by decide +kernel
theorem dX6_busyAt_57 : decode cX6_busyAt 57 = .ok (.iload_n 3, 1) := by decide +kernel
theorem dX6_busyAt_58 : decode cX6_busyAt 58 = .ok (.ireturn, 1) := by decide +kernel
set_option maxRecDepth 20000 in
theorem ggX6_busiest_X6_isHand : GoodIn wsX6_busiest wsX6_isHand := goodIn_r _ [5] (by decide +kernel) (by decide +kernel)
set_option maxRecDepth 20000 in
theorem gX6_busiest_X6_isHand : GoodIn wsX6_busiest (va_wsS RX6 129 yX6_isHand wsX6_isHand) := goodIn_app (goodIn_of _ (by decide +kernel)) ggX6_busiest_X6_isHand
set_option maxRecDepth 20000 in
theorem ggX6_busiest_X6_within : GoodIn wsX6_busiest wsX6_within := goodIn_r _ [8] (by decide +kernel) (by decide +kernel)
set_option maxRecDepth 20000 in
theorem gX6_busiest_X6_within : GoodIn wsX6_busiest (va_wsS RX6 52 yX6_within wsX6_within) := goodIn_app (goodIn_of _ (by decide +kernel)) ggX6_busiest_X6_within
set_option maxRecDepth 20000 in
theorem ggX6_busiest_X6_busyAt : GoodIn wsX6_busiest wsX6_busyAt := goodIn_r _ [12, 1, 13, 14, 15, 4, 16, 17, 18, 19, 20, 6, 7, 8, 21, 22, 23, 24, 25, 26, 27, 28, 29, 30, 31, 32, 33, 34, 35] (by decide +kernel) (by decide +kernel)
set_option maxRecDepth 20000 in
theorem gX6_busiest_X6_busyAt : GoodIn wsX6_busiest (wsV RX6 168 RX6 yX6_busyAt wsX6_busyAt) := goodIn_app (goodIn_of _ (by decide +kernel)) ggX6_busiest_X6_busyAt
theorem dX6_busiest_0 : decode cX6_busiest 0 = .ok (.iload_n 1, 1) := by decide +kernel
theorem dX6_busiest_1 : decode cX6_busiest 1 = .ok (.invokestatic 129, 3) := by decide +kernel
theorem dX6_busiest_4 : decode cX6_busiest 4 = .ok (.ifCond .eq 12, 3) := by decide +kernel
theorem dX6_busiest_7 : decode cX6_busiest 7 = .ok (.iload_n 2, 1) := by decide +kernel
theorem dX6_busiest_8 : decode cX6_busiest 8 = .ok (.iconst 0, 1) := by decide +kernel
theorem dX6_busiest_9 : decode cX6_busiest 9 = .ok (.iconst 1, 1) := by decide +kernel
theorem dX6_busiest_10 : decode cX6_busiest 10 = .ok (.invokestatic 52, 3) := by decide +kernel
theorem dX6_busiest_13 : decode cX6_busiest 13 = .ok (.ifCond .ne 5, 3) := by decide +kernel
theorem dX6_busiest_16 : decode cX6_busiest 16 = .ok (.iconst (-1), 1) := by decide +kernel
theorem dX6_busiest_17 : decode cX6_busiest 17 = .ok (.ireturn, 1) := by decide +kernel
theorem dX6_busiest_18 : decode cX6_busiest 18 = .ok (.iconst 0, 1) := by decide +kernel
theorem dX6_busiest_19 : decode cX6_busiest 19 = .ok (.istore_n 3, 1) := by decide +kernel
theorem dX6_busiest_20 : decode cX6_busiest 20 = .ok (.iconst 1, 1) := by decide +kernel
theorem dX6_busiest_21 : decode cX6_busiest 21 = .ok (.istore 4, 2) := by decide +kernel
theorem dX6_busiest_23 : decode cX6_busiest 23 = .ok (.iload 4, 2) := by decide +kernel
theorem dX6_busiest_25 : decode cX6_busiest 25 = .ok (.aload_n 0, 1) := by decide +kernel
theorem dX6_busiest_26 : decode cX6_busiest 26 = .ok (.getfield 7, 3) := by decide +kernel
theorem dX6_busiest_29 : decode cX6_busiest 29 = .ok (.iconst 0, 1) := by decide +kernel
theorem dX6_busiest_30 : decode cX6_busiest 30 = .ok (.iaload, 1) := by decide +kernel
theorem dX6_busiest_31 : decode cX6_busiest 31 = .ok (.if_icmp .ge 32, 3) := by decide +kernel
theorem dX6_busiest_34 : decode cX6_busiest 34 = .ok (.aload_n 0, 1) := by decide +kernel
theorem dX6_busiest_35 : decode cX6_busiest 35 = .ok (.iload_n 1, 1) := by decide +kernel
theorem dX6_busiest_36 : decode cX6_busiest 36 = .ok (.iload 4, 2) := by decide +kernel
theorem dX6_busiest_38 : decode cX6_busiest 38 = .ok (.invokevirtual 168, 3) := by decide +kernel
theorem dX6_busiest_41 : decode cX6_busiest 41 = .ok (.aload_n 0, 1) := by decide +kernel
theorem dX6_busiest_42 : decode cX6_busiest 42 = .ok (.iload_n 1, 1) := by decide +kernel
theorem dX6_busiest_43 : decode cX6_busiest 43 = .ok (.iload_n 3, 1) := by decide +kernel
theorem dX6_busiest_44 : decode cX6_busiest 44 = .ok (.invokevirtual 168, 3) := by decide +kernel
theorem dX6_busiest_47 : decode cX6_busiest 47 = .ok (.if_icmp .le 8, 3) := by decide +kernel
theorem dX6_busiest_50 : decode cX6_busiest 50 = .ok (.iload 4, 2) := by decide +kernel
theorem dX6_busiest_52 : decode cX6_busiest 52 = .ok (.goto 4, 3) := by decide +kernel
theorem dX6_busiest_55 : decode cX6_busiest 55 = .ok (.iload_n 3, 1) := by decide +kernel
theorem dX6_busiest_56 : decode cX6_busiest 56 = .ok (.istore_n 3, 1) := by decide +kernel
theorem dX6_busiest_57 : decode cX6_busiest 57 = .ok (.iinc 4 1, 3) := by decide +kernel
theorem dX6_busiest_60 : decode cX6_busiest 60 = .ok (.goto (-37), 3) := by decide +kernel
theorem dX6_busiest_63 : decode cX6_busiest 63 = .ok (.iload_n 2, 1) := by decide +kernel
theorem dX6_busiest_64 : decode cX6_busiest 64 = .ok (.ifCond .ne 7, 3) := by decide +kernel
theorem dX6_busiest_67 : decode cX6_busiest 67 = .ok (.iload_n 3, 1) := by decide +kernel
theorem dX6_busiest_68 : decode cX6_busiest 68 = .ok (.goto 9, 3) := by decide +kernel
theorem dX6_busiest_71 : decode cX6_busiest 71 = .ok (.aload_n 0, 1) := by decide +kernel
theorem dX6_busiest_72 : decode cX6_busiest 72 = .ok (.iload_n 1, 1) := by decide +kernel
theorem dX6_busiest_73 : decode cX6_busiest 73 = .ok (.iload_n 3, 1) := by decide +kernel
theorem dX6_busiest_74 : decode cX6_busiest 74 = .ok (.invokevirtual 168, 3) := by decide +kernel
theorem dX6_busiest_77 : decode cX6_busiest 77 = .ok (.ireturn, 1) := by decide +kernel
set_option maxRecDepth 20000 in
theorem ggX6_shareBy_X6_isNote : GoodIn wsX6_shareBy wsX6_isNote := goodIn_r _ [6, 1, 7, 8, 9, 5, 10, 11, 12, 13, 17, 18, 19, 20, 21, 22, 23, 24, 25, 26, 27, 28, 29, 30, 31] (by decide +kernel) (by decide +kernel)
set_option maxRecDepth 20000 in
theorem gX6_shareBy_X6_isNote : GoodIn wsX6_shareBy (wsV RX6 110 RX6 yX6_isNote wsX6_isNote) := goodIn_app (goodIn_of _ (by decide +kernel)) ggX6_shareBy_X6_isNote
set_option maxRecDepth 20000 in
theorem ggX6_shareBy_X6_has : GoodIn wsX6_shareBy wsX6_has := goodIn_r _ [16] (by decide +kernel) (by decide +kernel)
set_option maxRecDepth 20000 in
theorem gX6_shareBy_X6_has : GoodIn wsX6_shareBy (va_wsS RX6 113 yX6_has wsX6_has) := goodIn_app (goodIn_of _ (by decide +kernel)) ggX6_shareBy_X6_has
theorem dX6_shareBy_0 : decode cX6_shareBy 0 = .ok (.iconst 0, 1) := by decide +kernel
theorem dX6_shareBy_1 : decode cX6_shareBy 1 = .ok (.istore_n 2, 1) := by decide +kernel
theorem dX6_shareBy_2 : decode cX6_shareBy 2 = .ok (.iconst 0, 1) := by decide +kernel
theorem dX6_shareBy_3 : decode cX6_shareBy 3 = .ok (.istore_n 3, 1) := by decide +kernel
theorem dX6_shareBy_4 : decode cX6_shareBy 4 = .ok (.iload_n 3, 1) := by decide +kernel
theorem dX6_shareBy_5 : decode cX6_shareBy 5 = .ok (.aload_n 0, 1) := by decide +kernel
theorem dX6_shareBy_6 : decode cX6_shareBy 6 = .ok (.getfield 7, 3) := by decide +kernel
theorem dX6_shareBy_9 : decode cX6_shareBy 9 = .ok (.iconst 0, 1) := by decide +kernel
theorem dX6_shareBy_10 : decode cX6_shareBy 10 = .ok (.iaload, 1) := by decide +kernel
theorem dX6_shareBy_11 : decode cX6_shareBy 11 = .ok (.if_icmp .ge 44, 3) := by decide +kernel
theorem dX6_shareBy_14 : decode cX6_shareBy 14 = .ok (.iload_n 2, 1) := by decide +kernel
theorem dX6_shareBy_15 : decode cX6_shareBy 15 = .ok (.aload_n 0, 1) := by decide +kernel
theorem dX6_shareBy_16 : decode cX6_shareBy 16 = .ok (.iload_n 3, 1) := by decide +kernel
theorem dX6_shareBy_17 : decode cX6_shareBy 17 = .ok (.invokevirtual 110, 3) := by decide +kernel
theorem dX6_shareBy_20 : decode cX6_shareBy 20 = .ok (.ifCond .eq 26, 3) := by decide +kernel
theorem dX6_shareBy_23 : decode cX6_shareBy 23 = .ok (.iload_n 1, 1) := by decide +kernel
theorem dX6_shareBy_24 : decode cX6_shareBy 24 = .ok (.aload_n 0, 1) := by decide +kernel
theorem dX6_shareBy_25 : decode cX6_shareBy 25 = .ok (.getfield 7, 3) := by decide +kernel
theorem dX6_shareBy_28 : decode cX6_shareBy 28 = .ok (.iconst 4, 1) := by decide +kernel
theorem dX6_shareBy_29 : decode cX6_shareBy 29 = .ok (.iload_n 3, 1) := by decide +kernel
theorem dX6_shareBy_30 : decode cX6_shareBy 30 = .ok (.iadd, 1) := by decide +kernel
theorem dX6_shareBy_31 : decode cX6_shareBy 31 = .ok (.iaload, 1) := by decide +kernel
theorem dX6_shareBy_32 : decode cX6_shareBy 32 = .ok (.iconst 1, 1) := by decide +kernel
theorem dX6_shareBy_33 : decode cX6_shareBy 33 = .ok (.isub, 1) := by decide +kernel
theorem dX6_shareBy_34 : decode cX6_shareBy 34 = .ok (.invokestatic 113, 3) := by decide +kernel
theorem dX6_shareBy_37 : decode cX6_shareBy 37 = .ok (.ifCond .eq 9, 3) := by decide +kernel
theorem dX6_shareBy_40 : decode cX6_shareBy 40 = .ok (.iconst 1, 1) := by decide +kernel
theorem dX6_shareBy_41 : decode cX6_shareBy 41 = .ok (.iload_n 3, 1) := by decide +kernel
theorem dX6_shareBy_42 : decode cX6_shareBy 42 = .ok (.ishl, 1) := by decide +kernel
theorem dX6_shareBy_43 : decode cX6_shareBy 43 = .ok (.goto 4, 3) := by decide +kernel
theorem dX6_shareBy_46 : decode cX6_shareBy 46 = .ok (.iconst 0, 1) := by decide +kernel
theorem dX6_shareBy_47 : decode cX6_shareBy 47 = .ok (.ior, 1) := by decide +kernel
theorem dX6_shareBy_48 : decode cX6_shareBy 48 = .ok (.istore_n 2, 1) := by decide +kernel
theorem dX6_shareBy_49 : decode cX6_shareBy 49 = .ok (.iinc 3 1, 3) := by decide +kernel
theorem dX6_shareBy_52 : decode cX6_shareBy 52 = .ok (.goto (-48), 3) := by decide +kernel
theorem dX6_shareBy_55 : decode cX6_shareBy 55 = .ok (.iload_n 2, 1) := by decide +kernel
theorem dX6_shareBy_56 : decode cX6_shareBy 56 = .ok (.ireturn, 1) := by decide +kernel
set_option maxRecDepth 20000 in
theorem ggX6_pitches_X6_isNote : GoodIn wsX6_pitches wsX6_isNote := goodIn_r _ [6, 1, 7, 8, 9, 5, 10, 11, 12, 13, 14, 15, 16, 17, 18, 19, 20, 21, 22, 23, 24, 25, 26, 27, 28] (by decide +kernel) (by decide +kernel)
set_option maxRecDepth 20000 in
theorem gX6_pitches_X6_isNote : GoodIn wsX6_pitches (wsV RX6 110 RX6 yX6_isNote wsX6_isNote) := goodIn_app (goodIn_of _ (by decide +kernel)) ggX6_pitches_X6_isNote
theorem dX6_pitches_0 : decode cX6_pitches 0 = .ok (.iconst 0, 1) := by decide +kernel
theorem dX6_pitches_1 : decode cX6_pitches 1 = .ok (.istore_n 1, 1) := by decide +kernel
theorem dX6_pitches_2 : decode cX6_pitches 2 = .ok (.iconst 0, 1) := by decide +kernel
theorem dX6_pitches_3 : decode cX6_pitches 3 = .ok (.istore_n 2, 1) := by decide +kernel
theorem dX6_pitches_4 : decode cX6_pitches 4 = .ok (.iload_n 2, 1) := by decide +kernel
theorem dX6_pitches_5 : decode cX6_pitches 5 = .ok (.aload_n 0, 1) := by decide +kernel
theorem dX6_pitches_6 : decode cX6_pitches 6 = .ok (.getfield 7, 3) := by decide +kernel
theorem dX6_pitches_9 : decode cX6_pitches 9 = .ok (.iconst 0, 1) := by decide +kernel
theorem dX6_pitches_10 : decode cX6_pitches 10 = .ok (.iaload, 1) := by decide +kernel
theorem dX6_pitches_11 : decode cX6_pitches 11 = .ok (.if_icmp .ge 36, 3) := by decide +kernel
theorem dX6_pitches_14 : decode cX6_pitches 14 = .ok (.iload_n 1, 1) := by decide +kernel
theorem dX6_pitches_15 : decode cX6_pitches 15 = .ok (.aload_n 0, 1) := by decide +kernel
theorem dX6_pitches_16 : decode cX6_pitches 16 = .ok (.iload_n 2, 1) := by decide +kernel
theorem dX6_pitches_17 : decode cX6_pitches 17 = .ok (.invokevirtual 110, 3) := by decide +kernel
theorem dX6_pitches_20 : decode cX6_pitches 20 = .ok (.ifCond .eq 18, 3) := by decide +kernel
theorem dX6_pitches_23 : decode cX6_pitches 23 = .ok (.iconst 1, 1) := by decide +kernel
theorem dX6_pitches_24 : decode cX6_pitches 24 = .ok (.aload_n 0, 1) := by decide +kernel
theorem dX6_pitches_25 : decode cX6_pitches 25 = .ok (.getfield 7, 3) := by decide +kernel
theorem dX6_pitches_28 : decode cX6_pitches 28 = .ok (.iconst 4, 1) := by decide +kernel
theorem dX6_pitches_29 : decode cX6_pitches 29 = .ok (.iload_n 2, 1) := by decide +kernel
theorem dX6_pitches_30 : decode cX6_pitches 30 = .ok (.iadd, 1) := by decide +kernel
theorem dX6_pitches_31 : decode cX6_pitches 31 = .ok (.iaload, 1) := by decide +kernel
theorem dX6_pitches_32 : decode cX6_pitches 32 = .ok (.iconst 1, 1) := by decide +kernel
theorem dX6_pitches_33 : decode cX6_pitches 33 = .ok (.isub, 1) := by decide +kernel
theorem dX6_pitches_34 : decode cX6_pitches 34 = .ok (.ishl, 1) := by decide +kernel
theorem dX6_pitches_35 : decode cX6_pitches 35 = .ok (.goto 4, 3) := by decide +kernel
theorem dX6_pitches_38 : decode cX6_pitches 38 = .ok (.iconst 0, 1) := by decide +kernel
theorem dX6_pitches_39 : decode cX6_pitches 39 = .ok (.ior, 1) := by decide +kernel
theorem dX6_pitches_40 : decode cX6_pitches 40 = .ok (.istore_n 1, 1) := by decide +kernel
theorem dX6_pitches_41 : decode cX6_pitches 41 = .ok (.iinc 2 1, 3) := by decide +kernel
theorem dX6_pitches_44 : decode cX6_pitches 44 = .ok (.goto (-40), 3) := by decide +kernel
theorem dX6_pitches_47 : decode cX6_pitches 47 = .ok (.iload_n 1, 1) := by decide +kernel
theorem dX6_pitches_48 : decode cX6_pitches 48 = .ok (.ireturn, 1) := by decide +kernel
set_option maxRecDepth 20000 in
theorem ggX6_isTable_X6_pitches : GoodIn wsX6_isTable wsX6_pitches := goodIn_r _ [5, 6, 7, 8, 9, 4, 10, 11, 12, 13, 14, 15, 16, 17, 45, 46, 47, 48, 49, 50, 51, 52, 53, 54, 55, 56, 57, 58, 59] (by decide +kernel) (by decide +kernel)
set_option maxRecDepth 20000 in
theorem gX6_isTable_X6_pitches : GoodIn wsX6_isTable (wsV RX6 171 RX6 yX6_pitches wsX6_pitches) := goodIn_app (goodIn_of _ (by decide +kernel)) ggX6_isTable_X6_pitches
set_option maxRecDepth 20000 in
theorem ggX6_isTable_X6_shareBy : GoodIn wsX6_isTable wsX6_shareBy := goodIn_r _ [21, 6, 7, 8, 9, 4, 10, 11, 12, 13, 14, 15, 16, 17, 22, 23, 24, 45, 46, 47, 48, 49, 50, 51, 52, 53, 54, 55, 56, 57, 58, 59] (by decide +kernel) (by decide +kernel)
set_option maxRecDepth 20000 in
theorem gX6_isTable_X6_shareBy : GoodIn wsX6_isTable (wsV RX6 174 RX6 yX6_shareBy wsX6_shareBy) := goodIn_app (goodIn_of _ (by decide +kernel)) ggX6_isTable_X6_shareBy
set_option maxRecDepth 20000 in
theorem ggX6_isTable_X6_isLawfulNow : GoodIn wsX6_isTable wsX6_isLawfulNow := goodIn_r _ [28, 6, 29, 30, 31, 4, 32, 33, 34, 35, 36, 7, 8, 9, 10, 11, 12, 13, 14, 15, 16, 17, 37, 38, 39, 40, 22, 23, 24, 41, 42, 43, 44, 45, 46, 47, 48, 49, 50, 51, 52, 53, 54, 55, 56, 57, 58, 59] (by decide +kernel) (by decide +kernel)
set_option maxRecDepth 20000 in
theorem gX6_isTable_X6_isLawfulNow : GoodIn wsX6_isTable (wsV RX6 144 RX6 yX6_isLawfulNow wsX6_isLawfulNow) := goodIn_app (goodIn_of _ (by decide +kernel)) ggX6_isTable_X6_isLawfulNow
theorem dX6_isTable_0 : decode cX6_isTable 0 = .ok (.iload_n 1, 1) := by decide +kernel
theorem dX6_isTable_1 : decode cX6_isTable 1 = .ok (.aload_n 0, 1) := by decide +kernel
theorem dX6_isTable_2 : decode cX6_isTable 2 = .ok (.invokevirtual 171, 3) := by decide +kernel
theorem dX6_isTable_5 : decode cX6_isTable 5 = .ok (.iconst (-1), 1) := by decide +kernel
theorem dX6_isTable_6 : decode cX6_isTable 6 = .ok (.ixor, 1) := by decide +kernel
theorem dX6_isTable_7 : decode cX6_isTable 7 = .ok (.iand, 1) := by decide +kernel
theorem dX6_isTable_8 : decode cX6_isTable 8 = .ok (.ifCond .ne 19, 3) := by decide +kernel
theorem dX6_isTable_11 : decode cX6_isTable 11 = .ok (.aload_n 0, 1) := by decide +kernel
theorem dX6_isTable_12 : decode cX6_isTable 12 = .ok (.aload_n 0, 1) := by decide +kernel
theorem dX6_isTable_13 : decode cX6_isTable 13 = .ok (.iload_n 1, 1) := by decide +kernel
theorem dX6_isTable_14 : decode cX6_isTable 14 = .ok (.invokevirtual 174, 3) := by decide +kernel
theorem dX6_isTable_17 : decode cX6_isTable 17 = .ok (.invokevirtual 144, 3) := by decide +kernel
theorem dX6_isTable_20 : decode cX6_isTable 20 = .ok (.ifCond .eq 7, 3) := by decide +kernel
theorem dX6_isTable_23 : decode cX6_isTable 23 = .ok (.iconst 1, 1) := by decide +kernel
theorem dX6_isTable_24 : decode cX6_isTable 24 = .ok (.goto 4, 3) := by decide +kernel
theorem dX6_isTable_27 : decode cX6_isTable 27 = .ok (.iconst 0, 1) := by decide +kernel
theorem dX6_isTable_28 : decode cX6_isTable 28 = .ok (.ireturn, 1) := by decide +kernel
set_option maxRecDepth 20000 in
theorem ggX6_isHeard_X6_shareBy : GoodIn wsX6_isHeard wsX6_shareBy := goodIn_r _ [8, 9, 10, 11, 12, 7, 13, 14, 15, 16, 17, 18, 19, 20, 21, 22, 23, 52, 53, 54, 55, 56, 57, 58, 59, 60, 61, 62, 63, 64, 65, 66] (by decide +kernel) (by decide +kernel)
set_option maxRecDepth 20000 in
theorem gX6_isHeard_X6_shareBy : GoodIn wsX6_isHeard (wsV RX6 174 RX6 yX6_shareBy wsX6_shareBy) := goodIn_app (goodIn_of _ (by decide +kernel)) ggX6_isHeard_X6_shareBy
set_option maxRecDepth 20000 in
theorem ggX6_isHeard_X6_isTable : GoodIn wsX6_isHeard wsX6_isTable := goodIn_r _ [27, 28, 29, 30, 7, 31, 9, 10, 11, 12, 13, 14, 15, 16, 17, 18, 19, 20, 4, 5, 6, 8, 21, 22, 23, 32, 33, 34, 35, 36, 37, 38, 39, 40, 41, 42, 43, 44, 45, 46, 47, 48, 49, 50, 51, 52, 53, 54, 55, 56, 57, 58, 59, 60, 61, 62, 63, 64, 65, 66] (by decide +kernel) (by decide +kernel)
set_option maxRecDepth 20000 in
theorem gX6_isHeard_X6_isTable : GoodIn wsX6_isHeard (wsV RX6 177 RX6 yX6_isTable wsX6_isTable) := goodIn_app (goodIn_of _ (by decide +kernel)) ggX6_isHeard_X6_isTable
set_option maxRecDepth 20000 in
theorem ggX6_isHeard_X6_isNote : GoodIn wsX6_isHeard wsX6_isNote := goodIn_r _ [13, 9, 14, 15, 16, 7, 17, 18, 19, 20, 52, 53, 54, 55, 56, 57, 58, 59, 60, 61, 62, 63, 64, 65, 66] (by decide +kernel) (by decide +kernel)
set_option maxRecDepth 20000 in
theorem gX6_isHeard_X6_isNote : GoodIn wsX6_isHeard (wsV RX6 110 RX6 yX6_isNote wsX6_isNote) := goodIn_app (goodIn_of _ (by decide +kernel)) ggX6_isHeard_X6_isNote
theorem dX6_isHeard_0 : decode cX6_isHeard 0 = .ok (.aload_n 0, 1) := by decide +kernel
theorem dX6_isHeard_1 : decode cX6_isHeard 1 = .ok (.iload_n 1, 1) := by decide +kernel
theorem dX6_isHeard_2 : decode cX6_isHeard 2 = .ok (.invokevirtual 174, 3) := by decide +kernel
theorem dX6_isHeard_5 : decode cX6_isHeard 5 = .ok (.istore_n 2, 1) := by decide +kernel
theorem dX6_isHeard_6 : decode cX6_isHeard 6 = .ok (.aload_n 0, 1) := by decide +kernel
theorem dX6_isHeard_7 : decode cX6_isHeard 7 = .ok (.iload_n 1, 1) := by decide +kernel
theorem dX6_isHeard_8 : decode cX6_isHeard 8 = .ok (.invokevirtual 177, 3) := by decide +kernel
theorem dX6_isHeard_11 : decode cX6_isHeard 11 = .ok (.istore_n 3, 1) := by decide +kernel
theorem dX6_isHeard_12 : decode cX6_isHeard 12 = .ok (.iconst 0, 1) := by decide +kernel
theorem dX6_isHeard_13 : decode cX6_isHeard 13 = .ok (.istore 4, 2) := by decide +kernel
theorem dX6_isHeard_15 : decode cX6_isHeard 15 = .ok (.iload 4, 2) := by decide +kernel
theorem dX6_isHeard_17 : decode cX6_isHeard 17 = .ok (.aload_n 0, 1) := by decide +kernel
theorem dX6_isHeard_18 : decode cX6_isHeard 18 = .ok (.getfield 180, 3) := by decide +kernel
theorem dX6_isHeard_21 : decode cX6_isHeard 21 = .ok (.if_icmp .ge 54, 3) := by decide +kernel
theorem dX6_isHeard_24 : decode cX6_isHeard 24 = .ok (.iload_n 3, 1) := by decide +kernel
theorem dX6_isHeard_25 : decode cX6_isHeard 25 = .ok (.ifCond .eq 42, 3) := by decide +kernel
theorem dX6_isHeard_28 : decode cX6_isHeard 28 = .ok (.aload_n 0, 1) := by decide +kernel
theorem dX6_isHeard_29 : decode cX6_isHeard 29 = .ok (.aload_n 0, 1) := by decide +kernel
theorem dX6_isHeard_30 : decode cX6_isHeard 30 = .ok (.getfield 26, 3) := by decide +kernel
theorem dX6_isHeard_33 : decode cX6_isHeard 33 = .ok (.iload 4, 2) := by decide +kernel
theorem dX6_isHeard_35 : decode cX6_isHeard 35 = .ok (.iaload, 1) := by decide +kernel
theorem dX6_isHeard_36 : decode cX6_isHeard 36 = .ok (.invokevirtual 110, 3) := by decide +kernel
theorem dX6_isHeard_39 : decode cX6_isHeard 39 = .ok (.ifCond .eq 28, 3) := by decide +kernel
theorem dX6_isHeard_42 : decode cX6_isHeard 42 = .ok (.iload_n 2, 1) := by decide +kernel
theorem dX6_isHeard_43 : decode cX6_isHeard 43 = .ok (.aload_n 0, 1) := by decide +kernel
theorem dX6_isHeard_44 : decode cX6_isHeard 44 = .ok (.getfield 26, 3) := by decide +kernel
theorem dX6_isHeard_47 : decode cX6_isHeard 47 = .ok (.iload 4, 2) := by decide +kernel
theorem dX6_isHeard_49 : decode cX6_isHeard 49 = .ok (.iaload, 1) := by decide +kernel
theorem dX6_isHeard_50 : decode cX6_isHeard 50 = .ok (.ishr, 1) := by decide +kernel
theorem dX6_isHeard_51 : decode cX6_isHeard 51 = .ok (.iconst 1, 1) := by decide +kernel
theorem dX6_isHeard_52 : decode cX6_isHeard 52 = .ok (.iand, 1) := by decide +kernel
theorem dX6_isHeard_53 : decode cX6_isHeard 53 = .ok (.aload_n 0, 1) := by decide +kernel
theorem dX6_isHeard_54 : decode cX6_isHeard 54 = .ok (.getfield 29, 3) := by decide +kernel
theorem dX6_isHeard_57 : decode cX6_isHeard 57 = .ok (.iload 4, 2) := by decide +kernel
theorem dX6_isHeard_59 : decode cX6_isHeard 59 = .ok (.iaload, 1) := by decide +kernel
theorem dX6_isHeard_60 : decode cX6_isHeard 60 = .ok (.if_icmp .ne 7, 3) := by decide +kernel
theorem dX6_isHeard_63 : decode cX6_isHeard 63 = .ok (.iconst 1, 1) := by decide +kernel
theorem dX6_isHeard_64 : decode cX6_isHeard 64 = .ok (.goto 4, 3) := by decide +kernel
theorem dX6_isHeard_67 : decode cX6_isHeard 67 = .ok (.iconst 0, 1) := by decide +kernel
theorem dX6_isHeard_68 : decode cX6_isHeard 68 = .ok (.istore_n 3, 1) := by decide +kernel
theorem dX6_isHeard_69 : decode cX6_isHeard 69 = .ok (.iinc 4 1, 3) := by decide +kernel
theorem dX6_isHeard_72 : decode cX6_isHeard 72 = .ok (.goto (-57), 3) := by decide +kernel
theorem dX6_isHeard_75 : decode cX6_isHeard 75 = .ok (.iload_n 3, 1) := by decide +kernel
theorem dX6_isHeard_76 : decode cX6_isHeard 76 = .ok (.ireturn, 1) := by decide +kernel
set_option maxRecDepth 20000 in
theorem ggX6_tellTables_X6_isHeard : GoodIn wsX6_tellTables wsX6_isHeard := goodIn_r _ [5, 6, 7, 8, 9, 10, 11, 4, 12, 13, 14, 15, 16, 17, 18, 19, 20, 21, 22, 23, 24, 25, 26, 27, 28, 29, 30, 31, 32, 33, 34, 35, 36, 37, 38, 39, 40, 41, 42, 43, 44, 45, 46, 47, 48, 49, 50, 51, 52, 53, 54, 55, 56, 57, 58, 59, 60, 61, 62, 63, 64, 65, 66, 67, 68, 69, 70] (by decide +kernel) (by decide +kernel)
set_option maxRecDepth 20000 in
theorem gX6_tellTables_X6_isHeard : GoodIn wsX6_tellTables (wsV RX6 183 RX6 yX6_isHeard wsX6_isHeard) := goodIn_app (goodIn_of _ (by decide +kernel)) ggX6_tellTables_X6_isHeard
set_option maxRecDepth 20000 in
theorem ggX6_tellTables_X6_isTable : GoodIn wsX6_tellTables wsX6_isTable := goodIn_r _ [31, 32, 33, 34, 4, 35, 13, 14, 15, 16, 17, 18, 19, 20, 21, 22, 23, 24, 9, 10, 11, 12, 25, 26, 27, 36, 37, 38, 39, 40, 41, 42, 43, 44, 45, 46, 47, 48, 49, 50, 51, 52, 53, 54, 55, 56, 57, 58, 59, 60, 61, 62, 63, 64, 65, 66, 67, 68, 69, 70] (by decide +kernel) (by decide +kernel)
set_option maxRecDepth 20000 in
theorem gX6_tellTables_X6_isTable : GoodIn wsX6_tellTables (wsV RX6 177 RX6 yX6_isTable wsX6_isTable) := goodIn_app (goodIn_of _ (by decide +kernel)) ggX6_tellTables_X6_isTable
theorem dX6_tellTables_0 : decode cX6_tellTables 0 = .ok (.iconst 0, 1) := by decide +kernel
theorem dX6_tellTables_1 : decode cX6_tellTables 1 = .ok (.istore_n 3, 1) := by decide +kernel
theorem dX6_tellTables_2 : decode cX6_tellTables 2 = .ok (.bipush (-9), 2) := by decide +kernel
theorem dX6_tellTables_4 : decode cX6_tellTables 4 = .ok (.istore 4, 2) := by decide +kernel
theorem dX6_tellTables_6 : decode cX6_tellTables 6 = .ok (.bipush 127, 2) := by decide +kernel
theorem dX6_tellTables_8 : decode cX6_tellTables 8 = .ok (.istore 5, 2) := by decide +kernel
theorem dX6_tellTables_10 : decode cX6_tellTables 10 = .ok (.iload 5, 2) := by decide +kernel
theorem dX6_tellTables_12 : decode cX6_tellTables 12 = .ok (.ifCond .lt 57, 3) := by decide +kernel
theorem dX6_tellTables_15 : decode cX6_tellTables 15 = .ok (.iload_n 2, 1) := by decide +kernel
theorem dX6_tellTables_16 : decode cX6_tellTables 16 = .ok (.ifCond .eq 12, 3) := by decide +kernel
theorem dX6_tellTables_19 : decode cX6_tellTables 19 = .ok (.aload_n 0, 1) := by decide +kernel
theorem dX6_tellTables_20 : decode cX6_tellTables 20 = .ok (.iload 5, 2) := by decide +kernel
theorem dX6_tellTables_22 : decode cX6_tellTables 22 = .ok (.invokevirtual 183, 3) := by decide +kernel
theorem dX6_tellTables_25 : decode cX6_tellTables 25 = .ok (.goto 9, 3) := by decide +kernel
theorem dX6_tellTables_28 : decode cX6_tellTables 28 = .ok (.aload_n 0, 1) := by decide +kernel
theorem dX6_tellTables_29 : decode cX6_tellTables 29 = .ok (.iload 5, 2) := by decide +kernel
theorem dX6_tellTables_31 : decode cX6_tellTables 31 = .ok (.invokevirtual 177, 3) := by decide +kernel
theorem dX6_tellTables_34 : decode cX6_tellTables 34 = .ok (.istore 6, 2) := by decide +kernel
theorem dX6_tellTables_36 : decode cX6_tellTables 36 = .ok (.iload_n 3, 1) := by decide +kernel
theorem dX6_tellTables_37 : decode cX6_tellTables 37 = .ok (.iload 6, 2) := by decide +kernel
theorem dX6_tellTables_39 : decode cX6_tellTables 39 = .ok (.ifCond .eq 7, 3) := by decide +kernel
theorem dX6_tellTables_42 : decode cX6_tellTables 42 = .ok (.iconst 1, 1) := by decide +kernel
theorem dX6_tellTables_43 : decode cX6_tellTables 43 = .ok (.goto 4, 3) := by decide +kernel
theorem dX6_tellTables_46 : decode cX6_tellTables 46 = .ok (.iconst 0, 1) := by decide +kernel
theorem dX6_tellTables_47 : decode cX6_tellTables 47 = .ok (.iadd, 1) := by decide +kernel
theorem dX6_tellTables_48 : decode cX6_tellTables 48 = .ok (.istore_n 3, 1) := by decide +kernel
theorem dX6_tellTables_49 : decode cX6_tellTables 49 = .ok (.iload 6, 2) := by decide +kernel
theorem dX6_tellTables_51 : decode cX6_tellTables 51 = .ok (.ifCond .eq 8, 3) := by decide +kernel
theorem dX6_tellTables_54 : decode cX6_tellTables 54 = .ok (.iload 5, 2) := by decide +kernel
theorem dX6_tellTables_56 : decode cX6_tellTables 56 = .ok (.goto 5, 3) := by decide +kernel
theorem dX6_tellTables_59 : decode cX6_tellTables 59 = .ok (.iload 4, 2) := by decide +kernel
theorem dX6_tellTables_61 : decode cX6_tellTables 61 = .ok (.istore 4, 2) := by decide +kernel
theorem dX6_tellTables_63 : decode cX6_tellTables 63 = .ok (.iinc 5 (-1), 3) := by decide +kernel
theorem dX6_tellTables_66 : decode cX6_tellTables 66 = .ok (.goto (-56), 3) := by decide +kernel
theorem dX6_tellTables_69 : decode cX6_tellTables 69 = .ok (.iload_n 1, 1) := by decide +kernel
theorem dX6_tellTables_70 : decode cX6_tellTables 70 = .ok (.ifCond .ne 7, 3) := by decide +kernel
theorem dX6_tellTables_73 : decode cX6_tellTables 73 = .ok (.iload_n 3, 1) := by decide +kernel
theorem dX6_tellTables_74 : decode cX6_tellTables 74 = .ok (.goto 14, 3) := by decide +kernel
theorem dX6_tellTables_77 : decode cX6_tellTables 77 = .ok (.iload_n 1, 1) := by decide +kernel
theorem dX6_tellTables_78 : decode cX6_tellTables 78 = .ok (.iconst 1, 1) := by decide +kernel
theorem dX6_tellTables_79 : decode cX6_tellTables 79 = .ok (.if_icmp .ne 8, 3) := by decide +kernel
theorem dX6_tellTables_82 : decode cX6_tellTables 82 = .ok (.iload 4, 2) := by decide +kernel
theorem dX6_tellTables_84 : decode cX6_tellTables 84 = .ok (.goto 4, 3) := by decide +kernel
theorem dX6_tellTables_87 : decode cX6_tellTables 87 = .ok (.iconst (-1), 1) := by decide +kernel
theorem dX6_tellTables_88 : decode cX6_tellTables 88 = .ok (.ireturn, 1) := by decide +kernel
set_option maxRecDepth 20000 in
theorem ggX6_tables_X6_tellTables : GoodIn wsX6_tables wsX6_tellTables := goodIn_r _ [5, 6, 7, 8, 4, 9, 10, 11, 12, 13, 14, 15, 16, 17, 18, 19, 20, 21, 22, 23, 24, 25, 26, 27, 28, 29, 30, 31, 32, 33, 34, 35, 36, 37, 38, 39, 40, 41, 42, 43, 44, 45, 46, 47, 48, 49, 50, 51, 52, 53, 54, 55, 56, 57, 58, 59, 60, 61, 62, 63, 64, 65, 66, 67, 68, 69, 70, 71, 72, 73, 74] (by decide +kernel) (by decide +kernel)
set_option maxRecDepth 20000 in
theorem gX6_tables_X6_tellTables : GoodIn wsX6_tables (wsV RX6 186 RX6 yX6_tellTables wsX6_tellTables) := goodIn_app (goodIn_of _ (by decide +kernel)) ggX6_tables_X6_tellTables
theorem dX6_tables_0 : decode cX6_tables 0 = .ok (.aload_n 0, 1) := by decide +kernel
theorem dX6_tables_1 : decode cX6_tables 1 = .ok (.iload_n 1, 1) := by decide +kernel
theorem dX6_tables_2 : decode cX6_tables 2 = .ok (.iconst 0, 1) := by decide +kernel
theorem dX6_tables_3 : decode cX6_tables 3 = .ok (.invokevirtual 186, 3) := by decide +kernel
theorem dX6_tables_6 : decode cX6_tables 6 = .ok (.ireturn, 1) := by decide +kernel
set_option maxRecDepth 20000 in
theorem ggX6_sees_X6_within : GoodIn wsX6_sees wsX6_within := goodIn_r _ [7] (by decide +kernel) (by decide +kernel)
set_option maxRecDepth 20000 in
theorem gX6_sees_X6_within : GoodIn wsX6_sees (va_wsS RX6 52 yX6_within wsX6_within) := goodIn_app (goodIn_of _ (by decide +kernel)) ggX6_sees_X6_within
set_option maxRecDepth 20000 in
theorem ggX6_sees_X6_isHand : GoodIn wsX6_sees wsX6_isHand := goodIn_r _ [10] (by decide +kernel) (by decide +kernel)
set_option maxRecDepth 20000 in
theorem gX6_sees_X6_isHand : GoodIn wsX6_sees (va_wsS RX6 129 yX6_isHand wsX6_isHand) := goodIn_app (goodIn_of _ (by decide +kernel)) ggX6_sees_X6_isHand
theorem dX6_sees_0 : decode cX6_sees 0 = .ok (.iload_n 1, 1) := by decide +kernel
theorem dX6_sees_1 : decode cX6_sees 1 = .ok (.iconst 0, 1) := by decide +kernel
theorem dX6_sees_2 : decode cX6_sees 2 = .ok (.bipush 11, 2) := by decide +kernel
theorem dX6_sees_4 : decode cX6_sees 4 = .ok (.invokestatic 52, 3) := by decide +kernel
theorem dX6_sees_7 : decode cX6_sees 7 = .ok (.ifCond .eq 10, 3) := by decide +kernel
theorem dX6_sees_10 : decode cX6_sees 10 = .ok (.iload_n 2, 1) := by decide +kernel
theorem dX6_sees_11 : decode cX6_sees 11 = .ok (.invokestatic 129, 3) := by decide +kernel
theorem dX6_sees_14 : decode cX6_sees 14 = .ok (.ifCond .ne 5, 3) := by decide +kernel
theorem dX6_sees_17 : decode cX6_sees 17 = .ok (.iconst (-1), 1) := by decide +kernel
theorem dX6_sees_18 : decode cX6_sees 18 = .ok (.ireturn, 1) := by decide +kernel
theorem dX6_sees_19 : decode cX6_sees 19 = .ok (.aload_n 0, 1) := by decide +kernel
theorem dX6_sees_20 : decode cX6_sees 20 = .ok (.getfield 180, 3) := by decide +kernel
theorem dX6_sees_23 : decode cX6_sees 23 = .ok (.bipush 6, 2) := by decide +kernel
theorem dX6_sees_25 : decode cX6_sees 25 = .ok (.if_icmp .ne 6, 3) := by decide +kernel
theorem dX6_sees_28 : decode cX6_sees 28 = .ok (.bipush (-3), 2) := by decide +kernel
theorem dX6_sees_30 : decode cX6_sees 30 = .ok (.ireturn, 1) := by decide +kernel
theorem dX6_sees_31 : decode cX6_sees 31 = .ok (.aload_n 0, 1) := by decide +kernel
theorem dX6_sees_32 : decode cX6_sees 32 = .ok (.getfield 26, 3) := by decide +kernel
theorem dX6_sees_35 : decode cX6_sees 35 = .ok (.aload_n 0, 1) := by decide +kernel
theorem dX6_sees_36 : decode cX6_sees 36 = .ok (.getfield 180, 3) := by decide +kernel
theorem dX6_sees_39 : decode cX6_sees 39 = .ok (.iload_n 1, 1) := by decide +kernel
theorem dX6_sees_40 : decode cX6_sees 40 = .ok (.iastore, 1) := by decide +kernel
theorem dX6_sees_41 : decode cX6_sees 41 = .ok (.aload_n 0, 1) := by decide +kernel
theorem dX6_sees_42 : decode cX6_sees 42 = .ok (.getfield 29, 3) := by decide +kernel
theorem dX6_sees_45 : decode cX6_sees 45 = .ok (.aload_n 0, 1) := by decide +kernel
theorem dX6_sees_46 : decode cX6_sees 46 = .ok (.getfield 180, 3) := by decide +kernel
theorem dX6_sees_49 : decode cX6_sees 49 = .ok (.iload_n 2, 1) := by decide +kernel
theorem dX6_sees_50 : decode cX6_sees 50 = .ok (.iastore, 1) := by decide +kernel
theorem dX6_sees_51 : decode cX6_sees 51 = .ok (.aload_n 0, 1) := by decide +kernel
theorem dX6_sees_52 : decode cX6_sees 52 = .ok (.dup, 1) := by decide +kernel
theorem dX6_sees_53 : decode cX6_sees 53 = .ok (.getfield 180, 3) := by decide +kernel
theorem dX6_sees_56 : decode cX6_sees 56 = .ok (.iconst 1, 1) := by decide +kernel
theorem dX6_sees_57 : decode cX6_sees 57 = .ok (.iadd, 1) := by decide +kernel
theorem dX6_sees_58 : decode cX6_sees 58 = .ok (.putfield 180, 3) := by decide +kernel
theorem dX6_sees_61 : decode cX6_sees 61 = .ok (.aload_n 0, 1) := by decide +kernel
theorem dX6_sees_62 : decode cX6_sees 62 = .ok (.getfield 180, 3) := by decide +kernel
theorem dX6_sees_65 : decode cX6_sees 65 = .ok (.ireturn, 1) := by decide +kernel
theorem dX6_forget_0 : decode cX6_forget 0 = .ok (.aload_n 0, 1) := by decide +kernel
theorem dX6_forget_1 : decode cX6_forget 1 = .ok (.getfield 180, 3) := by decide +kernel
theorem dX6_forget_4 : decode cX6_forget 4 = .ok (.istore_n 1, 1) := by decide +kernel
theorem dX6_forget_5 : decode cX6_forget 5 = .ok (.aload_n 0, 1) := by decide +kernel
theorem dX6_forget_6 : decode cX6_forget 6 = .ok (.iconst 0, 1) := by decide +kernel
theorem dX6_forget_7 : decode cX6_forget 7 = .ok (.putfield 180, 3) := by decide +kernel
theorem dX6_forget_10 : decode cX6_forget 10 = .ok (.iload_n 1, 1) := by decide +kernel
theorem dX6_forget_11 : decode cX6_forget 11 = .ok (.ireturn, 1) := by decide +kernel
set_option maxRecDepth 20000 in
theorem ggX6_which_X6_tellTables : GoodIn wsX6_which wsX6_tellTables := goodIn_r _ [5, 6, 7, 8, 4, 9, 10, 11, 12, 13, 14, 15, 16, 17, 18, 19, 20, 21, 22, 23, 24, 25, 26, 27, 28, 29, 30, 31, 32, 33, 34, 35, 36, 37, 38, 39, 40, 41, 42, 43, 44, 45, 46, 47, 48, 49, 50, 51, 52, 53, 54, 55, 56, 57, 58, 59, 60, 61, 62, 63, 64, 65, 66, 67, 68, 69, 70, 71, 72, 73, 74] (by decide +kernel) (by decide +kernel)
set_option maxRecDepth 20000 in
theorem gX6_which_X6_tellTables : GoodIn wsX6_which (wsV RX6 186 RX6 yX6_tellTables wsX6_tellTables) := goodIn_app (goodIn_of _ (by decide +kernel)) ggX6_which_X6_tellTables
theorem dX6_which_0 : decode cX6_which 0 = .ok (.aload_n 0, 1) := by decide +kernel
theorem dX6_which_1 : decode cX6_which 1 = .ok (.iload_n 1, 1) := by decide +kernel
theorem dX6_which_2 : decode cX6_which 2 = .ok (.iconst 1, 1) := by decide +kernel
theorem dX6_which_3 : decode cX6_which 3 = .ok (.invokevirtual 186, 3) := by decide +kernel
theorem dX6_which_6 : decode cX6_which 6 = .ok (.ireturn, 1) := by decide +kernel
set_option maxRecDepth 20000 in
theorem ggX6_listen_X6_isHeard : GoodIn wsX6_listen wsX6_isHeard := goodIn_r _ [7, 8, 9, 10, 11, 12, 13, 6, 14, 2, 15, 16, 17, 18, 19, 20, 21, 22, 23, 24, 25, 26, 27, 28, 29, 30, 31, 32, 33, 34, 35, 36, 37, 38, 39, 40, 41, 42, 43, 44, 45, 46, 47, 48, 49, 50, 51, 52, 53, 54, 55, 56, 57, 58, 59, 60, 61, 62, 63, 64, 65, 66, 67, 68, 69, 70, 71] (by decide +kernel) (by decide +kernel)
set_option maxRecDepth 20000 in
theorem gX6_listen_X6_isHeard : GoodIn wsX6_listen (wsV RX6 183 RX6 yX6_isHeard wsX6_isHeard) := goodIn_app (goodIn_of _ (by decide +kernel)) ggX6_listen_X6_isHeard
set_option maxRecDepth 20000 in
theorem ggX6_listen_X6_shareBy : GoodIn wsX6_listen wsX6_shareBy := goodIn_r _ [14, 2, 15, 16, 17, 6, 18, 19, 20, 21, 22, 23, 24, 25, 26, 27, 28, 57, 58, 59, 60, 61, 62, 63, 64, 65, 66, 67, 68, 69, 70, 71] (by decide +kernel) (by decide +kernel)
set_option maxRecDepth 20000 in
theorem gX6_listen_X6_shareBy : GoodIn wsX6_listen (wsV RX6 174 RX6 yX6_shareBy wsX6_shareBy) := goodIn_app (goodIn_of _ (by decide +kernel)) ggX6_listen_X6_shareBy
set_option maxRecDepth 20000 in
theorem ggX6_listen_X6_isNote : GoodIn wsX6_listen wsX6_isNote := goodIn_r _ [18, 2, 19, 20, 21, 6, 22, 23, 24, 25, 57, 58, 59, 60, 61, 62, 63, 64, 65, 66, 67, 68, 69, 70, 71] (by decide +kernel) (by decide +kernel)
set_option maxRecDepth 20000 in
theorem gX6_listen_X6_isNote : GoodIn wsX6_listen (wsV RX6 110 RX6 yX6_isNote wsX6_isNote) := goodIn_app (goodIn_of _ (by decide +kernel)) ggX6_listen_X6_isNote
theorem dX6_listen_0 : decode cX6_listen 0 = .ok (.iconst 0, 1) := by decide +kernel
theorem dX6_listen_1 : decode cX6_listen 1 = .ok (.istore_n 1, 1) := by decide +kernel
theorem dX6_listen_2 : decode cX6_listen 2 = .ok (.iconst 0, 1) := by decide +kernel
theorem dX6_listen_3 : decode cX6_listen 3 = .ok (.istore_n 2, 1) := by decide +kernel
theorem dX6_listen_4 : decode cX6_listen 4 = .ok (.iload_n 2, 1) := by decide +kernel
theorem dX6_listen_5 : decode cX6_listen 5 = .ok (.bipush 12, 2) := by decide +kernel
theorem dX6_listen_7 : decode cX6_listen 7 = .ok (.if_icmp .ge 16, 3) := by decide +kernel
theorem dX6_listen_10 : decode cX6_listen 10 = .ok (.aload_n 0, 1) := by decide +kernel
theorem dX6_listen_11 : decode cX6_listen 11 = .ok (.getfield 35, 3) := by decide +kernel
theorem dX6_listen_14 : decode cX6_listen 14 = .ok (.iload_n 2, 1) := by decide +kernel
theorem dX6_listen_15 : decode cX6_listen 15 = .ok (.iconst 0, 1) := by decide +kernel
theorem dX6_listen_16 : decode cX6_listen 16 = .ok (.iastore, 1) := by decide +kernel
theorem dX6_listen_17 : decode cX6_listen 17 = .ok (.iinc 2 1, 3) := by decide +kernel
theorem dX6_listen_20 : decode cX6_listen 20 = .ok (.goto (-16), 3) := by decide +kernel
theorem dX6_listen_23 : decode cX6_listen 23 = .ok (.iconst 0, 1) := by decide +kernel
theorem dX6_listen_24 : decode cX6_listen 24 = .ok (.istore_n 2, 1) := by decide +kernel
theorem dX6_listen_25 : decode cX6_listen 25 = .ok (.iload_n 2, 1) := by decide +kernel
theorem dX6_listen_26 : decode cX6_listen 26 = .ok (.sipush 128, 3) := by decide +kernel
theorem dX6_listen_29 : decode cX6_listen 29 = .ok (.if_icmp .ge 58, 3) := by decide +kernel
theorem dX6_listen_32 : decode cX6_listen 32 = .ok (.aload_n 0, 1) := by decide +kernel
theorem dX6_listen_33 : decode cX6_listen 33 = .ok (.iload_n 2, 1) := by decide +kernel
theorem dX6_listen_34 : decode cX6_listen 34 = .ok (.invokevirtual 183, 3) := by decide +kernel
theorem dX6_listen_37 : decode cX6_listen 37 = .ok (.ifCond .eq 44, 3) := by decide +kernel
theorem dX6_listen_40 : decode cX6_listen 40 = .ok (.iinc 1 1, 3) := by decide +kernel
theorem dX6_listen_43 : decode cX6_listen 43 = .ok (.aload_n 0, 1) := by decide +kernel
theorem dX6_listen_44 : decode cX6_listen 44 = .ok (.iload_n 2, 1) := by decide +kernel
theorem dX6_listen_45 : decode cX6_listen 45 = .ok (.invokevirtual 174, 3) := by decide +kernel
theorem dX6_listen_48 : decode cX6_listen 48 = .ok (.istore_n 3, 1) := by decide +kernel
theorem dX6_listen_49 : decode cX6_listen 49 = .ok (.iconst 0, 1) := by decide +kernel
theorem dX6_listen_50 : decode cX6_listen 50 = .ok (.istore 4, 2) := by decide +kernel
theorem dX6_listen_52 : decode cX6_listen 52 = .ok (.iload 4, 2) := by decide +kernel
theorem dX6_listen_54 : decode cX6_listen 54 = .ok (.bipush 12, 2) := by decide +kernel
theorem dX6_listen_56 : decode cX6_listen 56 = .ok (.if_icmp .ge 25, 3) := by decide +kernel
theorem dX6_listen_59 : decode cX6_listen 59 = .ok (.aload_n 0, 1) := by decide +kernel
theorem dX6_listen_60 : decode cX6_listen 60 = .ok (.getfield 35, 3) := by decide +kernel
theorem dX6_listen_63 : decode cX6_listen 63 = .ok (.iload 4, 2) := by decide +kernel
theorem dX6_listen_65 : decode cX6_listen 65 = .ok (.dup2, 1) := by decide +kernel
theorem dX6_listen_66 : decode cX6_listen 66 = .ok (.iaload, 1) := by decide +kernel
theorem dX6_listen_67 : decode cX6_listen 67 = .ok (.iload_n 3, 1) := by decide +kernel
theorem dX6_listen_68 : decode cX6_listen 68 = .ok (.iload 4, 2) := by decide +kernel
theorem dX6_listen_70 : decode cX6_listen 70 = .ok (.ishr, 1) := by decide +kernel
theorem dX6_listen_71 : decode cX6_listen 71 = .ok (.iconst 1, 1) := by decide +kernel
theorem dX6_listen_72 : decode cX6_listen 72 = .ok (.iand, 1) := by decide +kernel
theorem dX6_listen_73 : decode cX6_listen 73 = .ok (.iadd, 1) := by decide +kernel
theorem dX6_listen_74 : decode cX6_listen 74 = .ok (.iastore, 1) := by decide +kernel
theorem dX6_listen_75 : decode cX6_listen 75 = .ok (.iinc 4 1, 3) := by decide +kernel
theorem dX6_listen_78 : decode cX6_listen 78 = .ok (.goto (-26), 3) := by decide +kernel
theorem dX6_listen_81 : decode cX6_listen 81 = .ok (.iinc 2 1, 3) := by decide +kernel
theorem dX6_listen_84 : decode cX6_listen 84 = .ok (.goto (-59), 3) := by decide +kernel
theorem dX6_listen_87 : decode cX6_listen 87 = .ok (.bipush (-9), 2) := by decide +kernel
theorem dX6_listen_89 : decode cX6_listen 89 = .ok (.istore_n 2, 1) := by decide +kernel
theorem dX6_listen_90 : decode cX6_listen 90 = .ok (.iload_n 1, 1) := by decide +kernel
theorem dX6_listen_91 : decode cX6_listen 91 = .ok (.istore_n 3, 1) := by decide +kernel
theorem dX6_listen_92 : decode cX6_listen 92 = .ok (.aload_n 0, 1) := by decide +kernel
theorem dX6_listen_93 : decode cX6_listen 93 = .ok (.getfield 7, 3) := by decide +kernel
theorem dX6_listen_96 : decode cX6_listen 96 = .ok (.iconst 0, 1) := by decide +kernel
theorem dX6_listen_97 : decode cX6_listen 97 = .ok (.iaload, 1) := by decide +kernel
theorem dX6_listen_98 : decode cX6_listen 98 = .ok (.iconst 1, 1) := by decide +kernel
theorem dX6_listen_99 : decode cX6_listen 99 = .ok (.isub, 1) := by decide +kernel
theorem dX6_listen_100 : decode cX6_listen 100 = .ok (.istore 4, 2) := by decide +kernel
theorem dX6_listen_102 : decode cX6_listen 102 = .ok (.iload 4, 2) := by decide +kernel
theorem dX6_listen_104 : decode cX6_listen 104 = .ok (.ifCond .lt 95, 3) := by decide +kernel
theorem dX6_listen_107 : decode cX6_listen 107 = .ok (.aload_n 0, 1) := by decide +kernel
theorem dX6_listen_108 : decode cX6_listen 108 = .ok (.getfield 35, 3) := by decide +kernel
theorem dX6_listen_111 : decode cX6_listen 111 = .ok (.iload 4, 2) := by decide +kernel
theorem dX6_listen_113 : decode cX6_listen 113 = .ok (.iaload, 1) := by decide +kernel
theorem dX6_listen_114 : decode cX6_listen 114 = .ok (.iload_n 1, 1) := by decide +kernel
theorem dX6_listen_115 : decode cX6_listen 115 = .ok (.aload_n 0, 1) := by decide +kernel
theorem dX6_listen_116 : decode cX6_listen 116 = .ok (.getfield 35, 3) := by decide +kernel
theorem dX6_listen_119 : decode cX6_listen 119 = .ok (.iload 4, 2) := by decide +kernel
theorem dX6_listen_121 : decode cX6_listen 121 = .ok (.iaload, 1) := by decide +kernel
theorem dX6_listen_122 : decode cX6_listen 122 = .ok (.isub, 1) := by decide +kernel
theorem dX6_listen_123 : decode cX6_listen 123 = .ok (.if_icmp .le 13, 3) := by decide +kernel
theorem dX6_listen_126 : decode cX6_listen 126 = .ok (.aload_n 0, 1) := by decide +kernel
theorem dX6_listen_127 : decode cX6_listen 127 = .ok (.getfield 35, 3) := by decide +kernel
theorem dX6_listen_130 : decode cX6_listen 130 = .ok (.iload 4, 2) := by decide +kernel
theorem dX6_listen_132 : decode cX6_listen 132 = .ok (.iaload, 1) := by decide +kernel
theorem dX6_listen_133 : decode cX6_listen 133 = .ok (.goto 12, 3) := by decide +kernel
theorem dX6_listen_136 : decode cX6_listen 136 = .ok (.iload_n 1, 1) := by decide +kernel
theorem dX6_listen_137 : decode cX6_listen 137 = .ok (.aload_n 0, 1) := by decide +kernel
theorem dX6_listen_138 : decode cX6_listen 138 = .ok (.getfield 35, 3) := by decide +kernel
theorem dX6_listen_141 : decode cX6_listen 141 = .ok (.iload 4, 2) := by decide +kernel
theorem dX6_listen_143 : decode cX6_listen 143 = .ok (.iaload, 1) := by decide +kernel
theorem dX6_listen_144 : decode cX6_listen 144 = .ok (.isub, 1) := by decide +kernel
theorem dX6_listen_145 : decode cX6_listen 145 = .ok (.istore 5, 2) := by decide +kernel
theorem dX6_listen_147 : decode cX6_listen 147 = .ok (.aload_n 0, 1) := by decide +kernel
theorem dX6_listen_148 : decode cX6_listen 148 = .ok (.iload 4, 2) := by decide +kernel
theorem dX6_listen_150 : decode cX6_listen 150 = .ok (.invokevirtual 110, 3) := by decide +kernel
theorem dX6_listen_153 : decode cX6_listen 153 = .ok (.ifCond .eq 13, 3) := by decide +kernel
theorem dX6_listen_156 : decode cX6_listen 156 = .ok (.iload 5, 2) := by decide +kernel
theorem dX6_listen_158 : decode cX6_listen 158 = .ok (.iload_n 3, 1) := by decide +kernel
theorem dX6_listen_159 : decode cX6_listen 159 = .ok (.if_icmp .gt 7, 3) := by decide +kernel
theorem dX6_listen_162 : decode cX6_listen 162 = .ok (.iconst 1, 1) := by decide +kernel
theorem dX6_listen_163 : decode cX6_listen 163 = .ok (.goto 4, 3) := by decide +kernel
theorem dX6_listen_166 : decode cX6_listen 166 = .ok (.iconst 0, 1) := by decide +kernel
theorem dX6_listen_167 : decode cX6_listen 167 = .ok (.istore 6, 2) := by decide +kernel
theorem dX6_listen_169 : decode cX6_listen 169 = .ok (.iload 6, 2) := by decide +kernel
theorem dX6_listen_171 : decode cX6_listen 171 = .ok (.ifCond .eq 8, 3) := by decide +kernel
theorem dX6_listen_174 : decode cX6_listen 174 = .ok (.iload 4, 2) := by decide +kernel
theorem dX6_listen_176 : decode cX6_listen 176 = .ok (.goto 4, 3) := by decide +kernel
theorem dX6_listen_179 : decode cX6_listen 179 = .ok (.iload_n 2, 1) := by decide +kernel
theorem dX6_listen_180 : decode cX6_listen 180 = .ok (.istore_n 2, 1) := by decide +kernel
theorem dX6_listen_181 : decode cX6_listen 181 = .ok (.iload 6, 2) := by decide +kernel
theorem dX6_listen_183 : decode cX6_listen 183 = .ok (.ifCond .eq 8, 3) := by decide +kernel
theorem dX6_listen_186 : decode cX6_listen 186 = .ok (.iload 5, 2) := by decide +kernel
theorem dX6_listen_188 : decode cX6_listen 188 = .ok (.goto 4, 3) := by decide +kernel
theorem dX6_listen_191 : decode cX6_listen 191 = .ok (.iload_n 3, 1) := by decide +kernel
theorem dX6_listen_192 : decode cX6_listen 192 = .ok (.istore_n 3, 1) := by decide +kernel
theorem dX6_listen_193 : decode cX6_listen 193 = .ok (.iinc 4 (-1), 3) := by decide +kernel
theorem dX6_listen_196 : decode cX6_listen 196 = .ok (.goto (-94), 3) := by decide +kernel
theorem dX6_listen_199 : decode cX6_listen 199 = .ok (.iload_n 1, 1) := by decide +kernel
theorem dX6_listen_200 : decode cX6_listen 200 = .ok (.iconst 1, 1) := by decide +kernel
theorem dX6_listen_201 : decode cX6_listen 201 = .ok (.if_icmp .le 7, 3) := by decide +kernel
theorem dX6_listen_204 : decode cX6_listen 204 = .ok (.iload_n 2, 1) := by decide +kernel
theorem dX6_listen_205 : decode cX6_listen 205 = .ok (.goto 5, 3) := by decide +kernel
theorem dX6_listen_208 : decode cX6_listen 208 = .ok (.bipush (-9), 2) := by decide +kernel
theorem dX6_listen_210 : decode cX6_listen 210 = .ok (.ireturn, 1) := by decide +kernel
set_option maxRecDepth 20000 in
theorem ggX6_keep_X6_within : GoodIn wsX6_keep wsX6_within := goodIn_r _ [7] (by decide +kernel) (by decide +kernel)
set_option maxRecDepth 20000 in
theorem gX6_keep_X6_within : GoodIn wsX6_keep (va_wsS RX6 52 yX6_within wsX6_within) := goodIn_app (goodIn_of _ (by decide +kernel)) ggX6_keep_X6_within
theorem dX6_keep_0 : decode cX6_keep 0 = .ok (.iload_n 1, 1) := by decide +kernel
theorem dX6_keep_1 : decode cX6_keep 1 = .ok (.iconst 0, 1) := by decide +kernel
theorem dX6_keep_2 : decode cX6_keep 2 = .ok (.iconst 1, 1) := by decide +kernel
theorem dX6_keep_3 : decode cX6_keep 3 = .ok (.invokestatic 52, 3) := by decide +kernel
theorem dX6_keep_6 : decode cX6_keep 6 = .ok (.ifCond .ne 5, 3) := by decide +kernel
theorem dX6_keep_9 : decode cX6_keep 9 = .ok (.iconst (-1), 1) := by decide +kernel
theorem dX6_keep_10 : decode cX6_keep 10 = .ok (.ireturn, 1) := by decide +kernel
theorem dX6_keep_11 : decode cX6_keep 11 = .ok (.iconst 0, 1) := by decide +kernel
theorem dX6_keep_12 : decode cX6_keep 12 = .ok (.istore_n 2, 1) := by decide +kernel
theorem dX6_keep_13 : decode cX6_keep 13 = .ok (.iload_n 2, 1) := by decide +kernel
theorem dX6_keep_14 : decode cX6_keep 14 = .ok (.bipush 17, 2) := by decide +kernel
theorem dX6_keep_16 : decode cX6_keep 16 = .ok (.if_icmp .ge 26, 3) := by decide +kernel
theorem dX6_keep_19 : decode cX6_keep 19 = .ok (.aload_n 0, 1) := by decide +kernel
theorem dX6_keep_20 : decode cX6_keep 20 = .ok (.getfield 19, 3) := by decide +kernel
theorem dX6_keep_23 : decode cX6_keep 23 = .ok (.bipush 17, 2) := by decide +kernel
theorem dX6_keep_25 : decode cX6_keep 25 = .ok (.iload_n 1, 1) := by decide +kernel
theorem dX6_keep_26 : decode cX6_keep 26 = .ok (.imul, 1) := by decide +kernel
theorem dX6_keep_27 : decode cX6_keep 27 = .ok (.iload_n 2, 1) := by decide +kernel
theorem dX6_keep_28 : decode cX6_keep 28 = .ok (.iadd, 1) := by decide +kernel
theorem dX6_keep_29 : decode cX6_keep 29 = .ok (.aload_n 0, 1) := by decide +kernel
theorem dX6_keep_30 : decode cX6_keep 30 = .ok (.getfield 7, 3) := by decide +kernel
theorem dX6_keep_33 : decode cX6_keep 33 = .ok (.iload_n 2, 1) := by decide +kernel
theorem dX6_keep_34 : decode cX6_keep 34 = .ok (.iaload, 1) := by decide +kernel
theorem dX6_keep_35 : decode cX6_keep 35 = .ok (.iastore, 1) := by decide +kernel
theorem dX6_keep_36 : decode cX6_keep 36 = .ok (.iinc 2 1, 3) := by decide +kernel
theorem dX6_keep_39 : decode cX6_keep 39 = .ok (.goto (-26), 3) := by decide +kernel
theorem dX6_keep_42 : decode cX6_keep 42 = .ok (.aload_n 0, 1) := by decide +kernel
theorem dX6_keep_43 : decode cX6_keep 43 = .ok (.getfield 22, 3) := by decide +kernel
theorem dX6_keep_46 : decode cX6_keep 46 = .ok (.iload_n 1, 1) := by decide +kernel
theorem dX6_keep_47 : decode cX6_keep 47 = .ok (.iconst 1, 1) := by decide +kernel
theorem dX6_keep_48 : decode cX6_keep 48 = .ok (.bastore, 1) := by decide +kernel
theorem dX6_keep_49 : decode cX6_keep 49 = .ok (.aload_n 0, 1) := by decide +kernel
theorem dX6_keep_50 : decode cX6_keep 50 = .ok (.getfield 7, 3) := by decide +kernel
theorem dX6_keep_53 : decode cX6_keep 53 = .ok (.iconst 0, 1) := by decide +kernel
theorem dX6_keep_54 : decode cX6_keep 54 = .ok (.iaload, 1) := by decide +kernel
theorem dX6_keep_55 : decode cX6_keep 55 = .ok (.ireturn, 1) := by decide +kernel
set_option maxRecDepth 20000 in
theorem ggX6_back_X6_within : GoodIn wsX6_back wsX6_within := goodIn_r _ [8] (by decide +kernel) (by decide +kernel)
set_option maxRecDepth 20000 in
theorem gX6_back_X6_within : GoodIn wsX6_back (va_wsS RX6 52 yX6_within wsX6_within) := goodIn_app (goodIn_of _ (by decide +kernel)) ggX6_back_X6_within
theorem dX6_back_0 : decode cX6_back 0 = .ok (.iload_n 1, 1) := by decide +kernel
theorem dX6_back_1 : decode cX6_back 1 = .ok (.iconst 0, 1) := by decide +kernel
theorem dX6_back_2 : decode cX6_back 2 = .ok (.iconst 1, 1) := by decide +kernel
theorem dX6_back_3 : decode cX6_back 3 = .ok (.invokestatic 52, 3) := by decide +kernel
theorem dX6_back_6 : decode cX6_back 6 = .ok (.ifCond .ne 5, 3) := by decide +kernel
theorem dX6_back_9 : decode cX6_back 9 = .ok (.iconst (-1), 1) := by decide +kernel
theorem dX6_back_10 : decode cX6_back 10 = .ok (.ireturn, 1) := by decide +kernel
theorem dX6_back_11 : decode cX6_back 11 = .ok (.aload_n 0, 1) := by decide +kernel
theorem dX6_back_12 : decode cX6_back 12 = .ok (.getfield 22, 3) := by decide +kernel
theorem dX6_back_15 : decode cX6_back 15 = .ok (.iload_n 1, 1) := by decide +kernel
theorem dX6_back_16 : decode cX6_back 16 = .ok (.baload, 1) := by decide +kernel
theorem dX6_back_17 : decode cX6_back 17 = .ok (.ifCond .ne 6, 3) := by decide +kernel
theorem dX6_back_20 : decode cX6_back 20 = .ok (.bipush (-2), 2) := by decide +kernel
theorem dX6_back_22 : decode cX6_back 22 = .ok (.ireturn, 1) := by decide +kernel
theorem dX6_back_23 : decode cX6_back 23 = .ok (.iconst 0, 1) := by decide +kernel
theorem dX6_back_24 : decode cX6_back 24 = .ok (.istore_n 2, 1) := by decide +kernel
theorem dX6_back_25 : decode cX6_back 25 = .ok (.iload_n 2, 1) := by decide +kernel
theorem dX6_back_26 : decode cX6_back 26 = .ok (.bipush 17, 2) := by decide +kernel
theorem dX6_back_28 : decode cX6_back 28 = .ok (.if_icmp .ge 26, 3) := by decide +kernel
theorem dX6_back_31 : decode cX6_back 31 = .ok (.aload_n 0, 1) := by decide +kernel
theorem dX6_back_32 : decode cX6_back 32 = .ok (.getfield 7, 3) := by decide +kernel
theorem dX6_back_35 : decode cX6_back 35 = .ok (.iload_n 2, 1) := by decide +kernel
theorem dX6_back_36 : decode cX6_back 36 = .ok (.aload_n 0, 1) := by decide +kernel
theorem dX6_back_37 : decode cX6_back 37 = .ok (.getfield 19, 3) := by decide +kernel
theorem dX6_back_40 : decode cX6_back 40 = .ok (.bipush 17, 2) := by decide +kernel
theorem dX6_back_42 : decode cX6_back 42 = .ok (.iload_n 1, 1) := by decide +kernel
theorem dX6_back_43 : decode cX6_back 43 = .ok (.imul, 1) := by decide +kernel
theorem dX6_back_44 : decode cX6_back 44 = .ok (.iload_n 2, 1) := by decide +kernel
theorem dX6_back_45 : decode cX6_back 45 = .ok (.iadd, 1) := by decide +kernel
theorem dX6_back_46 : decode cX6_back 46 = .ok (.iaload, 1) := by decide +kernel
theorem dX6_back_47 : decode cX6_back 47 = .ok (.iastore, 1) := by decide +kernel
theorem dX6_back_48 : decode cX6_back 48 = .ok (.iinc 2 1, 3) := by decide +kernel
theorem dX6_back_51 : decode cX6_back 51 = .ok (.goto (-26), 3) := by decide +kernel
theorem dX6_back_54 : decode cX6_back 54 = .ok (.aload_n 0, 1) := by decide +kernel
theorem dX6_back_55 : decode cX6_back 55 = .ok (.iconst 0, 1) := by decide +kernel
theorem dX6_back_56 : decode cX6_back 56 = .ok (.putfield 98, 3) := by decide +kernel
theorem dX6_back_59 : decode cX6_back 59 = .ok (.aload_n 0, 1) := by decide +kernel
theorem dX6_back_60 : decode cX6_back 60 = .ok (.getfield 7, 3) := by decide +kernel
theorem dX6_back_63 : decode cX6_back 63 = .ok (.iconst 0, 1) := by decide +kernel
theorem dX6_back_64 : decode cX6_back 64 = .ok (.iaload, 1) := by decide +kernel
theorem dX6_back_65 : decode cX6_back 65 = .ok (.ireturn, 1) := by decide +kernel
set_option maxRecDepth 20000 in
theorem ggX6_count_X6_notes : GoodIn wsX6_count wsX6_notes := goodIn_r _ [9, 1, 10, 11, 12, 8, 13, 14, 15, 16, 17, 18, 19, 20, 21, 22, 23, 24, 25, 26, 27, 28, 29, 30, 31, 32, 33, 34, 35] (by decide +kernel) (by decide +kernel)
set_option maxRecDepth 20000 in
theorem gX6_count_X6_notes : GoodIn wsX6_count (wsV RX6 135 RX6 yX6_notes wsX6_notes) := goodIn_app (goodIn_of _ (by decide +kernel)) ggX6_count_X6_notes
theorem dX6_count_0 : decode cX6_count 0 = .ok (.iload_n 1, 1) := by decide +kernel
theorem dX6_count_1 : decode cX6_count 1 = .ok (.tableswitch 95 0 7 #[47, 54, 59, 66, 73, 80, 85, 90], 47) := by decide +kernel
theorem dX6_count_48 : decode cX6_count 48 = .ok (.aload_n 0, 1) := by decide +kernel
theorem dX6_count_49 : decode cX6_count 49 = .ok (.getfield 7, 3) := by decide +kernel
theorem dX6_count_52 : decode cX6_count 52 = .ok (.iconst 0, 1) := by decide +kernel
theorem dX6_count_53 : decode cX6_count 53 = .ok (.iaload, 1) := by decide +kernel
theorem dX6_count_54 : decode cX6_count 54 = .ok (.ireturn, 1) := by decide +kernel
theorem dX6_count_55 : decode cX6_count 55 = .ok (.aload_n 0, 1) := by decide +kernel
theorem dX6_count_56 : decode cX6_count 56 = .ok (.invokevirtual 135, 3) := by decide +kernel
theorem dX6_count_59 : decode cX6_count 59 = .ok (.ireturn, 1) := by decide +kernel
theorem dX6_count_60 : decode cX6_count 60 = .ok (.aload_n 0, 1) := by decide +kernel
theorem dX6_count_61 : decode cX6_count 61 = .ok (.getfield 7, 3) := by decide +kernel
theorem dX6_count_64 : decode cX6_count 64 = .ok (.iconst 1, 1) := by decide +kernel
theorem dX6_count_65 : decode cX6_count 65 = .ok (.iaload, 1) := by decide +kernel
theorem dX6_count_66 : decode cX6_count 66 = .ok (.ireturn, 1) := by decide +kernel
theorem dX6_count_67 : decode cX6_count 67 = .ok (.aload_n 0, 1) := by decide +kernel
theorem dX6_count_68 : decode cX6_count 68 = .ok (.getfield 7, 3) := by decide +kernel
theorem dX6_count_71 : decode cX6_count 71 = .ok (.iconst 2, 1) := by decide +kernel
theorem dX6_count_72 : decode cX6_count 72 = .ok (.iaload, 1) := by decide +kernel
theorem dX6_count_73 : decode cX6_count 73 = .ok (.ireturn, 1) := by decide +kernel
theorem dX6_count_74 : decode cX6_count 74 = .ok (.aload_n 0, 1) := by decide +kernel
theorem dX6_count_75 : decode cX6_count 75 = .ok (.getfield 7, 3) := by decide +kernel
theorem dX6_count_78 : decode cX6_count 78 = .ok (.iconst 3, 1) := by decide +kernel
theorem dX6_count_79 : decode cX6_count 79 = .ok (.iaload, 1) := by decide +kernel
theorem dX6_count_80 : decode cX6_count 80 = .ok (.ireturn, 1) := by decide +kernel
theorem dX6_count_81 : decode cX6_count 81 = .ok (.aload_n 0, 1) := by decide +kernel
theorem dX6_count_82 : decode cX6_count 82 = .ok (.getfield 180, 3) := by decide +kernel
theorem dX6_count_85 : decode cX6_count 85 = .ok (.ireturn, 1) := by decide +kernel
theorem dX6_count_86 : decode cX6_count 86 = .ok (.aload_n 0, 1) := by decide +kernel
theorem dX6_count_87 : decode cX6_count 87 = .ok (.getfield 46, 3) := by decide +kernel
theorem dX6_count_90 : decode cX6_count 90 = .ok (.ireturn, 1) := by decide +kernel
theorem dX6_count_91 : decode cX6_count 91 = .ok (.aload_n 0, 1) := by decide +kernel
theorem dX6_count_92 : decode cX6_count 92 = .ok (.getfield 98, 3) := by decide +kernel
theorem dX6_count_95 : decode cX6_count 95 = .ok (.ireturn, 1) := by decide +kernel
theorem dX6_count_96 : decode cX6_count 96 = .ok (.iconst (-1), 1) := by decide +kernel
theorem dX6_count_97 : decode cX6_count 97 = .ok (.ireturn, 1) := by decide +kernel
theorem dJ6_bitCount_0f7a4_0 : decode cJ6_bitCount_0f7a4 0 = .ok (.iload_n 0, 1) := by decide +kernel
theorem dJ6_bitCount_0f7a4_1 : decode cJ6_bitCount_0f7a4 1 = .ok (.iload_n 0, 1) := by decide +kernel
theorem dJ6_bitCount_0f7a4_2 : decode cJ6_bitCount_0f7a4 2 = .ok (.iconst 1, 1) := by decide +kernel
theorem dJ6_bitCount_0f7a4_3 : decode cJ6_bitCount_0f7a4 3 = .ok (.iushr, 1) := by decide +kernel
theorem dJ6_bitCount_0f7a4_4 : decode cJ6_bitCount_0f7a4 4 = .ok (.ldc_w 265, 3) := by decide +kernel
theorem dJ6_bitCount_0f7a4_7 : decode cJ6_bitCount_0f7a4 7 = .ok (.iand, 1) := by decide +kernel
theorem dJ6_bitCount_0f7a4_8 : decode cJ6_bitCount_0f7a4 8 = .ok (.isub, 1) := by decide +kernel
theorem dJ6_bitCount_0f7a4_9 : decode cJ6_bitCount_0f7a4 9 = .ok (.istore_n 0, 1) := by decide +kernel
theorem dJ6_bitCount_0f7a4_10 : decode cJ6_bitCount_0f7a4 10 = .ok (.iload_n 0, 1) := by decide +kernel
theorem dJ6_bitCount_0f7a4_11 : decode cJ6_bitCount_0f7a4 11 = .ok (.ldc_w 266, 3) := by decide +kernel
theorem dJ6_bitCount_0f7a4_14 : decode cJ6_bitCount_0f7a4 14 = .ok (.iand, 1) := by decide +kernel
theorem dJ6_bitCount_0f7a4_15 : decode cJ6_bitCount_0f7a4 15 = .ok (.iload_n 0, 1) := by decide +kernel
theorem dJ6_bitCount_0f7a4_16 : decode cJ6_bitCount_0f7a4 16 = .ok (.iconst 2, 1) := by decide +kernel
theorem dJ6_bitCount_0f7a4_17 : decode cJ6_bitCount_0f7a4 17 = .ok (.iushr, 1) := by decide +kernel
theorem dJ6_bitCount_0f7a4_18 : decode cJ6_bitCount_0f7a4 18 = .ok (.ldc_w 266, 3) := by decide +kernel
theorem dJ6_bitCount_0f7a4_21 : decode cJ6_bitCount_0f7a4 21 = .ok (.iand, 1) := by decide +kernel
theorem dJ6_bitCount_0f7a4_22 : decode cJ6_bitCount_0f7a4 22 = .ok (.iadd, 1) := by decide +kernel
theorem dJ6_bitCount_0f7a4_23 : decode cJ6_bitCount_0f7a4 23 = .ok (.istore_n 0, 1) := by decide +kernel
theorem dJ6_bitCount_0f7a4_24 : decode cJ6_bitCount_0f7a4 24 = .ok (.iload_n 0, 1) := by decide +kernel
theorem dJ6_bitCount_0f7a4_25 : decode cJ6_bitCount_0f7a4 25 = .ok (.iload_n 0, 1) := by decide +kernel
theorem dJ6_bitCount_0f7a4_26 : decode cJ6_bitCount_0f7a4 26 = .ok (.iconst 4, 1) := by decide +kernel
theorem dJ6_bitCount_0f7a4_27 : decode cJ6_bitCount_0f7a4 27 = .ok (.iushr, 1) := by decide +kernel
theorem dJ6_bitCount_0f7a4_28 : decode cJ6_bitCount_0f7a4 28 = .ok (.iadd, 1) := by decide +kernel
theorem dJ6_bitCount_0f7a4_29 : decode cJ6_bitCount_0f7a4 29 = .ok (.ldc_w 267, 3) := by decide +kernel
theorem dJ6_bitCount_0f7a4_32 : decode cJ6_bitCount_0f7a4 32 = .ok (.iand, 1) := by decide +kernel
theorem dJ6_bitCount_0f7a4_33 : decode cJ6_bitCount_0f7a4 33 = .ok (.istore_n 0, 1) := by decide +kernel
theorem dJ6_bitCount_0f7a4_34 : decode cJ6_bitCount_0f7a4 34 = .ok (.iload_n 0, 1) := by decide +kernel
theorem dJ6_bitCount_0f7a4_35 : decode cJ6_bitCount_0f7a4 35 = .ok (.iload_n 0, 1) := by decide +kernel
theorem dJ6_bitCount_0f7a4_36 : decode cJ6_bitCount_0f7a4 36 = .ok (.bipush 8, 2) := by decide +kernel
theorem dJ6_bitCount_0f7a4_38 : decode cJ6_bitCount_0f7a4 38 = .ok (.iushr, 1) := by decide +kernel
theorem dJ6_bitCount_0f7a4_39 : decode cJ6_bitCount_0f7a4 39 = .ok (.iadd, 1) := by decide +kernel
theorem dJ6_bitCount_0f7a4_40 : decode cJ6_bitCount_0f7a4 40 = .ok (.istore_n 0, 1) := by decide +kernel
theorem dJ6_bitCount_0f7a4_41 : decode cJ6_bitCount_0f7a4 41 = .ok (.iload_n 0, 1) := by decide +kernel
theorem dJ6_bitCount_0f7a4_42 : decode cJ6_bitCount_0f7a4 42 = .ok (.iload_n 0, 1) := by decide +kernel
theorem dJ6_bitCount_0f7a4_43 : decode cJ6_bitCount_0f7a4 43 = .ok (.bipush 16, 2) := by decide +kernel
theorem dJ6_bitCount_0f7a4_45 : decode cJ6_bitCount_0f7a4 45 = .ok (.iushr, 1) := by decide +kernel
theorem dJ6_bitCount_0f7a4_46 : decode cJ6_bitCount_0f7a4 46 = .ok (.iadd, 1) := by decide +kernel
theorem dJ6_bitCount_0f7a4_47 : decode cJ6_bitCount_0f7a4 47 = .ok (.istore_n 0, 1) := by decide +kernel
theorem dJ6_bitCount_0f7a4_48 : decode cJ6_bitCount_0f7a4 48 = .ok (.iload_n 0, 1) := by decide +kernel
theorem dJ6_bitCount_0f7a4_49 : decode cJ6_bitCount_0f7a4 49 = .ok (.bipush 63, 2) := by decide +kernel
theorem dJ6_bitCount_0f7a4_51 : decode cJ6_bitCount_0f7a4 51 = .ok (.iand, 1) := by decide +kernel
theorem dJ6_bitCount_0f7a4_52 : decode cJ6_bitCount_0f7a4 52 = .ok (.ireturn, 1) := by decide +kernel
theorem dJ9_abs_0f7a4_0 : decode cJ9_abs_0f7a4 0 = .ok (.iload_n 0, 1) := by decide +kernel
theorem dJ9_abs_0f7a4_1 : decode cJ9_abs_0f7a4 1 = .ok (.ifCond .ge 8, 3) := by decide +kernel
theorem dJ9_abs_0f7a4_4 : decode cJ9_abs_0f7a4 4 = .ok (.iload_n 0, 1) := by decide +kernel
theorem dJ9_abs_0f7a4_5 : decode cJ9_abs_0f7a4 5 = .ok (.ineg, 1) := by decide +kernel
theorem dJ9_abs_0f7a4_6 : decode cJ9_abs_0f7a4 6 = .ok (.goto 4, 3) := by decide +kernel
theorem dJ9_abs_0f7a4_9 : decode cJ9_abs_0f7a4 9 = .ok (.iload_n 0, 1) := by decide +kernel
theorem dJ9_abs_0f7a4_10 : decode cJ9_abs_0f7a4 10 = .ok (.ireturn, 1) := by decide +kernel
theorem dJ9_max_7cf53_0 : decode cJ9_max_7cf53 0 = .ok (.iload_n 0, 1) := by decide +kernel
theorem dJ9_max_7cf53_1 : decode cJ9_max_7cf53 1 = .ok (.iload_n 1, 1) := by decide +kernel
theorem dJ9_max_7cf53_2 : decode cJ9_max_7cf53 2 = .ok (.if_icmp .lt 7, 3) := by decide +kernel
theorem dJ9_max_7cf53_5 : decode cJ9_max_7cf53 5 = .ok (.iload_n 0, 1) := by decide +kernel
theorem dJ9_max_7cf53_6 : decode cJ9_max_7cf53 6 = .ok (.goto 4, 3) := by decide +kernel
theorem dJ9_max_7cf53_9 : decode cJ9_max_7cf53 9 = .ok (.iload_n 1, 1) := by decide +kernel
theorem dJ9_max_7cf53_10 : decode cJ9_max_7cf53 10 = .ok (.ireturn, 1) := by decide +kernel
set_option maxRecDepth 20000 in
theorem ggJ0_length_8abf5_J0_coder_7d493 : GoodIn wsJ0_length_8abf5 wsJ0_coder_7d493 := goodIn_r _ [6, 7, 8] (by decide +kernel) (by decide +kernel)
set_option maxRecDepth 20000 in
theorem gJ0_length_8abf5_J0_coder_7d493 : GoodIn wsJ0_length_8abf5 (wsV RJ0 335 RJ0 yJ0_coder_7d493 wsJ0_coder_7d493) := goodIn_app (goodIn_of _ (by decide +kernel)) ggJ0_length_8abf5_J0_coder_7d493
theorem dJ0_length_8abf5_0 : decode cJ0_length_8abf5 0 = .ok (.aload_n 0, 1) := by decide +kernel
theorem dJ0_length_8abf5_1 : decode cJ0_length_8abf5 1 = .ok (.getfield 9, 3) := by decide +kernel
theorem dJ0_length_8abf5_4 : decode cJ0_length_8abf5 4 = .ok (.arraylength, 1) := by decide +kernel
theorem dJ0_length_8abf5_5 : decode cJ0_length_8abf5 5 = .ok (.aload_n 0, 1) := by decide +kernel
theorem dJ0_length_8abf5_6 : decode cJ0_length_8abf5 6 = .ok (.invokevirtual 335, 3) := by decide +kernel
theorem dJ0_length_8abf5_9 : decode cJ0_length_8abf5 9 = .ok (.ishr, 1) := by decide +kernel
theorem dJ0_length_8abf5_10 : decode cJ0_length_8abf5 10 = .ok (.ireturn, 1) := by decide +kernel
set_option maxRecDepth 20000 in
theorem ggJ0_charAt_5068e_J0_isLatin1_aae02 : GoodIn wsJ0_charAt_5068e wsJ0_isLatin1_aae02 := goodIn_r _ [6, 7, 8] (by decide +kernel) (by decide +kernel)
set_option maxRecDepth 20000 in
theorem gJ0_charAt_5068e_J0_isLatin1_aae02 : GoodIn wsJ0_charAt_5068e (wsV RJ0 492 RJ0 yJ0_isLatin1_aae02 wsJ0_isLatin1_aae02) := goodIn_app (goodIn_of _ (by decide +kernel)) ggJ0_charAt_5068e_J0_isLatin1_aae02
set_option maxRecDepth 20000 in
theorem ggJ0_charAt_5068e_J1_charAt_3b067 : GoodIn wsJ0_charAt_5068e wsJ1_charAt_3b067 := goodIn_r _ [12, 13, 14, 5, 15, 16, 17, 18, 19, 20] (by decide +kernel) (by decide +kernel)
set_option maxRecDepth 20000 in
theorem gJ0_charAt_5068e_J1_charAt_3b067 : GoodIn wsJ0_charAt_5068e (va_wsS RJ0 495 yJ1_charAt_3b067 wsJ1_charAt_3b067) := goodIn_app (goodIn_of _ (by decide +kernel)) ggJ0_charAt_5068e_J1_charAt_3b067
set_option maxRecDepth 20000 in
theorem ggJ0_charAt_5068e_J2_charAt_3b067 : GoodIn wsJ0_charAt_5068e wsJ2_charAt_3b067 := goodIn_r _ [24, 25, 26, 23, 27, 28, 29, 30, 31, 14, 5, 15, 16, 17, 18, 19, 20, 32, 33, 34, 35, 36, 37] (by decide +kernel) (by decide +kernel)
set_option maxRecDepth 20000 in
theorem gJ0_charAt_5068e_J2_charAt_3b067 : GoodIn wsJ0_charAt_5068e (va_wsS RJ0 498 yJ2_charAt_3b067 wsJ2_charAt_3b067) := goodIn_app (goodIn_of _ (by decide +kernel)) ggJ0_charAt_5068e_J2_charAt_3b067
theorem dJ0_charAt_5068e_0 : decode cJ0_charAt_5068e 0 = .ok (.aload_n 0, 1) := by decide +kernel
theorem dJ0_charAt_5068e_1 : decode cJ0_charAt_5068e 1 = .ok (.invokevirtual 492, 3) := by decide +kernel
theorem dJ0_charAt_5068e_4 : decode cJ0_charAt_5068e 4 = .ok (.ifCond .eq 12, 3) := by decide +kernel
theorem dJ0_charAt_5068e_7 : decode cJ0_charAt_5068e 7 = .ok (.aload_n 0, 1) := by decide +kernel
theorem dJ0_charAt_5068e_8 : decode cJ0_charAt_5068e 8 = .ok (.getfield 9, 3) := by decide +kernel
theorem dJ0_charAt_5068e_11 : decode cJ0_charAt_5068e 11 = .ok (.iload_n 1, 1) := by decide +kernel
theorem dJ0_charAt_5068e_12 : decode cJ0_charAt_5068e 12 = .ok (.invokestatic 495, 3) := by decide +kernel
theorem dJ0_charAt_5068e_15 : decode cJ0_charAt_5068e 15 = .ok (.ireturn, 1) := by decide +kernel
theorem dJ0_charAt_5068e_16 : decode cJ0_charAt_5068e 16 = .ok (.aload_n 0, 1) := by decide +kernel
theorem dJ0_charAt_5068e_17 : decode cJ0_charAt_5068e 17 = .ok (.getfield 9, 3) := by decide +kernel
theorem dJ0_charAt_5068e_20 : decode cJ0_charAt_5068e 20 = .ok (.iload_n 1, 1) := by decide +kernel
theorem dJ0_charAt_5068e_21 : decode cJ0_charAt_5068e 21 = .ok (.invokestatic 498, 3) := by decide +kernel
theorem dJ0_charAt_5068e_24 : decode cJ0_charAt_5068e 24 = .ok (.ireturn, 1) := by decide +kernel
theorem dJ0_coder_7d493_0 : decode cJ0_coder_7d493 0 = .ok (.getstatic 38, 3) := by decide +kernel
theorem dJ0_coder_7d493_3 : decode cJ0_coder_7d493 3 = .ok (.ifCond .eq 10, 3) := by decide +kernel
theorem dJ0_coder_7d493_6 : decode cJ0_coder_7d493 6 = .ok (.aload_n 0, 1) := by decide +kernel
theorem dJ0_coder_7d493_7 : decode cJ0_coder_7d493 7 = .ok (.getfield 15, 3) := by decide +kernel
theorem dJ0_coder_7d493_10 : decode cJ0_coder_7d493 10 = .ok (.goto 4, 3) := by decide +kernel
theorem dJ0_coder_7d493_13 : decode cJ0_coder_7d493 13 = .ok (.iconst 1, 1) := by decide +kernel
theorem dJ0_coder_7d493_14 : decode cJ0_coder_7d493 14 = .ok (.ireturn, 1) := by decide +kernel
theorem dJ0_isLatin1_aae02_0 : decode cJ0_isLatin1_aae02 0 = .ok (.getstatic 38, 3) := by decide +kernel
theorem dJ0_isLatin1_aae02_3 : decode cJ0_isLatin1_aae02 3 = .ok (.ifCond .eq 14, 3) := by decide +kernel
theorem dJ0_isLatin1_aae02_6 : decode cJ0_isLatin1_aae02 6 = .ok (.aload_n 0, 1) := by decide +kernel
theorem dJ0_isLatin1_aae02_7 : decode cJ0_isLatin1_aae02 7 = .ok (.getfield 15, 3) := by decide +kernel
theorem dJ0_isLatin1_aae02_10 : decode cJ0_isLatin1_aae02 10 = .ok (.ifCond .ne 7, 3) := by decide +kernel
theorem dJ0_isLatin1_aae02_13 : decode cJ0_isLatin1_aae02 13 = .ok (.iconst 1, 1) := by decide +kernel
theorem dJ0_isLatin1_aae02_14 : decode cJ0_isLatin1_aae02 14 = .ok (.goto 4, 3) := by decide +kernel
theorem dJ0_isLatin1_aae02_17 : decode cJ0_isLatin1_aae02 17 = .ok (.iconst 0, 1) := by decide +kernel
theorem dJ0_isLatin1_aae02_18 : decode cJ0_isLatin1_aae02 18 = .ok (.ireturn, 1) := by decide +kernel
set_option maxRecDepth 20000 in
theorem ggJ0_checkIndex_df160_J3_checkIndex_8e157 : GoodIn wsJ0_checkIndex_df160 wsJ3_checkIndex_8e157 := goodIn_r _ [5] (by decide +kernel) (by decide +kernel)
set_option maxRecDepth 20000 in
theorem gJ0_checkIndex_df160_J3_checkIndex_8e157 : GoodIn wsJ0_checkIndex_df160 (va_wsS RJ0 1059 yJ3_checkIndex_8e157 wsJ3_checkIndex_8e157) := goodIn_app (goodIn_of _ (by decide +kernel)) ggJ0_checkIndex_df160_J3_checkIndex_8e157
theorem dJ0_checkIndex_df160_0 : decode cJ0_checkIndex_df160 0 = .ok (.iload_n 0, 1) := by decide +kernel
theorem dJ0_checkIndex_df160_1 : decode cJ0_checkIndex_df160 1 = .ok (.iload_n 1, 1) := by decide +kernel
theorem dJ0_checkIndex_df160_2 : decode cJ0_checkIndex_df160 2 = .ok (.getstatic 1053, 3) := by decide +kernel
theorem dJ0_checkIndex_df160_5 : decode cJ0_checkIndex_df160 5 = .ok (.invokestatic 1059, 3) := by decide +kernel
theorem dJ0_checkIndex_df160_8 : decode cJ0_checkIndex_df160 8 = .ok (.pop, 1) := by decide +kernel
theorem dJ0_checkIndex_df160_9 : decode cJ0_checkIndex_df160 9 = .ok (.return_, 1) := by decide +kernel
set_option maxRecDepth 20000 in
theorem ggJ1_charAt_3b067_J0_checkIndex_df160 : GoodIn wsJ1_charAt_3b067 wsJ0_checkIndex_df160 := goodIn_r _ [4, 5, 6, 7, 8, 9] (by decide +kernel) (by decide +kernel)
set_option maxRecDepth 20000 in
theorem gJ1_charAt_3b067_J0_checkIndex_df160 : GoodIn wsJ1_charAt_3b067 (va_wsS RJ1 9 yJ0_checkIndex_df160 wsJ0_checkIndex_df160) := goodIn_app (goodIn_of _ (by decide +kernel)) ggJ1_charAt_3b067_J0_checkIndex_df160
theorem dJ1_charAt_3b067_0 : decode cJ1_charAt_3b067 0 = .ok (.iload_n 1, 1) := by decide +kernel
theorem dJ1_charAt_3b067_1 : decode cJ1_charAt_3b067 1 = .ok (.aload_n 0, 1) := by decide +kernel
theorem dJ1_charAt_3b067_2 : decode cJ1_charAt_3b067 2 = .ok (.arraylength, 1) := by decide +kernel
theorem dJ1_charAt_3b067_3 : decode cJ1_charAt_3b067 3 = .ok (.invokestatic 9, 3) := by decide +kernel
theorem dJ1_charAt_3b067_6 : decode cJ1_charAt_3b067 6 = .ok (.aload_n 0, 1) := by decide +kernel
theorem dJ1_charAt_3b067_7 : decode cJ1_charAt_3b067 7 = .ok (.iload_n 1, 1) := by decide +kernel
theorem dJ1_charAt_3b067_8 : decode cJ1_charAt_3b067 8 = .ok (.baload, 1) := by decide +kernel
theorem dJ1_charAt_3b067_9 : decode cJ1_charAt_3b067 9 = .ok (.sipush 255, 3) := by decide +kernel
theorem dJ1_charAt_3b067_12 : decode cJ1_charAt_3b067 12 = .ok (.iand, 1) := by decide +kernel
theorem dJ1_charAt_3b067_13 : decode cJ1_charAt_3b067 13 = .ok (.i2c, 1) := by decide +kernel
theorem dJ1_charAt_3b067_14 : decode cJ1_charAt_3b067 14 = .ok (.ireturn, 1) := by decide +kernel
set_option maxRecDepth 20000 in
theorem ggJ2_getChar_3b067_J2_length_9d52b : GoodIn wsJ2_getChar_3b067 wsJ2_length_9d52b := goodIn_r _ [7] (by decide +kernel) (by decide +kernel)
set_option maxRecDepth 20000 in
theorem gJ2_getChar_3b067_J2_length_9d52b : GoodIn wsJ2_getChar_3b067 (va_wsS RJ2 48 yJ2_length_9d52b wsJ2_length_9d52b) := goodIn_app (goodIn_of _ (by decide +kernel)) ggJ2_getChar_3b067_J2_length_9d52b
theorem dJ2_getChar_3b067_0 : decode cJ2_getChar_3b067 0 = .ok (.getstatic 44, 3) := by decide +kernel
theorem dJ2_getChar_3b067_3 : decode cJ2_getChar_3b067 3 = .ok (.ifCond .ne 25, 3) := by decide +kernel
theorem dJ2_getChar_3b067_6 : decode cJ2_getChar_3b067 6 = .ok (.iload_n 1, 1) := by decide +kernel
theorem dJ2_getChar_3b067_7 : decode cJ2_getChar_3b067 7 = .ok (.ifCond .lt 11, 3) := by decide +kernel
theorem dJ2_getChar_3b067_10 : decode cJ2_getChar_3b067 10 = .ok (.iload_n 1, 1) := by decide +kernel
theorem dJ2_getChar_3b067_11 : decode cJ2_getChar_3b067 11 = .ok (.aload_n 0, 1) := by decide +kernel
theorem dJ2_getChar_3b067_12 : decode cJ2_getChar_3b067 12 = .ok (.invokestatic 48, 3) := by decide +kernel
theorem dJ2_getChar_3b067_15 : decode cJ2_getChar_3b067 15 = .ok (.if_icmp .lt 13, 3) := by decide +kernel
theorem dJ2_getChar_3b067_18 : decode cJ2_getChar_3b067 18 = .ok (.new 52, 3) := by decide +kernel
theorem dJ2_getChar_3b067_21 : decode cJ2_getChar_3b067 21 = .ok (.dup, 1) := by decide +kernel
theorem dJ2_getChar_3b067_22 : decode cJ2_getChar_3b067 22 = .ok (.ldc 54, 2) := by decide +kernel
theorem dJ2_getChar_3b067_24 : decode cJ2_getChar_3b067 24 = .ok (.invokespecial 56, 3) := by decide +kernel
theorem dJ2_getChar_3b067_27 : decode cJ2_getChar_3b067 27 = .ok (.athrow, 1) := by decide +kernel
theorem dJ2_getChar_3b067_28 : decode cJ2_getChar_3b067 28 = .ok (.iload_n 1, 1) := by decide +kernel
theorem dJ2_getChar_3b067_29 : decode cJ2_getChar_3b067 29 = .ok (.iconst 1, 1) := by decide +kernel
theorem dJ2_getChar_3b067_30 : decode cJ2_getChar_3b067 30 = .ok (.ishl, 1) := by decide +kernel
theorem dJ2_getChar_3b067_31 : decode cJ2_getChar_3b067 31 = .ok (.istore_n 1, 1) := by decide +kernel
theorem dJ2_getChar_3b067_32 : decode cJ2_getChar_3b067 32 = .ok (.aload_n 0, 1) := by decide +kernel
theorem dJ2_getChar_3b067_33 : decode cJ2_getChar_3b067 33 = .ok (.iload_n 1, 1) := by decide +kernel
theorem dJ2_getChar_3b067_34 : decode cJ2_getChar_3b067 34 = .ok (.iinc 1 1, 3) := by decide +kernel
theorem dJ2_getChar_3b067_37 : decode cJ2_getChar_3b067 37 = .ok (.baload, 1) := by decide +kernel
theorem dJ2_getChar_3b067_38 : decode cJ2_getChar_3b067 38 = .ok (.sipush 255, 3) := by decide +kernel
theorem dJ2_getChar_3b067_41 : decode cJ2_getChar_3b067 41 = .ok (.iand, 1) := by decide +kernel
theorem dJ2_getChar_3b067_42 : decode cJ2_getChar_3b067 42 = .ok (.getstatic 59, 3) := by decide +kernel
theorem dJ2_getChar_3b067_45 : decode cJ2_getChar_3b067 45 = .ok (.ishl, 1) := by decide +kernel
theorem dJ2_getChar_3b067_46 : decode cJ2_getChar_3b067 46 = .ok (.aload_n 0, 1) := by decide +kernel
theorem dJ2_getChar_3b067_47 : decode cJ2_getChar_3b067 47 = .ok (.iload_n 1, 1) := by decide +kernel
theorem dJ2_getChar_3b067_48 : decode cJ2_getChar_3b067 48 = .ok (.baload, 1) := by decide +kernel
theorem dJ2_getChar_3b067_49 : decode cJ2_getChar_3b067 49 = .ok (.sipush 255, 3) := by decide +kernel
theorem dJ2_getChar_3b067_52 : decode cJ2_getChar_3b067 52 = .ok (.iand, 1) := by decide +kernel
theorem dJ2_getChar_3b067_53 : decode cJ2_getChar_3b067 53 = .ok (.getstatic 63, 3) := by decide +kernel
theorem dJ2_getChar_3b067_56 : decode cJ2_getChar_3b067 56 = .ok (.ishl, 1) := by decide +kernel
theorem dJ2_getChar_3b067_57 : decode cJ2_getChar_3b067 57 = .ok (.ior, 1) := by decide +kernel
theorem dJ2_getChar_3b067_58 : decode cJ2_getChar_3b067 58 = .ok (.i2c, 1) := by decide +kernel
theorem dJ2_getChar_3b067_59 : decode cJ2_getChar_3b067 59 = .ok (.ireturn, 1) := by decide +kernel
theorem dJ2_length_9d52b_0 : decode cJ2_length_9d52b 0 = .ok (.aload_n 0, 1) := by decide +kernel
theorem dJ2_length_9d52b_1 : decode cJ2_length_9d52b 1 = .ok (.arraylength, 1) := by decide +kernel
theorem dJ2_length_9d52b_2 : decode cJ2_length_9d52b 2 = .ok (.iconst 1, 1) := by decide +kernel
theorem dJ2_length_9d52b_3 : decode cJ2_length_9d52b 3 = .ok (.ishr, 1) := by decide +kernel
theorem dJ2_length_9d52b_4 : decode cJ2_length_9d52b 4 = .ok (.ireturn, 1) := by decide +kernel
set_option maxRecDepth 20000 in
theorem ggJ2_charAt_3b067_J2_checkIndex_2214a : GoodIn wsJ2_charAt_3b067 wsJ2_checkIndex_2214a := goodIn_r _ [4, 5, 6, 3, 7, 8, 9, 10, 11, 12, 13, 14, 15, 16] (by decide +kernel) (by decide +kernel)
set_option maxRecDepth 20000 in
theorem gJ2_charAt_3b067_J2_checkIndex_2214a : GoodIn wsJ2_charAt_3b067 (va_wsS RJ2 67 yJ2_checkIndex_2214a wsJ2_checkIndex_2214a) := goodIn_app (goodIn_of _ (by decide +kernel)) ggJ2_charAt_3b067_J2_checkIndex_2214a
set_option maxRecDepth 20000 in
theorem ggJ2_charAt_3b067_J2_getChar_3b067 : GoodIn wsJ2_charAt_3b067 wsJ2_getChar_3b067 := goodIn_r _ [19, 20, 21, 22, 5, 6, 3, 7] (by decide +kernel) (by decide +kernel)
set_option maxRecDepth 20000 in
theorem gJ2_charAt_3b067_J2_getChar_3b067 : GoodIn wsJ2_charAt_3b067 (va_wsS RJ2 71 yJ2_getChar_3b067 wsJ2_getChar_3b067) := goodIn_app (goodIn_of _ (by decide +kernel)) ggJ2_charAt_3b067_J2_getChar_3b067
theorem dJ2_charAt_3b067_0 : decode cJ2_charAt_3b067 0 = .ok (.iload_n 1, 1) := by decide +kernel
theorem dJ2_charAt_3b067_1 : decode cJ2_charAt_3b067 1 = .ok (.aload_n 0, 1) := by decide +kernel
theorem dJ2_charAt_3b067_2 : decode cJ2_charAt_3b067 2 = .ok (.invokestatic 67, 3) := by decide +kernel
theorem dJ2_charAt_3b067_5 : decode cJ2_charAt_3b067 5 = .ok (.aload_n 0, 1) := by decide +kernel
theorem dJ2_charAt_3b067_6 : decode cJ2_charAt_3b067 6 = .ok (.iload_n 1, 1) := by decide +kernel
theorem dJ2_charAt_3b067_7 : decode cJ2_charAt_3b067 7 = .ok (.invokestatic 71, 3) := by decide +kernel
theorem dJ2_charAt_3b067_10 : decode cJ2_charAt_3b067 10 = .ok (.ireturn, 1) := by decide +kernel
set_option maxRecDepth 20000 in
theorem ggJ2_checkIndex_2214a_J2_length_9d52b : GoodIn wsJ2_checkIndex_2214a wsJ2_length_9d52b := goodIn_r _ [4] (by decide +kernel) (by decide +kernel)
set_option maxRecDepth 20000 in
theorem gJ2_checkIndex_2214a_J2_length_9d52b : GoodIn wsJ2_checkIndex_2214a (va_wsS RJ2 48 yJ2_length_9d52b wsJ2_length_9d52b) := goodIn_app (goodIn_of _ (by decide +kernel)) ggJ2_checkIndex_2214a_J2_length_9d52b
set_option maxRecDepth 20000 in
theorem ggJ2_checkIndex_2214a_J0_checkIndex_df160 : GoodIn wsJ2_checkIndex_2214a wsJ0_checkIndex_df160 := goodIn_r _ [8, 9, 10, 11, 12, 13] (by decide +kernel) (by decide +kernel)
set_option maxRecDepth 20000 in
theorem gJ2_checkIndex_2214a_J0_checkIndex_df160 : GoodIn wsJ2_checkIndex_2214a (va_wsS RJ2 414 yJ0_checkIndex_df160 wsJ0_checkIndex_df160) := goodIn_app (goodIn_of _ (by decide +kernel)) ggJ2_checkIndex_2214a_J0_checkIndex_df160
theorem dJ2_checkIndex_2214a_0 : decode cJ2_checkIndex_2214a 0 = .ok (.iload_n 0, 1) := by decide +kernel
theorem dJ2_checkIndex_2214a_1 : decode cJ2_checkIndex_2214a 1 = .ok (.aload_n 1, 1) := by decide +kernel
theorem dJ2_checkIndex_2214a_2 : decode cJ2_checkIndex_2214a 2 = .ok (.invokestatic 48, 3) := by decide +kernel
theorem dJ2_checkIndex_2214a_5 : decode cJ2_checkIndex_2214a 5 = .ok (.invokestatic 414, 3) := by decide +kernel
theorem dJ2_checkIndex_2214a_8 : decode cJ2_checkIndex_2214a 8 = .ok (.return_, 1) := by decide +kernel
theorem dJ7_fill_53178_0 : decode cJ7_fill_53178 0 = .ok (.iconst 0, 1) := by decide +kernel
theorem dJ7_fill_53178_1 : decode cJ7_fill_53178 1 = .ok (.istore_n 2, 1) := by decide +kernel
theorem dJ7_fill_53178_2 : decode cJ7_fill_53178 2 = .ok (.aload_n 0, 1) := by decide +kernel
theorem dJ7_fill_53178_3 : decode cJ7_fill_53178 3 = .ok (.arraylength, 1) := by decide +kernel
theorem dJ7_fill_53178_4 : decode cJ7_fill_53178 4 = .ok (.istore_n 3, 1) := by decide +kernel
theorem dJ7_fill_53178_5 : decode cJ7_fill_53178 5 = .ok (.iload_n 2, 1) := by decide +kernel
theorem dJ7_fill_53178_6 : decode cJ7_fill_53178 6 = .ok (.iload_n 3, 1) := by decide +kernel
theorem dJ7_fill_53178_7 : decode cJ7_fill_53178 7 = .ok (.if_icmp .ge 13, 3) := by decide +kernel
theorem dJ7_fill_53178_10 : decode cJ7_fill_53178 10 = .ok (.aload_n 0, 1) := by decide +kernel
theorem dJ7_fill_53178_11 : decode cJ7_fill_53178 11 = .ok (.iload_n 2, 1) := by decide +kernel
theorem dJ7_fill_53178_12 : decode cJ7_fill_53178 12 = .ok (.iload_n 1, 1) := by decide +kernel
theorem dJ7_fill_53178_13 : decode cJ7_fill_53178 13 = .ok (.iastore, 1) := by decide +kernel
theorem dJ7_fill_53178_14 : decode cJ7_fill_53178 14 = .ok (.iinc 2 1, 3) := by decide +kernel
theorem dJ7_fill_53178_17 : decode cJ7_fill_53178 17 = .ok (.goto (-12), 3) := by decide +kernel
theorem dJ7_fill_53178_20 : decode cJ7_fill_53178 20 = .ok (.return_, 1) := by decide +kernel
theorem dJ3_checkIndex_8e157_0 : decode cJ3_checkIndex_8e157 0 = .ok (.iload_n 0, 1) := by decide +kernel
theorem dJ3_checkIndex_8e157_1 : decode cJ3_checkIndex_8e157 1 = .ok (.ifCond .lt 8, 3) := by decide +kernel
theorem dJ3_checkIndex_8e157_4 : decode cJ3_checkIndex_8e157 4 = .ok (.iload_n 0, 1) := by decide +kernel
theorem dJ3_checkIndex_8e157_5 : decode cJ3_checkIndex_8e157 5 = .ok (.iload_n 1, 1) := by decide +kernel
theorem dJ3_checkIndex_8e157_6 : decode cJ3_checkIndex_8e157 6 = .ok (.if_icmp .lt 10, 3) := by decide +kernel
theorem dJ3_checkIndex_8e157_9 : decode cJ3_checkIndex_8e157 9 = .ok (.aload_n 2, 1) := by decide +kernel
theorem dJ3_checkIndex_8e157_10 : decode cJ3_checkIndex_8e157 10 = .ok (.iload_n 0, 1) := by decide +kernel
theorem dJ3_checkIndex_8e157_11 : decode cJ3_checkIndex_8e157 11 = .ok (.iload_n 1, 1) := by decide +kernel
theorem dJ3_checkIndex_8e157_12 : decode cJ3_checkIndex_8e157 12 = .ok (.invokestatic 95, 3) := by decide +kernel
theorem dJ3_checkIndex_8e157_15 : decode cJ3_checkIndex_8e157 15 = .ok (.athrow, 1) := by decide +kernel
theorem dJ3_checkIndex_8e157_16 : decode cJ3_checkIndex_8e157 16 = .ok (.iload_n 0, 1) := by decide +kernel
theorem dJ3_checkIndex_8e157_17 : decode cJ3_checkIndex_8e157 17 = .ok (.ireturn, 1) := by decide +kernel
end
section
set_option maxRecDepth 20000 in
theorem ggL_law_X5_init : GoodIn wsL_law wsX5_init := goodIn_r _ [8, 9, 10, 11, 12, 13, 14, 15, 16, 17, 18, 19, 20, 21, 22, 23, 24, 25, 26, 27, 28, 29, 30, 31, 32, 33, 34, 35, 36, 37, 38, 39, 40, 41, 42, 43, 44, 45, 46, 47, 48, 49, 50, 51, 52, 53, 54, 55, 56, 57, 58, 59, 60, 61, 62, 63, 64, 65, 66, 67, 68, 69, 70, 71, 72, 73, 74, 75, 76, 784, 785, 786, 787, 788, 789, 790, 760, 761, 762, 763, 764, 765, 766, 767, 768, 791, 792, 793, 794, 795, 796, 797, 798, 799, 800, 801, 802, 803, 804, 805, 806, 807] (by decide +kernel) (by decide +kernel)
set_option maxRecDepth 20000 in
theorem gL_law_X5_init : GoodIn wsL_law (wsX5_init) := ggL_law_X5_init
set_option maxRecDepth 20000 in
theorem ggL_law_X6_init : GoodIn wsL_law wsX6_init := goodIn_r _ [79, 80, 10, 11, 37, 81, 82, 83, 84, 85, 86, 87, 88, 89, 90, 91, 92, 5, 93, 769, 770, 771, 772, 773, 774, 775, 776, 777, 778, 779, 780, 781, 782, 783] (by decide +kernel) (by decide +kernel)
set_option maxRecDepth 20000 in
theorem gL_law_X6_init : GoodIn wsL_law (wsX6_init) := ggL_law_X6_init
set_option maxRecDepth 20000 in
theorem ggL_law_X5_type : GoodIn wsL_law wsX5_type := goodIn_r _ [97, 19, 98, 99, 100, 101, 18, 102, 103, 58, 760, 761, 762, 763, 764, 765, 766, 767, 768, 791, 792, 793, 794, 795, 796, 797, 798] (by decide +kernel) (by decide +kernel)
set_option maxRecDepth 20000 in
theorem gL_law_X5_type : GoodIn wsL_law (wsV RL 13 RX5 yX5_type wsX5_type) := goodIn_app (goodIn_of _ (by decide +kernel)) ggL_law_X5_type
set_option maxRecDepth 20000 in
theorem ggL_law_X6_type : GoodIn wsL_law wsX6_type := goodIn_r _ [107, 108, 89, 109, 110, 5, 111, 769, 770, 771, 772, 773, 774, 775, 776, 777, 778, 779, 780, 781, 782, 783] (by decide +kernel) (by decide +kernel)
set_option maxRecDepth 20000 in
theorem gL_law_X6_type : GoodIn wsL_law (wsV RL 17 RX6 yX6_type wsX6_type) := goodIn_app (goodIn_of _ (by decide +kernel)) ggL_law_X6_type
set_option maxRecDepth 20000 in
theorem ggL_law_X5_clear : GoodIn wsL_law wsX5_clear := goodIn_r _ [115, 19, 98, 760, 761, 762, 763, 764, 765, 766, 767, 768, 791, 792, 793, 794, 795, 796, 797, 798] (by decide +kernel) (by decide +kernel)
set_option maxRecDepth 20000 in
theorem gL_law_X5_clear : GoodIn wsL_law (wsV RL 18 RX5 yX5_clear wsX5_clear) := goodIn_app (goodIn_of _ (by decide +kernel)) ggL_law_X5_clear
set_option maxRecDepth 20000 in
theorem ggL_law_X6_clear : GoodIn wsL_law wsX6_clear := goodIn_r _ [119, 108, 769, 770, 771, 772, 773, 774, 775, 776, 777, 778, 779, 780, 781, 782, 783] (by decide +kernel) (by decide +kernel)
set_option maxRecDepth 20000 in
theorem gL_law_X6_clear : GoodIn wsL_law (wsV RL 22 RX6 yX6_clear wsX6_clear) := goodIn_app (goodIn_of _ (by decide +kernel)) ggL_law_X6_clear
set_option maxRecDepth 20000 in
theorem ggL_law_X5_tells : GoodIn wsL_law wsX5_tells := goodIn_r _ [123, 19, 23, 15, 124, 98, 125, 126, 127, 18, 128, 57, 129, 130, 131, 132, 133, 134, 40, 41, 14, 42, 38, 43, 44, 45, 46, 47, 48, 49, 50, 51, 52, 135, 136, 137, 138, 103, 139, 140, 141, 142, 143, 144, 145, 146, 58, 147, 148, 149, 150, 151, 152, 153, 154, 155, 156, 157, 158, 159, 160, 161, 162, 163, 164, 165, 166, 167, 168, 169, 170, 171, 172, 173, 174, 175, 176, 177, 178, 179, 180, 181, 182, 183, 184, 185, 186, 187, 188, 189, 190, 191, 192, 193, 194, 195, 196, 197, 198, 199, 200, 201, 202, 203, 204, 205, 206, 207, 208, 209, 210, 211, 212, 213, 214, 215, 216, 217, 218, 219, 220, 221, 222, 223, 224, 225, 226, 227, 228, 229, 230, 231, 232, 233, 234, 235, 2, 236, 237, 238, 239, 240, 241, 242, 243, 244, 245, 246, 247, 248, 249, 250, 251, 22, 252, 253, 65, 254, 255, 256, 257, 258, 259, 260, 261, 262, 263, 264, 265, 266, 760, 761, 762, 763, 764, 765, 766, 767, 768, 791, 792, 793, 794, 795, 796, 797, 798, 784, 785, 786, 787, 788, 789, 790, 799, 800] (by decide +kernel) (by decide +kernel)
set_option maxRecDepth 20000 in
theorem gL_law_X5_tells : GoodIn wsL_law (wsV RL 23 RX5 yX5_tells wsX5_tells) := goodIn_app (goodIn_of _ (by decide +kernel)) ggL_law_X5_tells
set_option maxRecDepth 20000 in
theorem ggL_law_X6_tells : GoodIn wsL_law wsX6_tells := goodIn_r _ [270, 271, 81, 82, 108, 272, 273, 274, 5, 275, 276, 277, 91, 92, 93, 278, 279, 280, 281, 89, 282, 283, 284, 285, 286, 287, 288, 289, 290, 291, 292, 293, 109, 110, 111, 294, 295, 296, 297, 298, 299, 300, 301, 302, 303, 304, 305, 306, 307, 308, 309, 310, 311, 312, 313, 314, 315, 316, 317, 318, 319, 320, 321, 322, 323, 324, 83, 769, 770, 771, 772, 773, 774, 775, 776, 777, 778, 779, 780, 781, 782, 783] (by decide +kernel) (by decide +kernel)
set_option maxRecDepth 20000 in
theorem gL_law_X6_tells : GoodIn wsL_law (wsV RL 26 RX6 yX6_tells wsX6_tells) := goodIn_app (goodIn_of _ (by decide +kernel)) ggL_law_X6_tells
set_option maxRecDepth 20000 in
theorem ggL_law_X5_gives : GoodIn wsL_law wsX5_gives := goodIn_r _ [328, 15, 23, 329, 330, 331, 332, 14, 333, 43, 44, 334, 235, 2, 236, 335, 336, 337, 338, 45, 249, 250, 251, 22, 252, 253, 65, 254, 255, 256, 257, 258, 259, 260, 261, 38, 262, 263, 264, 265, 46, 47, 48, 339, 340, 341, 342, 343, 344, 345, 346, 347, 348, 349, 760, 761, 762, 763, 764, 765, 766, 767, 768, 784, 785, 786, 787, 788, 789, 790, 799, 800] (by decide +kernel) (by decide +kernel)
set_option maxRecDepth 20000 in
theorem gL_law_X5_gives : GoodIn wsL_law (wsV RL 27 RX5 yX5_gives wsX5_gives) := goodIn_app (goodIn_of _ (by decide +kernel)) ggL_law_X5_gives
set_option maxRecDepth 20000 in
theorem ggL_law_X6_gives : GoodIn wsL_law wsX6_gives := goodIn_r _ [353, 81, 354, 355, 356, 5, 357, 358, 359, 360, 361, 109, 110, 111, 362, 363, 364, 320, 321, 322, 323, 324, 83, 365, 366, 367, 368, 769, 770, 771, 772, 773, 774, 775, 776, 777, 778, 779, 780, 781, 782, 783] (by decide +kernel) (by decide +kernel)
set_option maxRecDepth 20000 in
theorem gL_law_X6_gives : GoodIn wsL_law (wsV RL 31 RX6 yX6_gives wsX6_gives) := goodIn_app (goodIn_of _ (by decide +kernel)) ggL_law_X6_gives
set_option maxRecDepth 20000 in
theorem ggL_law_X5_flips : GoodIn wsL_law wsX5_flips := goodIn_r _ [372, 15, 373, 23, 329, 374, 375, 376, 14, 377, 43, 378, 379, 2, 380, 249, 250, 251, 22, 252, 253, 65, 254, 255, 256, 257, 258, 259, 260, 261, 38, 262, 263, 264, 265, 44, 45, 46, 47, 48, 343, 344, 345, 346, 347, 348, 349, 760, 761, 762, 763, 764, 765, 766, 767, 768, 784, 785, 786, 787, 788, 789, 790, 799, 800] (by decide +kernel) (by decide +kernel)
set_option maxRecDepth 20000 in
theorem gL_law_X5_flips : GoodIn wsL_law (wsV RL 32 RX5 yX5_flips wsX5_flips) := goodIn_app (goodIn_of _ (by decide +kernel)) ggL_law_X5_flips
set_option maxRecDepth 20000 in
theorem ggL_law_X6_flips : GoodIn wsL_law wsX6_flips := goodIn_r _ [384, 81, 358, 359, 360, 5, 361, 109, 110, 111, 354, 355, 356, 357, 320, 321, 322, 323, 324, 83, 769, 770, 771, 772, 773, 774, 775, 776, 777, 778, 779, 780, 781, 782, 783] (by decide +kernel) (by decide +kernel)
set_option maxRecDepth 20000 in
theorem gL_law_X6_flips : GoodIn wsL_law (wsV RL 35 RX6 yX6_flips wsX6_flips) := goodIn_app (goodIn_of _ (by decide +kernel)) ggL_law_X6_flips
set_option maxRecDepth 20000 in
theorem ggL_law_X5_mends : GoodIn wsL_law wsX5_mends := goodIn_r _ [388, 23, 15, 27, 389, 329, 390, 391, 392, 2, 393, 394, 395, 396, 26, 397, 71, 398, 259, 260, 14, 261, 38, 262, 263, 264, 265, 43, 44, 45, 46, 47, 48, 399, 400, 401, 402, 403, 404, 405, 406, 407, 408, 409, 410, 411, 412, 413, 414, 415, 416, 417, 418, 419, 420, 421, 422, 423, 424, 344, 345, 346, 347, 348, 349, 425, 331, 332, 333, 426, 427, 428, 429, 430, 431, 432, 433, 434, 435, 436, 437, 438, 439, 440, 441, 442, 443, 444, 445, 446, 447, 448, 449, 450, 451, 452, 343, 249, 250, 251, 22, 252, 253, 65, 254, 255, 256, 257, 258, 760, 761, 762, 763, 764, 765, 766, 767, 768, 801, 802, 803, 804, 784, 785, 786, 787, 788, 789, 790, 799, 800] (by decide +kernel) (by decide +kernel)
set_option maxRecDepth 20000 in
theorem gL_law_X5_mends : GoodIn wsL_law (wsV RL 36 RX5 yX5_mends wsX5_mends) := goodIn_app (goodIn_of _ (by decide +kernel)) ggL_law_X5_mends
set_option maxRecDepth 20000 in
theorem ggL_law_X6_mends : GoodIn wsL_law wsX6_mends := goodIn_r _ [456, 81, 457, 458, 459, 5, 460, 461, 462, 463, 464, 465, 466, 467, 468, 354, 355, 356, 357, 358, 359, 360, 361, 109, 110, 111, 469, 470, 471, 472, 473, 474, 475, 476, 477, 478, 479, 480, 481, 482, 483, 484, 485, 486, 487, 488, 489, 490, 491, 492, 493, 494, 320, 321, 322, 323, 324, 83, 769, 770, 771, 772, 773, 774, 775, 776, 777, 778, 779, 780, 781, 782, 783] (by decide +kernel) (by decide +kernel)
set_option maxRecDepth 20000 in
theorem gL_law_X6_mends : GoodIn wsL_law (wsV RL 39 RX6 yX6_mends wsX6_mends) := goodIn_app (goodIn_of _ (by decide +kernel)) ggL_law_X6_mends
set_option maxRecDepth 20000 in
theorem ggL_law_X5_sets : GoodIn wsL_law wsX5_sets := goodIn_r _ [498, 15, 23, 499, 241, 2, 242, 243, 244, 500, 501, 502, 14, 503, 46, 47, 48, 249, 250, 251, 22, 252, 253, 65, 254, 255, 256, 257, 258, 259, 260, 261, 38, 262, 263, 264, 265, 43, 44, 45, 504, 246, 247, 248, 760, 761, 762, 763, 764, 765, 766, 767, 768, 784, 785, 786, 787, 788, 789, 790, 799, 800] (by decide +kernel) (by decide +kernel)
set_option maxRecDepth 20000 in
theorem gL_law_X5_sets : GoodIn wsL_law (wsV RL 40 RX5 yX5_sets wsX5_sets) := goodIn_app (goodIn_of _ (by decide +kernel)) ggL_law_X5_sets
set_option maxRecDepth 20000 in
theorem ggL_law_X6_sets : GoodIn wsL_law wsX6_sets := goodIn_r _ [508, 81, 109, 110, 5, 111, 310, 311, 312, 313, 314, 315, 320, 321, 322, 323, 324, 83, 769, 770, 771, 772, 773, 774, 775, 776, 777, 778, 779, 780, 781, 782, 783] (by decide +kernel) (by decide +kernel)
set_option maxRecDepth 20000 in
theorem gL_law_X6_sets : GoodIn wsL_law (wsV RL 43 RX6 yX6_sets wsX6_sets) := goodIn_app (goodIn_of _ (by decide +kernel)) ggL_law_X6_sets
set_option maxRecDepth 20000 in
theorem ggL_law_X5_undo : GoodIn wsL_law wsX5_undo := goodIn_r _ [512, 23, 15, 513, 514, 515, 516, 22, 517, 253, 65, 258, 259, 260, 14, 261, 38, 262, 263, 264, 265, 43, 44, 45, 46, 47, 48, 760, 761, 762, 763, 764, 765, 766, 767, 768, 799, 800, 784, 785, 786, 787, 788, 789, 790] (by decide +kernel) (by decide +kernel)
set_option maxRecDepth 20000 in
theorem gL_law_X5_undo : GoodIn wsL_law (wsV RL 44 RX5 yX5_undo wsX5_undo) := goodIn_app (goodIn_of _ (by decide +kernel)) ggL_law_X5_undo
set_option maxRecDepth 20000 in
theorem ggL_law_X6_undo : GoodIn wsL_law wsX6_undo := goodIn_r _ [521, 324, 81, 83, 769, 770, 771, 772, 773, 774, 775, 776, 777, 778, 779, 780, 781, 782, 783] (by decide +kernel) (by decide +kernel)
set_option maxRecDepth 20000 in
theorem gL_law_X6_undo : GoodIn wsL_law (wsV RL 47 RX6 yX6_undo wsX6_undo) := goodIn_app (goodIn_of _ (by decide +kernel)) ggL_law_X6_undo
set_option maxRecDepth 20000 in
theorem ggL_law_X5_tick : GoodIn wsL_law wsX5_tick := goodIn_r _ [525, 15, 374, 375, 376, 14, 377, 43, 526, 440, 441, 442, 38, 330, 331, 332, 333, 44, 335, 336, 337, 338, 45, 527, 528, 529, 530, 531, 532, 533, 534, 535, 536, 430, 431, 432, 433, 46, 537, 538, 539, 540, 434, 435, 436, 437, 438, 417, 418, 419, 47, 439, 760, 761, 762, 763, 764, 765, 766, 767, 768, 784, 785, 786, 787, 788, 789, 790] (by decide +kernel) (by decide +kernel)
set_option maxRecDepth 20000 in
theorem gL_law_X5_tick : GoodIn wsL_law (wsV RL 48 RX5 yX5_tick wsX5_tick) := goodIn_app (goodIn_of _ (by decide +kernel)) ggL_law_X5_tick
set_option maxRecDepth 20000 in
theorem ggL_law_X6_tick : GoodIn wsL_law wsX6_tick := goodIn_r _ [544, 81, 358, 359, 360, 5, 361, 109, 110, 111, 354, 355, 356, 357, 465, 466, 467, 468, 469, 470, 471, 472, 473, 474, 475, 476, 477, 478, 479, 769, 770, 771, 772, 773, 774, 775, 776, 777, 778, 779, 780, 781, 782, 783] (by decide +kernel) (by decide +kernel)
set_option maxRecDepth 20000 in
theorem gL_law_X6_tick : GoodIn wsL_law (wsV RL 51 RX6 yX6_tick wsX6_tick) := goodIn_app (goodIn_of _ (by decide +kernel)) ggL_law_X6_tick
set_option maxRecDepth 20000 in
theorem ggL_law_X5_share : GoodIn wsL_law wsX5_share := goodIn_r _ [548, 15, 329, 549, 550, 551, 552, 14, 553, 43, 554, 528, 529, 530, 531, 532, 533, 534, 535, 331, 332, 333, 44, 536, 336, 337, 338, 45, 430, 431, 432, 433, 46, 555, 556, 557, 558, 559, 538, 539, 540, 434, 435, 436, 437, 438, 417, 418, 419, 47, 439, 440, 441, 442, 38, 560, 561, 562, 563, 48, 424, 344, 345, 346, 347, 348, 349, 564, 421, 422, 423, 565, 566, 567, 568, 569, 427, 428, 429, 760, 761, 762, 763, 764, 765, 766, 767, 768, 784, 785, 786, 787, 788, 789, 790] (by decide +kernel) (by decide +kernel)
set_option maxRecDepth 20000 in
theorem gL_law_X5_share : GoodIn wsL_law (wsV RL 52 RX5 yX5_share wsX5_share) := goodIn_app (goodIn_of _ (by decide +kernel)) ggL_law_X5_share
set_option maxRecDepth 20000 in
theorem ggL_law_X6_share : GoodIn wsL_law wsX6_share := goodIn_r _ [573, 81, 574, 575, 576, 577, 5, 578, 465, 466, 467, 468, 354, 355, 356, 357, 358, 359, 360, 361, 109, 110, 111, 469, 470, 471, 472, 473, 474, 475, 476, 477, 478, 479, 579, 580, 581, 582, 583, 584, 585, 586, 457, 458, 459, 460, 461, 462, 463, 464, 769, 770, 771, 772, 773, 774, 775, 776, 777, 778, 779, 780, 781, 782, 783] (by decide +kernel) (by decide +kernel)
set_option maxRecDepth 20000 in
theorem gL_law_X6_share : GoodIn wsL_law (wsV RL 55 RX6 yX6_share wsX6_share) := goodIn_app (goodIn_of _ (by decide +kernel)) ggL_law_X6_share
set_option maxRecDepth 20000 in
theorem ggL_law_X5_best : GoodIn wsL_law wsX5_best := goodIn_r _ [590, 549, 27, 15, 591, 389, 394, 395, 396, 26, 397, 71, 398, 259, 260, 14, 261, 38, 262, 263, 264, 265, 43, 44, 45, 46, 47, 48, 399, 400, 401, 402, 403, 404, 405, 406, 407, 408, 409, 410, 411, 412, 413, 414, 415, 416, 417, 418, 419, 420, 421, 422, 423, 424, 344, 345, 346, 347, 348, 349, 425, 331, 332, 333, 426, 427, 428, 429, 430, 431, 432, 433, 434, 435, 436, 437, 438, 439, 440, 441, 442, 443, 444, 445, 446, 447, 448, 449, 450, 451, 452, 560, 561, 562, 563, 564, 760, 761, 762, 763, 764, 765, 766, 767, 768, 801, 802, 803, 804, 784, 785, 786, 787, 788, 789, 790] (by decide +kernel) (by decide +kernel)
set_option maxRecDepth 20000 in
theorem gL_law_X5_best : GoodIn wsL_law (wsV RL 56 RX5 yX5_best wsX5_best) := goodIn_app (goodIn_of _ (by decide +kernel)) ggL_law_X5_best
set_option maxRecDepth 20000 in
theorem ggL_law_X6_best : GoodIn wsL_law wsX6_best := goodIn_r _ [595, 574, 596, 109, 110, 5, 111, 484, 485, 486, 487, 81, 354, 355, 356, 357, 358, 359, 360, 361, 488, 489, 490, 491, 457, 458, 459, 460, 461, 462, 463, 464, 465, 466, 467, 468, 469, 470, 471, 472, 473, 474, 475, 476, 477, 478, 479, 597, 598, 599, 600, 579, 580, 581, 582, 583, 584, 585, 586, 601, 602, 603, 769, 770, 771, 772, 773, 774, 775, 776, 777, 778, 779, 780, 781, 782, 783] (by decide +kernel) (by decide +kernel)
set_option maxRecDepth 20000 in
theorem gL_law_X6_best : GoodIn wsL_law (wsV RL 59 RX6 yX6_best wsX6_best) := goodIn_app (goodIn_of _ (by decide +kernel)) ggL_law_X6_best
set_option maxRecDepth 20000 in
theorem ggL_law_X5_slowest : GoodIn wsL_law wsX5_slowest := goodIn_r _ [607, 27, 15, 244, 243, 608, 609, 394, 395, 396, 26, 397, 71, 398, 259, 260, 14, 261, 38, 262, 263, 264, 265, 43, 44, 45, 46, 47, 48, 399, 400, 401, 402, 403, 404, 405, 406, 407, 408, 409, 410, 411, 412, 413, 414, 415, 416, 417, 418, 419, 420, 421, 422, 423, 424, 344, 345, 346, 347, 348, 349, 425, 331, 332, 333, 426, 427, 428, 429, 430, 431, 432, 433, 434, 435, 436, 437, 438, 439, 440, 441, 442, 443, 444, 445, 446, 447, 448, 449, 450, 451, 452, 760, 761, 762, 763, 764, 765, 766, 767, 768, 801, 802, 803, 804, 784, 785, 786, 787, 788, 789, 790] (by decide +kernel) (by decide +kernel)
set_option maxRecDepth 20000 in
theorem gL_law_X5_slowest : GoodIn wsL_law (wsV RL 60 RX5 yX5_slowest wsX5_slowest) := goodIn_app (goodIn_of _ (by decide +kernel)) ggL_law_X5_slowest
set_option maxRecDepth 20000 in
theorem ggL_law_X6_slowest : GoodIn wsL_law wsX6_slowest := goodIn_r _ [613, 484, 485, 486, 5, 487, 81, 354, 355, 356, 357, 358, 359, 360, 361, 109, 110, 111, 488, 489, 490, 491, 461, 462, 463, 464, 465, 466, 467, 468, 469, 470, 471, 472, 473, 474, 475, 476, 477, 478, 479, 769, 770, 771, 772, 773, 774, 775, 776, 777, 778, 779, 780, 781, 782, 783] (by decide +kernel) (by decide +kernel)
set_option maxRecDepth 20000 in
theorem gL_law_X6_slowest : GoodIn wsL_law (wsV RL 63 RX6 yX6_slowest wsX6_slowest) := goodIn_app (goodIn_of _ (by decide +kernel)) ggL_law_X6_slowest
set_option maxRecDepth 20000 in
theorem ggL_law_X5_change : GoodIn wsL_law wsX5_change := goodIn_r _ [617, 390, 391, 392, 2, 393, 27, 15, 389, 329, 394, 395, 396, 26, 397, 71, 398, 259, 260, 14, 261, 38, 262, 263, 264, 265, 43, 44, 45, 46, 47, 48, 399, 400, 401, 402, 403, 404, 405, 406, 407, 408, 409, 410, 411, 412, 413, 414, 415, 416, 417, 418, 419, 420, 421, 422, 423, 424, 344, 345, 346, 347, 348, 349, 425, 331, 332, 333, 426, 427, 428, 429, 430, 431, 432, 433, 434, 435, 436, 437, 438, 439, 440, 441, 442, 443, 444, 445, 446, 447, 448, 449, 450, 451, 452, 343, 760, 761, 762, 763, 764, 765, 766, 767, 768, 801, 802, 803, 804, 784, 785, 786, 787, 788, 789, 790] (by decide +kernel) (by decide +kernel)
set_option maxRecDepth 20000 in
theorem gL_law_X5_change : GoodIn wsL_law (wsV RL 64 RX5 yX5_change wsX5_change) := goodIn_app (goodIn_of _ (by decide +kernel)) ggL_law_X5_change
set_option maxRecDepth 20000 in
theorem ggL_law_X6_change : GoodIn wsL_law wsX6_change := goodIn_r _ [621, 81, 480, 481, 482, 5, 483, 484, 485, 486, 487, 354, 355, 356, 357, 358, 359, 360, 361, 109, 110, 111, 488, 489, 490, 491, 492, 493, 494, 457, 458, 459, 460, 461, 462, 463, 464, 465, 466, 467, 468, 469, 470, 471, 472, 473, 474, 475, 476, 477, 478, 479, 769, 770, 771, 772, 773, 774, 775, 776, 777, 778, 779, 780, 781, 782, 783] (by decide +kernel) (by decide +kernel)
set_option maxRecDepth 20000 in
theorem gL_law_X6_change : GoodIn wsL_law (wsV RL 67 RX6 yX6_change wsX6_change) := goodIn_app (goodIn_of _ (by decide +kernel)) ggL_law_X6_change
set_option maxRecDepth 20000 in
theorem ggL_law_X5_busiest : GoodIn wsL_law wsX5_busiest := goodIn_r _ [625, 15, 626, 627, 334, 235, 2, 236, 339, 340, 341, 14, 342, 44, 45, 378, 379, 380, 343, 344, 345, 346, 347, 348, 349, 760, 761, 762, 763, 764, 765, 766, 767, 768, 784, 785, 786, 787, 788, 789, 790] (by decide +kernel) (by decide +kernel)
set_option maxRecDepth 20000 in
theorem gL_law_X5_busiest : GoodIn wsL_law (wsV RL 68 RX5 yX5_busiest wsX5_busiest) := goodIn_app (goodIn_of _ (by decide +kernel)) ggL_law_X5_busiest
set_option maxRecDepth 20000 in
theorem ggL_law_X6_busiest : GoodIn wsL_law wsX6_busiest := goodIn_r _ [631, 81, 362, 363, 5, 364, 109, 110, 111, 632, 633, 634, 635, 354, 355, 356, 357, 358, 359, 360, 361, 769, 770, 771, 772, 773, 774, 775, 776, 777, 778, 779, 780, 781, 782, 783] (by decide +kernel) (by decide +kernel)
set_option maxRecDepth 20000 in
theorem gL_law_X6_busiest : GoodIn wsL_law (wsV RL 71 RX6 yX6_busiest wsX6_busiest) := goodIn_app (goodIn_of _ (by decide +kernel)) ggL_law_X6_busiest
set_option maxRecDepth 20000 in
theorem ggL_law_X5_tables : GoodIn wsL_law wsX5_tables := goodIn_r _ [639, 640, 641, 642, 2, 643, 31, 15, 644, 645, 646, 647, 648, 30, 649, 650, 651, 76, 652, 653, 50, 51, 52, 654, 655, 656, 14, 657, 43, 535, 331, 332, 333, 44, 439, 440, 441, 442, 38, 658, 659, 660, 661, 662, 566, 567, 568, 569, 427, 428, 429, 430, 431, 432, 433, 46, 434, 435, 436, 437, 438, 417, 418, 419, 47, 663, 664, 665, 666, 760, 761, 762, 763, 764, 765, 766, 767, 768, 805, 806, 807, 784, 785, 786, 787, 788, 789, 790] (by decide +kernel) (by decide +kernel)
set_option maxRecDepth 20000 in
theorem gL_law_X5_tables : GoodIn wsL_law (wsV RL 72 RX5 yX5_tables wsX5_tables) := goodIn_app (goodIn_of _ (by decide +kernel)) ggL_law_X5_tables
set_option maxRecDepth 20000 in
theorem ggL_law_X6_tables : GoodIn wsL_law wsX6_tables := goodIn_r _ [670, 671, 672, 673, 5, 674, 675, 676, 677, 678, 679, 87, 88, 680, 681, 682, 683, 81, 354, 355, 356, 357, 358, 359, 360, 361, 109, 110, 111, 473, 474, 475, 684, 685, 686, 687, 688, 689, 690, 691, 457, 458, 459, 460, 461, 462, 463, 464, 465, 466, 467, 468, 469, 470, 471, 472, 476, 477, 478, 479, 769, 770, 771, 772, 773, 774, 775, 776, 777, 778, 779, 780, 781, 782, 783] (by decide +kernel) (by decide +kernel)
set_option maxRecDepth 20000 in
theorem gL_law_X6_tables : GoodIn wsL_law (wsV RL 75 RX6 yX6_tables wsX6_tables) := goodIn_app (goodIn_of _ (by decide +kernel)) ggL_law_X6_tables
set_option maxRecDepth 20000 in
theorem ggL_law_X5_sees : GoodIn wsL_law wsX5_sees := goodIn_r _ [695, 696, 697, 698, 334, 235, 2, 236, 760, 761, 762, 763, 764, 765, 766, 767, 768] (by decide +kernel) (by decide +kernel)
set_option maxRecDepth 20000 in
theorem gL_law_X5_sees : GoodIn wsL_law (wsV RL 76 RX5 yX5_sees wsX5_sees) := goodIn_app (goodIn_of _ (by decide +kernel)) ggL_law_X5_sees
set_option maxRecDepth 20000 in
theorem ggL_law_X6_sees : GoodIn wsL_law wsX6_sees := goodIn_r _ [702, 679, 87, 88, 109, 110, 5, 111, 362, 363, 364, 769, 770, 771, 772, 773, 774, 775, 776, 777, 778, 779, 780, 781, 782, 783] (by decide +kernel) (by decide +kernel)
set_option maxRecDepth 20000 in
theorem gL_law_X6_sees : GoodIn wsL_law (wsV RL 79 RX6 yX6_sees wsX6_sees) := goodIn_app (goodIn_of _ (by decide +kernel)) ggL_law_X6_sees
set_option maxRecDepth 20000 in
theorem ggL_law_X5_forget : GoodIn wsL_law wsX5_forget := goodIn_r _ [706, 696, 697, 698, 760, 761, 762, 763, 764, 765, 766, 767, 768] (by decide +kernel) (by decide +kernel)
set_option maxRecDepth 20000 in
theorem gL_law_X5_forget : GoodIn wsL_law (wsV RL 80 RX5 yX5_forget wsX5_forget) := goodIn_app (goodIn_of _ (by decide +kernel)) ggL_law_X5_forget
set_option maxRecDepth 20000 in
theorem ggL_law_X6_forget : GoodIn wsL_law wsX6_forget := goodIn_r _ [710, 679, 769, 770, 771, 772, 773, 774, 775, 776, 777, 778, 779, 780, 781, 782, 783] (by decide +kernel) (by decide +kernel)
set_option maxRecDepth 20000 in
theorem gL_law_X6_forget : GoodIn wsL_law (wsV RL 83 RX6 yX6_forget wsX6_forget) := goodIn_app (goodIn_of _ (by decide +kernel)) ggL_law_X6_forget
set_option maxRecDepth 20000 in
theorem ggL_law_X5_which : GoodIn wsL_law wsX5_which := goodIn_r _ [714, 697, 698, 640, 641, 642, 2, 643, 31, 15, 644, 645, 646, 647, 648, 30, 649, 650, 651, 76, 652, 653, 50, 51, 52, 654, 655, 656, 14, 657, 43, 535, 331, 332, 333, 44, 439, 440, 441, 442, 38, 658, 659, 660, 661, 662, 566, 567, 568, 569, 427, 428, 429, 430, 431, 432, 433, 46, 434, 435, 436, 437, 438, 417, 418, 419, 47, 663, 664, 665, 666, 760, 761, 762, 763, 764, 765, 766, 767, 768, 805, 806, 807, 784, 785, 786, 787, 788, 789, 790] (by decide +kernel) (by decide +kernel)
set_option maxRecDepth 20000 in
theorem gL_law_X5_which : GoodIn wsL_law (wsV RL 84 RX5 yX5_which wsX5_which) := goodIn_app (goodIn_of _ (by decide +kernel)) ggL_law_X5_which
set_option maxRecDepth 20000 in
theorem ggL_law_X6_which : GoodIn wsL_law wsX6_which := goodIn_r _ [718, 671, 672, 673, 5, 674, 675, 676, 677, 678, 679, 87, 88, 680, 681, 682, 683, 81, 354, 355, 356, 357, 358, 359, 360, 361, 109, 110, 111, 473, 474, 475, 684, 685, 686, 687, 688, 689, 690, 691, 457, 458, 459, 460, 461, 462, 463, 464, 465, 466, 467, 468, 469, 470, 471, 472, 476, 477, 478, 479, 769, 770, 771, 772, 773, 774, 775, 776, 777, 778, 779, 780, 781, 782, 783] (by decide +kernel) (by decide +kernel)
set_option maxRecDepth 20000 in
theorem gL_law_X6_which : GoodIn wsL_law (wsV RL 87 RX6 yX6_which wsX6_which) := goodIn_app (goodIn_of _ (by decide +kernel)) ggL_law_X6_which
set_option maxRecDepth 20000 in
theorem ggL_law_X5_listen : GoodIn wsL_law wsX5_listen := goodIn_r _ [722, 31, 15, 697, 698, 644, 646, 647, 648, 30, 649, 650, 651, 76, 652, 653, 50, 51, 52, 654, 655, 656, 14, 657, 43, 535, 331, 332, 333, 44, 439, 440, 441, 442, 38, 658, 659, 660, 661, 662, 566, 567, 568, 569, 427, 428, 429, 430, 431, 432, 433, 46, 434, 435, 436, 437, 438, 417, 418, 419, 47, 663, 664, 665, 666, 723, 724, 725, 726, 727, 728, 729, 730, 760, 761, 762, 763, 764, 765, 766, 767, 768, 805, 806, 807, 784, 785, 786, 787, 788, 789, 790] (by decide +kernel) (by decide +kernel)
set_option maxRecDepth 20000 in
theorem gL_law_X5_listen : GoodIn wsL_law (wsV RL 88 RX5 yX5_listen wsX5_listen) := goodIn_app (goodIn_of _ (by decide +kernel)) ggL_law_X5_listen
set_option maxRecDepth 20000 in
theorem ggL_law_X6_listen : GoodIn wsL_law wsX6_listen := goodIn_r _ [734, 90, 81, 675, 676, 677, 5, 678, 679, 87, 88, 680, 681, 682, 683, 354, 355, 356, 357, 358, 359, 360, 361, 109, 110, 111, 473, 474, 475, 684, 685, 686, 687, 688, 689, 690, 691, 457, 458, 459, 460, 461, 462, 463, 464, 465, 466, 467, 468, 469, 470, 471, 472, 476, 477, 478, 479, 769, 770, 771, 772, 773, 774, 775, 776, 777, 778, 779, 780, 781, 782, 783] (by decide +kernel) (by decide +kernel)
set_option maxRecDepth 20000 in
theorem gL_law_X6_listen : GoodIn wsL_law (wsV RL 91 RX6 yX6_listen wsX6_listen) := goodIn_app (goodIn_of _ (by decide +kernel)) ggL_law_X6_listen
set_option maxRecDepth 20000 in
theorem ggL_law_X5_keep : GoodIn wsL_law wsX5_keep := goodIn_r _ [738, 32, 12, 13, 14, 15, 626, 33, 34, 35, 36, 10, 11, 37, 38, 39, 40, 41, 42, 43, 44, 45, 46, 47, 48, 49, 50, 51, 52, 266, 259, 260, 261, 262, 263, 264, 265, 760, 761, 762, 763, 764, 765, 766, 767, 768, 784, 785, 786, 787, 788, 789, 790] (by decide +kernel) (by decide +kernel)
set_option maxRecDepth 20000 in
theorem gL_law_X5_keep : GoodIn wsL_law (wsV RL 92 RX5 yX5_keep wsX5_keep) := goodIn_app (goodIn_of _ (by decide +kernel)) ggL_law_X5_keep
set_option maxRecDepth 20000 in
theorem ggL_law_X6_keep : GoodIn wsL_law wsX6_keep := goodIn_r _ [742, 84, 81, 86, 109, 110, 5, 111, 769, 770, 771, 772, 773, 774, 775, 776, 777, 778, 779, 780, 781, 782, 783] (by decide +kernel) (by decide +kernel)
set_option maxRecDepth 20000 in
theorem gL_law_X6_keep : GoodIn wsL_law (wsV RL 95 RX6 yX6_keep wsX6_keep) := goodIn_app (goodIn_of _ (by decide +kernel)) ggL_law_X6_keep
set_option maxRecDepth 20000 in
theorem ggL_law_X5_back : GoodIn wsL_law wsX5_back := goodIn_r _ [746, 32, 15, 23, 513, 626, 266, 259, 260, 14, 261, 38, 262, 263, 264, 265, 43, 44, 45, 46, 47, 48, 760, 761, 762, 763, 764, 765, 766, 767, 768, 799, 800, 784, 785, 786, 787, 788, 789, 790] (by decide +kernel) (by decide +kernel)
set_option maxRecDepth 20000 in
theorem gL_law_X5_back : GoodIn wsL_law (wsV RL 96 RX5 yX5_back wsX5_back) := goodIn_app (goodIn_of _ (by decide +kernel)) ggL_law_X5_back
set_option maxRecDepth 20000 in
theorem ggL_law_X6_back : GoodIn wsL_law wsX6_back := goodIn_r _ [750, 86, 81, 84, 324, 109, 110, 5, 111, 769, 770, 771, 772, 773, 774, 775, 776, 777, 778, 779, 780, 781, 782, 783] (by decide +kernel) (by decide +kernel)
set_option maxRecDepth 20000 in
theorem gL_law_X6_back : GoodIn wsL_law (wsV RL 99 RX6 yX6_back wsX6_back) := goodIn_app (goodIn_of _ (by decide +kernel)) ggL_law_X6_back
set_option maxRecDepth 20000 in
theorem ggL_law_X5_count : GoodIn wsL_law wsX5_count := goodIn_r _ [754, 15, 626, 373, 609, 755, 627, 696, 19, 98, 23, 513, 343, 344, 345, 346, 347, 348, 349, 760, 761, 762, 763, 764, 765, 766, 767, 768, 784, 785, 786, 787, 788, 789, 790, 791, 792, 793, 794, 795, 796, 797, 798, 799, 800] (by decide +kernel) (by decide +kernel)
set_option maxRecDepth 20000 in
theorem gL_law_X5_count : GoodIn wsL_law (wsV RL 100 RX5 yX5_count wsX5_count) := goodIn_app (goodIn_of _ (by decide +kernel)) ggL_law_X5_count
set_option maxRecDepth 20000 in
theorem ggL_law_X6_count : GoodIn wsL_law wsX6_count := goodIn_r _ [759, 81, 679, 108, 324, 484, 485, 486, 5, 487, 354, 355, 356, 357, 358, 359, 360, 361, 109, 110, 111, 769, 770, 771, 772, 773, 774, 775, 776, 777, 778, 779, 780, 781, 782, 783] (by decide +kernel) (by decide +kernel)
set_option maxRecDepth 20000 in
theorem gL_law_X6_count : GoodIn wsL_law (wsV RL 103 RX6 yX6_count wsX6_count) := goodIn_app (goodIn_of _ (by decide +kernel)) ggL_law_X6_count
theorem dL_law_0 : decode cL_law 0 = .ok (.new 7, 3) := by decide +kernel
theorem dL_law_3 : decode cL_law 3 = .ok (.dup, 1) := by decide +kernel
theorem dL_law_4 : decode cL_law 4 = .ok (.invokespecial 9, 3) := by decide +kernel
theorem dL_law_7 : decode cL_law 7 = .ok (.astore_n 1, 1) := by decide +kernel
theorem dL_law_8 : decode cL_law 8 = .ok (.new 10, 3) := by decide +kernel
theorem dL_law_11 : decode cL_law 11 = .ok (.dup, 1) := by decide +kernel
theorem dL_law_12 : decode cL_law 12 = .ok (.invokespecial 12, 3) := by decide +kernel
theorem dL_law_15 : decode cL_law 15 = .ok (.astore_n 2, 1) := by decide +kernel
theorem dL_law_16 : decode cL_law 16 = .ok (.iconst 0, 1) := by decide +kernel
theorem dL_law_17 : decode cL_law 17 = .ok (.istore_n 3, 1) := by decide +kernel
theorem dL_law_18 : decode cL_law 18 = .ok (.iload_n 3, 1) := by decide +kernel
theorem dL_law_19 : decode cL_law 19 = .ok (.aload_n 0, 1) := by decide +kernel
theorem dL_law_20 : decode cL_law 20 = .ok (.arraylength, 1) := by decide +kernel
theorem dL_law_21 : decode cL_law 21 = .ok (.iconst 3, 1) := by decide +kernel
theorem dL_law_22 : decode cL_law 22 = .ok (.isub, 1) := by decide +kernel
theorem dL_law_23 : decode cL_law 23 = .ok (.if_icmp .gt 605, 3) := by decide +kernel
theorem dL_law_26 : decode cL_law 26 = .ok (.aload_n 0, 1) := by decide +kernel
theorem dL_law_27 : decode cL_law 27 = .ok (.iload_n 3, 1) := by decide +kernel
theorem dL_law_28 : decode cL_law 28 = .ok (.iaload, 1) := by decide +kernel
theorem dL_law_29 : decode cL_law 29 = .ok (.bipush 31, 2) := by decide +kernel
theorem dL_law_31 : decode cL_law 31 = .ok (.iand, 1) := by decide +kernel
theorem dL_law_32 : decode cL_law 32 = .ok (.tableswitch 590 0 21 #[104, 127, 140, 153, 186, 219, 232, 265, 278, 311, 334, 357, 370, 383, 416, 439, 472, 485, 508, 521, 544, 567], 104) := by decide +kernel
theorem dL_law_136 : decode cL_law 136 = .ok (.aload_n 1, 1) := by decide +kernel
theorem dL_law_137 : decode cL_law 137 = .ok (.aload_n 0, 1) := by decide +kernel
theorem dL_law_138 : decode cL_law 138 = .ok (.iload_n 3, 1) := by decide +kernel
theorem dL_law_139 : decode cL_law 139 = .ok (.iconst 1, 1) := by decide +kernel
theorem dL_law_140 : decode cL_law 140 = .ok (.iadd, 1) := by decide +kernel
theorem dL_law_141 : decode cL_law 141 = .ok (.iaload, 1) := by decide +kernel
theorem dL_law_142 : decode cL_law 142 = .ok (.invokevirtual 13, 3) := by decide +kernel
theorem dL_law_145 : decode cL_law 145 = .ok (.aload_n 2, 1) := by decide +kernel
theorem dL_law_146 : decode cL_law 146 = .ok (.aload_n 0, 1) := by decide +kernel
theorem dL_law_147 : decode cL_law 147 = .ok (.iload_n 3, 1) := by decide +kernel
theorem dL_law_148 : decode cL_law 148 = .ok (.iconst 1, 1) := by decide +kernel
theorem dL_law_149 : decode cL_law 149 = .ok (.iadd, 1) := by decide +kernel
theorem dL_law_150 : decode cL_law 150 = .ok (.iaload, 1) := by decide +kernel
theorem dL_law_151 : decode cL_law 151 = .ok (.invokevirtual 17, 3) := by decide +kernel
theorem dL_law_154 : decode cL_law 154 = .ok (.if_icmp .eq 468, 3) := by decide +kernel
theorem dL_law_157 : decode cL_law 157 = .ok (.iconst 0, 1) := by decide +kernel
theorem dL_law_158 : decode cL_law 158 = .ok (.ireturn, 1) := by decide +kernel
theorem dL_law_159 : decode cL_law 159 = .ok (.aload_n 1, 1) := by decide +kernel
theorem dL_law_160 : decode cL_law 160 = .ok (.invokevirtual 18, 3) := by decide +kernel
theorem dL_law_163 : decode cL_law 163 = .ok (.aload_n 2, 1) := by decide +kernel
theorem dL_law_164 : decode cL_law 164 = .ok (.invokevirtual 22, 3) := by decide +kernel
theorem dL_law_167 : decode cL_law 167 = .ok (.if_icmp .eq 455, 3) := by decide +kernel
theorem dL_law_170 : decode cL_law 170 = .ok (.iconst 0, 1) := by decide +kernel
theorem dL_law_171 : decode cL_law 171 = .ok (.ireturn, 1) := by decide +kernel
theorem dL_law_172 : decode cL_law 172 = .ok (.aload_n 1, 1) := by decide +kernel
theorem dL_law_173 : decode cL_law 173 = .ok (.invokevirtual 23, 3) := by decide +kernel
theorem dL_law_176 : decode cL_law 176 = .ok (.aload_n 2, 1) := by decide +kernel
theorem dL_law_177 : decode cL_law 177 = .ok (.invokevirtual 26, 3) := by decide +kernel
theorem dL_law_180 : decode cL_law 180 = .ok (.if_icmp .eq 442, 3) := by decide +kernel
theorem dL_law_183 : decode cL_law 183 = .ok (.iconst 0, 1) := by decide +kernel
theorem dL_law_184 : decode cL_law 184 = .ok (.ireturn, 1) := by decide +kernel
theorem dL_law_185 : decode cL_law 185 = .ok (.aload_n 1, 1) := by decide +kernel
theorem dL_law_186 : decode cL_law 186 = .ok (.aload_n 0, 1) := by decide +kernel
theorem dL_law_187 : decode cL_law 187 = .ok (.iload_n 3, 1) := by decide +kernel
theorem dL_law_188 : decode cL_law 188 = .ok (.iconst 1, 1) := by decide +kernel
theorem dL_law_189 : decode cL_law 189 = .ok (.iadd, 1) := by decide +kernel
theorem dL_law_190 : decode cL_law 190 = .ok (.iaload, 1) := by decide +kernel
theorem dL_law_191 : decode cL_law 191 = .ok (.aload_n 0, 1) := by decide +kernel
theorem dL_law_192 : decode cL_law 192 = .ok (.iload_n 3, 1) := by decide +kernel
theorem dL_law_193 : decode cL_law 193 = .ok (.iconst 2, 1) := by decide +kernel
theorem dL_law_194 : decode cL_law 194 = .ok (.iadd, 1) := by decide +kernel
theorem dL_law_195 : decode cL_law 195 = .ok (.iaload, 1) := by decide +kernel
theorem dL_law_196 : decode cL_law 196 = .ok (.invokevirtual 27, 3) := by decide +kernel
theorem dL_law_199 : decode cL_law 199 = .ok (.aload_n 2, 1) := by decide +kernel
theorem dL_law_200 : decode cL_law 200 = .ok (.aload_n 0, 1) := by decide +kernel
theorem dL_law_201 : decode cL_law 201 = .ok (.iload_n 3, 1) := by decide +kernel
theorem dL_law_202 : decode cL_law 202 = .ok (.iconst 1, 1) := by decide +kernel
theorem dL_law_203 : decode cL_law 203 = .ok (.iadd, 1) := by decide +kernel
theorem dL_law_204 : decode cL_law 204 = .ok (.iaload, 1) := by decide +kernel
theorem dL_law_205 : decode cL_law 205 = .ok (.aload_n 0, 1) := by decide +kernel
theorem dL_law_206 : decode cL_law 206 = .ok (.iload_n 3, 1) := by decide +kernel
theorem dL_law_207 : decode cL_law 207 = .ok (.iconst 2, 1) := by decide +kernel
theorem dL_law_208 : decode cL_law 208 = .ok (.iadd, 1) := by decide +kernel
theorem dL_law_209 : decode cL_law 209 = .ok (.iaload, 1) := by decide +kernel
theorem dL_law_210 : decode cL_law 210 = .ok (.invokevirtual 31, 3) := by decide +kernel
theorem dL_law_213 : decode cL_law 213 = .ok (.if_icmp .eq 409, 3) := by decide +kernel
theorem dL_law_216 : decode cL_law 216 = .ok (.iconst 0, 1) := by decide +kernel
theorem dL_law_217 : decode cL_law 217 = .ok (.ireturn, 1) := by decide +kernel
theorem dL_law_218 : decode cL_law 218 = .ok (.aload_n 1, 1) := by decide +kernel
theorem dL_law_219 : decode cL_law 219 = .ok (.aload_n 0, 1) := by decide +kernel
theorem dL_law_220 : decode cL_law 220 = .ok (.iload_n 3, 1) := by decide +kernel
theorem dL_law_221 : decode cL_law 221 = .ok (.iconst 1, 1) := by decide +kernel
theorem dL_law_222 : decode cL_law 222 = .ok (.iadd, 1) := by decide +kernel
theorem dL_law_223 : decode cL_law 223 = .ok (.iaload, 1) := by decide +kernel
theorem dL_law_224 : decode cL_law 224 = .ok (.aload_n 0, 1) := by decide +kernel
theorem dL_law_225 : decode cL_law 225 = .ok (.iload_n 3, 1) := by decide +kernel
theorem dL_law_226 : decode cL_law 226 = .ok (.iconst 2, 1) := by decide +kernel
theorem dL_law_227 : decode cL_law 227 = .ok (.iadd, 1) := by decide +kernel
theorem dL_law_228 : decode cL_law 228 = .ok (.iaload, 1) := by decide +kernel
theorem dL_law_229 : decode cL_law 229 = .ok (.invokevirtual 32, 3) := by decide +kernel
theorem dL_law_232 : decode cL_law 232 = .ok (.aload_n 2, 1) := by decide +kernel
theorem dL_law_233 : decode cL_law 233 = .ok (.aload_n 0, 1) := by decide +kernel
theorem dL_law_234 : decode cL_law 234 = .ok (.iload_n 3, 1) := by decide +kernel
theorem dL_law_235 : decode cL_law 235 = .ok (.iconst 1, 1) := by decide +kernel
theorem dL_law_236 : decode cL_law 236 = .ok (.iadd, 1) := by decide +kernel
theorem dL_law_237 : decode cL_law 237 = .ok (.iaload, 1) := by decide +kernel
theorem dL_law_238 : decode cL_law 238 = .ok (.aload_n 0, 1) := by decide +kernel
theorem dL_law_239 : decode cL_law 239 = .ok (.iload_n 3, 1) := by decide +kernel
theorem dL_law_240 : decode cL_law 240 = .ok (.iconst 2, 1) := by decide +kernel
theorem dL_law_241 : decode cL_law 241 = .ok (.iadd, 1) := by decide +kernel
theorem dL_law_242 : decode cL_law 242 = .ok (.iaload, 1) := by decide +kernel
theorem dL_law_243 : decode cL_law 243 = .ok (.invokevirtual 35, 3) := by decide +kernel
theorem dL_law_246 : decode cL_law 246 = .ok (.if_icmp .eq 376, 3) := by decide +kernel
theorem dL_law_249 : decode cL_law 249 = .ok (.iconst 0, 1) := by decide +kernel
theorem dL_law_250 : decode cL_law 250 = .ok (.ireturn, 1) := by decide +kernel
theorem dL_law_251 : decode cL_law 251 = .ok (.aload_n 1, 1) := by decide +kernel
theorem dL_law_252 : decode cL_law 252 = .ok (.invokevirtual 36, 3) := by decide +kernel
theorem dL_law_255 : decode cL_law 255 = .ok (.aload_n 2, 1) := by decide +kernel
theorem dL_law_256 : decode cL_law 256 = .ok (.invokevirtual 39, 3) := by decide +kernel
theorem dL_law_259 : decode cL_law 259 = .ok (.if_icmp .eq 363, 3) := by decide +kernel
theorem dL_law_262 : decode cL_law 262 = .ok (.iconst 0, 1) := by decide +kernel
theorem dL_law_263 : decode cL_law 263 = .ok (.ireturn, 1) := by decide +kernel
theorem dL_law_264 : decode cL_law 264 = .ok (.aload_n 1, 1) := by decide +kernel
theorem dL_law_265 : decode cL_law 265 = .ok (.aload_n 0, 1) := by decide +kernel
theorem dL_law_266 : decode cL_law 266 = .ok (.iload_n 3, 1) := by decide +kernel
theorem dL_law_267 : decode cL_law 267 = .ok (.iconst 1, 1) := by decide +kernel
theorem dL_law_268 : decode cL_law 268 = .ok (.iadd, 1) := by decide +kernel
theorem dL_law_269 : decode cL_law 269 = .ok (.iaload, 1) := by decide +kernel
theorem dL_law_270 : decode cL_law 270 = .ok (.aload_n 0, 1) := by decide +kernel
theorem dL_law_271 : decode cL_law 271 = .ok (.iload_n 3, 1) := by decide +kernel
theorem dL_law_272 : decode cL_law 272 = .ok (.iconst 2, 1) := by decide +kernel
theorem dL_law_273 : decode cL_law 273 = .ok (.iadd, 1) := by decide +kernel
theorem dL_law_274 : decode cL_law 274 = .ok (.iaload, 1) := by decide +kernel
theorem dL_law_275 : decode cL_law 275 = .ok (.invokevirtual 40, 3) := by decide +kernel
theorem dL_law_278 : decode cL_law 278 = .ok (.aload_n 2, 1) := by decide +kernel
theorem dL_law_279 : decode cL_law 279 = .ok (.aload_n 0, 1) := by decide +kernel
theorem dL_law_280 : decode cL_law 280 = .ok (.iload_n 3, 1) := by decide +kernel
theorem dL_law_281 : decode cL_law 281 = .ok (.iconst 1, 1) := by decide +kernel
theorem dL_law_282 : decode cL_law 282 = .ok (.iadd, 1) := by decide +kernel
theorem dL_law_283 : decode cL_law 283 = .ok (.iaload, 1) := by decide +kernel
theorem dL_law_284 : decode cL_law 284 = .ok (.aload_n 0, 1) := by decide +kernel
theorem dL_law_285 : decode cL_law 285 = .ok (.iload_n 3, 1) := by decide +kernel
theorem dL_law_286 : decode cL_law 286 = .ok (.iconst 2, 1) := by decide +kernel
theorem dL_law_287 : decode cL_law 287 = .ok (.iadd, 1) := by decide +kernel
theorem dL_law_288 : decode cL_law 288 = .ok (.iaload, 1) := by decide +kernel
theorem dL_law_289 : decode cL_law 289 = .ok (.invokevirtual 43, 3) := by decide +kernel
theorem dL_law_292 : decode cL_law 292 = .ok (.if_icmp .eq 330, 3) := by decide +kernel
theorem dL_law_295 : decode cL_law 295 = .ok (.iconst 0, 1) := by decide +kernel
theorem dL_law_296 : decode cL_law 296 = .ok (.ireturn, 1) := by decide +kernel
theorem dL_law_297 : decode cL_law 297 = .ok (.aload_n 1, 1) := by decide +kernel
theorem dL_law_298 : decode cL_law 298 = .ok (.invokevirtual 44, 3) := by decide +kernel
theorem dL_law_301 : decode cL_law 301 = .ok (.aload_n 2, 1) := by decide +kernel
theorem dL_law_302 : decode cL_law 302 = .ok (.invokevirtual 47, 3) := by decide +kernel
theorem dL_law_305 : decode cL_law 305 = .ok (.if_icmp .eq 317, 3) := by decide +kernel
theorem dL_law_308 : decode cL_law 308 = .ok (.iconst 0, 1) := by decide +kernel
theorem dL_law_309 : decode cL_law 309 = .ok (.ireturn, 1) := by decide +kernel
theorem dL_law_310 : decode cL_law 310 = .ok (.aload_n 1, 1) := by decide +kernel
theorem dL_law_311 : decode cL_law 311 = .ok (.aload_n 0, 1) := by decide +kernel
theorem dL_law_312 : decode cL_law 312 = .ok (.iload_n 3, 1) := by decide +kernel
theorem dL_law_313 : decode cL_law 313 = .ok (.iconst 1, 1) := by decide +kernel
theorem dL_law_314 : decode cL_law 314 = .ok (.iadd, 1) := by decide +kernel
theorem dL_law_315 : decode cL_law 315 = .ok (.iaload, 1) := by decide +kernel
theorem dL_law_316 : decode cL_law 316 = .ok (.aload_n 0, 1) := by decide +kernel
theorem dL_law_317 : decode cL_law 317 = .ok (.iload_n 3, 1) := by decide +kernel
theorem dL_law_318 : decode cL_law 318 = .ok (.iconst 2, 1) := by decide +kernel
theorem dL_law_319 : decode cL_law 319 = .ok (.iadd, 1) := by decide +kernel
theorem dL_law_320 : decode cL_law 320 = .ok (.iaload, 1) := by decide +kernel
theorem dL_law_321 : decode cL_law 321 = .ok (.invokevirtual 48, 3) := by decide +kernel
theorem dL_law_324 : decode cL_law 324 = .ok (.aload_n 2, 1) := by decide +kernel
theorem dL_law_325 : decode cL_law 325 = .ok (.aload_n 0, 1) := by decide +kernel
theorem dL_law_326 : decode cL_law 326 = .ok (.iload_n 3, 1) := by decide +kernel
theorem dL_law_327 : decode cL_law 327 = .ok (.iconst 1, 1) := by decide +kernel
theorem dL_law_328 : decode cL_law 328 = .ok (.iadd, 1) := by decide +kernel
theorem dL_law_329 : decode cL_law 329 = .ok (.iaload, 1) := by decide +kernel
theorem dL_law_330 : decode cL_law 330 = .ok (.aload_n 0, 1) := by decide +kernel
theorem dL_law_331 : decode cL_law 331 = .ok (.iload_n 3, 1) := by decide +kernel
theorem dL_law_332 : decode cL_law 332 = .ok (.iconst 2, 1) := by decide +kernel
theorem dL_law_333 : decode cL_law 333 = .ok (.iadd, 1) := by decide +kernel
theorem dL_law_334 : decode cL_law 334 = .ok (.iaload, 1) := by decide +kernel
theorem dL_law_335 : decode cL_law 335 = .ok (.invokevirtual 51, 3) := by decide +kernel
theorem dL_law_338 : decode cL_law 338 = .ok (.if_icmp .eq 284, 3) := by decide +kernel
theorem dL_law_341 : decode cL_law 341 = .ok (.iconst 0, 1) := by decide +kernel
theorem dL_law_342 : decode cL_law 342 = .ok (.ireturn, 1) := by decide +kernel
theorem dL_law_343 : decode cL_law 343 = .ok (.aload_n 1, 1) := by decide +kernel
theorem dL_law_344 : decode cL_law 344 = .ok (.aload_n 0, 1) := by decide +kernel
theorem dL_law_345 : decode cL_law 345 = .ok (.iload_n 3, 1) := by decide +kernel
theorem dL_law_346 : decode cL_law 346 = .ok (.iconst 1, 1) := by decide +kernel
theorem dL_law_347 : decode cL_law 347 = .ok (.iadd, 1) := by decide +kernel
theorem dL_law_348 : decode cL_law 348 = .ok (.iaload, 1) := by decide +kernel
theorem dL_law_349 : decode cL_law 349 = .ok (.invokevirtual 52, 3) := by decide +kernel
theorem dL_law_352 : decode cL_law 352 = .ok (.aload_n 2, 1) := by decide +kernel
theorem dL_law_353 : decode cL_law 353 = .ok (.aload_n 0, 1) := by decide +kernel
theorem dL_law_354 : decode cL_law 354 = .ok (.iload_n 3, 1) := by decide +kernel
theorem dL_law_355 : decode cL_law 355 = .ok (.iconst 1, 1) := by decide +kernel
theorem dL_law_356 : decode cL_law 356 = .ok (.iadd, 1) := by decide +kernel
theorem dL_law_357 : decode cL_law 357 = .ok (.iaload, 1) := by decide +kernel
theorem dL_law_358 : decode cL_law 358 = .ok (.invokevirtual 55, 3) := by decide +kernel
theorem dL_law_361 : decode cL_law 361 = .ok (.if_icmp .eq 261, 3) := by decide +kernel
theorem dL_law_364 : decode cL_law 364 = .ok (.iconst 0, 1) := by decide +kernel
theorem dL_law_365 : decode cL_law 365 = .ok (.ireturn, 1) := by decide +kernel
theorem dL_law_366 : decode cL_law 366 = .ok (.aload_n 1, 1) := by decide +kernel
theorem dL_law_367 : decode cL_law 367 = .ok (.aload_n 0, 1) := by decide +kernel
theorem dL_law_368 : decode cL_law 368 = .ok (.iload_n 3, 1) := by decide +kernel
theorem dL_law_369 : decode cL_law 369 = .ok (.iconst 1, 1) := by decide +kernel
theorem dL_law_370 : decode cL_law 370 = .ok (.iadd, 1) := by decide +kernel
theorem dL_law_371 : decode cL_law 371 = .ok (.iaload, 1) := by decide +kernel
theorem dL_law_372 : decode cL_law 372 = .ok (.invokevirtual 56, 3) := by decide +kernel
theorem dL_law_375 : decode cL_law 375 = .ok (.aload_n 2, 1) := by decide +kernel
theorem dL_law_376 : decode cL_law 376 = .ok (.aload_n 0, 1) := by decide +kernel
theorem dL_law_377 : decode cL_law 377 = .ok (.iload_n 3, 1) := by decide +kernel
theorem dL_law_378 : decode cL_law 378 = .ok (.iconst 1, 1) := by decide +kernel
theorem dL_law_379 : decode cL_law 379 = .ok (.iadd, 1) := by decide +kernel
theorem dL_law_380 : decode cL_law 380 = .ok (.iaload, 1) := by decide +kernel
theorem dL_law_381 : decode cL_law 381 = .ok (.invokevirtual 59, 3) := by decide +kernel
theorem dL_law_384 : decode cL_law 384 = .ok (.if_icmp .eq 238, 3) := by decide +kernel
theorem dL_law_387 : decode cL_law 387 = .ok (.iconst 0, 1) := by decide +kernel
theorem dL_law_388 : decode cL_law 388 = .ok (.ireturn, 1) := by decide +kernel
theorem dL_law_389 : decode cL_law 389 = .ok (.aload_n 1, 1) := by decide +kernel
theorem dL_law_390 : decode cL_law 390 = .ok (.invokevirtual 60, 3) := by decide +kernel
theorem dL_law_393 : decode cL_law 393 = .ok (.aload_n 2, 1) := by decide +kernel
theorem dL_law_394 : decode cL_law 394 = .ok (.invokevirtual 63, 3) := by decide +kernel
theorem dL_law_397 : decode cL_law 397 = .ok (.if_icmp .eq 225, 3) := by decide +kernel
theorem dL_law_400 : decode cL_law 400 = .ok (.iconst 0, 1) := by decide +kernel
theorem dL_law_401 : decode cL_law 401 = .ok (.ireturn, 1) := by decide +kernel
theorem dL_law_402 : decode cL_law 402 = .ok (.aload_n 1, 1) := by decide +kernel
theorem dL_law_403 : decode cL_law 403 = .ok (.invokevirtual 64, 3) := by decide +kernel
theorem dL_law_406 : decode cL_law 406 = .ok (.aload_n 2, 1) := by decide +kernel
theorem dL_law_407 : decode cL_law 407 = .ok (.invokevirtual 67, 3) := by decide +kernel
theorem dL_law_410 : decode cL_law 410 = .ok (.if_icmp .eq 212, 3) := by decide +kernel
theorem dL_law_413 : decode cL_law 413 = .ok (.iconst 0, 1) := by decide +kernel
theorem dL_law_414 : decode cL_law 414 = .ok (.ireturn, 1) := by decide +kernel
theorem dL_law_415 : decode cL_law 415 = .ok (.aload_n 1, 1) := by decide +kernel
theorem dL_law_416 : decode cL_law 416 = .ok (.aload_n 0, 1) := by decide +kernel
theorem dL_law_417 : decode cL_law 417 = .ok (.iload_n 3, 1) := by decide +kernel
theorem dL_law_418 : decode cL_law 418 = .ok (.iconst 1, 1) := by decide +kernel
theorem dL_law_419 : decode cL_law 419 = .ok (.iadd, 1) := by decide +kernel
theorem dL_law_420 : decode cL_law 420 = .ok (.iaload, 1) := by decide +kernel
theorem dL_law_421 : decode cL_law 421 = .ok (.aload_n 0, 1) := by decide +kernel
theorem dL_law_422 : decode cL_law 422 = .ok (.iload_n 3, 1) := by decide +kernel
theorem dL_law_423 : decode cL_law 423 = .ok (.iconst 2, 1) := by decide +kernel
theorem dL_law_424 : decode cL_law 424 = .ok (.iadd, 1) := by decide +kernel
theorem dL_law_425 : decode cL_law 425 = .ok (.iaload, 1) := by decide +kernel
theorem dL_law_426 : decode cL_law 426 = .ok (.invokevirtual 68, 3) := by decide +kernel
theorem dL_law_429 : decode cL_law 429 = .ok (.aload_n 2, 1) := by decide +kernel
theorem dL_law_430 : decode cL_law 430 = .ok (.aload_n 0, 1) := by decide +kernel
theorem dL_law_431 : decode cL_law 431 = .ok (.iload_n 3, 1) := by decide +kernel
theorem dL_law_432 : decode cL_law 432 = .ok (.iconst 1, 1) := by decide +kernel
theorem dL_law_433 : decode cL_law 433 = .ok (.iadd, 1) := by decide +kernel
theorem dL_law_434 : decode cL_law 434 = .ok (.iaload, 1) := by decide +kernel
theorem dL_law_435 : decode cL_law 435 = .ok (.aload_n 0, 1) := by decide +kernel
theorem dL_law_436 : decode cL_law 436 = .ok (.iload_n 3, 1) := by decide +kernel
theorem dL_law_437 : decode cL_law 437 = .ok (.iconst 2, 1) := by decide +kernel
theorem dL_law_438 : decode cL_law 438 = .ok (.iadd, 1) := by decide +kernel
theorem dL_law_439 : decode cL_law 439 = .ok (.iaload, 1) := by decide +kernel
theorem dL_law_440 : decode cL_law 440 = .ok (.invokevirtual 71, 3) := by decide +kernel
theorem dL_law_443 : decode cL_law 443 = .ok (.if_icmp .eq 179, 3) := by decide +kernel
theorem dL_law_446 : decode cL_law 446 = .ok (.iconst 0, 1) := by decide +kernel
theorem dL_law_447 : decode cL_law 447 = .ok (.ireturn, 1) := by decide +kernel
theorem dL_law_448 : decode cL_law 448 = .ok (.aload_n 1, 1) := by decide +kernel
theorem dL_law_449 : decode cL_law 449 = .ok (.aload_n 0, 1) := by decide +kernel
theorem dL_law_450 : decode cL_law 450 = .ok (.iload_n 3, 1) := by decide +kernel
theorem dL_law_451 : decode cL_law 451 = .ok (.iconst 1, 1) := by decide +kernel
theorem dL_law_452 : decode cL_law 452 = .ok (.iadd, 1) := by decide +kernel
theorem dL_law_453 : decode cL_law 453 = .ok (.iaload, 1) := by decide +kernel
theorem dL_law_454 : decode cL_law 454 = .ok (.invokevirtual 72, 3) := by decide +kernel
theorem dL_law_457 : decode cL_law 457 = .ok (.aload_n 2, 1) := by decide +kernel
theorem dL_law_458 : decode cL_law 458 = .ok (.aload_n 0, 1) := by decide +kernel
theorem dL_law_459 : decode cL_law 459 = .ok (.iload_n 3, 1) := by decide +kernel
theorem dL_law_460 : decode cL_law 460 = .ok (.iconst 1, 1) := by decide +kernel
theorem dL_law_461 : decode cL_law 461 = .ok (.iadd, 1) := by decide +kernel
theorem dL_law_462 : decode cL_law 462 = .ok (.iaload, 1) := by decide +kernel
theorem dL_law_463 : decode cL_law 463 = .ok (.invokevirtual 75, 3) := by decide +kernel
theorem dL_law_466 : decode cL_law 466 = .ok (.if_icmp .eq 156, 3) := by decide +kernel
theorem dL_law_469 : decode cL_law 469 = .ok (.iconst 0, 1) := by decide +kernel
theorem dL_law_470 : decode cL_law 470 = .ok (.ireturn, 1) := by decide +kernel
theorem dL_law_471 : decode cL_law 471 = .ok (.aload_n 1, 1) := by decide +kernel
theorem dL_law_472 : decode cL_law 472 = .ok (.aload_n 0, 1) := by decide +kernel
theorem dL_law_473 : decode cL_law 473 = .ok (.iload_n 3, 1) := by decide +kernel
theorem dL_law_474 : decode cL_law 474 = .ok (.iconst 1, 1) := by decide +kernel
theorem dL_law_475 : decode cL_law 475 = .ok (.iadd, 1) := by decide +kernel
theorem dL_law_476 : decode cL_law 476 = .ok (.iaload, 1) := by decide +kernel
theorem dL_law_477 : decode cL_law 477 = .ok (.aload_n 0, 1) := by decide +kernel
theorem dL_law_478 : decode cL_law 478 = .ok (.iload_n 3, 1) := by decide +kernel
theorem dL_law_479 : decode cL_law 479 = .ok (.iconst 2, 1) := by decide +kernel
theorem dL_law_480 : decode cL_law 480 = .ok (.iadd, 1) := by decide +kernel
theorem dL_law_481 : decode cL_law 481 = .ok (.iaload, 1) := by decide +kernel
theorem dL_law_482 : decode cL_law 482 = .ok (.invokevirtual 76, 3) := by decide +kernel
theorem dL_law_485 : decode cL_law 485 = .ok (.aload_n 2, 1) := by decide +kernel
theorem dL_law_486 : decode cL_law 486 = .ok (.aload_n 0, 1) := by decide +kernel
theorem dL_law_487 : decode cL_law 487 = .ok (.iload_n 3, 1) := by decide +kernel
theorem dL_law_488 : decode cL_law 488 = .ok (.iconst 1, 1) := by decide +kernel
theorem dL_law_489 : decode cL_law 489 = .ok (.iadd, 1) := by decide +kernel
theorem dL_law_490 : decode cL_law 490 = .ok (.iaload, 1) := by decide +kernel
theorem dL_law_491 : decode cL_law 491 = .ok (.aload_n 0, 1) := by decide +kernel
theorem dL_law_492 : decode cL_law 492 = .ok (.iload_n 3, 1) := by decide +kernel
theorem dL_law_493 : decode cL_law 493 = .ok (.iconst 2, 1) := by decide +kernel
theorem dL_law_494 : decode cL_law 494 = .ok (.iadd, 1) := by decide +kernel
theorem dL_law_495 : decode cL_law 495 = .ok (.iaload, 1) := by decide +kernel
theorem dL_law_496 : decode cL_law 496 = .ok (.invokevirtual 79, 3) := by decide +kernel
theorem dL_law_499 : decode cL_law 499 = .ok (.if_icmp .eq 123, 3) := by decide +kernel
theorem dL_law_502 : decode cL_law 502 = .ok (.iconst 0, 1) := by decide +kernel
theorem dL_law_503 : decode cL_law 503 = .ok (.ireturn, 1) := by decide +kernel
theorem dL_law_504 : decode cL_law 504 = .ok (.aload_n 1, 1) := by decide +kernel
theorem dL_law_505 : decode cL_law 505 = .ok (.invokevirtual 80, 3) := by decide +kernel
theorem dL_law_508 : decode cL_law 508 = .ok (.aload_n 2, 1) := by decide +kernel
theorem dL_law_509 : decode cL_law 509 = .ok (.invokevirtual 83, 3) := by decide +kernel
theorem dL_law_512 : decode cL_law 512 = .ok (.if_icmp .eq 110, 3) := by decide +kernel
theorem dL_law_515 : decode cL_law 515 = .ok (.iconst 0, 1) := by decide +kernel
theorem dL_law_516 : decode cL_law 516 = .ok (.ireturn, 1) := by decide +kernel
theorem dL_law_517 : decode cL_law 517 = .ok (.aload_n 1, 1) := by decide +kernel
theorem dL_law_518 : decode cL_law 518 = .ok (.aload_n 0, 1) := by decide +kernel
theorem dL_law_519 : decode cL_law 519 = .ok (.iload_n 3, 1) := by decide +kernel
theorem dL_law_520 : decode cL_law 520 = .ok (.iconst 1, 1) := by decide +kernel
theorem dL_law_521 : decode cL_law 521 = .ok (.iadd, 1) := by decide +kernel
theorem dL_law_522 : decode cL_law 522 = .ok (.iaload, 1) := by decide +kernel
theorem dL_law_523 : decode cL_law 523 = .ok (.invokevirtual 84, 3) := by decide +kernel
theorem dL_law_526 : decode cL_law 526 = .ok (.aload_n 2, 1) := by decide +kernel
theorem dL_law_527 : decode cL_law 527 = .ok (.aload_n 0, 1) := by decide +kernel
theorem dL_law_528 : decode cL_law 528 = .ok (.iload_n 3, 1) := by decide +kernel
theorem dL_law_529 : decode cL_law 529 = .ok (.iconst 1, 1) := by decide +kernel
theorem dL_law_530 : decode cL_law 530 = .ok (.iadd, 1) := by decide +kernel
theorem dL_law_531 : decode cL_law 531 = .ok (.iaload, 1) := by decide +kernel
theorem dL_law_532 : decode cL_law 532 = .ok (.invokevirtual 87, 3) := by decide +kernel
theorem dL_law_535 : decode cL_law 535 = .ok (.if_icmp .eq 87, 3) := by decide +kernel
theorem dL_law_538 : decode cL_law 538 = .ok (.iconst 0, 1) := by decide +kernel
theorem dL_law_539 : decode cL_law 539 = .ok (.ireturn, 1) := by decide +kernel
theorem dL_law_540 : decode cL_law 540 = .ok (.aload_n 1, 1) := by decide +kernel
theorem dL_law_541 : decode cL_law 541 = .ok (.invokevirtual 88, 3) := by decide +kernel
theorem dL_law_544 : decode cL_law 544 = .ok (.aload_n 2, 1) := by decide +kernel
theorem dL_law_545 : decode cL_law 545 = .ok (.invokevirtual 91, 3) := by decide +kernel
theorem dL_law_548 : decode cL_law 548 = .ok (.if_icmp .eq 74, 3) := by decide +kernel
theorem dL_law_551 : decode cL_law 551 = .ok (.iconst 0, 1) := by decide +kernel
theorem dL_law_552 : decode cL_law 552 = .ok (.ireturn, 1) := by decide +kernel
theorem dL_law_553 : decode cL_law 553 = .ok (.aload_n 1, 1) := by decide +kernel
theorem dL_law_554 : decode cL_law 554 = .ok (.aload_n 0, 1) := by decide +kernel
theorem dL_law_555 : decode cL_law 555 = .ok (.iload_n 3, 1) := by decide +kernel
theorem dL_law_556 : decode cL_law 556 = .ok (.iconst 1, 1) := by decide +kernel
theorem dL_law_557 : decode cL_law 557 = .ok (.iadd, 1) := by decide +kernel
theorem dL_law_558 : decode cL_law 558 = .ok (.iaload, 1) := by decide +kernel
theorem dL_law_559 : decode cL_law 559 = .ok (.invokevirtual 92, 3) := by decide +kernel
theorem dL_law_562 : decode cL_law 562 = .ok (.aload_n 2, 1) := by decide +kernel
theorem dL_law_563 : decode cL_law 563 = .ok (.aload_n 0, 1) := by decide +kernel
theorem dL_law_564 : decode cL_law 564 = .ok (.iload_n 3, 1) := by decide +kernel
theorem dL_law_565 : decode cL_law 565 = .ok (.iconst 1, 1) := by decide +kernel
theorem dL_law_566 : decode cL_law 566 = .ok (.iadd, 1) := by decide +kernel
theorem dL_law_567 : decode cL_law 567 = .ok (.iaload, 1) := by decide +kernel
theorem dL_law_568 : decode cL_law 568 = .ok (.invokevirtual 95, 3) := by decide +kernel
theorem dL_law_571 : decode cL_law 571 = .ok (.if_icmp .eq 51, 3) := by decide +kernel
theorem dL_law_574 : decode cL_law 574 = .ok (.iconst 0, 1) := by decide +kernel
theorem dL_law_575 : decode cL_law 575 = .ok (.ireturn, 1) := by decide +kernel
theorem dL_law_576 : decode cL_law 576 = .ok (.aload_n 1, 1) := by decide +kernel
theorem dL_law_577 : decode cL_law 577 = .ok (.aload_n 0, 1) := by decide +kernel
theorem dL_law_578 : decode cL_law 578 = .ok (.iload_n 3, 1) := by decide +kernel
theorem dL_law_579 : decode cL_law 579 = .ok (.iconst 1, 1) := by decide +kernel
theorem dL_law_580 : decode cL_law 580 = .ok (.iadd, 1) := by decide +kernel
theorem dL_law_581 : decode cL_law 581 = .ok (.iaload, 1) := by decide +kernel
theorem dL_law_582 : decode cL_law 582 = .ok (.invokevirtual 96, 3) := by decide +kernel
theorem dL_law_585 : decode cL_law 585 = .ok (.aload_n 2, 1) := by decide +kernel
theorem dL_law_586 : decode cL_law 586 = .ok (.aload_n 0, 1) := by decide +kernel
theorem dL_law_587 : decode cL_law 587 = .ok (.iload_n 3, 1) := by decide +kernel
theorem dL_law_588 : decode cL_law 588 = .ok (.iconst 1, 1) := by decide +kernel
theorem dL_law_589 : decode cL_law 589 = .ok (.iadd, 1) := by decide +kernel
theorem dL_law_590 : decode cL_law 590 = .ok (.iaload, 1) := by decide +kernel
theorem dL_law_591 : decode cL_law 591 = .ok (.invokevirtual 99, 3) := by decide +kernel
theorem dL_law_594 : decode cL_law 594 = .ok (.if_icmp .eq 28, 3) := by decide +kernel
theorem dL_law_597 : decode cL_law 597 = .ok (.iconst 0, 1) := by decide +kernel
theorem dL_law_598 : decode cL_law 598 = .ok (.ireturn, 1) := by decide +kernel
theorem dL_law_599 : decode cL_law 599 = .ok (.aload_n 1, 1) := by decide +kernel
theorem dL_law_600 : decode cL_law 600 = .ok (.aload_n 0, 1) := by decide +kernel
theorem dL_law_601 : decode cL_law 601 = .ok (.iload_n 3, 1) := by decide +kernel
theorem dL_law_602 : decode cL_law 602 = .ok (.iconst 1, 1) := by decide +kernel
theorem dL_law_603 : decode cL_law 603 = .ok (.iadd, 1) := by decide +kernel
theorem dL_law_604 : decode cL_law 604 = .ok (.iaload, 1) := by decide +kernel
theorem dL_law_605 : decode cL_law 605 = .ok (.invokevirtual 100, 3) := by decide +kernel
theorem dL_law_608 : decode cL_law 608 = .ok (.aload_n 2, 1) := by decide +kernel
theorem dL_law_609 : decode cL_law 609 = .ok (.aload_n 0, 1) := by decide +kernel
theorem dL_law_610 : decode cL_law 610 = .ok (.iload_n 3, 1) := by decide +kernel
theorem dL_law_611 : decode cL_law 611 = .ok (.iconst 1, 1) := by decide +kernel
theorem dL_law_612 : decode cL_law 612 = .ok (.iadd, 1) := by decide +kernel
theorem dL_law_613 : decode cL_law 613 = .ok (.iaload, 1) := by decide +kernel
theorem dL_law_614 : decode cL_law 614 = .ok (.invokevirtual 103, 3) := by decide +kernel
theorem dL_law_617 : decode cL_law 617 = .ok (.if_icmp .eq 5, 3) := by decide +kernel
theorem dL_law_620 : decode cL_law 620 = .ok (.iconst 0, 1) := by decide +kernel
theorem dL_law_621 : decode cL_law 621 = .ok (.ireturn, 1) := by decide +kernel
theorem dL_law_622 : decode cL_law 622 = .ok (.iinc 3 3, 3) := by decide +kernel
theorem dL_law_625 : decode cL_law 625 = .ok (.goto (-607), 3) := by decide +kernel
theorem dL_law_628 : decode cL_law 628 = .ok (.iconst 1, 1) := by decide +kernel
theorem dL_law_629 : decode cL_law 629 = .ok (.ireturn, 1) := by decide +kernel
abbrev vwCl : List vw_C := [(RX0, TX0, 7), (RX1, TX1, 2), (RX2, TX2, 4), (RX3, TX3, 3), (RX4, TX4, 8), (RX5, TX5, 9), (RX6, TX6, 15)]
end
section
/-! own words for contracts: a truth value as an int, a world before and behind a method, one lemma a call -/
def bI (b : Bool) : Int32 := if b = true then 1 else 0
theorem bI_eq0 {b : Bool} : bI b = 0 ↔ b = false := by cases b <;> decide
theorem bI_ne0 {b : Bool} : ¬ bI b = 0 ↔ b = true := by cases b <;> decide
theorem bI_eq {a b : Bool} : bI a = bI b ↔ a = b := by cases a <;> cases b <;> decide
theorem nar_bI (b : Bool) : narrow .boolean (.int (bI b)) = .int (bI b) := by cases b <;> rfl
abbrev tyC (cI cZ cO : ClassId) : List (ClassId × FieldType) := [(cI, .int), (cZ, .boolean), (cO, .object "SharedLine$Line")]
abbrev rmF (f n : Nat) : Room := { frames := f, cells := 0, slots := 0, locals := n }
def PrW (D : va_G) (tys : List (ClassId × FieldType)) (w : va_W) (sz : Nat) (U : State) : Prop := U.heap.size = sz ∧ va_P D vwCl w U.heap ∧ va_K D vwCl tys U ∧ va_D (fun _ => True) w
def PoW (D : va_G) (tys : List (ClassId × FieldType)) (A : Nat → Prop) (w : va_W) (t : State) : Prop := va_P D vwCl w t.heap ∧ va_K D vwCl tys t ∧ va_D A w
/-- a method that answers f and makes nothing: its world w becomes w' -/
def MetI (l : Launch) (D : va_G) (tys : List (ClassId × FieldType)) (y : MethodName) (ws : List Cond) (rm : Room) (av : List Value) (w : va_W) (f : Int32) (w' : va_W) : Prop :=
  ∀ sz : Nat, Met l y ws rm (va_Pc av (PrW D tys w sz)) (va_Qi (fun (x : Int32) (_ : Unit) => x = f) (fun _ t => PoW D tys (va_A w sz) w' t) (va_A w sz)) 0 0 (va_A w sz)
def MetV (l : Launch) (D : va_G) (tys : List (ClassId × FieldType)) (y : MethodName) (ws : List Cond) (rm : Room) (av : List Value) (w : va_W) (w' : va_W) : Prop :=
  ∀ sz : Nat, Met l y ws rm (va_Pc av (PrW D tys w sz)) (va_Qv (fun (_ : Unit) => True) (fun _ t => PoW D tys (va_A w sz) w' t) (va_A w sz)) 0 0 (va_A w sz)
theorem fm_of {α : Type} {f : Nat → Option α} {is : List Nat} {w : List α} (h : is.map f = w.map some) : is.filterMap f = w := by
  have h1 : is.filterMap f = (is.map f).filterMap id := by rw [List.filterMap_map]; rfl
  rw [h1, h, List.filterMap_map]
  simp
theorem blind_PrW {av : List Value} {D : va_G} {tys : List (ClassId × FieldType)} {w : va_W} {sz : Nat} : FrameBlind (va_Pc av (PrW D tys w sz)) := fun a U g mk q => by
  obtain ⟨q0, q1, qP, qK, qD⟩ := q
  exact ⟨q0, q1, qP, va_K.moved (u := U) (U := U.calling g mk a) (Vm.Alike.refl U.vm) qK, qD⟩
section VQ
variable {p : Program} {l : Launch} {e : Env} {R : Room} {s : State} {m : MethodId} {args : Array Value} {below : List Frame} {meth : Method} {c : Code} {H : Heap} {locs : List Loc} {cells slots : Nat} {Q : State → Prop}
variable {cc : ByteArray} {pc nL : Nat} {ls : Array Slot} {Ts : List Cond} {own : String} {D : va_G} {tys : List (ClassId × FieldType)} {A : Nat → Prop} {H0 : Heap} {W1 : va_W}
variable {y : MethodName} {ws ws' : List Cond} {rm : Room} {bytes : ByteArray} {maxL n index : Nat} {ret : Option FieldType} {C : String} {b : Nat} {As rest st0 : List Value} {w w' wr W2 : va_W} {f : Int32} {ci qr : Nat} {qc : vw_C} {fs : List Value}
/-- what stands behind a call: the world of the caller with the callee's part made new -/
theorem vq_back {t : State} {H1 : Heap} (isC isR isP : List Nat) (hP : va_P D vwCl W1 H) (hD : va_D A W1) (hC : isC.map (fun i => W1[i]?) = w.map some) (hRr : isR.map (fun i => W1[i]?) = wr.map some) (hnd : (va_nd isR && va_nd isP) = true) (hdis : ∀ i ∈ isR, i ∉ isC) (hp : isP.map (fun i => (wr ++ w')[i]?) = W2.map some)
    (ht : t.heap = H1) (hk : ∀ q : Nat, q < H.size → ¬ va_A w H.size q → H1[q]? = H[q]?) (hF : ∀ q, va_A w H.size q → A q) (hB : PoW D tys (va_A w H.size) w' t) : va_P D vwCl W2 H1 ∧ va_D A W2 := by
  obtain ⟨hP1, hK1, hD1⟩ := hB
  rw [ht] at hP1
  obtain ⟨n1, n2⟩ := Bool.and_eq_true_iff.mp hnd
  obtain ⟨hP2, hD2⟩ := va_join (wr := wr) (w1 := w') hP hD isC isR hC hRr n1 hdis hk hF hP1 hD1
  exact ⟨hP2.sub isP (fm_of hp), hD2.sub isP n2 hp⟩
theorem vq_Vi (hx : p.tables.exec = Jvm.exec) (hb : c.code = cc) (hml : c.maxLocals = nL) (hown : s.vm.findClass own = some m.cls) (hts : ∀ w ∈ Ts, w.before args s = true) (hK : va_K D vwCl tys s) (hP : va_P D vwCl W1 H) (hD : va_D A W1) (hS : va_S A H0 H locs) (hA : ∀ q, H0.size ≤ q → A q) (hl : ls.size = nL)
    (hM : MetI l D tys y ws rm (.ref b :: As) w f w') (hG : GoodIn Ts (wsV own index C y ws)) (hw : ws = Cond.code y bytes maxL ret :: ws') (hd : y.cls = C ∧ y.cls ≠ "java/lang/invoke/MethodHandle" ∧ y.cls ≠ "java/lang/invoke/VarHandle" ∧ (parseMethodDescriptor y.desc).map (fun d => d.parameters.length) = some n) (hR1 : rm.frames + 1 ≤ R.frames) (hR2 : 8 + (maxL + 11) + rm.locals ≤ R.locals) (hrc : rm.cells = 0) (hrs : rm.slots = 0)
    (hc : vwCl[ci]? = some qc) (hqC : qc.1 = C) (he : W1[qr]? = some (b, .inr (ci, fs)))
    (isC isR isP : List Nat) (hC : isC.map (fun i => W1[i]?) = w.map some) (hRr : isR.map (fun i => W1[i]?) = wr.map some) (hnC : va_nd isC = true) (hnd : (va_nd isR && va_nd isP) = true) (hdis : ∀ i ∈ isR, i ∉ isC) (hp : isP.map (fun i => (wr ++ w')[i]?) = W2.map some)
    (hst : st0 = As.reverse ++ .ref b :: rest) (hn : As.length = n) (hrm : (rest.map fun v => v.category).sum ≤ 8) (hdg : decode cc pc = .ok (.invokevirtual index, 3)) (hcs : cells ≤ R.cells ∧ slots ≤ R.slots)
    (k : ∀ (H1 : Heap) (locs1 : List Loc), va_P D vwCl W2 H1 → va_D A W2 → va_S A H0 H1 locs1 → W p l e R s m args below meth c H1 locs1 cells slots Q (F0 m (pc + 3) ls (.int f :: rest))) :
    W p l e R s m args below meth c H locs cells slots Q (F0 m pc ls st0) := by
  subst hst
  subst hqC
  have hPc := hP.sub isC (fm_of hC)
  have hDc := hD.sub isC hnC hC
  have hFc := va_free hD hS hA isC hC
  refine va_calli (va_runV (As := As) (rest := rest) ⟨hx, hb, hml, hown, hts⟩ (hM H.size) (cwV n hts hG hw hrc hrs hd ⟨hR1, hR2⟩) ⟨blind_PrW, va_recv hK hP hc he, fun U hU hW => ⟨rfl, by rw [hU], by rw [hU]; exact hPc, va_K.moved hW.alike hK, hDc.weaken (fun _ _ _ _ => trivial)⟩⟩ rfl hn hl rfl (lv_room hrm) hdg hcs) hS (fun q _ h => hFc q h) hFc (fun r u t H1 locs1 ht hvm hw hB hz1 hk1 hS1 => ?_)
  obtain ⟨a1, a2⟩ := vq_back isC isR isP hP hD hC hRr hnd hdis hp ht hk1 hFc hB
  subst hw
  exact k H1 locs1 a1 a2 hS1
theorem vq_Vv (hx : p.tables.exec = Jvm.exec) (hb : c.code = cc) (hml : c.maxLocals = nL) (hown : s.vm.findClass own = some m.cls) (hts : ∀ w ∈ Ts, w.before args s = true) (hK : va_K D vwCl tys s) (hP : va_P D vwCl W1 H) (hD : va_D A W1) (hS : va_S A H0 H locs) (hA : ∀ q, H0.size ≤ q → A q) (hl : ls.size = nL)
    (hM : MetV l D tys y ws rm (.ref b :: As) w w') (hG : GoodIn Ts (wsV own index C y ws)) (hw : ws = Cond.code y bytes maxL ret :: ws') (hd : y.cls = C ∧ y.cls ≠ "java/lang/invoke/MethodHandle" ∧ y.cls ≠ "java/lang/invoke/VarHandle" ∧ (parseMethodDescriptor y.desc).map (fun d => d.parameters.length) = some n) (hR1 : rm.frames + 1 ≤ R.frames) (hR2 : 8 + (maxL + 11) + rm.locals ≤ R.locals) (hrc : rm.cells = 0) (hrs : rm.slots = 0)
    (hc : vwCl[ci]? = some qc) (hqC : qc.1 = C) (he : W1[qr]? = some (b, .inr (ci, fs)))
    (isC isR isP : List Nat) (hC : isC.map (fun i => W1[i]?) = w.map some) (hRr : isR.map (fun i => W1[i]?) = wr.map some) (hnC : va_nd isC = true) (hnd : (va_nd isR && va_nd isP) = true) (hdis : ∀ i ∈ isR, i ∉ isC) (hp : isP.map (fun i => (wr ++ w')[i]?) = W2.map some)
    (hst : st0 = As.reverse ++ .ref b :: rest) (hn : As.length = n) (hrm : (rest.map fun v => v.category).sum ≤ 8) (hdg : decode cc pc = .ok (.invokevirtual index, 3)) (hcs : cells ≤ R.cells ∧ slots ≤ R.slots)
    (k : ∀ (H1 : Heap) (locs1 : List Loc), va_P D vwCl W2 H1 → va_D A W2 → va_S A H0 H1 locs1 → W p l e R s m args below meth c H1 locs1 cells slots Q (F0 m (pc + 3) ls rest)) :
    W p l e R s m args below meth c H locs cells slots Q (F0 m pc ls st0) := by
  subst hst
  subst hqC
  have hPc := hP.sub isC (fm_of hC)
  have hDc := hD.sub isC hnC hC
  have hFc := va_free hD hS hA isC hC
  refine va_callv (va_runV (As := As) (rest := rest) ⟨hx, hb, hml, hown, hts⟩ (hM H.size) (cwV n hts hG hw hrc hrs hd ⟨hR1, hR2⟩) ⟨blind_PrW, va_recv hK hP hc he, fun U hU hW => ⟨rfl, by rw [hU], by rw [hU]; exact hPc, va_K.moved hW.alike hK, hDc.weaken (fun _ _ _ _ => trivial)⟩⟩ rfl hn hl rfl (lv_room hrm) hdg hcs) hS (fun q _ h => hFc q h) hFc (fun u t H1 locs1 ht hvm hw hB hz1 hk1 hS1 => ?_)
  obtain ⟨a1, a2⟩ := vq_back isC isR isP hP hD hC hRr hnd hdis hp ht hk1 hFc hB
  exact k H1 locs1 a1 a2 hS1
theorem vq_Si (hx : p.tables.exec = Jvm.exec) (hb : c.code = cc) (hml : c.maxLocals = nL) (hown : s.vm.findClass own = some m.cls) (hts : ∀ w ∈ Ts, w.before args s = true) (hK : va_K D vwCl tys s) (hP : va_P D vwCl W1 H) (hD : va_D A W1) (hS : va_S A H0 H locs) (hA : ∀ q, H0.size ≤ q → A q) (hl : ls.size = nL)
    (hM : MetI l D tys y ws rm As w f w') (hG : GoodIn Ts (va_wsS own index y ws)) (hw : ws = Cond.code y bytes maxL ret :: ws') (hd : y.cls ≠ "java/lang/invoke/MethodHandle" ∧ y.cls ≠ "java/lang/invoke/VarHandle" ∧ (parseMethodDescriptor y.desc).map (fun d => d.parameters.length) = some n) (hR1 : rm.frames + 1 ≤ R.frames) (hR2 : 8 + (maxL + 11) + rm.locals ≤ R.locals) (hrc : rm.cells = 0) (hrs : rm.slots = 0)
    (isC isR isP : List Nat) (hC : isC.map (fun i => W1[i]?) = w.map some) (hRr : isR.map (fun i => W1[i]?) = wr.map some) (hnC : va_nd isC = true) (hnd : (va_nd isR && va_nd isP) = true) (hdis : ∀ i ∈ isR, i ∉ isC) (hp : isP.map (fun i => (wr ++ w')[i]?) = W2.map some)
    (hst : st0 = As.reverse ++ rest) (hn : As.length = n) (hrm : (rest.map fun v => v.category).sum ≤ 8) (hdg : decode cc pc = .ok (.invokestatic index, 3)) (hcs : cells ≤ R.cells ∧ slots ≤ R.slots)
    (k : ∀ (H1 : Heap) (locs1 : List Loc), va_P D vwCl W2 H1 → va_D A W2 → va_S A H0 H1 locs1 → W p l e R s m args below meth c H1 locs1 cells slots Q (F0 m (pc + 3) ls (.int f :: rest))) :
    W p l e R s m args below meth c H locs cells slots Q (F0 m pc ls st0) := by
  subst hst
  have hPc := hP.sub isC (fm_of hC)
  have hDc := hD.sub isC hnC hC
  have hFc := va_free hD hS hA isC hC
  refine va_calli (va_runS (As := As) (rest := rest) ⟨hx, hb, hml, hown, hts⟩ (hM H.size) (va_cwS n hts hG hw hrc hrs hd ⟨hR1, hR2⟩) ⟨blind_PrW, fun U hU hW => ⟨rfl, by rw [hU], by rw [hU]; exact hPc, va_K.moved hW.alike hK, hDc.weaken (fun _ _ _ _ => trivial)⟩⟩ rfl hn hl rfl (lv_room hrm) hdg hcs) hS (fun q _ h => hFc q h) hFc (fun r u t H1 locs1 ht hvm hw hB hz1 hk1 hS1 => ?_)
  obtain ⟨a1, a2⟩ := vq_back isC isR isP hP hD hC hRr hnd hdis hp ht hk1 hFc hB
  subst hw
  exact k H1 locs1 a1 a2 hS1
theorem vq_Sv (hx : p.tables.exec = Jvm.exec) (hb : c.code = cc) (hml : c.maxLocals = nL) (hown : s.vm.findClass own = some m.cls) (hts : ∀ w ∈ Ts, w.before args s = true) (hK : va_K D vwCl tys s) (hP : va_P D vwCl W1 H) (hD : va_D A W1) (hS : va_S A H0 H locs) (hA : ∀ q, H0.size ≤ q → A q) (hl : ls.size = nL)
    (hM : MetV l D tys y ws rm As w w') (hG : GoodIn Ts (va_wsS own index y ws)) (hw : ws = Cond.code y bytes maxL ret :: ws') (hd : y.cls ≠ "java/lang/invoke/MethodHandle" ∧ y.cls ≠ "java/lang/invoke/VarHandle" ∧ (parseMethodDescriptor y.desc).map (fun d => d.parameters.length) = some n) (hR1 : rm.frames + 1 ≤ R.frames) (hR2 : 8 + (maxL + 11) + rm.locals ≤ R.locals) (hrc : rm.cells = 0) (hrs : rm.slots = 0)
    (isC isR isP : List Nat) (hC : isC.map (fun i => W1[i]?) = w.map some) (hRr : isR.map (fun i => W1[i]?) = wr.map some) (hnC : va_nd isC = true) (hnd : (va_nd isR && va_nd isP) = true) (hdis : ∀ i ∈ isR, i ∉ isC) (hp : isP.map (fun i => (wr ++ w')[i]?) = W2.map some)
    (hst : st0 = As.reverse ++ rest) (hn : As.length = n) (hrm : (rest.map fun v => v.category).sum ≤ 8) (hdg : decode cc pc = .ok (.invokestatic index, 3)) (hcs : cells ≤ R.cells ∧ slots ≤ R.slots)
    (k : ∀ (H1 : Heap) (locs1 : List Loc), va_P D vwCl W2 H1 → va_D A W2 → va_S A H0 H1 locs1 → W p l e R s m args below meth c H1 locs1 cells slots Q (F0 m (pc + 3) ls rest)) :
    W p l e R s m args below meth c H locs cells slots Q (F0 m pc ls st0) := by
  subst hst
  have hPc := hP.sub isC (fm_of hC)
  have hDc := hD.sub isC hnC hC
  have hFc := va_free hD hS hA isC hC
  refine va_callv (va_runS (As := As) (rest := rest) ⟨hx, hb, hml, hown, hts⟩ (hM H.size) (va_cwS n hts hG hw hrc hrs hd ⟨hR1, hR2⟩) ⟨blind_PrW, fun U hU hW => ⟨rfl, by rw [hU], by rw [hU]; exact hPc, va_K.moved hW.alike hK, hDc.weaken (fun _ _ _ _ => trivial)⟩⟩ rfl hn hl rfl (lv_room hrm) hdg hcs) hS (fun q _ h => hFc q h) hFc (fun u t H1 locs1 ht hvm hw hB hz1 hk1 hS1 => ?_)
  obtain ⟨a1, a2⟩ := vq_back isC isR isP hP hD hC hRr hnd hdis hp ht hk1 hFc hB
  exact k H1 locs1 a1 a2 hS1
theorem vq_iret {v : Int32} (hx : p.tables.exec = Jvm.exec) (hb : c.code = cc) (hr : meth.sig.returnType = some .int) (hlocks : meth.locks = false) (hK : va_K D vwCl tys s) (hP : va_P D vwCl w' H) (hD : va_D A w') (hS : va_S A s.heap H locs) (hv : v = f) (hdg : decode cc pc = .ok (.ireturn, 1)) :
    W p l e R s m args below meth c H locs cells slots (MQ below (va_Qi (fun (x : Int32) (_ : Unit) => x = f) (fun _ t => PoW D tys A w' t) A) args s cells slots A) (F0 m pc ls [.int v]) :=
  W.iret (v := v) hx hb hr (fun t ht hW => ⟨⟨v, (), rfl, hv, by rw [ht]; exact hP, va_K.moved hW.alike hK, hD⟩, hS.F ht⟩) hS.2.2 hdg hlocks
theorem vq_zret {v : Int32} (hx : p.tables.exec = Jvm.exec) (hb : c.code = cc) (hr : meth.sig.returnType = some .boolean) (hlocks : meth.locks = false) (hK : va_K D vwCl tys s) (hP : va_P D vwCl w' H) (hD : va_D A w') (hS : va_S A s.heap H locs) (hn : narrow .boolean (.int v) = .int v) (hv : v = f) (hdg : decode cc pc = .ok (.ireturn, 1)) :
    W p l e R s m args below meth c H locs cells slots (MQ below (va_Qi (fun (x : Int32) (_ : Unit) => x = f) (fun _ t => PoW D tys A w' t) A) args s cells slots A) (F0 m pc ls [.int v]) :=
  W.zret (v := v) hx hb hr hn (fun t ht hW => ⟨⟨v, (), rfl, hv, by rw [ht]; exact hP, va_K.moved hW.alike hK, hD⟩, hS.F ht⟩) hS.2.2 hdg hlocks
theorem vq_vret (hx : p.tables.exec = Jvm.exec) (hb : c.code = cc) (hr : meth.sig.returnType = none) (hlocks : meth.locks = false) (hK : va_K D vwCl tys s) (hP : va_P D vwCl w' H) (hD : va_D A w') (hS : va_S A s.heap H locs) (hdg : decode cc pc = .ok (.return_, 1)) :
    W p l e R s m args below meth c H locs cells slots (MQ below (va_Qv (fun (_ : Unit) => True) (fun _ t => PoW D tys A w' t) A) args s cells slots A) (F0 m pc ls []) :=
  W.vret hx hb hr (fun t ht hW => ⟨⟨(), rfl, trivial, by rw [ht]; exact hP, va_K.moved hW.alike hK, hD⟩, hS.F ht⟩) hS.2.2 hdg hlocks
/-- truth values on the stack -/
theorem lv_if_eqB {t : Bool} (hx : p.tables.exec = Jvm.exec) (hb : c.code = cc) {off : Int} {tgt : Nat} (hdg : decode cc pc = .ok (.ifCond .eq off, 3)) (ht : (pc : Int) + off = (tgt : Int)) (kt : t = false → W p l e R s m args below meth c H locs cells slots Q (F0 m tgt ls rest)) (kf : t = true → W p l e R s m args below meth c H locs cells slots Q (F0 m (pc + 3) ls rest)) : W p l e R s m args below meth c H locs cells slots Q (F0 m pc ls (.int (bI t) :: rest)) :=
  lv_if_eq hx hb hdg ht (fun h => kt (bI_eq0.mp h)) (fun h => kf (bI_ne0.mp h))
theorem lv_if_neB {t : Bool} (hx : p.tables.exec = Jvm.exec) (hb : c.code = cc) {off : Int} {tgt : Nat} (hdg : decode cc pc = .ok (.ifCond .ne off, 3)) (ht : (pc : Int) + off = (tgt : Int)) (kt : t = true → W p l e R s m args below meth c H locs cells slots Q (F0 m tgt ls rest)) (kf : t = false → W p l e R s m args below meth c H locs cells slots Q (F0 m (pc + 3) ls rest)) : W p l e R s m args below meth c H locs cells slots Q (F0 m pc ls (.int (bI t) :: rest)) :=
  lv_if_ne hx hb hdg ht (fun h => kt (bI_ne0.mp h)) (fun h => kf (bI_eq0.mp h))
theorem lv_icmp_neB {t u : Bool} (hx : p.tables.exec = Jvm.exec) (hb : c.code = cc) {off : Int} {tgt : Nat} (hdg : decode cc pc = .ok (.if_icmp .ne off, 3)) (ht : (pc : Int) + off = (tgt : Int)) (kt : ¬ t = u → W p l e R s m args below meth c H locs cells slots Q (F0 m tgt ls rest)) (kf : t = u → W p l e R s m args below meth c H locs cells slots Q (F0 m (pc + 3) ls rest)) : W p l e R s m args below meth c H locs cells slots Q (F0 m pc ls (.int (bI u) :: .int (bI t) :: rest)) :=
  lv_icmp_ne hx hb hdg ht (fun h => kt (fun q => h (bI_eq.mpr q))) (fun h => kf (bI_eq.mp h))
theorem lv_icmp_eqB {t u : Bool} (hx : p.tables.exec = Jvm.exec) (hb : c.code = cc) {off : Int} {tgt : Nat} (hdg : decode cc pc = .ok (.if_icmp .eq off, 3)) (ht : (pc : Int) + off = (tgt : Int)) (kt : t = u → W p l e R s m args below meth c H locs cells slots Q (F0 m tgt ls rest)) (kf : ¬ t = u → W p l e R s m args below meth c H locs cells slots Q (F0 m (pc + 3) ls rest)) : W p l e R s m args below meth c H locs cells slots Q (F0 m pc ls (.int (bI u) :: .int (bI t) :: rest)) :=
  lv_icmp_eq hx hb hdg ht (fun h => kt (bI_eq.mp h)) (fun h => kf (fun q => h (bI_eq.mpr q)))
/-- an int read at a known place -/
theorem vq_ialdK (hx : p.tables.exec = Jvm.exec) (hb : c.code = cc) (hK : va_K D vwCl tys s) (hP : va_P D vwCl W1 H) (q0 t0 : Nat) {a : Nat} {cA : ClassId} {n : Nat} {f : Nat → Int32} (ha : W1[q0]? = some (a, .inl (cA, n, .inl f))) (ht : tys[t0]? = some (cA, .int)) {i : Int32} {k : Nat} (hi : i.toNatClampNeg = k) (h0 : ¬ i < 0) (hk : k < n) (hdg : decode cc pc = .ok (.iaload, 1))
    (kk : W p l e R s m args below meth c H locs cells slots Q (F0 m (pc + 1) ls (.int (f k) :: rest))) : W p l e R s m args below meth c H locs cells slots Q (F0 m pc ls (.int i :: .ref a :: rest)) := by
  subst hi
  exact va_iald hx hb hK hP q0 t0 ha ht (fun q => q.elim h0 (fun q => absurd hk (Nat.not_lt.mpr q))) hdg kk
theorem vq_iastK (hx : p.tables.exec = Jvm.exec) (hb : c.code = cc) (hK : va_K D vwCl tys s) (hP : va_P D vwCl W1 H) (hD : va_D A W1) (hS : va_S A H0 H locs) (q0 t0 : Nat) {a : Nat} {cA : ClassId} {n : Nat} {f : Nat → Int32} (ha : W1[q0]? = some (a, .inl (cA, n, .inl f))) (ht : tys[t0]? = some (cA, .int)) {i x : Int32} {k : Nat} (hi : i.toNatClampNeg = k) (h0 : ¬ i < 0) (hk : k < n) (hdg : decode cc pc = .ok (.iastore, 1))
    (kk : ∀ (H1 : Heap) (locs1 : List Loc), va_P D vwCl (W1.set q0 (a, .inl (cA, n, .inl (upd f k x)))) H1 → va_D A (W1.set q0 (a, .inl (cA, n, .inl (upd f k x)))) → va_S A H0 H1 locs1 → W p l e R s m args below meth c H1 locs1 cells slots Q (F0 m (pc + 1) ls rest)) : W p l e R s m args below meth c H locs cells slots Q (F0 m pc ls (.int x :: .int i :: .ref a :: rest)) := by
  subst hi
  exact va_iast hx hb hK hP hD hS q0 t0 ha ht (fun q => q.elim h0 (fun q => absurd hk (Nat.not_lt.mpr q))) hdg kk
end VQ
/-- a method's walk, from its entry -/
theorem MetI_of {l : Launch} {D : va_G} {tys : List (ClassId × FieldType)} {y : MethodName} {ws ws' : List Cond} {rm : Room} {av : List Value} {w : va_W} {f : Int32} {w' : va_W} {cc : ByteArray} {maxL : Nat} {ret : Option FieldType} (hy : plainName y.cls = true) (hw : ws = Cond.code y cc maxL ret :: ws') (hav : (lg_sl av).length ≤ maxL)
    (body : ∀ (p : Program) (e : Env) (s : State) (m : MethodId) (below : List Frame) (meth : Method) (c : Code) (A : Nat → Prop) (ls : Array Slot), p.tables.exec = Jvm.exec → c.code = cc → meth.sig.returnType = ret → c.maxLocals = maxL → (∀ w ∈ ws, w.before av.toArray s = true) → s.vm.findClass y.cls = some m.cls → meth.locks = false → meth.name = y.name → va_K D vwCl tys s → va_P D vwCl w s.heap → va_D A w → (∀ q, s.heap.size ≤ q → A q) → lv_has ls maxL (lv_args 0 av) →
      W p l e (headSpec ws rm).room s m av.toArray below meth c s.heap [] 0 0 (MQ below (va_Qi (fun (x : Int32) (_ : Unit) => x = f) (fun _ t => PoW D tys A w' t) A) av.toArray s 0 0 A) (F0 m 0 ls [])) : MetI l D tys y ws rm av w f w' := by
  intro sz
  refine Met.ofW (cc := cc) (maxL := maxL) (ret := ret) hy hw ?_
  intro p e s m args below meth c s₁ B hml hv
  obtain ⟨rfl, hsz, hP, hK, hD0⟩ := hv
  subst hsz
  rw [lg_entry_eq]
  exact body p e s m below meth c _ _ B.exec B.bytes B.returns hml (atoms_spec (ws := ws) B.pre) (findClass_of_methodNamed B.named) B.notSynchronized (name_of_methodNamed B.named B.method).1 hK hP (hD0.self (sz := s.heap.size)) (fun q h => Or.inr h) (lv_entry av hav)
theorem MetV_of {l : Launch} {D : va_G} {tys : List (ClassId × FieldType)} {y : MethodName} {ws ws' : List Cond} {rm : Room} {av : List Value} {w : va_W} {w' : va_W} {cc : ByteArray} {maxL : Nat} {ret : Option FieldType} (hy : plainName y.cls = true) (hw : ws = Cond.code y cc maxL ret :: ws') (hav : (lg_sl av).length ≤ maxL)
    (body : ∀ (p : Program) (e : Env) (s : State) (m : MethodId) (below : List Frame) (meth : Method) (c : Code) (A : Nat → Prop) (ls : Array Slot), p.tables.exec = Jvm.exec → c.code = cc → meth.sig.returnType = ret → c.maxLocals = maxL → (∀ w ∈ ws, w.before av.toArray s = true) → s.vm.findClass y.cls = some m.cls → meth.locks = false → meth.name = y.name → va_K D vwCl tys s → va_P D vwCl w s.heap → va_D A w → (∀ q, s.heap.size ≤ q → A q) → lv_has ls maxL (lv_args 0 av) →
      W p l e (headSpec ws rm).room s m av.toArray below meth c s.heap [] 0 0 (MQ below (va_Qv (fun (_ : Unit) => True) (fun _ t => PoW D tys A w' t) A) av.toArray s 0 0 A) (F0 m 0 ls [])) : MetV l D tys y ws rm av w w' := by
  intro sz
  refine Met.ofW (cc := cc) (maxL := maxL) (ret := ret) hy hw ?_
  intro p e s m args below meth c s₁ B hml hv
  obtain ⟨rfl, hsz, hP, hK, hD0⟩ := hv
  subst hsz
  rw [lg_entry_eq]
  exact body p e s m below meth c _ _ B.exec B.bytes B.returns hml (atoms_spec (ws := ws) B.pre) (findClass_of_methodNamed B.named) B.notSynchronized (name_of_methodNamed B.named B.method).1 hK hP (hD0.self (sz := s.heap.size)) (fun q h => Or.inr h) (lv_entry av hav)
/-! the worlds: a Line, the reference -/
abbrev LS : Type := (Nat → Int32) × (Nat → Int32)
abbrev MS : Type := (Nat → Int32) × (Nat → Nat → Int32)
abbrev wL (cI : ClassId) (h hp : Nat) (S : LS) : va_W := [(h, .inr (0, [.ref hp, .int (S.1 0), .int (S.1 1), .int (S.1 2), .int (S.1 3), .int (S.1 4), .int (S.1 5)])), (hp, .inl (cI, 12, .inl S.2))]
abbrev wM (cI cZ : ClassId) (h : Nat) (g : Nat → Nat) (S : MS) : va_W := [(h, .inr (6, [.ref (g 0), .ref (g 1), .ref (g 2), .int (S.1 0), .ref (g 3), .ref (g 4), .int (S.1 1), .ref (g 5), .ref (g 6), .ref (g 7), .int (S.1 2), .int (S.1 3), .int (S.1 4), .int (S.1 5), .ref (g 8)])), (g 0, .inl (cI, 17, .inl (S.2 0))), (g 1, .inl (cI, 17, .inl (S.2 1))), (g 2, .inl (cI, 102, .inl (S.2 2))), (g 3, .inl (cI, 34, .inl (S.2 3))), (g 4, .inl (cZ, 2, .inl (S.2 4))), (g 5, .inl (cI, 6, .inl (S.2 5))), (g 6, .inl (cI, 6, .inl (S.2 6))), (g 7, .inl (cI, 120, .inl (S.2 7))), (g 8, .inl (cI, 12, .inl (S.2 8)))]
/-- a row of the reference made another -/
def updR (r : Nat → Nat → Int32) (k : Nat) (f : Nat → Int32) : Nat → Nat → Int32 := fun j => if j = k then f else r j
end
