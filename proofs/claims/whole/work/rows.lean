section
-- ===== PART A: goes FIRST, ahead of the names: the tables' words, and 'selects' of the private methods out of them =====
/-- a private method of a class that the tables say can be made, by its rows of tables_1 -/
def lw_okq (q : MethodName × Nat) : Prop := (q.1.cls ≠ "java/lang/invoke/MethodHandle" ∧ q.1.cls ≠ "java/lang/invoke/VarHandle") ∧ Cond.instantiable q.1.cls q.2 ∈ tables_1 ∧ Cond.privateMethod q.1 ∈ tables_1 ∧ Cond.instanceMethod q.1 ∈ tables_1
theorem lw_p0 : lw_okq (⟨"CastingFeeder$History", "dropOldest", "()V"⟩, 2) := ⟨⟨by decide +kernel, by decide +kernel⟩, List.mem_of_getElem? (i := 104) (by decide +kernel), List.mem_of_getElem? (i := 182) (by decide +kernel), List.mem_of_getElem? (i := 183) (by decide +kernel)⟩
theorem lw_p1 : lw_okq (⟨"CastingFeeder$History", "stateAt", "(I)LCastingFeeder$Casting;"⟩, 2) := ⟨⟨by decide +kernel, by decide +kernel⟩, List.mem_of_getElem? (i := 104) (by decide +kernel), List.mem_of_getElem? (i := 186) (by decide +kernel), List.mem_of_getElem? (i := 187) (by decide +kernel)⟩
theorem lw_p2 : lw_okq (⟨"CastingFeeder$Freezing", "findSources", "(LCastingFeeder$Casting;)V"⟩, 7) := ⟨⟨by decide +kernel, by decide +kernel⟩, List.mem_of_getElem? (i := 70) (by decide +kernel), List.mem_of_getElem? (i := 219) (by decide +kernel), List.mem_of_getElem? (i := 220) (by decide +kernel)⟩
theorem lw_p3 : lw_okq (⟨"CastingFeeder$Freezing", "offer", "(II)V"⟩, 7) := ⟨⟨by decide +kernel, by decide +kernel⟩, List.mem_of_getElem? (i := 70) (by decide +kernel), List.mem_of_getElem? (i := 224) (by decide +kernel), List.mem_of_getElem? (i := 225) (by decide +kernel)⟩
theorem lw_p4 : lw_okq (⟨"CastingFeeder$Freezing", "drawNeeds", "(LCastingFeeder$Casting;)V"⟩, 7) := ⟨⟨by decide +kernel, by decide +kernel⟩, List.mem_of_getElem? (i := 70) (by decide +kernel), List.mem_of_getElem? (i := 228) (by decide +kernel), List.mem_of_getElem? (i := 229) (by decide +kernel)⟩
theorem lw_p5 : lw_okq (⟨"CastingFeeder$Freezing", "findPores", "(LCastingFeeder$Casting;)V"⟩, 7) := ⟨⟨by decide +kernel, by decide +kernel⟩, List.mem_of_getElem? (i := 70) (by decide +kernel), List.mem_of_getElem? (i := 236) (by decide +kernel), List.mem_of_getElem? (i := 237) (by decide +kernel)⟩
theorem lw_p6 : lw_okq (⟨"CastingFeeder", "hasRoomForFeeder", "()Z"⟩, 6) := ⟨⟨by decide +kernel, by decide +kernel⟩, List.mem_of_getElem? (i := 9) (by decide +kernel), List.mem_of_getElem? (i := 391) (by decide +kernel), List.mem_of_getElem? (i := 392) (by decide +kernel)⟩
theorem lw_p7 : lw_okq (⟨"CastingFeeder", "isSoundWithFeeder", "(II)Z"⟩, 6) := ⟨⟨by decide +kernel, by decide +kernel⟩, List.mem_of_getElem? (i := 9) (by decide +kernel), List.mem_of_getElem? (i := 395) (by decide +kernel), List.mem_of_getElem? (i := 396) (by decide +kernel)⟩
theorem lw_p8 : lw_okq (⟨"CastingFeeder$Text", "readItem", "(LCastingFeeder$Casting;)V"⟩, 5) := ⟨⟨by decide +kernel, by decide +kernel⟩, List.mem_of_getElem? (i := 121) (by decide +kernel), List.mem_of_getElem? (i := 445) (by decide +kernel), List.mem_of_getElem? (i := 446) (by decide +kernel)⟩
theorem lw_p9 : lw_okq (⟨"CastingFeeder$Text", "next", "()I"⟩, 5) := ⟨⟨by decide +kernel, by decide +kernel⟩, List.mem_of_getElem? (i := 121) (by decide +kernel), List.mem_of_getElem? (i := 449) (by decide +kernel), List.mem_of_getElem? (i := 450) (by decide +kernel)⟩
theorem lw_p10 : lw_okq (⟨"CastingFeeder$Text", "codeAt", "(I)I"⟩, 5) := ⟨⟨by decide +kernel, by decide +kernel⟩, List.mem_of_getElem? (i := 121) (by decide +kernel), List.mem_of_getElem? (i := 453) (by decide +kernel), List.mem_of_getElem? (i := 454) (by decide +kernel)⟩
theorem lw_p11 : lw_okq (⟨"CastingFeeder$Text", "readSection", "(LCastingFeeder$Casting;Z)V"⟩, 5) := ⟨⟨by decide +kernel, by decide +kernel⟩, List.mem_of_getElem? (i := 121) (by decide +kernel), List.mem_of_getElem? (i := 462) (by decide +kernel), List.mem_of_getElem? (i := 463) (by decide +kernel)⟩
theorem lw_p12 : lw_okq (⟨"CastingFeeder$Text", "readNumber", "(II)I"⟩, 5) := ⟨⟨by decide +kernel, by decide +kernel⟩, List.mem_of_getElem? (i := 121) (by decide +kernel), List.mem_of_getElem? (i := 466) (by decide +kernel), List.mem_of_getElem? (i := 467) (by decide +kernel)⟩
theorem lw_p13 : lw_okq (⟨"CastingFeeder$Text", "expect", "(C)V"⟩, 5) := ⟨⟨by decide +kernel, by decide +kernel⟩, List.mem_of_getElem? (i := 121) (by decide +kernel), List.mem_of_getElem? (i := 471) (by decide +kernel), List.mem_of_getElem? (i := 472) (by decide +kernel)⟩
theorem lw_p14 : lw_okq (⟨"CastingFeeder$Text", "readJoint", "(LCastingFeeder$Casting;)V"⟩, 5) := ⟨⟨by decide +kernel, by decide +kernel⟩, List.mem_of_getElem? (i := 121) (by decide +kernel), List.mem_of_getElem? (i := 476) (by decide +kernel), List.mem_of_getElem? (i := 477) (by decide +kernel)⟩
theorem lw_p15 : lw_okq (⟨"CastingFeeder$Text", "isAtEnd", "()Z"⟩, 5) := ⟨⟨by decide +kernel, by decide +kernel⟩, List.mem_of_getElem? (i := 121) (by decide +kernel), List.mem_of_getElem? (i := 482) (by decide +kernel), List.mem_of_getElem? (i := 483) (by decide +kernel)⟩
def lw_privs_1 : List (MethodName × Nat) := [(⟨"CastingFeeder$History", "dropOldest", "()V"⟩, 2), (⟨"CastingFeeder$History", "stateAt", "(I)LCastingFeeder$Casting;"⟩, 2), (⟨"CastingFeeder$Freezing", "findSources", "(LCastingFeeder$Casting;)V"⟩, 7), (⟨"CastingFeeder$Freezing", "offer", "(II)V"⟩, 7), (⟨"CastingFeeder$Freezing", "drawNeeds", "(LCastingFeeder$Casting;)V"⟩, 7), (⟨"CastingFeeder$Freezing", "findPores", "(LCastingFeeder$Casting;)V"⟩, 7), (⟨"CastingFeeder", "hasRoomForFeeder", "()Z"⟩, 6), (⟨"CastingFeeder", "isSoundWithFeeder", "(II)Z"⟩, 6), (⟨"CastingFeeder$Text", "readItem", "(LCastingFeeder$Casting;)V"⟩, 5), (⟨"CastingFeeder$Text", "next", "()I"⟩, 5), (⟨"CastingFeeder$Text", "codeAt", "(I)I"⟩, 5), (⟨"CastingFeeder$Text", "readSection", "(LCastingFeeder$Casting;Z)V"⟩, 5), (⟨"CastingFeeder$Text", "readNumber", "(II)I"⟩, 5), (⟨"CastingFeeder$Text", "expect", "(C)V"⟩, 5), (⟨"CastingFeeder$Text", "readJoint", "(LCastingFeeder$Casting;)V"⟩, 5), (⟨"CastingFeeder$Text", "isAtEnd", "()Z"⟩, 5)]
theorem lw_r1 : ∀ q ∈ lw_privs_1, lw_okq q := List.forall_mem_cons.mpr ⟨lw_p0, List.forall_mem_cons.mpr ⟨lw_p1, List.forall_mem_cons.mpr ⟨lw_p2, List.forall_mem_cons.mpr ⟨lw_p3, List.forall_mem_cons.mpr ⟨lw_p4, List.forall_mem_cons.mpr ⟨lw_p5, List.forall_mem_cons.mpr ⟨lw_p6, List.forall_mem_cons.mpr ⟨lw_p7, List.forall_mem_cons.mpr ⟨lw_p8, List.forall_mem_cons.mpr ⟨lw_p9, List.forall_mem_cons.mpr ⟨lw_p10, List.forall_mem_cons.mpr ⟨lw_p11, List.forall_mem_cons.mpr ⟨lw_p12, List.forall_mem_cons.mpr ⟨lw_p13, List.forall_mem_cons.mpr ⟨lw_p14, List.forall_mem_cons.mpr ⟨lw_p15, fun _ h => absurd h List.not_mem_nil⟩⟩⟩⟩⟩⟩⟩⟩⟩⟩⟩⟩⟩⟩⟩⟩
theorem lw_p16 : lw_okq (⟨"CastingFeederModel", "saves", "()V"⟩, 12) := ⟨⟨by decide +kernel, by decide +kernel⟩, List.mem_of_getElem? (i := 499) (by decide +kernel), List.mem_of_getElem? (i := 552) (by decide +kernel), List.mem_of_getElem? (i := 553) (by decide +kernel)⟩
theorem lw_p17 : lw_okq (⟨"CastingFeederModel", "copies", "(II)V"⟩, 12) := ⟨⟨by decide +kernel, by decide +kernel⟩, List.mem_of_getElem? (i := 499) (by decide +kernel), List.mem_of_getElem? (i := 556) (by decide +kernel), List.mem_of_getElem? (i := 557) (by decide +kernel)⟩
theorem lw_p18 : lw_okq (⟨"CastingFeederModel", "lays", "(IIII)V"⟩, 12) := ⟨⟨by decide +kernel, by decide +kernel⟩, List.mem_of_getElem? (i := 499) (by decide +kernel), List.mem_of_getElem? (i := 560) (by decide +kernel), List.mem_of_getElem? (i := 561) (by decide +kernel)⟩
theorem lw_p19 : lw_okq (⟨"CastingFeederModel", "isSection", "(I)Z"⟩, 12) := ⟨⟨by decide +kernel, by decide +kernel⟩, List.mem_of_getElem? (i := 499) (by decide +kernel), List.mem_of_getElem? (i := 568) (by decide +kernel), List.mem_of_getElem? (i := 569) (by decide +kernel)⟩
theorem lw_p20 : lw_okq (⟨"CastingFeederModel", "of", "(II)I"⟩, 12) := ⟨⟨by decide +kernel, by decide +kernel⟩, List.mem_of_getElem? (i := 499) (by decide +kernel), List.mem_of_getElem? (i := 572) (by decide +kernel), List.mem_of_getElem? (i := 573) (by decide +kernel)⟩
theorem lw_p21 : lw_okq (⟨"CastingFeederModel", "parts", "(I)V"⟩, 12) := ⟨⟨by decide +kernel, by decide +kernel⟩, List.mem_of_getElem? (i := 499) (by decide +kernel), List.mem_of_getElem? (i := 584) (by decide +kernel), List.mem_of_getElem? (i := 585) (by decide +kernel)⟩
theorem lw_p22 : lw_okq (⟨"CastingFeederModel", "areNeighbours", "(II)Z"⟩, 12) := ⟨⟨by decide +kernel, by decide +kernel⟩, List.mem_of_getElem? (i := 499) (by decide +kernel), List.mem_of_getElem? (i := 592) (by decide +kernel), List.mem_of_getElem? (i := 593) (by decide +kernel)⟩
theorem lw_p23 : lw_okq (⟨"CastingFeederModel", "joins", "(II)V"⟩, 12) := ⟨⟨by decide +kernel, by decide +kernel⟩, List.mem_of_getElem? (i := 499) (by decide +kernel), List.mem_of_getElem? (i := 596) (by decide +kernel), List.mem_of_getElem? (i := 597) (by decide +kernel)⟩
theorem lw_p24 : lw_okq (⟨"CastingFeederModel", "isJoint", "(I)Z"⟩, 12) := ⟨⟨by decide +kernel, by decide +kernel⟩, List.mem_of_getElem? (i := 499) (by decide +kernel), List.mem_of_getElem? (i := 604) (by decide +kernel), List.mem_of_getElem? (i := 605) (by decide +kernel)⟩
theorem lw_p25 : lw_okq (⟨"CastingFeederModel", "excesses", "()I"⟩, 12) := ⟨⟨by decide +kernel, by decide +kernel⟩, List.mem_of_getElem? (i := 499) (by decide +kernel), List.mem_of_getElem? (i := 616) (by decide +kernel), List.mem_of_getElem? (i := 617) (by decide +kernel)⟩
theorem lw_p26 : lw_okq (⟨"CastingFeederModel", "freezes", "()V"⟩, 12) := ⟨⟨by decide +kernel, by decide +kernel⟩, List.mem_of_getElem? (i := 499) (by decide +kernel), List.mem_of_getElem? (i := 620) (by decide +kernel), List.mem_of_getElem? (i := 621) (by decide +kernel)⟩
theorem lw_p27 : lw_okq (⟨"CastingFeederModel", "isBefore", "(II)Z"⟩, 12) := ⟨⟨by decide +kernel, by decide +kernel⟩, List.mem_of_getElem? (i := 499) (by decide +kernel), List.mem_of_getElem? (i := 624) (by decide +kernel), List.mem_of_getElem? (i := 625) (by decide +kernel)⟩
theorem lw_p28 : lw_okq (⟨"CastingFeederModel", "firstNeed", "(I)I"⟩, 12) := ⟨⟨by decide +kernel, by decide +kernel⟩, List.mem_of_getElem? (i := 499) (by decide +kernel), List.mem_of_getElem? (i := 628) (by decide +kernel), List.mem_of_getElem? (i := 629) (by decide +kernel)⟩
theorem lw_p29 : lw_okq (⟨"CastingFeederModel", "excess", "(I)I"⟩, 12) := ⟨⟨by decide +kernel, by decide +kernel⟩, List.mem_of_getElem? (i := 499) (by decide +kernel), List.mem_of_getElem? (i := 632) (by decide +kernel), List.mem_of_getElem? (i := 633) (by decide +kernel)⟩
theorem lw_p30 : lw_okq (⟨"CastingFeederModel", "pores", "(I)I"⟩, 12) := ⟨⟨by decide +kernel, by decide +kernel⟩, List.mem_of_getElem? (i := 499) (by decide +kernel), List.mem_of_getElem? (i := 636) (by decide +kernel), List.mem_of_getElem? (i := 637) (by decide +kernel)⟩
theorem lw_p31 : lw_okq (⟨"CastingFeederModel", "yields", "()I"⟩, 12) := ⟨⟨by decide +kernel, by decide +kernel⟩, List.mem_of_getElem? (i := 499) (by decide +kernel), List.mem_of_getElem? (i := 640) (by decide +kernel), List.mem_of_getElem? (i := 641) (by decide +kernel)⟩
def lw_privs_2 : List (MethodName × Nat) := [(⟨"CastingFeederModel", "saves", "()V"⟩, 12), (⟨"CastingFeederModel", "copies", "(II)V"⟩, 12), (⟨"CastingFeederModel", "lays", "(IIII)V"⟩, 12), (⟨"CastingFeederModel", "isSection", "(I)Z"⟩, 12), (⟨"CastingFeederModel", "of", "(II)I"⟩, 12), (⟨"CastingFeederModel", "parts", "(I)V"⟩, 12), (⟨"CastingFeederModel", "areNeighbours", "(II)Z"⟩, 12), (⟨"CastingFeederModel", "joins", "(II)V"⟩, 12), (⟨"CastingFeederModel", "isJoint", "(I)Z"⟩, 12), (⟨"CastingFeederModel", "excesses", "()I"⟩, 12), (⟨"CastingFeederModel", "freezes", "()V"⟩, 12), (⟨"CastingFeederModel", "isBefore", "(II)Z"⟩, 12), (⟨"CastingFeederModel", "firstNeed", "(I)I"⟩, 12), (⟨"CastingFeederModel", "excess", "(I)I"⟩, 12), (⟨"CastingFeederModel", "pores", "(I)I"⟩, 12), (⟨"CastingFeederModel", "yields", "()I"⟩, 12)]
theorem lw_r2 : ∀ q ∈ lw_privs_2, lw_okq q := List.forall_mem_cons.mpr ⟨lw_p16, List.forall_mem_cons.mpr ⟨lw_p17, List.forall_mem_cons.mpr ⟨lw_p18, List.forall_mem_cons.mpr ⟨lw_p19, List.forall_mem_cons.mpr ⟨lw_p20, List.forall_mem_cons.mpr ⟨lw_p21, List.forall_mem_cons.mpr ⟨lw_p22, List.forall_mem_cons.mpr ⟨lw_p23, List.forall_mem_cons.mpr ⟨lw_p24, List.forall_mem_cons.mpr ⟨lw_p25, List.forall_mem_cons.mpr ⟨lw_p26, List.forall_mem_cons.mpr ⟨lw_p27, List.forall_mem_cons.mpr ⟨lw_p28, List.forall_mem_cons.mpr ⟨lw_p29, List.forall_mem_cons.mpr ⟨lw_p30, List.forall_mem_cons.mpr ⟨lw_p31, fun _ h => absurd h List.not_mem_nil⟩⟩⟩⟩⟩⟩⟩⟩⟩⟩⟩⟩⟩⟩⟩⟩
theorem lw_p32 : lw_okq (⟨"CastingFeederModel", "property", "(II)I"⟩, 12) := ⟨⟨by decide +kernel, by decide +kernel⟩, List.mem_of_getElem? (i := 499) (by decide +kernel), List.mem_of_getElem? (i := 648) (by decide +kernel), List.mem_of_getElem? (i := 649) (by decide +kernel)⟩
theorem lw_p33 : lw_okq (⟨"CastingFeederModel", "endOf", "(I)I"⟩, 12) := ⟨⟨by decide +kernel, by decide +kernel⟩, List.mem_of_getElem? (i := 499) (by decide +kernel), List.mem_of_getElem? (i := 672) (by decide +kernel), List.mem_of_getElem? (i := 673) (by decide +kernel)⟩
theorem lw_p34 : lw_okq (⟨"CastingFeederModel", "isFull", "()Z"⟩, 12) := ⟨⟨by decide +kernel, by decide +kernel⟩, List.mem_of_getElem? (i := 499) (by decide +kernel), List.mem_of_getElem? (i := 684) (by decide +kernel), List.mem_of_getElem? (i := 685) (by decide +kernel)⟩
theorem lw_p35 : lw_okq (⟨"CastingFeederModel", "isSoundWith", "(II)Z"⟩, 12) := ⟨⟨by decide +kernel, by decide +kernel⟩, List.mem_of_getElem? (i := 499) (by decide +kernel), List.mem_of_getElem? (i := 688) (by decide +kernel), List.mem_of_getElem? (i := 689) (by decide +kernel)⟩
theorem lw_p36 : lw_okq (⟨"CastingFeederModel", "excessesWith", "(II)I"⟩, 12) := ⟨⟨by decide +kernel, by decide +kernel⟩, List.mem_of_getElem? (i := 499) (by decide +kernel), List.mem_of_getElem? (i := 700) (by decide +kernel), List.mem_of_getElem? (i := 701) (by decide +kernel)⟩
theorem lw_p37 : lw_okq (⟨"CastingFeederModel", "readsText", "()Z"⟩, 12) := ⟨⟨by decide +kernel, by decide +kernel⟩, List.mem_of_getElem? (i := 499) (by decide +kernel), List.mem_of_getElem? (i := 724) (by decide +kernel), List.mem_of_getElem? (i := 725) (by decide +kernel)⟩
theorem lw_p38 : lw_okq (⟨"CastingFeederModel", "readsItem", "()Z"⟩, 12) := ⟨⟨by decide +kernel, by decide +kernel⟩, List.mem_of_getElem? (i := 499) (by decide +kernel), List.mem_of_getElem? (i := 728) (by decide +kernel), List.mem_of_getElem? (i := 729) (by decide +kernel)⟩
theorem lw_p39 : lw_okq (⟨"CastingFeederModel", "here", "()I"⟩, 12) := ⟨⟨by decide +kernel, by decide +kernel⟩, List.mem_of_getElem? (i := 499) (by decide +kernel), List.mem_of_getElem? (i := 732) (by decide +kernel), List.mem_of_getElem? (i := 733) (by decide +kernel)⟩
theorem lw_p40 : lw_okq (⟨"CastingFeederModel", "readsSection", "(I)Z"⟩, 12) := ⟨⟨by decide +kernel, by decide +kernel⟩, List.mem_of_getElem? (i := 499) (by decide +kernel), List.mem_of_getElem? (i := 736) (by decide +kernel), List.mem_of_getElem? (i := 737) (by decide +kernel)⟩
theorem lw_p41 : lw_okq (⟨"CastingFeederModel", "reads", "(II)Z"⟩, 12) := ⟨⟨by decide +kernel, by decide +kernel⟩, List.mem_of_getElem? (i := 499) (by decide +kernel), List.mem_of_getElem? (i := 740) (by decide +kernel), List.mem_of_getElem? (i := 741) (by decide +kernel)⟩
theorem lw_p42 : lw_okq (⟨"CastingFeederModel", "finds", "(II)I"⟩, 12) := ⟨⟨by decide +kernel, by decide +kernel⟩, List.mem_of_getElem? (i := 499) (by decide +kernel), List.mem_of_getElem? (i := 744) (by decide +kernel), List.mem_of_getElem? (i := 745) (by decide +kernel)⟩
theorem lw_p43 : lw_okq (⟨"CastingFeederModel", "sign", "(I)Z"⟩, 12) := ⟨⟨by decide +kernel, by decide +kernel⟩, List.mem_of_getElem? (i := 499) (by decide +kernel), List.mem_of_getElem? (i := 748) (by decide +kernel), List.mem_of_getElem? (i := 749) (by decide +kernel)⟩
theorem lw_p44 : lw_okq (⟨"CastingFeederModel", "readsJoint", "()Z"⟩, 12) := ⟨⟨by decide +kernel, by decide +kernel⟩, List.mem_of_getElem? (i := 499) (by decide +kernel), List.mem_of_getElem? (i := 752) (by decide +kernel), List.mem_of_getElem? (i := 753) (by decide +kernel)⟩
theorem lw_p45 : lw_okq (⟨"CastingFeederModel", "note", "(I)V"⟩, 12) := ⟨⟨by decide +kernel, by decide +kernel⟩, List.mem_of_getElem? (i := 499) (by decide +kernel), List.mem_of_getElem? (i := 767) (by decide +kernel), List.mem_of_getElem? (i := 768) (by decide +kernel)⟩
def lw_privs_3 : List (MethodName × Nat) := [(⟨"CastingFeederModel", "property", "(II)I"⟩, 12), (⟨"CastingFeederModel", "endOf", "(I)I"⟩, 12), (⟨"CastingFeederModel", "isFull", "()Z"⟩, 12), (⟨"CastingFeederModel", "isSoundWith", "(II)Z"⟩, 12), (⟨"CastingFeederModel", "excessesWith", "(II)I"⟩, 12), (⟨"CastingFeederModel", "readsText", "()Z"⟩, 12), (⟨"CastingFeederModel", "readsItem", "()Z"⟩, 12), (⟨"CastingFeederModel", "here", "()I"⟩, 12), (⟨"CastingFeederModel", "readsSection", "(I)Z"⟩, 12), (⟨"CastingFeederModel", "reads", "(II)Z"⟩, 12), (⟨"CastingFeederModel", "finds", "(II)I"⟩, 12), (⟨"CastingFeederModel", "sign", "(I)Z"⟩, 12), (⟨"CastingFeederModel", "readsJoint", "()Z"⟩, 12), (⟨"CastingFeederModel", "note", "(I)V"⟩, 12)]
theorem lw_r3 : ∀ q ∈ lw_privs_3, lw_okq q := List.forall_mem_cons.mpr ⟨lw_p32, List.forall_mem_cons.mpr ⟨lw_p33, List.forall_mem_cons.mpr ⟨lw_p34, List.forall_mem_cons.mpr ⟨lw_p35, List.forall_mem_cons.mpr ⟨lw_p36, List.forall_mem_cons.mpr ⟨lw_p37, List.forall_mem_cons.mpr ⟨lw_p38, List.forall_mem_cons.mpr ⟨lw_p39, List.forall_mem_cons.mpr ⟨lw_p40, List.forall_mem_cons.mpr ⟨lw_p41, List.forall_mem_cons.mpr ⟨lw_p42, List.forall_mem_cons.mpr ⟨lw_p43, List.forall_mem_cons.mpr ⟨lw_p44, List.forall_mem_cons.mpr ⟨lw_p45, fun _ h => absurd h List.not_mem_nil⟩⟩⟩⟩⟩⟩⟩⟩⟩⟩⟩⟩⟩⟩
def lw_privs : List (MethodName × Nat) := lw_privs_1 ++ (lw_privs_2 ++ (lw_privs_3))
def lw_tbl : List Cond := k2_sels lw_privs ++ tables_1
theorem lw_privs_ok : ∀ q ∈ lw_privs, lw_okq q := by
  show ∀ q ∈ lw_privs_1 ++ (lw_privs_2 ++ (lw_privs_3)), lw_okq q
  exact List.forall_mem_append.mpr ⟨lw_r1, List.forall_mem_append.mpr ⟨lw_r2, lw_r3⟩⟩
/-! ===== BEGIN words of one list among another's, by their places ===== -/
theorem goodIn_r {big : List Cond} (ws : List Cond) (ps : List Nat) (hp : ws = ps.filterMap (fun i => big[i]?)) (h : ws.all goodWord = true) : GoodIn big ws := by
  intro w hw
  have h1 := List.all_eq_true.mp h w hw
  rw [hp] at hw
  obtain ⟨i, -, hi⟩ := List.mem_filterMap.mp hw
  have hm : w ∈ big := by first | exact List.mem_of_getElem? hi | exact List.getElem?_mem hi
  exact ⟨hm, good_of_word h1⟩
theorem goodIn_app {big a b : List Cond} (ha : GoodIn big a) (hb : GoodIn big b) : GoodIn big (a ++ b) := fun w h => (List.mem_append.mp h).elim (ha w) (hb w)
theorem goodIn_ca {big a b : List Cond} {c : Cond} (ha : GoodIn big (c :: a)) (hb : GoodIn big b) : GoodIn big (c :: (a ++ b)) := fun w h => (List.mem_cons.mp h).elim (fun e => ha w (List.mem_cons.mpr (Or.inl e))) (fun h => (List.mem_append.mp h).elim (fun h => ha w (List.mem_cons.mpr (Or.inr h))) (hb w))
theorem goodIn_sub {big ws : List Cond} (hm : ∀ w ∈ ws, w ∈ big) (h : ws.all goodWord = true) : GoodIn big ws := fun w hw => ⟨hm w hw, good_of_word (List.all_eq_true.mp h w hw)⟩
/-! ===== END ===== -/

/-! ===== BEGIN printed: names, fields, word lists, decode rows ===== -/
def RX0 : String := "CastingFeeder$Casting"
def TX0 : u_T := fun k => match k with
  | 0 => ("CastingFeeder$Casting", "sections", "I", false)
  | 1 => ("CastingFeeder$Casting", "joints", "I", false)
  | 2 => ("CastingFeeder$Casting", "shrinkage", "I", false)
  | 3 => ("CastingFeeder$Casting", "piping", "I", false)
  | 4 => ("CastingFeeder$Casting", "volume", "[I", true)
  | 5 => ("CastingFeeder$Casting", "area", "[I", true)
  | 6 => ("CastingFeeder$Casting", "chill", "[I", true)
  | 7 => ("CastingFeeder$Casting", "feeder", "[Z", true)
  | 8 => ("CastingFeeder$Casting", "first", "[I", true)
  | _ => ("CastingFeeder$Casting", "second", "[I", true)
def tyX0 : Nat → FieldType := fun k => match k with
  | 0 => .int
  | 1 => .int
  | 2 => .int
  | 3 => .int
  | 4 => .array .int
  | 5 => .array .int
  | 6 => .array .int
  | 7 => .array .boolean
  | 8 => .array .int
  | _ => .array .int
abbrev wsX00 : List Cond := u_ws RX0 TX0 10
theorem nmX0 : ∀ a, a < 10 → ∀ b, b < 10 → a ≠ b → (TX0 a).2.1 ≠ (TX0 b).2.1 := by decide +kernel
theorem tyX0_ok : ∀ k, k < 10 → parseFieldDescriptor (TX0 k).2.2.1 = some (tyX0 k) := by decide +kernel
abbrev cX0_init : ByteArray := prog_2_method_1_code
def yX0_init : MethodName := ⟨RX0, "<init>", "()V"⟩
abbrev cX0_copyFrom : ByteArray := prog_2_method_2_code
def yX0_copyFrom : MethodName := ⟨RX0, "copyFrom", "(LCastingFeeder$Casting;)V"⟩
abbrev cX0_has : ByteArray := prog_2_method_3_code
def yX0_has : MethodName := ⟨RX0, "has", "(I)Z"⟩
abbrev cX0_hasJoint : ByteArray := prog_2_method_4_code
def yX0_hasJoint : MethodName := ⟨RX0, "hasJoint", "(I)Z"⟩
abbrev cX0_hasRoomForSection : ByteArray := prog_2_method_5_code
def yX0_hasRoomForSection : MethodName := ⟨RX0, "hasRoomForSection", "()Z"⟩
abbrev cX0_hasRoomForJoint : ByteArray := prog_2_method_6_code
def yX0_hasRoomForJoint : MethodName := ⟨RX0, "hasRoomForJoint", "()Z"⟩
abbrev cX0_isFeeder : ByteArray := prog_2_method_7_code
def yX0_isFeeder : MethodName := ⟨RX0, "isFeeder", "(I)Z"⟩
abbrev cX0_cooledArea : ByteArray := prog_2_method_8_code
def yX0_cooledArea : MethodName := ⟨RX0, "cooledArea", "(I)I"⟩
abbrev cX0_firstNeed : ByteArray := prog_2_method_9_code
def yX0_firstNeed : MethodName := ⟨RX0, "firstNeed", "(I)I"⟩
abbrev cX0_bearablePores : ByteArray := prog_2_method_10_code
def yX0_bearablePores : MethodName := ⟨RX0, "bearablePores", "(I)I"⟩
abbrev cX0_stepOf : ByteArray := prog_2_method_11_code
def yX0_stepOf : MethodName := ⟨RX0, "stepOf", "(I)I"⟩
abbrev cX0_feeders : ByteArray := prog_2_method_12_code
def yX0_feeders : MethodName := ⟨RX0, "feeders", "()I"⟩
abbrev cX0_yieldPerMille : ByteArray := prog_2_method_13_code
def yX0_yieldPerMille : MethodName := ⟨RX0, "yieldPerMille", "()I"⟩
abbrev cX0_neighbours : ByteArray := prog_2_method_14_code
def yX0_neighbours : MethodName := ⟨RX0, "neighbours", "(I)I"⟩
abbrev cX0_touches : ByteArray := prog_2_method_15_code
def yX0_touches : MethodName := ⟨RX0, "touches", "(II)Z"⟩
abbrev cX0_canLink : ByteArray := prog_2_method_16_code
def yX0_canLink : MethodName := ⟨RX0, "canLink", "(II)Z"⟩
abbrev cX0_append : ByteArray := prog_2_method_17_code
def yX0_append : MethodName := ⟨RX0, "append", "(IIIZ)I"⟩
abbrev cX0_link : ByteArray := prog_2_method_18_code
def yX0_link : MethodName := ⟨RX0, "link", "(II)I"⟩
abbrev cX0_unlink : ByteArray := prog_2_method_19_code
def yX0_unlink : MethodName := ⟨RX0, "unlink", "(I)V"⟩
abbrev cX0_drop : ByteArray := prog_2_method_20_code
def yX0_drop : MethodName := ⟨RX0, "drop", "(I)V"⟩
abbrev cX0_without : ByteArray := prog_2_method_21_code
def yX0_without : MethodName := ⟨RX0, "without", "(II)I"⟩
def RX1 : String := "CastingFeeder$Freezing"
def TX1 : u_T := fun k => match k with
  | 0 => ("CastingFeeder$Freezing", "sections", "I", false)
  | 1 => ("CastingFeeder$Freezing", "step", "[I", true)
  | 2 => ("CastingFeeder$Freezing", "order", "[I", true)
  | 3 => ("CastingFeeder$Freezing", "source", "[I", true)
  | 4 => ("CastingFeeder$Freezing", "need", "[I", true)
  | 5 => ("CastingFeeder$Freezing", "pores", "[I", true)
  | _ => ("CastingFeeder$Freezing", "excess", "[I", true)
def tyX1 : Nat → FieldType := fun k => match k with
  | 0 => .int
  | 1 => .array .int
  | 2 => .array .int
  | 3 => .array .int
  | 4 => .array .int
  | 5 => .array .int
  | _ => .array .int
abbrev wsX10 : List Cond := u_ws RX1 TX1 7
theorem nmX1 : ∀ a, a < 7 → ∀ b, b < 7 → a ≠ b → (TX1 a).2.1 ≠ (TX1 b).2.1 := by decide +kernel
theorem tyX1_ok : ∀ k, k < 7 → parseFieldDescriptor (TX1 k).2.2.1 = some (tyX1 k) := by decide +kernel
abbrev cX1_init : ByteArray := prog_3_method_1_code
def yX1_init : MethodName := ⟨RX1, "<init>", "()V"⟩
abbrev cX1_follow : ByteArray := prog_3_method_2_code
def yX1_follow : MethodName := ⟨RX1, "follow", "(LCastingFeeder$Casting;)V"⟩
abbrev cX1_findSources : ByteArray := prog_3_method_3_code
def yX1_findSources : MethodName := ⟨RX1, "findSources", "(LCastingFeeder$Casting;)V"⟩
abbrev cX1_offer : ByteArray := prog_3_method_4_code
def yX1_offer : MethodName := ⟨RX1, "offer", "(II)V"⟩
abbrev cX1_drawNeeds : ByteArray := prog_3_method_5_code
def yX1_drawNeeds : MethodName := ⟨RX1, "drawNeeds", "(LCastingFeeder$Casting;)V"⟩
abbrev cX1_findPores : ByteArray := prog_3_method_6_code
def yX1_findPores : MethodName := ⟨RX1, "findPores", "(LCastingFeeder$Casting;)V"⟩
abbrev cX1_excessOfAll : ByteArray := prog_3_method_7_code
def yX1_excessOfAll : MethodName := ⟨RX1, "excessOfAll", "()I"⟩
abbrev cX1_isSound : ByteArray := prog_3_method_8_code
def yX1_isSound : MethodName := ⟨RX1, "isSound", "()Z"⟩
abbrev cX1_fedBy : ByteArray := prog_3_method_9_code
def yX1_fedBy : MethodName := ⟨RX1, "fedBy", "(I)I"⟩
abbrev cX1_hotSpotOf : ByteArray := prog_3_method_10_code
def yX1_hotSpotOf : MethodName := ⟨RX1, "hotSpotOf", "(I)I"⟩
def RX2 : String := "CastingFeeder$History"
def TX2 : u_T := fun k => match k with
  | 0 => ("CastingFeeder$History", "states", "[LCastingFeeder$Casting;", true)
  | _ => ("CastingFeeder$History", "size", "I", false)
def tyX2 : Nat → FieldType := fun k => match k with
  | 0 => .array (.object "CastingFeeder$Casting")
  | _ => .int
abbrev wsX20 : List Cond := u_ws RX2 TX2 2
theorem nmX2 : ∀ a, a < 2 → ∀ b, b < 2 → a ≠ b → (TX2 a).2.1 ≠ (TX2 b).2.1 := by decide +kernel
theorem tyX2_ok : ∀ k, k < 2 → parseFieldDescriptor (TX2 k).2.2.1 = some (tyX2 k) := by decide +kernel
abbrev cX2_init : ByteArray := prog_4_method_1_code
def yX2_init : MethodName := ⟨RX2, "<init>", "()V"⟩
abbrev cX2_isEmpty : ByteArray := prog_4_method_2_code
def yX2_isEmpty : MethodName := ⟨RX2, "isEmpty", "()Z"⟩
abbrev cX2_keep : ByteArray := prog_4_method_3_code
def yX2_keep : MethodName := ⟨RX2, "keep", "(LCastingFeeder$Casting;)V"⟩
abbrev cX2_restore : ByteArray := prog_4_method_4_code
def yX2_restore : MethodName := ⟨RX2, "restore", "(LCastingFeeder$Casting;)V"⟩
abbrev cX2_stateAt : ByteArray := prog_4_method_5_code
def yX2_stateAt : MethodName := ⟨RX2, "stateAt", "(I)LCastingFeeder$Casting;"⟩
abbrev cX2_dropOldest : ByteArray := prog_4_method_6_code
def yX2_dropOldest : MethodName := ⟨RX2, "dropOldest", "()V"⟩
def RX3 : String := "CastingFeeder$Text"
def TX3 : u_T := fun k => match k with
  | 0 => ("CastingFeeder$Text", "codes", "[I", true)
  | 1 => ("CastingFeeder$Text", "length", "I", false)
  | 2 => ("CastingFeeder$Text", "items", "I", false)
  | 3 => ("CastingFeeder$Text", "place", "I", false)
  | _ => ("CastingFeeder$Text", "fault", "I", false)
def tyX3 : Nat → FieldType := fun k => match k with
  | 0 => .array .int
  | 1 => .int
  | 2 => .int
  | 3 => .int
  | _ => .int
abbrev wsX30 : List Cond := u_ws RX3 TX3 5
theorem nmX3 : ∀ a, a < 5 → ∀ b, b < 5 → a ≠ b → (TX3 a).2.1 ≠ (TX3 b).2.1 := by decide +kernel
theorem tyX3_ok : ∀ k, k < 5 → parseFieldDescriptor (TX3 k).2.2.1 = some (tyX3 k) := by decide +kernel
abbrev cX3_init : ByteArray := prog_5_method_1_code
def yX3_init : MethodName := ⟨RX3, "<init>", "()V"⟩
abbrev cX3_append : ByteArray := prog_5_method_2_code
def yX3_append : MethodName := ⟨RX3, "append", "(I)Z"⟩
abbrev cX3_readInto : ByteArray := prog_5_method_3_code
def yX3_readInto : MethodName := ⟨RX3, "readInto", "(LCastingFeeder$Casting;)I"⟩
abbrev cX3_readItem : ByteArray := prog_5_method_4_code
def yX3_readItem : MethodName := ⟨RX3, "readItem", "(LCastingFeeder$Casting;)V"⟩
abbrev cX3_readSection : ByteArray := prog_5_method_5_code
def yX3_readSection : MethodName := ⟨RX3, "readSection", "(LCastingFeeder$Casting;Z)V"⟩
abbrev cX3_readJoint : ByteArray := prog_5_method_6_code
def yX3_readJoint : MethodName := ⟨RX3, "readJoint", "(LCastingFeeder$Casting;)V"⟩
abbrev cX3_readNumber : ByteArray := prog_5_method_7_code
def yX3_readNumber : MethodName := ⟨RX3, "readNumber", "(II)I"⟩
abbrev cX3_expect : ByteArray := prog_5_method_8_code
def yX3_expect : MethodName := ⟨RX3, "expect", "(C)V"⟩
abbrev cX3_next : ByteArray := prog_5_method_9_code
def yX3_next : MethodName := ⟨RX3, "next", "()I"⟩
abbrev cX3_isAtEnd : ByteArray := prog_5_method_10_code
def yX3_isAtEnd : MethodName := ⟨RX3, "isAtEnd", "()Z"⟩
abbrev cX3_codeAt : ByteArray := prog_5_method_11_code
def yX3_codeAt : MethodName := ⟨RX3, "codeAt", "(I)I"⟩
abbrev cX3_isDigit : ByteArray := prog_5_method_12_code
def yX3_isDigit : MethodName := ⟨RX3, "isDigit", "(I)Z"⟩
def RX4 : String := "CastingFeeder"
def TX4 : u_T := fun k => match k with
  | 0 => ("CastingFeeder", "casting", "LCastingFeeder$Casting;", true)
  | 1 => ("CastingFeeder", "freezing", "LCastingFeeder$Freezing;", true)
  | 2 => ("CastingFeeder", "history", "LCastingFeeder$History;", true)
  | 3 => ("CastingFeeder", "text", "LCastingFeeder$Text;", true)
  | 4 => ("CastingFeeder", "trial", "LCastingFeeder$Casting;", true)
  | _ => ("CastingFeeder", "tried", "LCastingFeeder$Freezing;", true)
def tyX4 : Nat → FieldType := fun k => match k with
  | 0 => .object "CastingFeeder$Casting"
  | 1 => .object "CastingFeeder$Freezing"
  | 2 => .object "CastingFeeder$History"
  | 3 => .object "CastingFeeder$Text"
  | 4 => .object "CastingFeeder$Casting"
  | _ => .object "CastingFeeder$Freezing"
abbrev wsX40 : List Cond := u_ws RX4 TX4 6
theorem nmX4 : ∀ a, a < 6 → ∀ b, b < 6 → a ≠ b → (TX4 a).2.1 ≠ (TX4 b).2.1 := by decide +kernel
theorem tyX4_ok : ∀ k, k < 6 → parseFieldDescriptor (TX4 k).2.2.1 = some (tyX4 k) := by decide +kernel
abbrev cX4_init : ByteArray := prog_1_method_1_code
def yX4_init : MethodName := ⟨RX4, "<init>", "()V"⟩
abbrev cX4_addSection : ByteArray := prog_1_method_2_code
def yX4_addSection : MethodName := ⟨RX4, "addSection", "(IIZ)I"⟩
abbrev cX4_resize : ByteArray := prog_1_method_3_code
def yX4_resize : MethodName := ⟨RX4, "resize", "(III)I"⟩
abbrev cX4_setChill : ByteArray := prog_1_method_4_code
def yX4_setChill : MethodName := ⟨RX4, "setChill", "(II)I"⟩
abbrev cX4_removeSection : ByteArray := prog_1_method_5_code
def yX4_removeSection : MethodName := ⟨RX4, "removeSection", "(I)I"⟩
abbrev cX4_join : ByteArray := prog_1_method_6_code
def yX4_join : MethodName := ⟨RX4, "join", "(II)I"⟩
abbrev cX4_part : ByteArray := prog_1_method_7_code
def yX4_part : MethodName := ⟨RX4, "part", "(I)I"⟩
abbrev cX4_setMetal : ByteArray := prog_1_method_8_code
def yX4_setMetal : MethodName := ⟨RX4, "setMetal", "(II)I"⟩
abbrev cX4_count : ByteArray := prog_1_method_9_code
def yX4_count : MethodName := ⟨RX4, "count", "(I)I"⟩
abbrev cX4_section : ByteArray := prog_1_method_10_code
def yX4_section : MethodName := ⟨RX4, "section", "(II)I"⟩
abbrev cX4_modulus : ByteArray := prog_1_method_11_code
def yX4_modulus : MethodName := ⟨RX4, "modulus", "(IZ)I"⟩
abbrev cX4_joint : ByteArray := prog_1_method_12_code
def yX4_joint : MethodName := ⟨RX4, "joint", "(II)I"⟩
abbrev cX4_atStep : ByteArray := prog_1_method_13_code
def yX4_atStep : MethodName := ⟨RX4, "atStep", "(I)I"⟩
abbrev cX4_way : ByteArray := prog_1_method_14_code
def yX4_way : MethodName := ⟨RX4, "way", "(II)I"⟩
abbrev cX4_end : ByteArray := prog_1_method_15_code
def yX4_end : MethodName := ⟨RX4, "end", "(I)I"⟩
abbrev cX4_gathers : ByteArray := prog_1_method_16_code
def yX4_gathers : MethodName := ⟨RX4, "gathers", "(I)I"⟩
abbrev cX4_leastFeeder : ByteArray := prog_1_method_17_code
def yX4_leastFeeder : MethodName := ⟨RX4, "leastFeeder", "(I)I"⟩
abbrev cX4_bestFeeder : ByteArray := prog_1_method_18_code
def yX4_bestFeeder : MethodName := ⟨RX4, "bestFeeder", "()I"⟩
abbrev cX4_leastChill : ByteArray := prog_1_method_19_code
def yX4_leastChill : MethodName := ⟨RX4, "leastChill", "(I)I"⟩
abbrev cX4_excessWith : ByteArray := prog_1_method_20_code
def yX4_excessWith : MethodName := ⟨RX4, "excessWith", "(II)I"⟩
abbrev cX4_hasRoomForFeeder : ByteArray := prog_1_method_21_code
def yX4_hasRoomForFeeder : MethodName := ⟨RX4, "hasRoomForFeeder", "()Z"⟩
abbrev cX4_isSoundWithFeeder : ByteArray := prog_1_method_22_code
def yX4_isSoundWithFeeder : MethodName := ⟨RX4, "isSoundWithFeeder", "(II)Z"⟩
abbrev cX4_undo : ByteArray := prog_1_method_23_code
def yX4_undo : MethodName := ⟨RX4, "undo", "()I"⟩
abbrev cX4_type : ByteArray := prog_1_method_24_code
def yX4_type : MethodName := ⟨RX4, "type", "(I)I"⟩
abbrev cX4_clearText : ByteArray := prog_1_method_25_code
def yX4_clearText : MethodName := ⟨RX4, "clearText", "()I"⟩
abbrev cX4_textFault : ByteArray := prog_1_method_26_code
def yX4_textFault : MethodName := ⟨RX4, "textFault", "()I"⟩
abbrev cX4_load : ByteArray := prog_1_method_27_code
def yX4_load : MethodName := ⟨RX4, "load", "()I"⟩
abbrev cX4_digest : ByteArray := prog_1_method_28_code
def yX4_digest : MethodName := ⟨RX4, "digest", "()J"⟩
abbrev cX4_isWithin : ByteArray := prog_1_method_29_code
def yX4_isWithin : MethodName := ⟨RX4, "isWithin", "(III)Z"⟩
abbrev cX4_isSize : ByteArray := prog_1_method_30_code
def yX4_isSize : MethodName := ⟨RX4, "isSize", "(I)Z"⟩
abbrev cX4_at : ByteArray := prog_1_method_31_code
def yX4_at : MethodName := ⟨RX4, "at", "([II)I"⟩
abbrev cX4_put : ByteArray := prog_1_method_32_code
def yX4_put : MethodName := ⟨RX4, "put", "([III)V"⟩
abbrev cX4_sum : ByteArray := prog_1_method_33_code
def yX4_sum : MethodName := ⟨RX4, "sum", "([II)I"⟩
abbrev cX4_commonDivisor : ByteArray := prog_1_method_34_code
def yX4_commonDivisor : MethodName := ⟨RX4, "commonDivisor", "(II)I"⟩
def RX5 : String := "CastingFeederModel"
def TX5 : u_T := fun k => match k with
  | 0 => ("CastingFeederModel", "row", "[I", true)
  | 1 => ("CastingFeederModel", "saved", "I", false)
  | 2 => ("CastingFeederModel", "order", "[I", true)
  | 3 => ("CastingFeederModel", "step", "[I", true)
  | 4 => ("CastingFeederModel", "need", "[I", true)
  | 5 => ("CastingFeederModel", "fed", "[I", true)
  | 6 => ("CastingFeederModel", "text", "[I", true)
  | 7 => ("CastingFeederModel", "length", "I", false)
  | 8 => ("CastingFeederModel", "at", "I", false)
  | 9 => ("CastingFeederModel", "number", "I", false)
  | 10 => ("CastingFeederModel", "items", "I", false)
  | _ => ("CastingFeederModel", "h", "J", false)
def tyX5 : Nat → FieldType := fun k => match k with
  | 0 => .array .int
  | 1 => .int
  | 2 => .array .int
  | 3 => .array .int
  | 4 => .array .int
  | 5 => .array .int
  | 6 => .array .int
  | 7 => .int
  | 8 => .int
  | 9 => .int
  | 10 => .int
  | _ => .long
abbrev wsX50 : List Cond := u_ws RX5 TX5 12
theorem nmX5 : ∀ a, a < 12 → ∀ b, b < 12 → a ≠ b → (TX5 a).2.1 ≠ (TX5 b).2.1 := by decide +kernel
theorem tyX5_ok : ∀ k, k < 12 → parseFieldDescriptor (TX5 k).2.2.1 = some (tyX5 k) := by decide +kernel
abbrev cX5_init : ByteArray := prog_7_method_1_code
def yX5_init : MethodName := ⟨RX5, "<init>", "()V"⟩
abbrev cX5_in : ByteArray := prog_7_method_2_code
def yX5_in : MethodName := ⟨RX5, "in", "(III)Z"⟩
abbrev cX5_copies : ByteArray := prog_7_method_3_code
def yX5_copies : MethodName := ⟨RX5, "copies", "(II)V"⟩
abbrev cX5_saves : ByteArray := prog_7_method_4_code
def yX5_saves : MethodName := ⟨RX5, "saves", "()V"⟩
abbrev cX5_of : ByteArray := prog_7_method_5_code
def yX5_of : MethodName := ⟨RX5, "of", "(II)I"⟩
abbrev cX5_isSection : ByteArray := prog_7_method_6_code
def yX5_isSection : MethodName := ⟨RX5, "isSection", "(I)Z"⟩
abbrev cX5_isJoint : ByteArray := prog_7_method_7_code
def yX5_isJoint : MethodName := ⟨RX5, "isJoint", "(I)Z"⟩
abbrev cX5_areNeighbours : ByteArray := prog_7_method_8_code
def yX5_areNeighbours : MethodName := ⟨RX5, "areNeighbours", "(II)Z"⟩
abbrev cX5_lays : ByteArray := prog_7_method_9_code
def yX5_lays : MethodName := ⟨RX5, "lays", "(IIII)V"⟩
abbrev cX5_joins : ByteArray := prog_7_method_10_code
def yX5_joins : MethodName := ⟨RX5, "joins", "(II)V"⟩
abbrev cX5_parts : ByteArray := prog_7_method_11_code
def yX5_parts : MethodName := ⟨RX5, "parts", "(I)V"⟩
abbrev cX5_isSize : ByteArray := prog_7_method_12_code
def yX5_isSize : MethodName := ⟨RX5, "isSize", "(II)Z"⟩
abbrev cX5_addSection : ByteArray := prog_7_method_13_code
def yX5_addSection : MethodName := ⟨RX5, "addSection", "(IIZ)I"⟩
abbrev cX5_resize : ByteArray := prog_7_method_14_code
def yX5_resize : MethodName := ⟨RX5, "resize", "(III)I"⟩
abbrev cX5_setChill : ByteArray := prog_7_method_15_code
def yX5_setChill : MethodName := ⟨RX5, "setChill", "(II)I"⟩
abbrev cX5_removeSection : ByteArray := prog_7_method_16_code
def yX5_removeSection : MethodName := ⟨RX5, "removeSection", "(I)I"⟩
abbrev cX5_join : ByteArray := prog_7_method_17_code
def yX5_join : MethodName := ⟨RX5, "join", "(II)I"⟩
abbrev cX5_part : ByteArray := prog_7_method_18_code
def yX5_part : MethodName := ⟨RX5, "part", "(I)I"⟩
abbrev cX5_setMetal : ByteArray := prog_7_method_19_code
def yX5_setMetal : MethodName := ⟨RX5, "setMetal", "(II)I"⟩
abbrev cX5_isBefore : ByteArray := prog_7_method_20_code
def yX5_isBefore : MethodName := ⟨RX5, "isBefore", "(II)Z"⟩
abbrev cX5_firstNeed : ByteArray := prog_7_method_21_code
def yX5_firstNeed : MethodName := ⟨RX5, "firstNeed", "(I)I"⟩
abbrev cX5_freezes : ByteArray := prog_7_method_22_code
def yX5_freezes : MethodName := ⟨RX5, "freezes", "()V"⟩
abbrev cX5_pores : ByteArray := prog_7_method_23_code
def yX5_pores : MethodName := ⟨RX5, "pores", "(I)I"⟩
abbrev cX5_excess : ByteArray := prog_7_method_24_code
def yX5_excess : MethodName := ⟨RX5, "excess", "(I)I"⟩
abbrev cX5_excesses : ByteArray := prog_7_method_25_code
def yX5_excesses : MethodName := ⟨RX5, "excesses", "()I"⟩
abbrev cX5_yields : ByteArray := prog_7_method_26_code
def yX5_yields : MethodName := ⟨RX5, "yields", "()I"⟩
abbrev cX5_count : ByteArray := prog_7_method_27_code
def yX5_count : MethodName := ⟨RX5, "count", "(I)I"⟩
abbrev cX5_property : ByteArray := prog_7_method_28_code
def yX5_property : MethodName := ⟨RX5, "property", "(II)I"⟩
abbrev cX5_section : ByteArray := prog_7_method_29_code
def yX5_section : MethodName := ⟨RX5, "section", "(II)I"⟩
abbrev cX5_modulus : ByteArray := prog_7_method_30_code
def yX5_modulus : MethodName := ⟨RX5, "modulus", "(IZ)I"⟩
abbrev cX5_joint : ByteArray := prog_7_method_31_code
def yX5_joint : MethodName := ⟨RX5, "joint", "(II)I"⟩
abbrev cX5_atStep : ByteArray := prog_7_method_32_code
def yX5_atStep : MethodName := ⟨RX5, "atStep", "(I)I"⟩
abbrev cX5_way : ByteArray := prog_7_method_33_code
def yX5_way : MethodName := ⟨RX5, "way", "(II)I"⟩
abbrev cX5_endOf : ByteArray := prog_7_method_34_code
def yX5_endOf : MethodName := ⟨RX5, "endOf", "(I)I"⟩
abbrev cX5_end : ByteArray := prog_7_method_35_code
def yX5_end : MethodName := ⟨RX5, "end", "(I)I"⟩
abbrev cX5_gathers : ByteArray := prog_7_method_36_code
def yX5_gathers : MethodName := ⟨RX5, "gathers", "(I)I"⟩
abbrev cX5_isSoundWith : ByteArray := prog_7_method_37_code
def yX5_isSoundWith : MethodName := ⟨RX5, "isSoundWith", "(II)Z"⟩
abbrev cX5_isFull : ByteArray := prog_7_method_38_code
def yX5_isFull : MethodName := ⟨RX5, "isFull", "()Z"⟩
abbrev cX5_leastFeeder : ByteArray := prog_7_method_39_code
def yX5_leastFeeder : MethodName := ⟨RX5, "leastFeeder", "(I)I"⟩
abbrev cX5_bestFeeder : ByteArray := prog_7_method_40_code
def yX5_bestFeeder : MethodName := ⟨RX5, "bestFeeder", "()I"⟩
abbrev cX5_excessesWith : ByteArray := prog_7_method_41_code
def yX5_excessesWith : MethodName := ⟨RX5, "excessesWith", "(II)I"⟩
abbrev cX5_leastChill : ByteArray := prog_7_method_42_code
def yX5_leastChill : MethodName := ⟨RX5, "leastChill", "(I)I"⟩
abbrev cX5_excessWith : ByteArray := prog_7_method_43_code
def yX5_excessWith : MethodName := ⟨RX5, "excessWith", "(II)I"⟩
abbrev cX5_undo : ByteArray := prog_7_method_44_code
def yX5_undo : MethodName := ⟨RX5, "undo", "()I"⟩
abbrev cX5_type : ByteArray := prog_7_method_45_code
def yX5_type : MethodName := ⟨RX5, "type", "(I)I"⟩
abbrev cX5_clearText : ByteArray := prog_7_method_46_code
def yX5_clearText : MethodName := ⟨RX5, "clearText", "()I"⟩
abbrev cX5_here : ByteArray := prog_7_method_47_code
def yX5_here : MethodName := ⟨RX5, "here", "()I"⟩
abbrev cX5_sign : ByteArray := prog_7_method_48_code
def yX5_sign : MethodName := ⟨RX5, "sign", "(I)Z"⟩
abbrev cX5_finds : ByteArray := prog_7_method_49_code
def yX5_finds : MethodName := ⟨RX5, "finds", "(II)I"⟩
abbrev cX5_reads : ByteArray := prog_7_method_50_code
def yX5_reads : MethodName := ⟨RX5, "reads", "(II)Z"⟩
abbrev cX5_readsSection : ByteArray := prog_7_method_51_code
def yX5_readsSection : MethodName := ⟨RX5, "readsSection", "(I)Z"⟩
abbrev cX5_readsJoint : ByteArray := prog_7_method_52_code
def yX5_readsJoint : MethodName := ⟨RX5, "readsJoint", "()Z"⟩
abbrev cX5_readsItem : ByteArray := prog_7_method_53_code
def yX5_readsItem : MethodName := ⟨RX5, "readsItem", "()Z"⟩
abbrev cX5_readsText : ByteArray := prog_7_method_54_code
def yX5_readsText : MethodName := ⟨RX5, "readsText", "()Z"⟩
abbrev cX5_textFault : ByteArray := prog_7_method_55_code
def yX5_textFault : MethodName := ⟨RX5, "textFault", "()I"⟩
abbrev cX5_load : ByteArray := prog_7_method_56_code
def yX5_load : MethodName := ⟨RX5, "load", "()I"⟩
abbrev cX5_note : ByteArray := prog_7_method_57_code
def yX5_note : MethodName := ⟨RX5, "note", "(I)V"⟩
abbrev cX5_digest : ByteArray := prog_7_method_58_code
def yX5_digest : MethodName := ⟨RX5, "digest", "()J"⟩
def RJ9 : String := "java/lang/Math"
def TJ9 : u_T := fun k => match k with
  | _ => ("", "", "", false)
def tyJ9 : Nat → FieldType := fun k => match k with
  | _ => .int
abbrev wsJ90 : List Cond := u_ws RJ9 TJ9 0
theorem nmJ9 : ∀ a, a < 0 → ∀ b, b < 0 → a ≠ b → (TJ9 a).2.1 ≠ (TJ9 b).2.1 := by decide +kernel
theorem tyJ9_ok : ∀ k, k < 0 → parseFieldDescriptor (TJ9 k).2.2.1 = some (tyJ9 k) := by decide +kernel
abbrev cJ9_max_7cf53 : ByteArray := prog_8_method_65_code
def yJ9_max_7cf53 : MethodName := ⟨RJ9, "max", "(II)I"⟩
abbrev cJ9_min_7cf53 : ByteArray := prog_8_method_69_code
def yJ9_min_7cf53 : MethodName := ⟨RJ9, "min", "(II)I"⟩
def wsX0_init : List Cond := .code yX0_init cX0_init 1 none :: ([.methodLink RX0 3 objectInit, .instanceMethod objectInit, .code objectInit ⟨#[0xb1]⟩ 1 none, .fieldLink RX0 9 "CastingFeeder$Casting" "sections" "I", .fieldLink RX0 15 "CastingFeeder$Casting" "joints" "I", .fieldLink RX0 18 "CastingFeeder$Casting" "shrinkage" "I", .fieldLink RX0 21 "CastingFeeder$Casting" "piping" "I", .arrayClass .int, .fieldLink RX0 24 "CastingFeeder$Casting" "volume" "[I", .fieldLink RX0 28 "CastingFeeder$Casting" "area" "[I", .fieldLink RX0 31 "CastingFeeder$Casting" "chill" "[I", .arrayClass .boolean, .fieldLink RX0 34 "CastingFeeder$Casting" "feeder" "[Z", .fieldLink RX0 38 "CastingFeeder$Casting" "first" "[I", .fieldLink RX0 41 "CastingFeeder$Casting" "second" "[I"] ++ wsX00)
def wsX0_copyFrom : List Cond := .code yX0_copyFrom cX0_copyFrom 3 none :: ([.fieldLink RX0 9 "CastingFeeder$Casting" "sections" "I", .fieldLink RX0 15 "CastingFeeder$Casting" "joints" "I", .fieldLink RX0 18 "CastingFeeder$Casting" "shrinkage" "I", .fieldLink RX0 21 "CastingFeeder$Casting" "piping" "I", .fieldLink RX0 24 "CastingFeeder$Casting" "volume" "[I", .fieldLink RX0 28 "CastingFeeder$Casting" "area" "[I", .fieldLink RX0 31 "CastingFeeder$Casting" "chill" "[I", .fieldLink RX0 34 "CastingFeeder$Casting" "feeder" "[Z", .fieldLink RX0 38 "CastingFeeder$Casting" "first" "[I", .fieldLink RX0 41 "CastingFeeder$Casting" "second" "[I"] ++ wsX00)
def wsX0_has : List Cond := .code yX0_has cX0_has 2 (some .boolean) :: ([.fieldLink RX0 9 "CastingFeeder$Casting" "sections" "I"] ++ wsX00)
def wsX0_hasJoint : List Cond := .code yX0_hasJoint cX0_hasJoint 2 (some .boolean) :: ([.fieldLink RX0 15 "CastingFeeder$Casting" "joints" "I"] ++ wsX00)
def wsX0_hasRoomForSection : List Cond := .code yX0_hasRoomForSection cX0_hasRoomForSection 1 (some .boolean) :: ([.fieldLink RX0 9 "CastingFeeder$Casting" "sections" "I"] ++ wsX00)
def wsX0_hasRoomForJoint : List Cond := .code yX0_hasRoomForJoint cX0_hasRoomForJoint 1 (some .boolean) :: ([.fieldLink RX0 15 "CastingFeeder$Casting" "joints" "I"] ++ wsX00)
def wsX0_isFeeder : List Cond := .code yX0_isFeeder cX0_isFeeder 2 (some .boolean) :: ([.fieldLink RX0 34 "CastingFeeder$Casting" "feeder" "[Z", .methodLink RX0 44 yX0_has, .instanceMethod yX0_has, .selects RX0 yX0_has yX0_has, .initialized RX0, .code yX0_has cX0_has 2 (some .boolean), .fieldLink RX0 9 "CastingFeeder$Casting" "sections" "I"] ++ wsX00)
def wsX4_at : List Cond := .code yX4_at cX4_at 2 (some .int) :: ([])
def wsX0_cooledArea : List Cond := .code yX0_cooledArea cX0_cooledArea 2 (some .int) :: ([.fieldLink RX0 28 "CastingFeeder$Casting" "area" "[I", .fieldLink RX0 31 "CastingFeeder$Casting" "chill" "[I", .static yX4_at, .initialized RX4, .code yX4_at cX4_at 2 (some .int)] ++ wsX00)
def wsX0_firstNeed : List Cond := .code yX0_firstNeed cX0_firstNeed 2 (some .int) :: ([.fieldLink RX0 24 "CastingFeeder$Casting" "volume" "[I", .fieldLink RX0 18 "CastingFeeder$Casting" "shrinkage" "I", .static yX4_at, .initialized RX4, .code yX4_at cX4_at 2 (some .int)] ++ wsX00)
def wsX0_bearablePores : List Cond := .code yX0_bearablePores cX0_bearablePores 2 (some .int) :: ([.fieldLink RX0 24 "CastingFeeder$Casting" "volume" "[I", .fieldLink RX0 21 "CastingFeeder$Casting" "piping" "I", .methodLink RX0 52 yX0_isFeeder, .instanceMethod yX0_isFeeder, .selects RX0 yX0_isFeeder yX0_isFeeder, .initialized RX0, .code yX0_isFeeder cX0_isFeeder 2 (some .boolean), .fieldLink RX0 34 "CastingFeeder$Casting" "feeder" "[Z", .methodLink RX0 44 yX0_has, .instanceMethod yX0_has, .selects RX0 yX0_has yX0_has, .code yX0_has cX0_has 2 (some .boolean), .fieldLink RX0 9 "CastingFeeder$Casting" "sections" "I", .static yX4_at, .initialized RX4, .code yX4_at cX4_at 2 (some .int)] ++ wsX00)
def wsX0_stepOf : List Cond := .code yX0_stepOf cX0_stepOf 8 (some .int) :: ([.fieldLink RX0 24 "CastingFeeder$Casting" "volume" "[I", .fieldLink RX0 9 "CastingFeeder$Casting" "sections" "I", .fieldLink RX0 28 "CastingFeeder$Casting" "area" "[I", .fieldLink RX0 31 "CastingFeeder$Casting" "chill" "[I", .static yX4_at, .initialized RX4, .code yX4_at cX4_at 2 (some .int), .methodLink RX0 55 yX0_cooledArea, .instanceMethod yX0_cooledArea, .selects RX0 yX0_cooledArea yX0_cooledArea, .initialized RX0, .code yX0_cooledArea cX0_cooledArea 2 (some .int)] ++ wsX00)
def wsX0_feeders : List Cond := .code yX0_feeders cX0_feeders 3 (some .int) :: ([.fieldLink RX0 9 "CastingFeeder$Casting" "sections" "I", .methodLink RX0 52 yX0_isFeeder, .instanceMethod yX0_isFeeder, .selects RX0 yX0_isFeeder yX0_isFeeder, .initialized RX0, .code yX0_isFeeder cX0_isFeeder 2 (some .boolean), .fieldLink RX0 34 "CastingFeeder$Casting" "feeder" "[Z", .methodLink RX0 44 yX0_has, .instanceMethod yX0_has, .selects RX0 yX0_has yX0_has, .code yX0_has cX0_has 2 (some .boolean)] ++ wsX00)
def wsX0_yieldPerMille : List Cond := .code yX0_yieldPerMille cX0_yieldPerMille 4 (some .int) :: ([.fieldLink RX0 9 "CastingFeeder$Casting" "sections" "I", .fieldLink RX0 24 "CastingFeeder$Casting" "volume" "[I", .static yX4_at, .initialized RX4, .code yX4_at cX4_at 2 (some .int), .methodLink RX0 52 yX0_isFeeder, .instanceMethod yX0_isFeeder, .selects RX0 yX0_isFeeder yX0_isFeeder, .initialized RX0, .code yX0_isFeeder cX0_isFeeder 2 (some .boolean), .fieldLink RX0 34 "CastingFeeder$Casting" "feeder" "[Z", .methodLink RX0 44 yX0_has, .instanceMethod yX0_has, .selects RX0 yX0_has yX0_has, .code yX0_has cX0_has 2 (some .boolean)] ++ wsX00)
def wsX0_touches : List Cond := .code yX0_touches cX0_touches 3 (some .boolean) :: ([.fieldLink RX0 38 "CastingFeeder$Casting" "first" "[I", .fieldLink RX0 41 "CastingFeeder$Casting" "second" "[I", .static yX4_at, .initialized RX4, .code yX4_at cX4_at 2 (some .int)] ++ wsX00)
def wsX0_neighbours : List Cond := .code yX0_neighbours cX0_neighbours 4 (some .int) :: ([.fieldLink RX0 15 "CastingFeeder$Casting" "joints" "I", .methodLink RX0 59 yX0_touches, .instanceMethod yX0_touches, .selects RX0 yX0_touches yX0_touches, .initialized RX0, .code yX0_touches cX0_touches 3 (some .boolean), .fieldLink RX0 38 "CastingFeeder$Casting" "first" "[I", .fieldLink RX0 41 "CastingFeeder$Casting" "second" "[I", .static yX4_at, .initialized RX4, .code yX4_at cX4_at 2 (some .int)] ++ wsX00)
def wsX0_canLink : List Cond := .code yX0_canLink cX0_canLink 4 (some .boolean) :: ([.fieldLink RX0 15 "CastingFeeder$Casting" "joints" "I", .methodLink RX0 59 yX0_touches, .instanceMethod yX0_touches, .selects RX0 yX0_touches yX0_touches, .initialized RX0, .code yX0_touches cX0_touches 3 (some .boolean), .fieldLink RX0 38 "CastingFeeder$Casting" "first" "[I", .fieldLink RX0 41 "CastingFeeder$Casting" "second" "[I", .static yX4_at, .initialized RX4, .code yX4_at cX4_at 2 (some .int)] ++ wsX00)
def wsX0_append : List Cond := .code yX0_append cX0_append 6 (some .int) :: ([.fieldLink RX0 9 "CastingFeeder$Casting" "sections" "I", .fieldLink RX0 24 "CastingFeeder$Casting" "volume" "[I", .fieldLink RX0 28 "CastingFeeder$Casting" "area" "[I", .fieldLink RX0 31 "CastingFeeder$Casting" "chill" "[I", .fieldLink RX0 34 "CastingFeeder$Casting" "feeder" "[Z"] ++ wsX00)
def wsX0_link : List Cond := .code yX0_link cX0_link 4 (some .int) :: ([.fieldLink RX0 15 "CastingFeeder$Casting" "joints" "I", .fieldLink RX0 38 "CastingFeeder$Casting" "first" "[I", .fieldLink RX0 41 "CastingFeeder$Casting" "second" "[I"] ++ wsX00)
def wsX4_put : List Cond := .code yX4_put cX4_put 3 none :: ([])
def wsX0_unlink : List Cond := .code yX0_unlink cX0_unlink 3 none :: ([.methodLink RX0 63 Lib.Math.max.name, .static Lib.Math.max.name, .initialized "java/lang/Math", .code Lib.Math.max.name Lib.Math.max.code 2 (some .int), .fieldLink RX0 15 "CastingFeeder$Casting" "joints" "I", .fieldLink RX0 38 "CastingFeeder$Casting" "first" "[I", .fieldLink RX0 41 "CastingFeeder$Casting" "second" "[I", .static yX4_at, .initialized RX4, .code yX4_at cX4_at 2 (some .int), .static yX4_put, .code yX4_put cX4_put 3 none] ++ wsX00)
def wsX0_without : List Cond := .code yX0_without cX0_without 2 (some .int) :: ([])
def wsX0_drop_r1 : List Cond := [Cond.fieldLink RX0 15 "CastingFeeder$Casting" "joints" "I", Cond.fieldLink RX0 38 "CastingFeeder$Casting" "first" "[I", Cond.fieldLink RX0 41 "CastingFeeder$Casting" "second" "[I", Cond.methodLink RX0 63 Lib.Math.max.name, Cond.static Lib.Math.max.name, Cond.initialized "java/lang/Math", Cond.code Lib.Math.max.name Lib.Math.max.code 2 (some .int), Cond.fieldLink RX0 24 "CastingFeeder$Casting" "volume" "[I", Cond.fieldLink RX0 28 "CastingFeeder$Casting" "area" "[I", Cond.fieldLink RX0 31 "CastingFeeder$Casting" "chill" "[I", Cond.fieldLink RX0 34 "CastingFeeder$Casting" "feeder" "[Z", Cond.fieldLink RX0 9 "CastingFeeder$Casting" "sections" "I", Cond.methodLink RX0 59 yX0_touches, Cond.instanceMethod yX0_touches, Cond.selects RX0 yX0_touches yX0_touches, Cond.initialized RX0, Cond.code yX0_touches cX0_touches 3 (some .boolean), Cond.static yX4_at, Cond.initialized RX4, Cond.code yX4_at cX4_at 2 (some .int), Cond.methodLink RX0 73 yX0_unlink, Cond.instanceMethod yX0_unlink, Cond.selects RX0 yX0_unlink yX0_unlink, Cond.code yX0_unlink cX0_unlink 3 none]
def wsX0_drop_r2 : List Cond := [Cond.static yX4_put, Cond.code yX4_put cX4_put 3 none, Cond.methodLink RX0 77 yX0_without, Cond.static yX0_without, Cond.code yX0_without cX0_without 2 (some .int)]
def wsX0_drop : List Cond := .code yX0_drop cX0_drop 3 none :: ((wsX0_drop_r1 ++ wsX0_drop_r2) ++ wsX00)
def wsX1_init : List Cond := .code yX1_init cX1_init 1 none :: ([.methodLink RX1 3 objectInit, .instanceMethod objectInit, .code objectInit ⟨#[0xb1]⟩ 1 none, .fieldLink RX1 9 "CastingFeeder$Freezing" "sections" "I", .arrayClass .int, .fieldLink RX1 15 "CastingFeeder$Freezing" "step" "[I", .fieldLink RX1 19 "CastingFeeder$Freezing" "order" "[I", .fieldLink RX1 22 "CastingFeeder$Freezing" "source" "[I", .fieldLink RX1 25 "CastingFeeder$Freezing" "need" "[I", .fieldLink RX1 28 "CastingFeeder$Freezing" "pores" "[I", .fieldLink RX1 31 "CastingFeeder$Freezing" "excess" "[I"] ++ wsX10)
def wsX1_offer : List Cond := .code yX1_offer cX1_offer 4 none :: ([.fieldLink RX1 15 "CastingFeeder$Freezing" "step" "[I", .fieldLink RX1 22 "CastingFeeder$Freezing" "source" "[I", .static yX4_at, .initialized RX4, .code yX4_at cX4_at 2 (some .int), .static yX4_put, .code yX4_put cX4_put 3 none] ++ wsX10)
def wsX1_findSources : List Cond := .code yX1_findSources cX1_findSources 5 none :: ([.fieldLink RX1 9 "CastingFeeder$Freezing" "sections" "I", .fieldLink RX1 22 "CastingFeeder$Freezing" "source" "[I", .fieldLink RX1 61 "CastingFeeder$Casting" "joints" "I", .fieldLink RX1 64 "CastingFeeder$Casting" "first" "[I", .fieldLink RX1 71 "CastingFeeder$Casting" "second" "[I", .static yX4_at, .initialized RX4, .code yX4_at cX4_at 2 (some .int), .methodLink RX1 74 yX1_offer, .instanceMethod yX1_offer, .selects RX1 yX1_offer yX1_offer, .initialized RX1, .code yX1_offer cX1_offer 4 none, .fieldLink RX1 15 "CastingFeeder$Freezing" "step" "[I", .static yX4_put, .code yX4_put cX4_put 3 none] ++ wsX10 ++ wsX00)
def wsX1_drawNeeds : List Cond := .code yX1_drawNeeds cX1_drawNeeds 5 none :: ([.fieldLink RX1 9 "CastingFeeder$Freezing" "sections" "I", .fieldLink RX1 25 "CastingFeeder$Freezing" "need" "[I", .fieldLink RX1 19 "CastingFeeder$Freezing" "order" "[I", .fieldLink RX1 22 "CastingFeeder$Freezing" "source" "[I", .methodLink RX1 78 yX0_firstNeed, .instanceMethod yX0_firstNeed, .selects RX0 yX0_firstNeed yX0_firstNeed, .initialized RX0, .code yX0_firstNeed cX0_firstNeed 2 (some .int), .fieldLink RX0 24 "CastingFeeder$Casting" "volume" "[I", .fieldLink RX0 18 "CastingFeeder$Casting" "shrinkage" "I", .static yX4_at, .initialized RX4, .code yX4_at cX4_at 2 (some .int), .static yX4_put, .code yX4_put cX4_put 3 none] ++ wsX10 ++ wsX00)
def wsX1_findPores_r1 : List Cond := [Cond.fieldLink RX1 9 "CastingFeeder$Freezing" "sections" "I", Cond.fieldLink RX1 28 "CastingFeeder$Freezing" "pores" "[I", Cond.fieldLink RX1 22 "CastingFeeder$Freezing" "source" "[I", Cond.fieldLink RX1 25 "CastingFeeder$Freezing" "need" "[I", Cond.fieldLink RX1 31 "CastingFeeder$Freezing" "excess" "[I", Cond.methodLink RX1 84 Lib.Math.max.name, Cond.static Lib.Math.max.name, Cond.initialized "java/lang/Math", Cond.code Lib.Math.max.name Lib.Math.max.code 2 (some .int), Cond.methodLink RX1 81 yX0_bearablePores, Cond.instanceMethod yX0_bearablePores, Cond.selects RX0 yX0_bearablePores yX0_bearablePores, Cond.initialized RX0, Cond.code yX0_bearablePores cX0_bearablePores 2 (some .int), Cond.fieldLink RX0 24 "CastingFeeder$Casting" "volume" "[I", Cond.fieldLink RX0 21 "CastingFeeder$Casting" "piping" "I", Cond.methodLink RX0 52 yX0_isFeeder, Cond.instanceMethod yX0_isFeeder, Cond.selects RX0 yX0_isFeeder yX0_isFeeder, Cond.code yX0_isFeeder cX0_isFeeder 2 (some .boolean), Cond.fieldLink RX0 34 "CastingFeeder$Casting" "feeder" "[Z", Cond.methodLink RX0 44 yX0_has, Cond.instanceMethod yX0_has, Cond.selects RX0 yX0_has yX0_has]
def wsX1_findPores_r2 : List Cond := [Cond.code yX0_has cX0_has 2 (some .boolean), Cond.fieldLink RX0 9 "CastingFeeder$Casting" "sections" "I", Cond.static yX4_at, Cond.initialized RX4, Cond.code yX4_at cX4_at 2 (some .int)]
def wsX1_findPores : List Cond := .code yX1_findPores cX1_findPores 3 none :: ((wsX1_findPores_r1 ++ wsX1_findPores_r2) ++ wsX10 ++ wsX00)
def wsX1_follow_r1 : List Cond := [Cond.fieldLink RX1 34 "CastingFeeder$Casting" "sections" "I", Cond.methodLink RX1 37 Lib.Math.min.name, Cond.static Lib.Math.min.name, Cond.initialized "java/lang/Math", Cond.code Lib.Math.min.name Lib.Math.min.code 2 (some .int), Cond.fieldLink RX1 9 "CastingFeeder$Freezing" "sections" "I", Cond.fieldLink RX1 15 "CastingFeeder$Freezing" "step" "[I", Cond.fieldLink RX1 19 "CastingFeeder$Freezing" "order" "[I", Cond.methodLink RX1 43 yX0_stepOf, Cond.instanceMethod yX0_stepOf, Cond.selects RX0 yX0_stepOf yX0_stepOf, Cond.initialized RX0, Cond.code yX0_stepOf cX0_stepOf 8 (some .int), Cond.fieldLink RX0 24 "CastingFeeder$Casting" "volume" "[I", Cond.fieldLink RX0 9 "CastingFeeder$Casting" "sections" "I", Cond.fieldLink RX0 28 "CastingFeeder$Casting" "area" "[I", Cond.fieldLink RX0 31 "CastingFeeder$Casting" "chill" "[I", Cond.static yX4_at, Cond.initialized RX4, Cond.code yX4_at cX4_at 2 (some .int), Cond.methodLink RX0 55 yX0_cooledArea, Cond.instanceMethod yX0_cooledArea, Cond.selects RX0 yX0_cooledArea yX0_cooledArea, Cond.code yX0_cooledArea cX0_cooledArea 2 (some .int)]
def wsX1_follow_r2 : List Cond := [Cond.static yX4_put, Cond.code yX4_put cX4_put 3 none, Cond.methodLink RX1 51 yX1_findSources, Cond.instanceMethod yX1_findSources, Cond.selects RX1 yX1_findSources yX1_findSources, Cond.initialized RX1, Cond.code yX1_findSources cX1_findSources 5 none, Cond.fieldLink RX1 22 "CastingFeeder$Freezing" "source" "[I", Cond.fieldLink RX1 61 "CastingFeeder$Casting" "joints" "I", Cond.fieldLink RX1 64 "CastingFeeder$Casting" "first" "[I", Cond.fieldLink RX1 71 "CastingFeeder$Casting" "second" "[I", Cond.methodLink RX1 74 yX1_offer, Cond.instanceMethod yX1_offer, Cond.selects RX1 yX1_offer yX1_offer, Cond.code yX1_offer cX1_offer 4 none, Cond.methodLink RX1 55 yX1_drawNeeds, Cond.instanceMethod yX1_drawNeeds, Cond.selects RX1 yX1_drawNeeds yX1_drawNeeds, Cond.code yX1_drawNeeds cX1_drawNeeds 5 none, Cond.fieldLink RX1 25 "CastingFeeder$Freezing" "need" "[I", Cond.methodLink RX1 78 yX0_firstNeed, Cond.instanceMethod yX0_firstNeed, Cond.selects RX0 yX0_firstNeed yX0_firstNeed, Cond.code yX0_firstNeed cX0_firstNeed 2 (some .int)]
def wsX1_follow_r3 : List Cond := [Cond.fieldLink RX0 18 "CastingFeeder$Casting" "shrinkage" "I", Cond.methodLink RX1 58 yX1_findPores, Cond.instanceMethod yX1_findPores, Cond.selects RX1 yX1_findPores yX1_findPores, Cond.code yX1_findPores cX1_findPores 3 none, Cond.fieldLink RX1 28 "CastingFeeder$Freezing" "pores" "[I", Cond.fieldLink RX1 31 "CastingFeeder$Freezing" "excess" "[I", Cond.methodLink RX1 84 Lib.Math.max.name, Cond.static Lib.Math.max.name, Cond.code Lib.Math.max.name Lib.Math.max.code 2 (some .int), Cond.methodLink RX1 81 yX0_bearablePores, Cond.instanceMethod yX0_bearablePores, Cond.selects RX0 yX0_bearablePores yX0_bearablePores, Cond.code yX0_bearablePores cX0_bearablePores 2 (some .int), Cond.fieldLink RX0 21 "CastingFeeder$Casting" "piping" "I", Cond.methodLink RX0 52 yX0_isFeeder, Cond.instanceMethod yX0_isFeeder, Cond.selects RX0 yX0_isFeeder yX0_isFeeder, Cond.code yX0_isFeeder cX0_isFeeder 2 (some .boolean), Cond.fieldLink RX0 34 "CastingFeeder$Casting" "feeder" "[Z", Cond.methodLink RX0 44 yX0_has, Cond.instanceMethod yX0_has, Cond.selects RX0 yX0_has yX0_has, Cond.code yX0_has cX0_has 2 (some .boolean)]
def wsX1_follow : List Cond := .code yX1_follow cX1_follow 3 none :: ((wsX1_follow_r1 ++ (wsX1_follow_r2 ++ wsX1_follow_r3)) ++ wsX00 ++ wsX10)
def wsX4_sum : List Cond := .code yX4_sum cX4_sum 4 (some .int) :: ([])
def wsX1_excessOfAll : List Cond := .code yX1_excessOfAll cX1_excessOfAll 1 (some .int) :: ([.fieldLink RX1 31 "CastingFeeder$Freezing" "excess" "[I", .fieldLink RX1 9 "CastingFeeder$Freezing" "sections" "I", .static yX4_sum, .initialized RX4, .code yX4_sum cX4_sum 4 (some .int)] ++ wsX10)
def wsX1_isSound : List Cond := .code yX1_isSound cX1_isSound 1 (some .boolean) :: ([.methodLink RX1 90 yX1_excessOfAll, .instanceMethod yX1_excessOfAll, .selects RX1 yX1_excessOfAll yX1_excessOfAll, .initialized RX1, .code yX1_excessOfAll cX1_excessOfAll 1 (some .int), .fieldLink RX1 31 "CastingFeeder$Freezing" "excess" "[I", .fieldLink RX1 9 "CastingFeeder$Freezing" "sections" "I", .static yX4_sum, .initialized RX4, .code yX4_sum cX4_sum 4 (some .int)] ++ wsX10)
def wsX1_fedBy : List Cond := .code yX1_fedBy cX1_fedBy 4 (some .int) :: ([.fieldLink RX1 9 "CastingFeeder$Freezing" "sections" "I", .fieldLink RX1 22 "CastingFeeder$Freezing" "source" "[I"] ++ wsX10)
def wsX1_hotSpotOf : List Cond := .code yX1_hotSpotOf cX1_hotSpotOf 4 (some .int) :: ([.fieldLink RX1 9 "CastingFeeder$Freezing" "sections" "I", .fieldLink RX1 22 "CastingFeeder$Freezing" "source" "[I", .static yX4_at, .initialized RX4, .code yX4_at cX4_at 2 (some .int)] ++ wsX10)
def wsX2_init : List Cond := .code yX2_init cX2_init 2 none :: ([.methodLink RX2 3 objectInit, .instanceMethod objectInit, .code objectInit ⟨#[0xb1]⟩ 1 none, .classLink RX2 9 RX0, .fieldLink RX2 11 "CastingFeeder$History" "states" "[LCastingFeeder$Casting;", .fieldLink RX2 17 "CastingFeeder$History" "size" "I", .instantiable RX0 10, .initialized RX0, .instanceMethod yX0_init, .code yX0_init cX0_init 1 none, .methodLink RX0 3 objectInit, .fieldLink RX0 9 "CastingFeeder$Casting" "sections" "I", .fieldLink RX0 15 "CastingFeeder$Casting" "joints" "I", .fieldLink RX0 18 "CastingFeeder$Casting" "shrinkage" "I", .fieldLink RX0 21 "CastingFeeder$Casting" "piping" "I", .arrayClass .int, .fieldLink RX0 24 "CastingFeeder$Casting" "volume" "[I", .fieldLink RX0 28 "CastingFeeder$Casting" "area" "[I", .fieldLink RX0 31 "CastingFeeder$Casting" "chill" "[I", .arrayClass .boolean, .fieldLink RX0 34 "CastingFeeder$Casting" "feeder" "[Z", .fieldLink RX0 38 "CastingFeeder$Casting" "first" "[I", .fieldLink RX0 41 "CastingFeeder$Casting" "second" "[I"] ++ wsX20 ++ wsX00)
def wsX2_isEmpty : List Cond := .code yX2_isEmpty cX2_isEmpty 1 (some .boolean) :: ([.fieldLink RX2 17 "CastingFeeder$History" "size" "I"] ++ wsX20)
def wsX2_dropOldest : List Cond := .code yX2_dropOldest cX2_dropOldest 3 none :: ([.fieldLink RX2 11 "CastingFeeder$History" "states" "[LCastingFeeder$Casting;", .fieldLink RX2 17 "CastingFeeder$History" "size" "I"] ++ wsX20)
def wsX2_stateAt : List Cond := .code yX2_stateAt cX2_stateAt 2 (some (.object "CastingFeeder$Casting")) :: ([.fieldLink RX2 11 "CastingFeeder$History" "states" "[LCastingFeeder$Casting;"] ++ wsX20)
def wsX2_keep_r1 : List Cond := [Cond.fieldLink RX2 17 "CastingFeeder$History" "size" "I", Cond.fieldLink RX2 11 "CastingFeeder$History" "states" "[LCastingFeeder$Casting;", Cond.methodLink RX2 22 yX2_dropOldest, Cond.instanceMethod yX2_dropOldest, Cond.selects RX2 yX2_dropOldest yX2_dropOldest, Cond.initialized RX2, Cond.code yX2_dropOldest cX2_dropOldest 3 none, Cond.methodLink RX2 25 yX2_stateAt, Cond.instanceMethod yX2_stateAt, Cond.selects RX2 yX2_stateAt yX2_stateAt, Cond.code yX2_stateAt cX2_stateAt 2 (some (.object "CastingFeeder$Casting")), Cond.methodLink RX2 29 yX0_copyFrom, Cond.instanceMethod yX0_copyFrom, Cond.selects RX0 yX0_copyFrom yX0_copyFrom, Cond.initialized RX0, Cond.code yX0_copyFrom cX0_copyFrom 3 none, Cond.fieldLink RX0 9 "CastingFeeder$Casting" "sections" "I", Cond.fieldLink RX0 15 "CastingFeeder$Casting" "joints" "I", Cond.fieldLink RX0 18 "CastingFeeder$Casting" "shrinkage" "I", Cond.fieldLink RX0 21 "CastingFeeder$Casting" "piping" "I", Cond.fieldLink RX0 24 "CastingFeeder$Casting" "volume" "[I", Cond.fieldLink RX0 28 "CastingFeeder$Casting" "area" "[I", Cond.fieldLink RX0 31 "CastingFeeder$Casting" "chill" "[I", Cond.fieldLink RX0 34 "CastingFeeder$Casting" "feeder" "[Z"]
def wsX2_keep_r2 : List Cond := [Cond.fieldLink RX0 38 "CastingFeeder$Casting" "first" "[I", Cond.fieldLink RX0 41 "CastingFeeder$Casting" "second" "[I"]
def wsX2_keep : List Cond := .code yX2_keep cX2_keep 3 none :: ((wsX2_keep_r1 ++ wsX2_keep_r2) ++ wsX20 ++ wsX00)
def wsX2_restore : List Cond := .code yX2_restore cX2_restore 3 none :: ([.fieldLink RX2 17 "CastingFeeder$History" "size" "I", .methodLink RX2 25 yX2_stateAt, .instanceMethod yX2_stateAt, .selects RX2 yX2_stateAt yX2_stateAt, .initialized RX2, .code yX2_stateAt cX2_stateAt 2 (some (.object "CastingFeeder$Casting")), .fieldLink RX2 11 "CastingFeeder$History" "states" "[LCastingFeeder$Casting;", .methodLink RX2 29 yX0_copyFrom, .instanceMethod yX0_copyFrom, .selects RX0 yX0_copyFrom yX0_copyFrom, .initialized RX0, .code yX0_copyFrom cX0_copyFrom 3 none, .fieldLink RX0 9 "CastingFeeder$Casting" "sections" "I", .fieldLink RX0 15 "CastingFeeder$Casting" "joints" "I", .fieldLink RX0 18 "CastingFeeder$Casting" "shrinkage" "I", .fieldLink RX0 21 "CastingFeeder$Casting" "piping" "I", .fieldLink RX0 24 "CastingFeeder$Casting" "volume" "[I", .fieldLink RX0 28 "CastingFeeder$Casting" "area" "[I", .fieldLink RX0 31 "CastingFeeder$Casting" "chill" "[I", .fieldLink RX0 34 "CastingFeeder$Casting" "feeder" "[Z", .fieldLink RX0 38 "CastingFeeder$Casting" "first" "[I", .fieldLink RX0 41 "CastingFeeder$Casting" "second" "[I"] ++ wsX20 ++ wsX00)
def wsX3_init : List Cond := .code yX3_init cX3_init 1 none :: ([.methodLink RX3 3 objectInit, .instanceMethod objectInit, .code objectInit ⟨#[0xb1]⟩ 1 none, .arrayClass .int, .fieldLink RX3 9 "CastingFeeder$Text" "codes" "[I", .fieldLink RX3 15 "CastingFeeder$Text" "length" "I", .fieldLink RX3 19 "CastingFeeder$Text" "items" "I", .fieldLink RX3 22 "CastingFeeder$Text" "place" "I", .fieldLink RX3 25 "CastingFeeder$Text" "fault" "I"] ++ wsX30)
def wsX3_append : List Cond := .code yX3_append cX3_append 2 (some .boolean) :: ([.fieldLink RX3 15 "CastingFeeder$Text" "length" "I", .fieldLink RX3 9 "CastingFeeder$Text" "codes" "[I"] ++ wsX30)
def wsX3_codeAt : List Cond := .code yX3_codeAt cX3_codeAt 2 (some .int) :: ([.fieldLink RX3 15 "CastingFeeder$Text" "length" "I", .fieldLink RX3 9 "CastingFeeder$Text" "codes" "[I"] ++ wsX30)
def wsX3_next : List Cond := .code yX3_next cX3_next 2 (some .int) :: ([.fieldLink RX3 22 "CastingFeeder$Text" "place" "I", .methodLink RX3 81 yX3_codeAt, .instanceMethod yX3_codeAt, .selects RX3 yX3_codeAt yX3_codeAt, .initialized RX3, .code yX3_codeAt cX3_codeAt 2 (some .int), .fieldLink RX3 15 "CastingFeeder$Text" "length" "I", .fieldLink RX3 9 "CastingFeeder$Text" "codes" "[I"] ++ wsX30)
def wsX3_isDigit : List Cond := .code yX3_isDigit cX3_isDigit 1 (some .boolean) :: ([])
def wsX4_isWithin : List Cond := .code yX4_isWithin cX4_isWithin 3 (some .boolean) :: ([])
def wsX3_readNumber : List Cond := .code yX3_readNumber cX3_readNumber 8 (some .int) :: ([.fieldLink RX3 25 "CastingFeeder$Text" "fault" "I", .fieldLink RX3 22 "CastingFeeder$Text" "place" "I", .methodLink RX3 40 yX3_next, .instanceMethod yX3_next, .selects RX3 yX3_next yX3_next, .initialized RX3, .code yX3_next cX3_next 2 (some .int), .methodLink RX3 81 yX3_codeAt, .instanceMethod yX3_codeAt, .selects RX3 yX3_codeAt yX3_codeAt, .code yX3_codeAt cX3_codeAt 2 (some .int), .fieldLink RX3 15 "CastingFeeder$Text" "length" "I", .fieldLink RX3 9 "CastingFeeder$Text" "codes" "[I", .methodLink RX3 44 yX3_isDigit, .static yX3_isDigit, .code yX3_isDigit cX3_isDigit 1 (some .boolean), .static yX4_isWithin, .initialized RX4, .code yX4_isWithin cX4_isWithin 3 (some .boolean)] ++ wsX30)
def wsX3_expect : List Cond := .code yX3_expect cX3_expect 2 none :: ([.fieldLink RX3 25 "CastingFeeder$Text" "fault" "I", .fieldLink RX3 22 "CastingFeeder$Text" "place" "I", .methodLink RX3 40 yX3_next, .instanceMethod yX3_next, .selects RX3 yX3_next yX3_next, .initialized RX3, .code yX3_next cX3_next 2 (some .int), .methodLink RX3 81 yX3_codeAt, .instanceMethod yX3_codeAt, .selects RX3 yX3_codeAt yX3_codeAt, .code yX3_codeAt cX3_codeAt 2 (some .int), .fieldLink RX3 15 "CastingFeeder$Text" "length" "I", .fieldLink RX3 9 "CastingFeeder$Text" "codes" "[I"] ++ wsX30)
def wsX3_readSection_r1 : List Cond := [Cond.fieldLink RX3 25 "CastingFeeder$Text" "fault" "I", Cond.fieldLink RX3 22 "CastingFeeder$Text" "place" "I", Cond.methodLink RX3 63 yX3_readNumber, Cond.instanceMethod yX3_readNumber, Cond.selects RX3 yX3_readNumber yX3_readNumber, Cond.initialized RX3, Cond.code yX3_readNumber cX3_readNumber 8 (some .int), Cond.methodLink RX3 40 yX3_next, Cond.instanceMethod yX3_next, Cond.selects RX3 yX3_next yX3_next, Cond.code yX3_next cX3_next 2 (some .int), Cond.methodLink RX3 81 yX3_codeAt, Cond.instanceMethod yX3_codeAt, Cond.selects RX3 yX3_codeAt yX3_codeAt, Cond.code yX3_codeAt cX3_codeAt 2 (some .int), Cond.fieldLink RX3 15 "CastingFeeder$Text" "length" "I", Cond.fieldLink RX3 9 "CastingFeeder$Text" "codes" "[I", Cond.methodLink RX3 44 yX3_isDigit, Cond.static yX3_isDigit, Cond.code yX3_isDigit cX3_isDigit 1 (some .boolean), Cond.static yX4_isWithin, Cond.initialized RX4, Cond.code yX4_isWithin cX4_isWithin 3 (some .boolean), Cond.methodLink RX3 36 yX3_expect]
def wsX3_readSection_r2 : List Cond := [Cond.instanceMethod yX3_expect, Cond.selects RX3 yX3_expect yX3_expect, Cond.code yX3_expect cX3_expect 2 none, Cond.methodLink RX3 67 yX0_append, Cond.instanceMethod yX0_append, Cond.selects RX0 yX0_append yX0_append, Cond.initialized RX0, Cond.code yX0_append cX0_append 6 (some .int), Cond.fieldLink RX0 9 "CastingFeeder$Casting" "sections" "I", Cond.fieldLink RX0 24 "CastingFeeder$Casting" "volume" "[I", Cond.fieldLink RX0 28 "CastingFeeder$Casting" "area" "[I", Cond.fieldLink RX0 31 "CastingFeeder$Casting" "chill" "[I", Cond.fieldLink RX0 34 "CastingFeeder$Casting" "feeder" "[Z"]
def wsX3_readSection : List Cond := .code yX3_readSection cX3_readSection 6 none :: ((wsX3_readSection_r1 ++ wsX3_readSection_r2) ++ wsX30 ++ wsX00)
def wsX3_readJoint_r1 : List Cond := [Cond.fieldLink RX3 71 "CastingFeeder$Casting" "sections" "I", Cond.fieldLink RX3 22 "CastingFeeder$Text" "place" "I", Cond.fieldLink RX3 25 "CastingFeeder$Text" "fault" "I", Cond.methodLink RX3 63 yX3_readNumber, Cond.instanceMethod yX3_readNumber, Cond.selects RX3 yX3_readNumber yX3_readNumber, Cond.initialized RX3, Cond.code yX3_readNumber cX3_readNumber 8 (some .int), Cond.methodLink RX3 40 yX3_next, Cond.instanceMethod yX3_next, Cond.selects RX3 yX3_next yX3_next, Cond.code yX3_next cX3_next 2 (some .int), Cond.methodLink RX3 81 yX3_codeAt, Cond.instanceMethod yX3_codeAt, Cond.selects RX3 yX3_codeAt yX3_codeAt, Cond.code yX3_codeAt cX3_codeAt 2 (some .int), Cond.fieldLink RX3 15 "CastingFeeder$Text" "length" "I", Cond.fieldLink RX3 9 "CastingFeeder$Text" "codes" "[I", Cond.methodLink RX3 44 yX3_isDigit, Cond.static yX3_isDigit, Cond.code yX3_isDigit cX3_isDigit 1 (some .boolean), Cond.static yX4_isWithin, Cond.initialized RX4, Cond.code yX4_isWithin cX4_isWithin 3 (some .boolean)]
def wsX3_readJoint_r2 : List Cond := [Cond.methodLink RX3 36 yX3_expect, Cond.instanceMethod yX3_expect, Cond.selects RX3 yX3_expect yX3_expect, Cond.code yX3_expect cX3_expect 2 none, Cond.methodLink RX3 74 yX0_canLink, Cond.instanceMethod yX0_canLink, Cond.selects RX0 yX0_canLink yX0_canLink, Cond.initialized RX0, Cond.code yX0_canLink cX0_canLink 4 (some .boolean), Cond.fieldLink RX0 15 "CastingFeeder$Casting" "joints" "I", Cond.methodLink RX0 59 yX0_touches, Cond.instanceMethod yX0_touches, Cond.selects RX0 yX0_touches yX0_touches, Cond.code yX0_touches cX0_touches 3 (some .boolean), Cond.fieldLink RX0 38 "CastingFeeder$Casting" "first" "[I", Cond.fieldLink RX0 41 "CastingFeeder$Casting" "second" "[I", Cond.static yX4_at, Cond.code yX4_at cX4_at 2 (some .int), Cond.methodLink RX3 78 yX0_link, Cond.instanceMethod yX0_link, Cond.selects RX0 yX0_link yX0_link, Cond.code yX0_link cX0_link 4 (some .int)]
def wsX3_readJoint : List Cond := .code yX3_readJoint cX3_readJoint 5 none :: ((wsX3_readJoint_r1 ++ wsX3_readJoint_r2) ++ wsX00 ++ wsX30)
def wsX3_readItem_r1 : List Cond := [Cond.fieldLink RX3 22 "CastingFeeder$Text" "place" "I", Cond.fieldLink RX3 25 "CastingFeeder$Text" "fault" "I", Cond.fieldLink RX3 19 "CastingFeeder$Text" "items" "I", Cond.methodLink RX3 40 yX3_next, Cond.instanceMethod yX3_next, Cond.selects RX3 yX3_next yX3_next, Cond.initialized RX3, Cond.code yX3_next cX3_next 2 (some .int), Cond.methodLink RX3 81 yX3_codeAt, Cond.instanceMethod yX3_codeAt, Cond.selects RX3 yX3_codeAt yX3_codeAt, Cond.code yX3_codeAt cX3_codeAt 2 (some .int), Cond.fieldLink RX3 15 "CastingFeeder$Text" "length" "I", Cond.fieldLink RX3 9 "CastingFeeder$Text" "codes" "[I", Cond.methodLink RX3 44 yX3_isDigit, Cond.static yX3_isDigit, Cond.code yX3_isDigit cX3_isDigit 1 (some .boolean), Cond.methodLink RX3 48 yX0_hasRoomForSection, Cond.instanceMethod yX0_hasRoomForSection, Cond.selects RX0 yX0_hasRoomForSection yX0_hasRoomForSection, Cond.initialized RX0, Cond.code yX0_hasRoomForSection cX0_hasRoomForSection 1 (some .boolean), Cond.fieldLink RX0 9 "CastingFeeder$Casting" "sections" "I", Cond.methodLink RX3 53 yX0_hasRoomForJoint]
def wsX3_readItem_r2 : List Cond := [Cond.instanceMethod yX0_hasRoomForJoint, Cond.selects RX0 yX0_hasRoomForJoint yX0_hasRoomForJoint, Cond.code yX0_hasRoomForJoint cX0_hasRoomForJoint 1 (some .boolean), Cond.fieldLink RX0 15 "CastingFeeder$Casting" "joints" "I", Cond.methodLink RX3 56 yX3_readSection, Cond.instanceMethod yX3_readSection, Cond.selects RX3 yX3_readSection yX3_readSection, Cond.code yX3_readSection cX3_readSection 6 none, Cond.methodLink RX3 63 yX3_readNumber, Cond.instanceMethod yX3_readNumber, Cond.selects RX3 yX3_readNumber yX3_readNumber, Cond.code yX3_readNumber cX3_readNumber 8 (some .int), Cond.static yX4_isWithin, Cond.initialized RX4, Cond.code yX4_isWithin cX4_isWithin 3 (some .boolean), Cond.methodLink RX3 36 yX3_expect, Cond.instanceMethod yX3_expect, Cond.selects RX3 yX3_expect yX3_expect, Cond.code yX3_expect cX3_expect 2 none, Cond.methodLink RX3 67 yX0_append, Cond.instanceMethod yX0_append, Cond.selects RX0 yX0_append yX0_append, Cond.code yX0_append cX0_append 6 (some .int), Cond.fieldLink RX0 24 "CastingFeeder$Casting" "volume" "[I"]
def wsX3_readItem_r3 : List Cond := [Cond.fieldLink RX0 28 "CastingFeeder$Casting" "area" "[I", Cond.fieldLink RX0 31 "CastingFeeder$Casting" "chill" "[I", Cond.fieldLink RX0 34 "CastingFeeder$Casting" "feeder" "[Z", Cond.methodLink RX3 60 yX3_readJoint, Cond.instanceMethod yX3_readJoint, Cond.selects RX3 yX3_readJoint yX3_readJoint, Cond.code yX3_readJoint cX3_readJoint 5 none, Cond.fieldLink RX3 71 "CastingFeeder$Casting" "sections" "I", Cond.methodLink RX3 74 yX0_canLink, Cond.instanceMethod yX0_canLink, Cond.selects RX0 yX0_canLink yX0_canLink, Cond.code yX0_canLink cX0_canLink 4 (some .boolean), Cond.methodLink RX0 59 yX0_touches, Cond.instanceMethod yX0_touches, Cond.selects RX0 yX0_touches yX0_touches, Cond.code yX0_touches cX0_touches 3 (some .boolean), Cond.fieldLink RX0 38 "CastingFeeder$Casting" "first" "[I", Cond.fieldLink RX0 41 "CastingFeeder$Casting" "second" "[I", Cond.static yX4_at, Cond.code yX4_at cX4_at 2 (some .int), Cond.methodLink RX3 78 yX0_link, Cond.instanceMethod yX0_link, Cond.selects RX0 yX0_link yX0_link, Cond.code yX0_link cX0_link 4 (some .int)]
def wsX3_readItem : List Cond := .code yX3_readItem cX3_readItem 6 none :: ((wsX3_readItem_r1 ++ (wsX3_readItem_r2 ++ wsX3_readItem_r3)) ++ wsX30 ++ wsX00)
def wsX3_isAtEnd : List Cond := .code yX3_isAtEnd cX3_isAtEnd 1 (some .boolean) :: ([.methodLink RX3 40 yX3_next, .instanceMethod yX3_next, .selects RX3 yX3_next yX3_next, .initialized RX3, .code yX3_next cX3_next 2 (some .int), .fieldLink RX3 22 "CastingFeeder$Text" "place" "I", .methodLink RX3 81 yX3_codeAt, .instanceMethod yX3_codeAt, .selects RX3 yX3_codeAt yX3_codeAt, .code yX3_codeAt cX3_codeAt 2 (some .int), .fieldLink RX3 15 "CastingFeeder$Text" "length" "I", .fieldLink RX3 9 "CastingFeeder$Text" "codes" "[I"] ++ wsX30)
def wsX3_readInto_r1 : List Cond := [Cond.fieldLink RX3 22 "CastingFeeder$Text" "place" "I", Cond.fieldLink RX3 25 "CastingFeeder$Text" "fault" "I", Cond.fieldLink RX3 19 "CastingFeeder$Text" "items" "I", Cond.methodLink RX3 28 yX3_readItem, Cond.instanceMethod yX3_readItem, Cond.selects RX3 yX3_readItem yX3_readItem, Cond.initialized RX3, Cond.code yX3_readItem cX3_readItem 6 none, Cond.methodLink RX3 40 yX3_next, Cond.instanceMethod yX3_next, Cond.selects RX3 yX3_next yX3_next, Cond.code yX3_next cX3_next 2 (some .int), Cond.methodLink RX3 81 yX3_codeAt, Cond.instanceMethod yX3_codeAt, Cond.selects RX3 yX3_codeAt yX3_codeAt, Cond.code yX3_codeAt cX3_codeAt 2 (some .int), Cond.fieldLink RX3 15 "CastingFeeder$Text" "length" "I", Cond.fieldLink RX3 9 "CastingFeeder$Text" "codes" "[I", Cond.methodLink RX3 44 yX3_isDigit, Cond.static yX3_isDigit, Cond.code yX3_isDigit cX3_isDigit 1 (some .boolean), Cond.methodLink RX3 48 yX0_hasRoomForSection, Cond.instanceMethod yX0_hasRoomForSection, Cond.selects RX0 yX0_hasRoomForSection yX0_hasRoomForSection]
def wsX3_readInto_r2 : List Cond := [Cond.initialized RX0, Cond.code yX0_hasRoomForSection cX0_hasRoomForSection 1 (some .boolean), Cond.fieldLink RX0 9 "CastingFeeder$Casting" "sections" "I", Cond.methodLink RX3 53 yX0_hasRoomForJoint, Cond.instanceMethod yX0_hasRoomForJoint, Cond.selects RX0 yX0_hasRoomForJoint yX0_hasRoomForJoint, Cond.code yX0_hasRoomForJoint cX0_hasRoomForJoint 1 (some .boolean), Cond.fieldLink RX0 15 "CastingFeeder$Casting" "joints" "I", Cond.methodLink RX3 56 yX3_readSection, Cond.instanceMethod yX3_readSection, Cond.selects RX3 yX3_readSection yX3_readSection, Cond.code yX3_readSection cX3_readSection 6 none, Cond.methodLink RX3 63 yX3_readNumber, Cond.instanceMethod yX3_readNumber, Cond.selects RX3 yX3_readNumber yX3_readNumber, Cond.code yX3_readNumber cX3_readNumber 8 (some .int), Cond.static yX4_isWithin, Cond.initialized RX4, Cond.code yX4_isWithin cX4_isWithin 3 (some .boolean), Cond.methodLink RX3 36 yX3_expect, Cond.instanceMethod yX3_expect, Cond.selects RX3 yX3_expect yX3_expect, Cond.code yX3_expect cX3_expect 2 none, Cond.methodLink RX3 67 yX0_append]
def wsX3_readInto_r3 : List Cond := [Cond.instanceMethod yX0_append, Cond.selects RX0 yX0_append yX0_append, Cond.code yX0_append cX0_append 6 (some .int), Cond.fieldLink RX0 24 "CastingFeeder$Casting" "volume" "[I", Cond.fieldLink RX0 28 "CastingFeeder$Casting" "area" "[I", Cond.fieldLink RX0 31 "CastingFeeder$Casting" "chill" "[I", Cond.fieldLink RX0 34 "CastingFeeder$Casting" "feeder" "[Z", Cond.methodLink RX3 60 yX3_readJoint, Cond.instanceMethod yX3_readJoint, Cond.selects RX3 yX3_readJoint yX3_readJoint, Cond.code yX3_readJoint cX3_readJoint 5 none, Cond.fieldLink RX3 71 "CastingFeeder$Casting" "sections" "I", Cond.methodLink RX3 74 yX0_canLink, Cond.instanceMethod yX0_canLink, Cond.selects RX0 yX0_canLink yX0_canLink, Cond.code yX0_canLink cX0_canLink 4 (some .boolean), Cond.methodLink RX0 59 yX0_touches, Cond.instanceMethod yX0_touches, Cond.selects RX0 yX0_touches yX0_touches, Cond.code yX0_touches cX0_touches 3 (some .boolean), Cond.fieldLink RX0 38 "CastingFeeder$Casting" "first" "[I", Cond.fieldLink RX0 41 "CastingFeeder$Casting" "second" "[I", Cond.static yX4_at, Cond.code yX4_at cX4_at 2 (some .int)]
def wsX3_readInto_r4 : List Cond := [Cond.methodLink RX3 78 yX0_link, Cond.instanceMethod yX0_link, Cond.selects RX0 yX0_link yX0_link, Cond.code yX0_link cX0_link 4 (some .int), Cond.methodLink RX3 32 yX3_isAtEnd, Cond.instanceMethod yX3_isAtEnd, Cond.selects RX3 yX3_isAtEnd yX3_isAtEnd, Cond.code yX3_isAtEnd cX3_isAtEnd 1 (some .boolean)]
def wsX3_readInto : List Cond := .code yX3_readInto cX3_readInto 4 (some .int) :: ((wsX3_readInto_r1 ++ (wsX3_readInto_r2 ++ (wsX3_readInto_r3 ++ wsX3_readInto_r4))) ++ wsX30 ++ wsX00)
def wsX4_init_r1 : List Cond := [Cond.methodLink RX4 1 objectInit, Cond.instanceMethod objectInit, Cond.code objectInit ⟨#[0xb1]⟩ 1 none, Cond.classLink RX4 7 RX0, Cond.instantiable RX0 10, Cond.initialized RX0, Cond.fieldLink RX4 10 "CastingFeeder" "casting" "LCastingFeeder$Casting;", Cond.classLink RX4 16 RX1, Cond.instantiable RX1 7, Cond.initialized RX1, Cond.fieldLink RX4 19 "CastingFeeder" "freezing" "LCastingFeeder$Freezing;", Cond.classLink RX4 23 RX2, Cond.instantiable RX2 2, Cond.initialized RX2, Cond.fieldLink RX4 26 "CastingFeeder" "history" "LCastingFeeder$History;", Cond.classLink RX4 30 RX3, Cond.instantiable RX3 5, Cond.initialized RX3, Cond.fieldLink RX4 33 "CastingFeeder" "text" "LCastingFeeder$Text;", Cond.fieldLink RX4 37 "CastingFeeder" "trial" "LCastingFeeder$Casting;", Cond.fieldLink RX4 40 "CastingFeeder" "tried" "LCastingFeeder$Freezing;", Cond.instanceMethod yX0_init, Cond.code yX0_init cX0_init 1 none, Cond.methodLink RX0 3 objectInit]
def wsX4_init_r2 : List Cond := [Cond.fieldLink RX0 9 "CastingFeeder$Casting" "sections" "I", Cond.fieldLink RX0 15 "CastingFeeder$Casting" "joints" "I", Cond.fieldLink RX0 18 "CastingFeeder$Casting" "shrinkage" "I", Cond.fieldLink RX0 21 "CastingFeeder$Casting" "piping" "I", Cond.arrayClass .int, Cond.fieldLink RX0 24 "CastingFeeder$Casting" "volume" "[I", Cond.fieldLink RX0 28 "CastingFeeder$Casting" "area" "[I", Cond.fieldLink RX0 31 "CastingFeeder$Casting" "chill" "[I", Cond.arrayClass .boolean, Cond.fieldLink RX0 34 "CastingFeeder$Casting" "feeder" "[Z", Cond.fieldLink RX0 38 "CastingFeeder$Casting" "first" "[I", Cond.fieldLink RX0 41 "CastingFeeder$Casting" "second" "[I", Cond.instanceMethod yX1_init, Cond.code yX1_init cX1_init 1 none, Cond.methodLink RX1 3 objectInit, Cond.fieldLink RX1 9 "CastingFeeder$Freezing" "sections" "I", Cond.fieldLink RX1 15 "CastingFeeder$Freezing" "step" "[I", Cond.fieldLink RX1 19 "CastingFeeder$Freezing" "order" "[I", Cond.fieldLink RX1 22 "CastingFeeder$Freezing" "source" "[I", Cond.fieldLink RX1 25 "CastingFeeder$Freezing" "need" "[I", Cond.fieldLink RX1 28 "CastingFeeder$Freezing" "pores" "[I", Cond.fieldLink RX1 31 "CastingFeeder$Freezing" "excess" "[I", Cond.methodLink RX4 25 yX2_init, Cond.instanceMethod yX2_init]
def wsX4_init_r3 : List Cond := [Cond.code yX2_init cX2_init 2 none, Cond.methodLink RX2 3 objectInit, Cond.classLink RX2 9 RX0, Cond.fieldLink RX2 11 "CastingFeeder$History" "states" "[LCastingFeeder$Casting;", Cond.fieldLink RX2 17 "CastingFeeder$History" "size" "I", Cond.instanceMethod yX3_init, Cond.code yX3_init cX3_init 1 none, Cond.methodLink RX3 3 objectInit, Cond.fieldLink RX3 9 "CastingFeeder$Text" "codes" "[I", Cond.fieldLink RX3 15 "CastingFeeder$Text" "length" "I", Cond.fieldLink RX3 19 "CastingFeeder$Text" "items" "I", Cond.fieldLink RX3 22 "CastingFeeder$Text" "place" "I", Cond.fieldLink RX3 25 "CastingFeeder$Text" "fault" "I"]
def wsX4_init : List Cond := .code yX4_init cX4_init 1 none :: ((wsX4_init_r1 ++ (wsX4_init_r2 ++ wsX4_init_r3)) ++ wsX00 ++ wsX40 ++ wsX10 ++ wsX20 ++ wsX30)
def wsX4_isSize : List Cond := .code yX4_isSize cX4_isSize 1 (some .boolean) :: ([.methodLink RX4 80 yX4_isWithin, .static yX4_isWithin, .initialized RX4, .code yX4_isWithin cX4_isWithin 3 (some .boolean)])
def wsX4_addSection_r1 : List Cond := [Cond.fieldLink RX4 10 "CastingFeeder" "casting" "LCastingFeeder$Casting;", Cond.fieldLink RX4 26 "CastingFeeder" "history" "LCastingFeeder$History;", Cond.fieldLink RX4 19 "CastingFeeder" "freezing" "LCastingFeeder$Freezing;", Cond.methodLink RX4 43 yX4_isSize, Cond.static yX4_isSize, Cond.initialized RX4, Cond.code yX4_isSize cX4_isSize 1 (some .boolean), Cond.methodLink RX4 80 yX4_isWithin, Cond.static yX4_isWithin, Cond.code yX4_isWithin cX4_isWithin 3 (some .boolean), Cond.methodLink RX4 47 yX0_hasRoomForSection, Cond.instanceMethod yX0_hasRoomForSection, Cond.selects RX0 yX0_hasRoomForSection yX0_hasRoomForSection, Cond.initialized RX0, Cond.code yX0_hasRoomForSection cX0_hasRoomForSection 1 (some .boolean), Cond.fieldLink RX0 9 "CastingFeeder$Casting" "sections" "I", Cond.methodLink RX4 51 yX2_keep, Cond.instanceMethod yX2_keep, Cond.selects RX2 yX2_keep yX2_keep, Cond.initialized RX2, Cond.code yX2_keep cX2_keep 3 none, Cond.fieldLink RX2 17 "CastingFeeder$History" "size" "I", Cond.fieldLink RX2 11 "CastingFeeder$History" "states" "[LCastingFeeder$Casting;", Cond.methodLink RX2 22 yX2_dropOldest]
def wsX4_addSection_r2 : List Cond := [Cond.instanceMethod yX2_dropOldest, Cond.selects RX2 yX2_dropOldest yX2_dropOldest, Cond.code yX2_dropOldest cX2_dropOldest 3 none, Cond.methodLink RX2 25 yX2_stateAt, Cond.instanceMethod yX2_stateAt, Cond.selects RX2 yX2_stateAt yX2_stateAt, Cond.code yX2_stateAt cX2_stateAt 2 (some (.object "CastingFeeder$Casting")), Cond.methodLink RX2 29 yX0_copyFrom, Cond.instanceMethod yX0_copyFrom, Cond.selects RX0 yX0_copyFrom yX0_copyFrom, Cond.code yX0_copyFrom cX0_copyFrom 3 none, Cond.fieldLink RX0 15 "CastingFeeder$Casting" "joints" "I", Cond.fieldLink RX0 18 "CastingFeeder$Casting" "shrinkage" "I", Cond.fieldLink RX0 21 "CastingFeeder$Casting" "piping" "I", Cond.fieldLink RX0 24 "CastingFeeder$Casting" "volume" "[I", Cond.fieldLink RX0 28 "CastingFeeder$Casting" "area" "[I", Cond.fieldLink RX0 31 "CastingFeeder$Casting" "chill" "[I", Cond.fieldLink RX0 34 "CastingFeeder$Casting" "feeder" "[Z", Cond.fieldLink RX0 38 "CastingFeeder$Casting" "first" "[I", Cond.fieldLink RX0 41 "CastingFeeder$Casting" "second" "[I", Cond.methodLink RX4 55 yX0_append, Cond.instanceMethod yX0_append, Cond.selects RX0 yX0_append yX0_append, Cond.code yX0_append cX0_append 6 (some .int)]
def wsX4_addSection_r3 : List Cond := [Cond.methodLink RX4 59 yX1_follow, Cond.instanceMethod yX1_follow, Cond.selects RX1 yX1_follow yX1_follow, Cond.initialized RX1, Cond.code yX1_follow cX1_follow 3 none, Cond.fieldLink RX1 34 "CastingFeeder$Casting" "sections" "I", Cond.methodLink RX1 37 Lib.Math.min.name, Cond.static Lib.Math.min.name, Cond.initialized "java/lang/Math", Cond.code Lib.Math.min.name Lib.Math.min.code 2 (some .int), Cond.fieldLink RX1 9 "CastingFeeder$Freezing" "sections" "I", Cond.fieldLink RX1 15 "CastingFeeder$Freezing" "step" "[I", Cond.fieldLink RX1 19 "CastingFeeder$Freezing" "order" "[I", Cond.methodLink RX1 43 yX0_stepOf, Cond.instanceMethod yX0_stepOf, Cond.selects RX0 yX0_stepOf yX0_stepOf, Cond.code yX0_stepOf cX0_stepOf 8 (some .int), Cond.static yX4_at, Cond.code yX4_at cX4_at 2 (some .int), Cond.methodLink RX0 55 yX0_cooledArea, Cond.instanceMethod yX0_cooledArea, Cond.selects RX0 yX0_cooledArea yX0_cooledArea, Cond.code yX0_cooledArea cX0_cooledArea 2 (some .int), Cond.static yX4_put]
def wsX4_addSection_r4 : List Cond := [Cond.code yX4_put cX4_put 3 none, Cond.methodLink RX1 51 yX1_findSources, Cond.instanceMethod yX1_findSources, Cond.selects RX1 yX1_findSources yX1_findSources, Cond.code yX1_findSources cX1_findSources 5 none, Cond.fieldLink RX1 22 "CastingFeeder$Freezing" "source" "[I", Cond.fieldLink RX1 61 "CastingFeeder$Casting" "joints" "I", Cond.fieldLink RX1 64 "CastingFeeder$Casting" "first" "[I", Cond.fieldLink RX1 71 "CastingFeeder$Casting" "second" "[I", Cond.methodLink RX1 74 yX1_offer, Cond.instanceMethod yX1_offer, Cond.selects RX1 yX1_offer yX1_offer, Cond.code yX1_offer cX1_offer 4 none, Cond.methodLink RX1 55 yX1_drawNeeds, Cond.instanceMethod yX1_drawNeeds, Cond.selects RX1 yX1_drawNeeds yX1_drawNeeds, Cond.code yX1_drawNeeds cX1_drawNeeds 5 none, Cond.fieldLink RX1 25 "CastingFeeder$Freezing" "need" "[I", Cond.methodLink RX1 78 yX0_firstNeed, Cond.instanceMethod yX0_firstNeed, Cond.selects RX0 yX0_firstNeed yX0_firstNeed, Cond.code yX0_firstNeed cX0_firstNeed 2 (some .int), Cond.methodLink RX1 58 yX1_findPores, Cond.instanceMethod yX1_findPores]
def wsX4_addSection_r5 : List Cond := [Cond.selects RX1 yX1_findPores yX1_findPores, Cond.code yX1_findPores cX1_findPores 3 none, Cond.fieldLink RX1 28 "CastingFeeder$Freezing" "pores" "[I", Cond.fieldLink RX1 31 "CastingFeeder$Freezing" "excess" "[I", Cond.methodLink RX1 84 Lib.Math.max.name, Cond.static Lib.Math.max.name, Cond.code Lib.Math.max.name Lib.Math.max.code 2 (some .int), Cond.methodLink RX1 81 yX0_bearablePores, Cond.instanceMethod yX0_bearablePores, Cond.selects RX0 yX0_bearablePores yX0_bearablePores, Cond.code yX0_bearablePores cX0_bearablePores 2 (some .int), Cond.methodLink RX0 52 yX0_isFeeder, Cond.instanceMethod yX0_isFeeder, Cond.selects RX0 yX0_isFeeder yX0_isFeeder, Cond.code yX0_isFeeder cX0_isFeeder 2 (some .boolean), Cond.methodLink RX0 44 yX0_has, Cond.instanceMethod yX0_has, Cond.selects RX0 yX0_has yX0_has, Cond.code yX0_has cX0_has 2 (some .boolean)]
def wsX4_addSection : List Cond := .code yX4_addSection cX4_addSection 5 (some .int) :: ((wsX4_addSection_r1 ++ (wsX4_addSection_r2 ++ (wsX4_addSection_r3 ++ (wsX4_addSection_r4 ++ wsX4_addSection_r5)))) ++ wsX40 ++ wsX00 ++ wsX20 ++ wsX10)
def wsX4_resize_r1 : List Cond := [Cond.fieldLink RX4 10 "CastingFeeder" "casting" "LCastingFeeder$Casting;", Cond.fieldLink RX4 26 "CastingFeeder" "history" "LCastingFeeder$History;", Cond.fieldLink RX4 65 "CastingFeeder$Casting" "volume" "[I", Cond.fieldLink RX4 77 "CastingFeeder$Casting" "area" "[I", Cond.fieldLink RX4 19 "CastingFeeder" "freezing" "LCastingFeeder$Freezing;", Cond.methodLink RX4 62 yX0_has, Cond.instanceMethod yX0_has, Cond.selects RX0 yX0_has yX0_has, Cond.initialized RX0, Cond.code yX0_has cX0_has 2 (some .boolean), Cond.fieldLink RX0 9 "CastingFeeder$Casting" "sections" "I", Cond.methodLink RX4 43 yX4_isSize, Cond.static yX4_isSize, Cond.initialized RX4, Cond.code yX4_isSize cX4_isSize 1 (some .boolean), Cond.methodLink RX4 80 yX4_isWithin, Cond.static yX4_isWithin, Cond.code yX4_isWithin cX4_isWithin 3 (some .boolean), Cond.methodLink RX4 51 yX2_keep, Cond.instanceMethod yX2_keep, Cond.selects RX2 yX2_keep yX2_keep, Cond.initialized RX2, Cond.code yX2_keep cX2_keep 3 none, Cond.fieldLink RX2 17 "CastingFeeder$History" "size" "I"]
def wsX4_resize_r2 : List Cond := [Cond.fieldLink RX2 11 "CastingFeeder$History" "states" "[LCastingFeeder$Casting;", Cond.methodLink RX2 22 yX2_dropOldest, Cond.instanceMethod yX2_dropOldest, Cond.selects RX2 yX2_dropOldest yX2_dropOldest, Cond.code yX2_dropOldest cX2_dropOldest 3 none, Cond.methodLink RX2 25 yX2_stateAt, Cond.instanceMethod yX2_stateAt, Cond.selects RX2 yX2_stateAt yX2_stateAt, Cond.code yX2_stateAt cX2_stateAt 2 (some (.object "CastingFeeder$Casting")), Cond.methodLink RX2 29 yX0_copyFrom, Cond.instanceMethod yX0_copyFrom, Cond.selects RX0 yX0_copyFrom yX0_copyFrom, Cond.code yX0_copyFrom cX0_copyFrom 3 none, Cond.fieldLink RX0 15 "CastingFeeder$Casting" "joints" "I", Cond.fieldLink RX0 18 "CastingFeeder$Casting" "shrinkage" "I", Cond.fieldLink RX0 21 "CastingFeeder$Casting" "piping" "I", Cond.fieldLink RX0 24 "CastingFeeder$Casting" "volume" "[I", Cond.fieldLink RX0 28 "CastingFeeder$Casting" "area" "[I", Cond.fieldLink RX0 31 "CastingFeeder$Casting" "chill" "[I", Cond.fieldLink RX0 34 "CastingFeeder$Casting" "feeder" "[Z", Cond.fieldLink RX0 38 "CastingFeeder$Casting" "first" "[I", Cond.fieldLink RX0 41 "CastingFeeder$Casting" "second" "[I", Cond.methodLink RX4 69 yX4_at, Cond.static yX4_at]
def wsX4_resize_r3 : List Cond := [Cond.code yX4_at cX4_at 2 (some .int), Cond.methodLink RX4 73 yX4_put, Cond.static yX4_put, Cond.code yX4_put cX4_put 3 none, Cond.methodLink RX4 59 yX1_follow, Cond.instanceMethod yX1_follow, Cond.selects RX1 yX1_follow yX1_follow, Cond.initialized RX1, Cond.code yX1_follow cX1_follow 3 none, Cond.fieldLink RX1 34 "CastingFeeder$Casting" "sections" "I", Cond.methodLink RX1 37 Lib.Math.min.name, Cond.static Lib.Math.min.name, Cond.initialized "java/lang/Math", Cond.code Lib.Math.min.name Lib.Math.min.code 2 (some .int), Cond.fieldLink RX1 9 "CastingFeeder$Freezing" "sections" "I", Cond.fieldLink RX1 15 "CastingFeeder$Freezing" "step" "[I", Cond.fieldLink RX1 19 "CastingFeeder$Freezing" "order" "[I", Cond.methodLink RX1 43 yX0_stepOf, Cond.instanceMethod yX0_stepOf, Cond.selects RX0 yX0_stepOf yX0_stepOf, Cond.code yX0_stepOf cX0_stepOf 8 (some .int), Cond.methodLink RX0 55 yX0_cooledArea, Cond.instanceMethod yX0_cooledArea, Cond.selects RX0 yX0_cooledArea yX0_cooledArea]
def wsX4_resize_r4 : List Cond := [Cond.code yX0_cooledArea cX0_cooledArea 2 (some .int), Cond.methodLink RX1 51 yX1_findSources, Cond.instanceMethod yX1_findSources, Cond.selects RX1 yX1_findSources yX1_findSources, Cond.code yX1_findSources cX1_findSources 5 none, Cond.fieldLink RX1 22 "CastingFeeder$Freezing" "source" "[I", Cond.fieldLink RX1 61 "CastingFeeder$Casting" "joints" "I", Cond.fieldLink RX1 64 "CastingFeeder$Casting" "first" "[I", Cond.fieldLink RX1 71 "CastingFeeder$Casting" "second" "[I", Cond.methodLink RX1 74 yX1_offer, Cond.instanceMethod yX1_offer, Cond.selects RX1 yX1_offer yX1_offer, Cond.code yX1_offer cX1_offer 4 none, Cond.methodLink RX1 55 yX1_drawNeeds, Cond.instanceMethod yX1_drawNeeds, Cond.selects RX1 yX1_drawNeeds yX1_drawNeeds, Cond.code yX1_drawNeeds cX1_drawNeeds 5 none, Cond.fieldLink RX1 25 "CastingFeeder$Freezing" "need" "[I", Cond.methodLink RX1 78 yX0_firstNeed, Cond.instanceMethod yX0_firstNeed, Cond.selects RX0 yX0_firstNeed yX0_firstNeed, Cond.code yX0_firstNeed cX0_firstNeed 2 (some .int), Cond.methodLink RX1 58 yX1_findPores, Cond.instanceMethod yX1_findPores]
def wsX4_resize_r5 : List Cond := [Cond.selects RX1 yX1_findPores yX1_findPores, Cond.code yX1_findPores cX1_findPores 3 none, Cond.fieldLink RX1 28 "CastingFeeder$Freezing" "pores" "[I", Cond.fieldLink RX1 31 "CastingFeeder$Freezing" "excess" "[I", Cond.methodLink RX1 84 Lib.Math.max.name, Cond.static Lib.Math.max.name, Cond.code Lib.Math.max.name Lib.Math.max.code 2 (some .int), Cond.methodLink RX1 81 yX0_bearablePores, Cond.instanceMethod yX0_bearablePores, Cond.selects RX0 yX0_bearablePores yX0_bearablePores, Cond.code yX0_bearablePores cX0_bearablePores 2 (some .int), Cond.methodLink RX0 52 yX0_isFeeder, Cond.instanceMethod yX0_isFeeder, Cond.selects RX0 yX0_isFeeder yX0_isFeeder, Cond.code yX0_isFeeder cX0_isFeeder 2 (some .boolean), Cond.methodLink RX0 44 yX0_has]
def wsX4_resize : List Cond := .code yX4_resize cX4_resize 5 (some .int) :: ((wsX4_resize_r1 ++ (wsX4_resize_r2 ++ (wsX4_resize_r3 ++ (wsX4_resize_r4 ++ wsX4_resize_r5)))) ++ wsX40 ++ wsX00 ++ wsX20 ++ wsX10)
def wsX4_setChill_r1 : List Cond := [Cond.fieldLink RX4 10 "CastingFeeder" "casting" "LCastingFeeder$Casting;", Cond.fieldLink RX4 26 "CastingFeeder" "history" "LCastingFeeder$History;", Cond.fieldLink RX4 84 "CastingFeeder$Casting" "chill" "[I", Cond.fieldLink RX4 19 "CastingFeeder" "freezing" "LCastingFeeder$Freezing;", Cond.methodLink RX4 62 yX0_has, Cond.instanceMethod yX0_has, Cond.selects RX0 yX0_has yX0_has, Cond.initialized RX0, Cond.code yX0_has cX0_has 2 (some .boolean), Cond.fieldLink RX0 9 "CastingFeeder$Casting" "sections" "I", Cond.methodLink RX4 80 yX4_isWithin, Cond.static yX4_isWithin, Cond.initialized RX4, Cond.code yX4_isWithin cX4_isWithin 3 (some .boolean), Cond.methodLink RX4 51 yX2_keep, Cond.instanceMethod yX2_keep, Cond.selects RX2 yX2_keep yX2_keep, Cond.initialized RX2, Cond.code yX2_keep cX2_keep 3 none, Cond.fieldLink RX2 17 "CastingFeeder$History" "size" "I", Cond.fieldLink RX2 11 "CastingFeeder$History" "states" "[LCastingFeeder$Casting;", Cond.methodLink RX2 22 yX2_dropOldest, Cond.instanceMethod yX2_dropOldest, Cond.selects RX2 yX2_dropOldest yX2_dropOldest]
def wsX4_setChill_r2 : List Cond := [Cond.code yX2_dropOldest cX2_dropOldest 3 none, Cond.methodLink RX2 25 yX2_stateAt, Cond.instanceMethod yX2_stateAt, Cond.selects RX2 yX2_stateAt yX2_stateAt, Cond.code yX2_stateAt cX2_stateAt 2 (some (.object "CastingFeeder$Casting")), Cond.methodLink RX2 29 yX0_copyFrom, Cond.instanceMethod yX0_copyFrom, Cond.selects RX0 yX0_copyFrom yX0_copyFrom, Cond.code yX0_copyFrom cX0_copyFrom 3 none, Cond.fieldLink RX0 15 "CastingFeeder$Casting" "joints" "I", Cond.fieldLink RX0 18 "CastingFeeder$Casting" "shrinkage" "I", Cond.fieldLink RX0 21 "CastingFeeder$Casting" "piping" "I", Cond.fieldLink RX0 24 "CastingFeeder$Casting" "volume" "[I", Cond.fieldLink RX0 28 "CastingFeeder$Casting" "area" "[I", Cond.fieldLink RX0 31 "CastingFeeder$Casting" "chill" "[I", Cond.fieldLink RX0 34 "CastingFeeder$Casting" "feeder" "[Z", Cond.fieldLink RX0 38 "CastingFeeder$Casting" "first" "[I", Cond.fieldLink RX0 41 "CastingFeeder$Casting" "second" "[I", Cond.methodLink RX4 69 yX4_at, Cond.static yX4_at, Cond.code yX4_at cX4_at 2 (some .int), Cond.methodLink RX4 73 yX4_put, Cond.static yX4_put, Cond.code yX4_put cX4_put 3 none]
def wsX4_setChill_r3 : List Cond := [Cond.methodLink RX4 59 yX1_follow, Cond.instanceMethod yX1_follow, Cond.selects RX1 yX1_follow yX1_follow, Cond.initialized RX1, Cond.code yX1_follow cX1_follow 3 none, Cond.fieldLink RX1 34 "CastingFeeder$Casting" "sections" "I", Cond.methodLink RX1 37 Lib.Math.min.name, Cond.static Lib.Math.min.name, Cond.initialized "java/lang/Math", Cond.code Lib.Math.min.name Lib.Math.min.code 2 (some .int), Cond.fieldLink RX1 9 "CastingFeeder$Freezing" "sections" "I", Cond.fieldLink RX1 15 "CastingFeeder$Freezing" "step" "[I", Cond.fieldLink RX1 19 "CastingFeeder$Freezing" "order" "[I", Cond.methodLink RX1 43 yX0_stepOf, Cond.instanceMethod yX0_stepOf, Cond.selects RX0 yX0_stepOf yX0_stepOf, Cond.code yX0_stepOf cX0_stepOf 8 (some .int), Cond.methodLink RX0 55 yX0_cooledArea, Cond.instanceMethod yX0_cooledArea, Cond.selects RX0 yX0_cooledArea yX0_cooledArea, Cond.code yX0_cooledArea cX0_cooledArea 2 (some .int), Cond.methodLink RX1 51 yX1_findSources, Cond.instanceMethod yX1_findSources, Cond.selects RX1 yX1_findSources yX1_findSources]
def wsX4_setChill_r4 : List Cond := [Cond.code yX1_findSources cX1_findSources 5 none, Cond.fieldLink RX1 22 "CastingFeeder$Freezing" "source" "[I", Cond.fieldLink RX1 61 "CastingFeeder$Casting" "joints" "I", Cond.fieldLink RX1 64 "CastingFeeder$Casting" "first" "[I", Cond.fieldLink RX1 71 "CastingFeeder$Casting" "second" "[I", Cond.methodLink RX1 74 yX1_offer, Cond.instanceMethod yX1_offer, Cond.selects RX1 yX1_offer yX1_offer, Cond.code yX1_offer cX1_offer 4 none, Cond.methodLink RX1 55 yX1_drawNeeds, Cond.instanceMethod yX1_drawNeeds, Cond.selects RX1 yX1_drawNeeds yX1_drawNeeds, Cond.code yX1_drawNeeds cX1_drawNeeds 5 none, Cond.fieldLink RX1 25 "CastingFeeder$Freezing" "need" "[I", Cond.methodLink RX1 78 yX0_firstNeed, Cond.instanceMethod yX0_firstNeed, Cond.selects RX0 yX0_firstNeed yX0_firstNeed, Cond.code yX0_firstNeed cX0_firstNeed 2 (some .int), Cond.methodLink RX1 58 yX1_findPores, Cond.instanceMethod yX1_findPores, Cond.selects RX1 yX1_findPores yX1_findPores, Cond.code yX1_findPores cX1_findPores 3 none, Cond.fieldLink RX1 28 "CastingFeeder$Freezing" "pores" "[I", Cond.fieldLink RX1 31 "CastingFeeder$Freezing" "excess" "[I"]
def wsX4_setChill_r5 : List Cond := [Cond.methodLink RX1 84 Lib.Math.max.name, Cond.static Lib.Math.max.name, Cond.code Lib.Math.max.name Lib.Math.max.code 2 (some .int), Cond.methodLink RX1 81 yX0_bearablePores, Cond.instanceMethod yX0_bearablePores, Cond.selects RX0 yX0_bearablePores yX0_bearablePores, Cond.code yX0_bearablePores cX0_bearablePores 2 (some .int), Cond.methodLink RX0 52 yX0_isFeeder, Cond.instanceMethod yX0_isFeeder, Cond.selects RX0 yX0_isFeeder yX0_isFeeder, Cond.code yX0_isFeeder cX0_isFeeder 2 (some .boolean), Cond.methodLink RX0 44 yX0_has]
def wsX4_setChill : List Cond := .code yX4_setChill cX4_setChill 4 (some .int) :: ((wsX4_setChill_r1 ++ (wsX4_setChill_r2 ++ (wsX4_setChill_r3 ++ (wsX4_setChill_r4 ++ wsX4_setChill_r5)))) ++ wsX40 ++ wsX00 ++ wsX20 ++ wsX10)
def wsX4_removeSection_r1 : List Cond := [Cond.fieldLink RX4 10 "CastingFeeder" "casting" "LCastingFeeder$Casting;", Cond.fieldLink RX4 26 "CastingFeeder" "history" "LCastingFeeder$History;", Cond.fieldLink RX4 19 "CastingFeeder" "freezing" "LCastingFeeder$Freezing;", Cond.fieldLink RX4 91 "CastingFeeder$Casting" "sections" "I", Cond.methodLink RX4 62 yX0_has, Cond.instanceMethod yX0_has, Cond.selects RX0 yX0_has yX0_has, Cond.initialized RX0, Cond.code yX0_has cX0_has 2 (some .boolean), Cond.fieldLink RX0 9 "CastingFeeder$Casting" "sections" "I", Cond.methodLink RX4 51 yX2_keep, Cond.instanceMethod yX2_keep, Cond.selects RX2 yX2_keep yX2_keep, Cond.initialized RX2, Cond.code yX2_keep cX2_keep 3 none, Cond.fieldLink RX2 17 "CastingFeeder$History" "size" "I", Cond.fieldLink RX2 11 "CastingFeeder$History" "states" "[LCastingFeeder$Casting;", Cond.methodLink RX2 22 yX2_dropOldest, Cond.instanceMethod yX2_dropOldest, Cond.selects RX2 yX2_dropOldest yX2_dropOldest, Cond.code yX2_dropOldest cX2_dropOldest 3 none, Cond.methodLink RX2 25 yX2_stateAt, Cond.instanceMethod yX2_stateAt, Cond.selects RX2 yX2_stateAt yX2_stateAt]
def wsX4_removeSection_r2 : List Cond := [Cond.code yX2_stateAt cX2_stateAt 2 (some (.object "CastingFeeder$Casting")), Cond.methodLink RX2 29 yX0_copyFrom, Cond.instanceMethod yX0_copyFrom, Cond.selects RX0 yX0_copyFrom yX0_copyFrom, Cond.code yX0_copyFrom cX0_copyFrom 3 none, Cond.fieldLink RX0 15 "CastingFeeder$Casting" "joints" "I", Cond.fieldLink RX0 18 "CastingFeeder$Casting" "shrinkage" "I", Cond.fieldLink RX0 21 "CastingFeeder$Casting" "piping" "I", Cond.fieldLink RX0 24 "CastingFeeder$Casting" "volume" "[I", Cond.fieldLink RX0 28 "CastingFeeder$Casting" "area" "[I", Cond.fieldLink RX0 31 "CastingFeeder$Casting" "chill" "[I", Cond.fieldLink RX0 34 "CastingFeeder$Casting" "feeder" "[Z", Cond.fieldLink RX0 38 "CastingFeeder$Casting" "first" "[I", Cond.fieldLink RX0 41 "CastingFeeder$Casting" "second" "[I", Cond.methodLink RX4 87 yX0_drop, Cond.instanceMethod yX0_drop, Cond.selects RX0 yX0_drop yX0_drop, Cond.code yX0_drop cX0_drop 3 none, Cond.methodLink RX0 63 Lib.Math.max.name, Cond.static Lib.Math.max.name, Cond.initialized "java/lang/Math", Cond.code Lib.Math.max.name Lib.Math.max.code 2 (some .int), Cond.methodLink RX0 59 yX0_touches, Cond.instanceMethod yX0_touches]
def wsX4_removeSection_r3 : List Cond := [Cond.selects RX0 yX0_touches yX0_touches, Cond.code yX0_touches cX0_touches 3 (some .boolean), Cond.static yX4_at, Cond.initialized RX4, Cond.code yX4_at cX4_at 2 (some .int), Cond.methodLink RX0 73 yX0_unlink, Cond.instanceMethod yX0_unlink, Cond.selects RX0 yX0_unlink yX0_unlink, Cond.code yX0_unlink cX0_unlink 3 none, Cond.static yX4_put, Cond.code yX4_put cX4_put 3 none, Cond.methodLink RX0 77 yX0_without, Cond.static yX0_without, Cond.code yX0_without cX0_without 2 (some .int), Cond.methodLink RX4 59 yX1_follow, Cond.instanceMethod yX1_follow, Cond.selects RX1 yX1_follow yX1_follow, Cond.initialized RX1, Cond.code yX1_follow cX1_follow 3 none, Cond.fieldLink RX1 34 "CastingFeeder$Casting" "sections" "I", Cond.methodLink RX1 37 Lib.Math.min.name, Cond.static Lib.Math.min.name, Cond.code Lib.Math.min.name Lib.Math.min.code 2 (some .int), Cond.fieldLink RX1 9 "CastingFeeder$Freezing" "sections" "I"]
def wsX4_removeSection_r4 : List Cond := [Cond.fieldLink RX1 15 "CastingFeeder$Freezing" "step" "[I", Cond.fieldLink RX1 19 "CastingFeeder$Freezing" "order" "[I", Cond.methodLink RX1 43 yX0_stepOf, Cond.instanceMethod yX0_stepOf, Cond.selects RX0 yX0_stepOf yX0_stepOf, Cond.code yX0_stepOf cX0_stepOf 8 (some .int), Cond.methodLink RX0 55 yX0_cooledArea, Cond.instanceMethod yX0_cooledArea, Cond.selects RX0 yX0_cooledArea yX0_cooledArea, Cond.code yX0_cooledArea cX0_cooledArea 2 (some .int), Cond.methodLink RX1 51 yX1_findSources, Cond.instanceMethod yX1_findSources, Cond.selects RX1 yX1_findSources yX1_findSources, Cond.code yX1_findSources cX1_findSources 5 none, Cond.fieldLink RX1 22 "CastingFeeder$Freezing" "source" "[I", Cond.fieldLink RX1 61 "CastingFeeder$Casting" "joints" "I", Cond.fieldLink RX1 64 "CastingFeeder$Casting" "first" "[I", Cond.fieldLink RX1 71 "CastingFeeder$Casting" "second" "[I", Cond.methodLink RX1 74 yX1_offer, Cond.instanceMethod yX1_offer, Cond.selects RX1 yX1_offer yX1_offer, Cond.code yX1_offer cX1_offer 4 none, Cond.methodLink RX1 55 yX1_drawNeeds, Cond.instanceMethod yX1_drawNeeds]
def wsX4_removeSection_r5 : List Cond := [Cond.selects RX1 yX1_drawNeeds yX1_drawNeeds, Cond.code yX1_drawNeeds cX1_drawNeeds 5 none, Cond.fieldLink RX1 25 "CastingFeeder$Freezing" "need" "[I", Cond.methodLink RX1 78 yX0_firstNeed, Cond.instanceMethod yX0_firstNeed, Cond.selects RX0 yX0_firstNeed yX0_firstNeed, Cond.code yX0_firstNeed cX0_firstNeed 2 (some .int), Cond.methodLink RX1 58 yX1_findPores, Cond.instanceMethod yX1_findPores, Cond.selects RX1 yX1_findPores yX1_findPores, Cond.code yX1_findPores cX1_findPores 3 none, Cond.fieldLink RX1 28 "CastingFeeder$Freezing" "pores" "[I", Cond.fieldLink RX1 31 "CastingFeeder$Freezing" "excess" "[I", Cond.methodLink RX1 84 Lib.Math.max.name, Cond.methodLink RX1 81 yX0_bearablePores, Cond.instanceMethod yX0_bearablePores, Cond.selects RX0 yX0_bearablePores yX0_bearablePores, Cond.code yX0_bearablePores cX0_bearablePores 2 (some .int), Cond.methodLink RX0 52 yX0_isFeeder, Cond.instanceMethod yX0_isFeeder, Cond.selects RX0 yX0_isFeeder yX0_isFeeder, Cond.code yX0_isFeeder cX0_isFeeder 2 (some .boolean), Cond.methodLink RX0 44 yX0_has]
def wsX4_removeSection : List Cond := .code yX4_removeSection cX4_removeSection 2 (some .int) :: ((wsX4_removeSection_r1 ++ (wsX4_removeSection_r2 ++ (wsX4_removeSection_r3 ++ (wsX4_removeSection_r4 ++ wsX4_removeSection_r5)))) ++ wsX40 ++ wsX00 ++ wsX20 ++ wsX10)
def wsX4_join_r1 : List Cond := [Cond.fieldLink RX4 10 "CastingFeeder" "casting" "LCastingFeeder$Casting;", Cond.fieldLink RX4 26 "CastingFeeder" "history" "LCastingFeeder$History;", Cond.fieldLink RX4 19 "CastingFeeder" "freezing" "LCastingFeeder$Freezing;", Cond.methodLink RX4 62 yX0_has, Cond.instanceMethod yX0_has, Cond.selects RX0 yX0_has yX0_has, Cond.initialized RX0, Cond.code yX0_has cX0_has 2 (some .boolean), Cond.fieldLink RX0 9 "CastingFeeder$Casting" "sections" "I", Cond.methodLink RX4 95 yX0_canLink, Cond.instanceMethod yX0_canLink, Cond.selects RX0 yX0_canLink yX0_canLink, Cond.code yX0_canLink cX0_canLink 4 (some .boolean), Cond.fieldLink RX0 15 "CastingFeeder$Casting" "joints" "I", Cond.methodLink RX0 59 yX0_touches, Cond.instanceMethod yX0_touches, Cond.selects RX0 yX0_touches yX0_touches, Cond.code yX0_touches cX0_touches 3 (some .boolean), Cond.fieldLink RX0 38 "CastingFeeder$Casting" "first" "[I", Cond.fieldLink RX0 41 "CastingFeeder$Casting" "second" "[I", Cond.static yX4_at, Cond.initialized RX4, Cond.code yX4_at cX4_at 2 (some .int), Cond.methodLink RX4 99 yX0_hasRoomForJoint]
def wsX4_join_r2 : List Cond := [Cond.instanceMethod yX0_hasRoomForJoint, Cond.selects RX0 yX0_hasRoomForJoint yX0_hasRoomForJoint, Cond.code yX0_hasRoomForJoint cX0_hasRoomForJoint 1 (some .boolean), Cond.methodLink RX4 51 yX2_keep, Cond.instanceMethod yX2_keep, Cond.selects RX2 yX2_keep yX2_keep, Cond.initialized RX2, Cond.code yX2_keep cX2_keep 3 none, Cond.fieldLink RX2 17 "CastingFeeder$History" "size" "I", Cond.fieldLink RX2 11 "CastingFeeder$History" "states" "[LCastingFeeder$Casting;", Cond.methodLink RX2 22 yX2_dropOldest, Cond.instanceMethod yX2_dropOldest, Cond.selects RX2 yX2_dropOldest yX2_dropOldest, Cond.code yX2_dropOldest cX2_dropOldest 3 none, Cond.methodLink RX2 25 yX2_stateAt, Cond.instanceMethod yX2_stateAt, Cond.selects RX2 yX2_stateAt yX2_stateAt, Cond.code yX2_stateAt cX2_stateAt 2 (some (.object "CastingFeeder$Casting")), Cond.methodLink RX2 29 yX0_copyFrom, Cond.instanceMethod yX0_copyFrom, Cond.selects RX0 yX0_copyFrom yX0_copyFrom, Cond.code yX0_copyFrom cX0_copyFrom 3 none, Cond.fieldLink RX0 18 "CastingFeeder$Casting" "shrinkage" "I", Cond.fieldLink RX0 21 "CastingFeeder$Casting" "piping" "I"]
def wsX4_join_r3 : List Cond := [Cond.fieldLink RX0 24 "CastingFeeder$Casting" "volume" "[I", Cond.fieldLink RX0 28 "CastingFeeder$Casting" "area" "[I", Cond.fieldLink RX0 31 "CastingFeeder$Casting" "chill" "[I", Cond.fieldLink RX0 34 "CastingFeeder$Casting" "feeder" "[Z", Cond.methodLink RX4 102 yX0_link, Cond.instanceMethod yX0_link, Cond.selects RX0 yX0_link yX0_link, Cond.code yX0_link cX0_link 4 (some .int), Cond.methodLink RX4 59 yX1_follow, Cond.instanceMethod yX1_follow, Cond.selects RX1 yX1_follow yX1_follow, Cond.initialized RX1, Cond.code yX1_follow cX1_follow 3 none, Cond.fieldLink RX1 34 "CastingFeeder$Casting" "sections" "I", Cond.methodLink RX1 37 Lib.Math.min.name, Cond.static Lib.Math.min.name, Cond.initialized "java/lang/Math", Cond.code Lib.Math.min.name Lib.Math.min.code 2 (some .int), Cond.fieldLink RX1 9 "CastingFeeder$Freezing" "sections" "I", Cond.fieldLink RX1 15 "CastingFeeder$Freezing" "step" "[I", Cond.fieldLink RX1 19 "CastingFeeder$Freezing" "order" "[I", Cond.methodLink RX1 43 yX0_stepOf, Cond.instanceMethod yX0_stepOf, Cond.selects RX0 yX0_stepOf yX0_stepOf]
def wsX4_join_r4 : List Cond := [Cond.code yX0_stepOf cX0_stepOf 8 (some .int), Cond.methodLink RX0 55 yX0_cooledArea, Cond.instanceMethod yX0_cooledArea, Cond.selects RX0 yX0_cooledArea yX0_cooledArea, Cond.code yX0_cooledArea cX0_cooledArea 2 (some .int), Cond.static yX4_put, Cond.code yX4_put cX4_put 3 none, Cond.methodLink RX1 51 yX1_findSources, Cond.instanceMethod yX1_findSources, Cond.selects RX1 yX1_findSources yX1_findSources, Cond.code yX1_findSources cX1_findSources 5 none, Cond.fieldLink RX1 22 "CastingFeeder$Freezing" "source" "[I", Cond.fieldLink RX1 61 "CastingFeeder$Casting" "joints" "I", Cond.fieldLink RX1 64 "CastingFeeder$Casting" "first" "[I", Cond.fieldLink RX1 71 "CastingFeeder$Casting" "second" "[I", Cond.methodLink RX1 74 yX1_offer, Cond.instanceMethod yX1_offer, Cond.selects RX1 yX1_offer yX1_offer, Cond.code yX1_offer cX1_offer 4 none, Cond.methodLink RX1 55 yX1_drawNeeds, Cond.instanceMethod yX1_drawNeeds, Cond.selects RX1 yX1_drawNeeds yX1_drawNeeds, Cond.code yX1_drawNeeds cX1_drawNeeds 5 none, Cond.fieldLink RX1 25 "CastingFeeder$Freezing" "need" "[I"]
def wsX4_join_r5 : List Cond := [Cond.methodLink RX1 78 yX0_firstNeed, Cond.instanceMethod yX0_firstNeed, Cond.selects RX0 yX0_firstNeed yX0_firstNeed, Cond.code yX0_firstNeed cX0_firstNeed 2 (some .int), Cond.methodLink RX1 58 yX1_findPores, Cond.instanceMethod yX1_findPores, Cond.selects RX1 yX1_findPores yX1_findPores, Cond.code yX1_findPores cX1_findPores 3 none, Cond.fieldLink RX1 28 "CastingFeeder$Freezing" "pores" "[I", Cond.fieldLink RX1 31 "CastingFeeder$Freezing" "excess" "[I", Cond.methodLink RX1 84 Lib.Math.max.name, Cond.static Lib.Math.max.name, Cond.code Lib.Math.max.name Lib.Math.max.code 2 (some .int), Cond.methodLink RX1 81 yX0_bearablePores, Cond.instanceMethod yX0_bearablePores, Cond.selects RX0 yX0_bearablePores yX0_bearablePores, Cond.code yX0_bearablePores cX0_bearablePores 2 (some .int), Cond.methodLink RX0 52 yX0_isFeeder, Cond.instanceMethod yX0_isFeeder, Cond.selects RX0 yX0_isFeeder yX0_isFeeder, Cond.code yX0_isFeeder cX0_isFeeder 2 (some .boolean), Cond.methodLink RX0 44 yX0_has]
def wsX4_join : List Cond := .code yX4_join cX4_join 4 (some .int) :: ((wsX4_join_r1 ++ (wsX4_join_r2 ++ (wsX4_join_r3 ++ (wsX4_join_r4 ++ wsX4_join_r5)))) ++ wsX40 ++ wsX00 ++ wsX20 ++ wsX10)
def wsX4_part_r1 : List Cond := [Cond.fieldLink RX4 10 "CastingFeeder" "casting" "LCastingFeeder$Casting;", Cond.fieldLink RX4 26 "CastingFeeder" "history" "LCastingFeeder$History;", Cond.fieldLink RX4 19 "CastingFeeder" "freezing" "LCastingFeeder$Freezing;", Cond.fieldLink RX4 112 "CastingFeeder$Casting" "joints" "I", Cond.methodLink RX4 106 yX0_hasJoint, Cond.instanceMethod yX0_hasJoint, Cond.selects RX0 yX0_hasJoint yX0_hasJoint, Cond.initialized RX0, Cond.code yX0_hasJoint cX0_hasJoint 2 (some .boolean), Cond.fieldLink RX0 15 "CastingFeeder$Casting" "joints" "I", Cond.methodLink RX4 51 yX2_keep, Cond.instanceMethod yX2_keep, Cond.selects RX2 yX2_keep yX2_keep, Cond.initialized RX2, Cond.code yX2_keep cX2_keep 3 none, Cond.fieldLink RX2 17 "CastingFeeder$History" "size" "I", Cond.fieldLink RX2 11 "CastingFeeder$History" "states" "[LCastingFeeder$Casting;", Cond.methodLink RX2 22 yX2_dropOldest, Cond.instanceMethod yX2_dropOldest, Cond.selects RX2 yX2_dropOldest yX2_dropOldest, Cond.code yX2_dropOldest cX2_dropOldest 3 none, Cond.methodLink RX2 25 yX2_stateAt, Cond.instanceMethod yX2_stateAt, Cond.selects RX2 yX2_stateAt yX2_stateAt]
def wsX4_part_r2 : List Cond := [Cond.code yX2_stateAt cX2_stateAt 2 (some (.object "CastingFeeder$Casting")), Cond.methodLink RX2 29 yX0_copyFrom, Cond.instanceMethod yX0_copyFrom, Cond.selects RX0 yX0_copyFrom yX0_copyFrom, Cond.code yX0_copyFrom cX0_copyFrom 3 none, Cond.fieldLink RX0 9 "CastingFeeder$Casting" "sections" "I", Cond.fieldLink RX0 18 "CastingFeeder$Casting" "shrinkage" "I", Cond.fieldLink RX0 21 "CastingFeeder$Casting" "piping" "I", Cond.fieldLink RX0 24 "CastingFeeder$Casting" "volume" "[I", Cond.fieldLink RX0 28 "CastingFeeder$Casting" "area" "[I", Cond.fieldLink RX0 31 "CastingFeeder$Casting" "chill" "[I", Cond.fieldLink RX0 34 "CastingFeeder$Casting" "feeder" "[Z", Cond.fieldLink RX0 38 "CastingFeeder$Casting" "first" "[I", Cond.fieldLink RX0 41 "CastingFeeder$Casting" "second" "[I", Cond.methodLink RX4 109 yX0_unlink, Cond.instanceMethod yX0_unlink, Cond.selects RX0 yX0_unlink yX0_unlink, Cond.code yX0_unlink cX0_unlink 3 none, Cond.methodLink RX0 63 Lib.Math.max.name, Cond.static Lib.Math.max.name, Cond.initialized "java/lang/Math", Cond.code Lib.Math.max.name Lib.Math.max.code 2 (some .int), Cond.static yX4_at, Cond.initialized RX4]
def wsX4_part_r3 : List Cond := [Cond.code yX4_at cX4_at 2 (some .int), Cond.static yX4_put, Cond.code yX4_put cX4_put 3 none, Cond.methodLink RX4 59 yX1_follow, Cond.instanceMethod yX1_follow, Cond.selects RX1 yX1_follow yX1_follow, Cond.initialized RX1, Cond.code yX1_follow cX1_follow 3 none, Cond.fieldLink RX1 34 "CastingFeeder$Casting" "sections" "I", Cond.methodLink RX1 37 Lib.Math.min.name, Cond.static Lib.Math.min.name, Cond.code Lib.Math.min.name Lib.Math.min.code 2 (some .int), Cond.fieldLink RX1 9 "CastingFeeder$Freezing" "sections" "I", Cond.fieldLink RX1 15 "CastingFeeder$Freezing" "step" "[I", Cond.fieldLink RX1 19 "CastingFeeder$Freezing" "order" "[I", Cond.methodLink RX1 43 yX0_stepOf, Cond.instanceMethod yX0_stepOf, Cond.selects RX0 yX0_stepOf yX0_stepOf, Cond.code yX0_stepOf cX0_stepOf 8 (some .int), Cond.methodLink RX0 55 yX0_cooledArea, Cond.instanceMethod yX0_cooledArea, Cond.selects RX0 yX0_cooledArea yX0_cooledArea, Cond.code yX0_cooledArea cX0_cooledArea 2 (some .int), Cond.methodLink RX1 51 yX1_findSources]
def wsX4_part_r4 : List Cond := [Cond.instanceMethod yX1_findSources, Cond.selects RX1 yX1_findSources yX1_findSources, Cond.code yX1_findSources cX1_findSources 5 none, Cond.fieldLink RX1 22 "CastingFeeder$Freezing" "source" "[I", Cond.fieldLink RX1 61 "CastingFeeder$Casting" "joints" "I", Cond.fieldLink RX1 64 "CastingFeeder$Casting" "first" "[I", Cond.fieldLink RX1 71 "CastingFeeder$Casting" "second" "[I", Cond.methodLink RX1 74 yX1_offer, Cond.instanceMethod yX1_offer, Cond.selects RX1 yX1_offer yX1_offer, Cond.code yX1_offer cX1_offer 4 none, Cond.methodLink RX1 55 yX1_drawNeeds, Cond.instanceMethod yX1_drawNeeds, Cond.selects RX1 yX1_drawNeeds yX1_drawNeeds, Cond.code yX1_drawNeeds cX1_drawNeeds 5 none, Cond.fieldLink RX1 25 "CastingFeeder$Freezing" "need" "[I", Cond.methodLink RX1 78 yX0_firstNeed, Cond.instanceMethod yX0_firstNeed, Cond.selects RX0 yX0_firstNeed yX0_firstNeed, Cond.code yX0_firstNeed cX0_firstNeed 2 (some .int), Cond.methodLink RX1 58 yX1_findPores, Cond.instanceMethod yX1_findPores, Cond.selects RX1 yX1_findPores yX1_findPores, Cond.code yX1_findPores cX1_findPores 3 none]
def wsX4_part_r5 : List Cond := [Cond.fieldLink RX1 28 "CastingFeeder$Freezing" "pores" "[I", Cond.fieldLink RX1 31 "CastingFeeder$Freezing" "excess" "[I", Cond.methodLink RX1 84 Lib.Math.max.name, Cond.methodLink RX1 81 yX0_bearablePores, Cond.instanceMethod yX0_bearablePores, Cond.selects RX0 yX0_bearablePores yX0_bearablePores, Cond.code yX0_bearablePores cX0_bearablePores 2 (some .int), Cond.methodLink RX0 52 yX0_isFeeder, Cond.instanceMethod yX0_isFeeder, Cond.selects RX0 yX0_isFeeder yX0_isFeeder, Cond.code yX0_isFeeder cX0_isFeeder 2 (some .boolean), Cond.methodLink RX0 44 yX0_has, Cond.instanceMethod yX0_has, Cond.selects RX0 yX0_has yX0_has, Cond.code yX0_has cX0_has 2 (some .boolean)]
def wsX4_part : List Cond := .code yX4_part cX4_part 2 (some .int) :: ((wsX4_part_r1 ++ (wsX4_part_r2 ++ (wsX4_part_r3 ++ (wsX4_part_r4 ++ wsX4_part_r5)))) ++ wsX40 ++ wsX00 ++ wsX20 ++ wsX10)
def wsX4_setMetal_r1 : List Cond := [Cond.fieldLink RX4 26 "CastingFeeder" "history" "LCastingFeeder$History;", Cond.fieldLink RX4 10 "CastingFeeder" "casting" "LCastingFeeder$Casting;", Cond.fieldLink RX4 115 "CastingFeeder$Casting" "shrinkage" "I", Cond.fieldLink RX4 118 "CastingFeeder$Casting" "piping" "I", Cond.fieldLink RX4 19 "CastingFeeder" "freezing" "LCastingFeeder$Freezing;", Cond.methodLink RX4 80 yX4_isWithin, Cond.static yX4_isWithin, Cond.initialized RX4, Cond.code yX4_isWithin cX4_isWithin 3 (some .boolean), Cond.methodLink RX4 51 yX2_keep, Cond.instanceMethod yX2_keep, Cond.selects RX2 yX2_keep yX2_keep, Cond.initialized RX2, Cond.code yX2_keep cX2_keep 3 none, Cond.fieldLink RX2 17 "CastingFeeder$History" "size" "I", Cond.fieldLink RX2 11 "CastingFeeder$History" "states" "[LCastingFeeder$Casting;", Cond.methodLink RX2 22 yX2_dropOldest, Cond.instanceMethod yX2_dropOldest, Cond.selects RX2 yX2_dropOldest yX2_dropOldest, Cond.code yX2_dropOldest cX2_dropOldest 3 none, Cond.methodLink RX2 25 yX2_stateAt, Cond.instanceMethod yX2_stateAt, Cond.selects RX2 yX2_stateAt yX2_stateAt, Cond.code yX2_stateAt cX2_stateAt 2 (some (.object "CastingFeeder$Casting"))]
def wsX4_setMetal_r2 : List Cond := [Cond.methodLink RX2 29 yX0_copyFrom, Cond.instanceMethod yX0_copyFrom, Cond.selects RX0 yX0_copyFrom yX0_copyFrom, Cond.initialized RX0, Cond.code yX0_copyFrom cX0_copyFrom 3 none, Cond.fieldLink RX0 9 "CastingFeeder$Casting" "sections" "I", Cond.fieldLink RX0 15 "CastingFeeder$Casting" "joints" "I", Cond.fieldLink RX0 18 "CastingFeeder$Casting" "shrinkage" "I", Cond.fieldLink RX0 21 "CastingFeeder$Casting" "piping" "I", Cond.fieldLink RX0 24 "CastingFeeder$Casting" "volume" "[I", Cond.fieldLink RX0 28 "CastingFeeder$Casting" "area" "[I", Cond.fieldLink RX0 31 "CastingFeeder$Casting" "chill" "[I", Cond.fieldLink RX0 34 "CastingFeeder$Casting" "feeder" "[Z", Cond.fieldLink RX0 38 "CastingFeeder$Casting" "first" "[I", Cond.fieldLink RX0 41 "CastingFeeder$Casting" "second" "[I", Cond.methodLink RX4 59 yX1_follow, Cond.instanceMethod yX1_follow, Cond.selects RX1 yX1_follow yX1_follow, Cond.initialized RX1, Cond.code yX1_follow cX1_follow 3 none, Cond.fieldLink RX1 34 "CastingFeeder$Casting" "sections" "I", Cond.methodLink RX1 37 Lib.Math.min.name, Cond.static Lib.Math.min.name, Cond.initialized "java/lang/Math"]
def wsX4_setMetal_r3 : List Cond := [Cond.code Lib.Math.min.name Lib.Math.min.code 2 (some .int), Cond.fieldLink RX1 9 "CastingFeeder$Freezing" "sections" "I", Cond.fieldLink RX1 15 "CastingFeeder$Freezing" "step" "[I", Cond.fieldLink RX1 19 "CastingFeeder$Freezing" "order" "[I", Cond.methodLink RX1 43 yX0_stepOf, Cond.instanceMethod yX0_stepOf, Cond.selects RX0 yX0_stepOf yX0_stepOf, Cond.code yX0_stepOf cX0_stepOf 8 (some .int), Cond.static yX4_at, Cond.code yX4_at cX4_at 2 (some .int), Cond.methodLink RX0 55 yX0_cooledArea, Cond.instanceMethod yX0_cooledArea, Cond.selects RX0 yX0_cooledArea yX0_cooledArea, Cond.code yX0_cooledArea cX0_cooledArea 2 (some .int), Cond.static yX4_put, Cond.code yX4_put cX4_put 3 none, Cond.methodLink RX1 51 yX1_findSources, Cond.instanceMethod yX1_findSources, Cond.selects RX1 yX1_findSources yX1_findSources, Cond.code yX1_findSources cX1_findSources 5 none, Cond.fieldLink RX1 22 "CastingFeeder$Freezing" "source" "[I", Cond.fieldLink RX1 61 "CastingFeeder$Casting" "joints" "I", Cond.fieldLink RX1 64 "CastingFeeder$Casting" "first" "[I", Cond.fieldLink RX1 71 "CastingFeeder$Casting" "second" "[I"]
def wsX4_setMetal_r4 : List Cond := [Cond.methodLink RX1 74 yX1_offer, Cond.instanceMethod yX1_offer, Cond.selects RX1 yX1_offer yX1_offer, Cond.code yX1_offer cX1_offer 4 none, Cond.methodLink RX1 55 yX1_drawNeeds, Cond.instanceMethod yX1_drawNeeds, Cond.selects RX1 yX1_drawNeeds yX1_drawNeeds, Cond.code yX1_drawNeeds cX1_drawNeeds 5 none, Cond.fieldLink RX1 25 "CastingFeeder$Freezing" "need" "[I", Cond.methodLink RX1 78 yX0_firstNeed, Cond.instanceMethod yX0_firstNeed, Cond.selects RX0 yX0_firstNeed yX0_firstNeed, Cond.code yX0_firstNeed cX0_firstNeed 2 (some .int), Cond.methodLink RX1 58 yX1_findPores, Cond.instanceMethod yX1_findPores, Cond.selects RX1 yX1_findPores yX1_findPores, Cond.code yX1_findPores cX1_findPores 3 none, Cond.fieldLink RX1 28 "CastingFeeder$Freezing" "pores" "[I", Cond.fieldLink RX1 31 "CastingFeeder$Freezing" "excess" "[I", Cond.methodLink RX1 84 Lib.Math.max.name, Cond.static Lib.Math.max.name, Cond.code Lib.Math.max.name Lib.Math.max.code 2 (some .int), Cond.methodLink RX1 81 yX0_bearablePores, Cond.instanceMethod yX0_bearablePores]
def wsX4_setMetal_r5 : List Cond := [Cond.selects RX0 yX0_bearablePores yX0_bearablePores, Cond.code yX0_bearablePores cX0_bearablePores 2 (some .int), Cond.methodLink RX0 52 yX0_isFeeder, Cond.instanceMethod yX0_isFeeder, Cond.selects RX0 yX0_isFeeder yX0_isFeeder, Cond.code yX0_isFeeder cX0_isFeeder 2 (some .boolean), Cond.methodLink RX0 44 yX0_has, Cond.instanceMethod yX0_has, Cond.selects RX0 yX0_has yX0_has, Cond.code yX0_has cX0_has 2 (some .boolean)]
def wsX4_setMetal : List Cond := .code yX4_setMetal cX4_setMetal 4 (some .int) :: ((wsX4_setMetal_r1 ++ (wsX4_setMetal_r2 ++ (wsX4_setMetal_r3 ++ (wsX4_setMetal_r4 ++ wsX4_setMetal_r5)))) ++ wsX40 ++ wsX00 ++ wsX20 ++ wsX10)
def wsX4_count_r1 : List Cond := [Cond.fieldLink RX4 10 "CastingFeeder" "casting" "LCastingFeeder$Casting;", Cond.fieldLink RX4 91 "CastingFeeder$Casting" "sections" "I", Cond.fieldLink RX4 112 "CastingFeeder$Casting" "joints" "I", Cond.fieldLink RX4 115 "CastingFeeder$Casting" "shrinkage" "I", Cond.fieldLink RX4 118 "CastingFeeder$Casting" "piping" "I", Cond.fieldLink RX4 19 "CastingFeeder" "freezing" "LCastingFeeder$Freezing;", Cond.fieldLink RX4 129 "CastingFeeder$Freezing" "pores" "[I", Cond.methodLink RX4 121 yX0_feeders, Cond.instanceMethod yX0_feeders, Cond.selects RX0 yX0_feeders yX0_feeders, Cond.initialized RX0, Cond.code yX0_feeders cX0_feeders 3 (some .int), Cond.fieldLink RX0 9 "CastingFeeder$Casting" "sections" "I", Cond.methodLink RX0 52 yX0_isFeeder, Cond.instanceMethod yX0_isFeeder, Cond.selects RX0 yX0_isFeeder yX0_isFeeder, Cond.code yX0_isFeeder cX0_isFeeder 2 (some .boolean), Cond.fieldLink RX0 34 "CastingFeeder$Casting" "feeder" "[Z", Cond.methodLink RX0 44 yX0_has, Cond.instanceMethod yX0_has, Cond.selects RX0 yX0_has yX0_has, Cond.code yX0_has cX0_has 2 (some .boolean), Cond.methodLink RX4 125 yX1_fedBy, Cond.instanceMethod yX1_fedBy]
def wsX4_count_r2 : List Cond := [Cond.selects RX1 yX1_fedBy yX1_fedBy, Cond.initialized RX1, Cond.code yX1_fedBy cX1_fedBy 4 (some .int), Cond.fieldLink RX1 9 "CastingFeeder$Freezing" "sections" "I", Cond.fieldLink RX1 22 "CastingFeeder$Freezing" "source" "[I", Cond.methodLink RX4 132 yX4_sum, Cond.static yX4_sum, Cond.initialized RX4, Cond.code yX4_sum cX4_sum 4 (some .int), Cond.methodLink RX4 135 yX1_excessOfAll, Cond.instanceMethod yX1_excessOfAll, Cond.selects RX1 yX1_excessOfAll yX1_excessOfAll, Cond.code yX1_excessOfAll cX1_excessOfAll 1 (some .int), Cond.fieldLink RX1 31 "CastingFeeder$Freezing" "excess" "[I", Cond.methodLink RX4 138 yX0_yieldPerMille, Cond.instanceMethod yX0_yieldPerMille, Cond.selects RX0 yX0_yieldPerMille yX0_yieldPerMille, Cond.code yX0_yieldPerMille cX0_yieldPerMille 4 (some .int), Cond.fieldLink RX0 24 "CastingFeeder$Casting" "volume" "[I", Cond.static yX4_at, Cond.code yX4_at cX4_at 2 (some .int), Cond.methodLink RX4 141 yX1_isSound, Cond.instanceMethod yX1_isSound, Cond.selects RX1 yX1_isSound yX1_isSound]
def wsX4_count_r3 : List Cond := [Cond.code yX1_isSound cX1_isSound 1 (some .boolean), Cond.methodLink RX1 90 yX1_excessOfAll]
def wsX4_count : List Cond := .code yX4_count cX4_count 2 (some .int) :: ((wsX4_count_r1 ++ (wsX4_count_r2 ++ wsX4_count_r3)) ++ wsX40 ++ wsX00 ++ wsX10)
def wsX4_section_r1 : List Cond := [Cond.fieldLink RX4 10 "CastingFeeder" "casting" "LCastingFeeder$Casting;", Cond.fieldLink RX4 65 "CastingFeeder$Casting" "volume" "[I", Cond.fieldLink RX4 77 "CastingFeeder$Casting" "area" "[I", Cond.fieldLink RX4 84 "CastingFeeder$Casting" "chill" "[I", Cond.fieldLink RX4 19 "CastingFeeder" "freezing" "LCastingFeeder$Freezing;", Cond.fieldLink RX4 147 "CastingFeeder$Freezing" "step" "[I", Cond.fieldLink RX4 150 "CastingFeeder$Freezing" "need" "[I", Cond.fieldLink RX4 129 "CastingFeeder$Freezing" "pores" "[I", Cond.fieldLink RX4 153 "CastingFeeder$Freezing" "excess" "[I", Cond.fieldLink RX4 156 "CastingFeeder$Freezing" "source" "[I", Cond.methodLink RX4 62 yX0_has, Cond.instanceMethod yX0_has, Cond.selects RX0 yX0_has yX0_has, Cond.initialized RX0, Cond.code yX0_has cX0_has 2 (some .boolean), Cond.fieldLink RX0 9 "CastingFeeder$Casting" "sections" "I", Cond.methodLink RX4 69 yX4_at, Cond.static yX4_at, Cond.initialized RX4, Cond.code yX4_at cX4_at 2 (some .int), Cond.methodLink RX4 144 yX0_isFeeder, Cond.instanceMethod yX0_isFeeder, Cond.selects RX0 yX0_isFeeder yX0_isFeeder, Cond.code yX0_isFeeder cX0_isFeeder 2 (some .boolean)]
def wsX4_section_r2 : List Cond := [Cond.fieldLink RX0 34 "CastingFeeder$Casting" "feeder" "[Z", Cond.methodLink RX0 44 yX0_has, Cond.methodLink RX4 125 yX1_fedBy, Cond.instanceMethod yX1_fedBy, Cond.selects RX1 yX1_fedBy yX1_fedBy, Cond.initialized RX1, Cond.code yX1_fedBy cX1_fedBy 4 (some .int), Cond.fieldLink RX1 9 "CastingFeeder$Freezing" "sections" "I", Cond.fieldLink RX1 22 "CastingFeeder$Freezing" "source" "[I", Cond.methodLink RX4 159 yX0_neighbours, Cond.instanceMethod yX0_neighbours, Cond.selects RX0 yX0_neighbours yX0_neighbours, Cond.code yX0_neighbours cX0_neighbours 4 (some .int), Cond.fieldLink RX0 15 "CastingFeeder$Casting" "joints" "I", Cond.methodLink RX0 59 yX0_touches, Cond.instanceMethod yX0_touches, Cond.selects RX0 yX0_touches yX0_touches, Cond.code yX0_touches cX0_touches 3 (some .boolean), Cond.fieldLink RX0 38 "CastingFeeder$Casting" "first" "[I", Cond.fieldLink RX0 41 "CastingFeeder$Casting" "second" "[I"]
def wsX4_section : List Cond := .code yX4_section cX4_section 3 (some .int) :: ((wsX4_section_r1 ++ wsX4_section_r2) ++ wsX40 ++ wsX00 ++ wsX10)
def wsX4_commonDivisor : List Cond := .code yX4_commonDivisor cX4_commonDivisor 6 (some .int) :: ([])
def wsX4_modulus : List Cond := .code yX4_modulus cX4_modulus 7 (some .int) :: ([.fieldLink RX4 10 "CastingFeeder" "casting" "LCastingFeeder$Casting;", .fieldLink RX4 65 "CastingFeeder$Casting" "volume" "[I", .methodLink RX4 62 yX0_has, .instanceMethod yX0_has, .selects RX0 yX0_has yX0_has, .initialized RX0, .code yX0_has cX0_has 2 (some .boolean), .fieldLink RX0 9 "CastingFeeder$Casting" "sections" "I", .methodLink RX4 69 yX4_at, .static yX4_at, .initialized RX4, .code yX4_at cX4_at 2 (some .int), .methodLink RX4 162 yX0_cooledArea, .instanceMethod yX0_cooledArea, .selects RX0 yX0_cooledArea yX0_cooledArea, .code yX0_cooledArea cX0_cooledArea 2 (some .int), .fieldLink RX0 28 "CastingFeeder$Casting" "area" "[I", .fieldLink RX0 31 "CastingFeeder$Casting" "chill" "[I", .methodLink RX4 165 yX4_commonDivisor, .static yX4_commonDivisor, .code yX4_commonDivisor cX4_commonDivisor 6 (some .int)] ++ wsX40 ++ wsX00)
def wsX4_joint : List Cond := .code yX4_joint cX4_joint 3 (some .int) :: ([.fieldLink RX4 10 "CastingFeeder" "casting" "LCastingFeeder$Casting;", .fieldLink RX4 168 "CastingFeeder$Casting" "first" "[I", .fieldLink RX4 171 "CastingFeeder$Casting" "second" "[I", .methodLink RX4 106 yX0_hasJoint, .instanceMethod yX0_hasJoint, .selects RX0 yX0_hasJoint yX0_hasJoint, .initialized RX0, .code yX0_hasJoint cX0_hasJoint 2 (some .boolean), .fieldLink RX0 15 "CastingFeeder$Casting" "joints" "I", .methodLink RX4 80 yX4_isWithin, .static yX4_isWithin, .initialized RX4, .code yX4_isWithin cX4_isWithin 3 (some .boolean), .methodLink RX4 69 yX4_at, .static yX4_at, .code yX4_at cX4_at 2 (some .int)] ++ wsX40 ++ wsX00)
def wsX4_atStep : List Cond := .code yX4_atStep cX4_atStep 2 (some .int) :: ([.fieldLink RX4 10 "CastingFeeder" "casting" "LCastingFeeder$Casting;", .fieldLink RX4 91 "CastingFeeder$Casting" "sections" "I", .fieldLink RX4 19 "CastingFeeder" "freezing" "LCastingFeeder$Freezing;", .fieldLink RX4 174 "CastingFeeder$Freezing" "order" "[I", .methodLink RX4 69 yX4_at, .static yX4_at, .initialized RX4, .code yX4_at cX4_at 2 (some .int)] ++ wsX40 ++ wsX00 ++ wsX10)
def wsX4_way : List Cond := .code yX4_way cX4_way 5 (some .int) :: ([.fieldLink RX4 10 "CastingFeeder" "casting" "LCastingFeeder$Casting;", .fieldLink RX4 19 "CastingFeeder" "freezing" "LCastingFeeder$Freezing;", .fieldLink RX4 156 "CastingFeeder$Freezing" "source" "[I", .methodLink RX4 62 yX0_has, .instanceMethod yX0_has, .selects RX0 yX0_has yX0_has, .initialized RX0, .code yX0_has cX0_has 2 (some .boolean), .fieldLink RX0 9 "CastingFeeder$Casting" "sections" "I", .methodLink RX4 69 yX4_at, .static yX4_at, .initialized RX4, .code yX4_at cX4_at 2 (some .int)] ++ wsX40 ++ wsX10 ++ wsX00)
def wsX4_end : List Cond := .code yX4_end cX4_end 2 (some .int) :: ([.fieldLink RX4 10 "CastingFeeder" "casting" "LCastingFeeder$Casting;", .fieldLink RX4 19 "CastingFeeder" "freezing" "LCastingFeeder$Freezing;", .methodLink RX4 62 yX0_has, .instanceMethod yX0_has, .selects RX0 yX0_has yX0_has, .initialized RX0, .code yX0_has cX0_has 2 (some .boolean), .fieldLink RX0 9 "CastingFeeder$Casting" "sections" "I", .methodLink RX4 177 yX1_hotSpotOf, .instanceMethod yX1_hotSpotOf, .selects RX1 yX1_hotSpotOf yX1_hotSpotOf, .initialized RX1, .code yX1_hotSpotOf cX1_hotSpotOf 4 (some .int), .fieldLink RX1 9 "CastingFeeder$Freezing" "sections" "I", .fieldLink RX1 22 "CastingFeeder$Freezing" "source" "[I", .static yX4_at, .initialized RX4, .code yX4_at cX4_at 2 (some .int)] ++ wsX40 ++ wsX00 ++ wsX10)
def wsX4_gathers_r1 : List Cond := [Cond.fieldLink RX4 10 "CastingFeeder" "casting" "LCastingFeeder$Casting;", Cond.fieldLink RX4 91 "CastingFeeder$Casting" "sections" "I", Cond.fieldLink RX4 19 "CastingFeeder" "freezing" "LCastingFeeder$Freezing;", Cond.methodLink RX4 62 yX0_has, Cond.instanceMethod yX0_has, Cond.selects RX0 yX0_has yX0_has, Cond.initialized RX0, Cond.code yX0_has cX0_has 2 (some .boolean), Cond.fieldLink RX0 9 "CastingFeeder$Casting" "sections" "I", Cond.methodLink RX4 177 yX1_hotSpotOf, Cond.instanceMethod yX1_hotSpotOf, Cond.selects RX1 yX1_hotSpotOf yX1_hotSpotOf, Cond.initialized RX1, Cond.code yX1_hotSpotOf cX1_hotSpotOf 4 (some .int), Cond.fieldLink RX1 9 "CastingFeeder$Freezing" "sections" "I", Cond.fieldLink RX1 22 "CastingFeeder$Freezing" "source" "[I", Cond.static yX4_at, Cond.initialized RX4, Cond.code yX4_at cX4_at 2 (some .int), Cond.methodLink RX4 180 yX0_firstNeed, Cond.instanceMethod yX0_firstNeed, Cond.selects RX0 yX0_firstNeed yX0_firstNeed, Cond.code yX0_firstNeed cX0_firstNeed 2 (some .int), Cond.fieldLink RX0 24 "CastingFeeder$Casting" "volume" "[I"]
def wsX4_gathers_r2 : List Cond := [Cond.fieldLink RX0 18 "CastingFeeder$Casting" "shrinkage" "I"]
def wsX4_gathers : List Cond := .code yX4_gathers cX4_gathers 4 (some .int) :: ((wsX4_gathers_r1 ++ wsX4_gathers_r2) ++ wsX40 ++ wsX00 ++ wsX10)
def wsX4_hasRoomForFeeder : List Cond := .code yX4_hasRoomForFeeder cX4_hasRoomForFeeder 1 (some .boolean) :: ([.fieldLink RX4 10 "CastingFeeder" "casting" "LCastingFeeder$Casting;", .methodLink RX4 47 yX0_hasRoomForSection, .instanceMethod yX0_hasRoomForSection, .selects RX0 yX0_hasRoomForSection yX0_hasRoomForSection, .initialized RX0, .code yX0_hasRoomForSection cX0_hasRoomForSection 1 (some .boolean), .fieldLink RX0 9 "CastingFeeder$Casting" "sections" "I", .methodLink RX4 99 yX0_hasRoomForJoint, .instanceMethod yX0_hasRoomForJoint, .selects RX0 yX0_hasRoomForJoint yX0_hasRoomForJoint, .code yX0_hasRoomForJoint cX0_hasRoomForJoint 1 (some .boolean), .fieldLink RX0 15 "CastingFeeder$Casting" "joints" "I"] ++ wsX40 ++ wsX00)
def wsX4_isSoundWithFeeder_r1 : List Cond := [Cond.fieldLink RX4 37 "CastingFeeder" "trial" "LCastingFeeder$Casting;", Cond.fieldLink RX4 10 "CastingFeeder" "casting" "LCastingFeeder$Casting;", Cond.fieldLink RX4 40 "CastingFeeder" "tried" "LCastingFeeder$Freezing;", Cond.methodLink RX4 189 yX0_copyFrom, Cond.instanceMethod yX0_copyFrom, Cond.selects RX0 yX0_copyFrom yX0_copyFrom, Cond.initialized RX0, Cond.code yX0_copyFrom cX0_copyFrom 3 none, Cond.fieldLink RX0 9 "CastingFeeder$Casting" "sections" "I", Cond.fieldLink RX0 15 "CastingFeeder$Casting" "joints" "I", Cond.fieldLink RX0 18 "CastingFeeder$Casting" "shrinkage" "I", Cond.fieldLink RX0 21 "CastingFeeder$Casting" "piping" "I", Cond.fieldLink RX0 24 "CastingFeeder$Casting" "volume" "[I", Cond.fieldLink RX0 28 "CastingFeeder$Casting" "area" "[I", Cond.fieldLink RX0 31 "CastingFeeder$Casting" "chill" "[I", Cond.fieldLink RX0 34 "CastingFeeder$Casting" "feeder" "[Z", Cond.fieldLink RX0 38 "CastingFeeder$Casting" "first" "[I", Cond.fieldLink RX0 41 "CastingFeeder$Casting" "second" "[I", Cond.methodLink RX4 55 yX0_append, Cond.instanceMethod yX0_append, Cond.selects RX0 yX0_append yX0_append, Cond.code yX0_append cX0_append 6 (some .int), Cond.methodLink RX4 102 yX0_link, Cond.instanceMethod yX0_link]
def wsX4_isSoundWithFeeder_r2 : List Cond := [Cond.selects RX0 yX0_link yX0_link, Cond.code yX0_link cX0_link 4 (some .int), Cond.methodLink RX4 59 yX1_follow, Cond.instanceMethod yX1_follow, Cond.selects RX1 yX1_follow yX1_follow, Cond.initialized RX1, Cond.code yX1_follow cX1_follow 3 none, Cond.fieldLink RX1 34 "CastingFeeder$Casting" "sections" "I", Cond.methodLink RX1 37 Lib.Math.min.name, Cond.static Lib.Math.min.name, Cond.initialized "java/lang/Math", Cond.code Lib.Math.min.name Lib.Math.min.code 2 (some .int), Cond.fieldLink RX1 9 "CastingFeeder$Freezing" "sections" "I", Cond.fieldLink RX1 15 "CastingFeeder$Freezing" "step" "[I", Cond.fieldLink RX1 19 "CastingFeeder$Freezing" "order" "[I", Cond.methodLink RX1 43 yX0_stepOf, Cond.instanceMethod yX0_stepOf, Cond.selects RX0 yX0_stepOf yX0_stepOf, Cond.code yX0_stepOf cX0_stepOf 8 (some .int), Cond.static yX4_at, Cond.initialized RX4, Cond.code yX4_at cX4_at 2 (some .int), Cond.methodLink RX0 55 yX0_cooledArea, Cond.instanceMethod yX0_cooledArea]
def wsX4_isSoundWithFeeder_r3 : List Cond := [Cond.selects RX0 yX0_cooledArea yX0_cooledArea, Cond.code yX0_cooledArea cX0_cooledArea 2 (some .int), Cond.static yX4_put, Cond.code yX4_put cX4_put 3 none, Cond.methodLink RX1 51 yX1_findSources, Cond.instanceMethod yX1_findSources, Cond.selects RX1 yX1_findSources yX1_findSources, Cond.code yX1_findSources cX1_findSources 5 none, Cond.fieldLink RX1 22 "CastingFeeder$Freezing" "source" "[I", Cond.fieldLink RX1 61 "CastingFeeder$Casting" "joints" "I", Cond.fieldLink RX1 64 "CastingFeeder$Casting" "first" "[I", Cond.fieldLink RX1 71 "CastingFeeder$Casting" "second" "[I", Cond.methodLink RX1 74 yX1_offer, Cond.instanceMethod yX1_offer, Cond.selects RX1 yX1_offer yX1_offer, Cond.code yX1_offer cX1_offer 4 none, Cond.methodLink RX1 55 yX1_drawNeeds, Cond.instanceMethod yX1_drawNeeds, Cond.selects RX1 yX1_drawNeeds yX1_drawNeeds, Cond.code yX1_drawNeeds cX1_drawNeeds 5 none, Cond.fieldLink RX1 25 "CastingFeeder$Freezing" "need" "[I", Cond.methodLink RX1 78 yX0_firstNeed, Cond.instanceMethod yX0_firstNeed, Cond.selects RX0 yX0_firstNeed yX0_firstNeed]
def wsX4_isSoundWithFeeder_r4 : List Cond := [Cond.code yX0_firstNeed cX0_firstNeed 2 (some .int), Cond.methodLink RX1 58 yX1_findPores, Cond.instanceMethod yX1_findPores, Cond.selects RX1 yX1_findPores yX1_findPores, Cond.code yX1_findPores cX1_findPores 3 none, Cond.fieldLink RX1 28 "CastingFeeder$Freezing" "pores" "[I", Cond.fieldLink RX1 31 "CastingFeeder$Freezing" "excess" "[I", Cond.methodLink RX1 84 Lib.Math.max.name, Cond.static Lib.Math.max.name, Cond.code Lib.Math.max.name Lib.Math.max.code 2 (some .int), Cond.methodLink RX1 81 yX0_bearablePores, Cond.instanceMethod yX0_bearablePores, Cond.selects RX0 yX0_bearablePores yX0_bearablePores, Cond.code yX0_bearablePores cX0_bearablePores 2 (some .int), Cond.methodLink RX0 52 yX0_isFeeder, Cond.instanceMethod yX0_isFeeder, Cond.selects RX0 yX0_isFeeder yX0_isFeeder, Cond.code yX0_isFeeder cX0_isFeeder 2 (some .boolean), Cond.methodLink RX0 44 yX0_has, Cond.instanceMethod yX0_has, Cond.selects RX0 yX0_has yX0_has, Cond.code yX0_has cX0_has 2 (some .boolean), Cond.methodLink RX4 141 yX1_isSound, Cond.instanceMethod yX1_isSound]
def wsX4_isSoundWithFeeder_r5 : List Cond := [Cond.selects RX1 yX1_isSound yX1_isSound, Cond.code yX1_isSound cX1_isSound 1 (some .boolean), Cond.methodLink RX1 90 yX1_excessOfAll, Cond.instanceMethod yX1_excessOfAll, Cond.selects RX1 yX1_excessOfAll yX1_excessOfAll, Cond.code yX1_excessOfAll cX1_excessOfAll 1 (some .int), Cond.static yX4_sum, Cond.code yX4_sum cX4_sum 4 (some .int)]
def wsX4_isSoundWithFeeder : List Cond := .code yX4_isSoundWithFeeder cX4_isSoundWithFeeder 4 (some .boolean) :: ((wsX4_isSoundWithFeeder_r1 ++ (wsX4_isSoundWithFeeder_r2 ++ (wsX4_isSoundWithFeeder_r3 ++ (wsX4_isSoundWithFeeder_r4 ++ wsX4_isSoundWithFeeder_r5)))) ++ wsX40 ++ wsX00 ++ wsX10)
def wsX4_leastFeeder_r1 : List Cond := [Cond.fieldLink RX4 10 "CastingFeeder" "casting" "LCastingFeeder$Casting;", Cond.methodLink RX4 62 yX0_has, Cond.instanceMethod yX0_has, Cond.selects RX0 yX0_has yX0_has, Cond.initialized RX0, Cond.code yX0_has cX0_has 2 (some .boolean), Cond.fieldLink RX0 9 "CastingFeeder$Casting" "sections" "I", Cond.methodLink RX4 183 yX4_hasRoomForFeeder, Cond.instanceMethod yX4_hasRoomForFeeder, Cond.selects RX4 yX4_hasRoomForFeeder yX4_hasRoomForFeeder, Cond.initialized RX4, Cond.code yX4_hasRoomForFeeder cX4_hasRoomForFeeder 1 (some .boolean), Cond.methodLink RX4 47 yX0_hasRoomForSection, Cond.instanceMethod yX0_hasRoomForSection, Cond.selects RX0 yX0_hasRoomForSection yX0_hasRoomForSection, Cond.code yX0_hasRoomForSection cX0_hasRoomForSection 1 (some .boolean), Cond.methodLink RX4 99 yX0_hasRoomForJoint, Cond.instanceMethod yX0_hasRoomForJoint, Cond.selects RX0 yX0_hasRoomForJoint yX0_hasRoomForJoint, Cond.code yX0_hasRoomForJoint cX0_hasRoomForJoint 1 (some .boolean), Cond.fieldLink RX0 15 "CastingFeeder$Casting" "joints" "I", Cond.methodLink RX4 186 yX4_isSoundWithFeeder, Cond.instanceMethod yX4_isSoundWithFeeder, Cond.selects RX4 yX4_isSoundWithFeeder yX4_isSoundWithFeeder]
def wsX4_leastFeeder_r2 : List Cond := [Cond.code yX4_isSoundWithFeeder cX4_isSoundWithFeeder 4 (some .boolean), Cond.fieldLink RX4 37 "CastingFeeder" "trial" "LCastingFeeder$Casting;", Cond.fieldLink RX4 40 "CastingFeeder" "tried" "LCastingFeeder$Freezing;", Cond.methodLink RX4 189 yX0_copyFrom, Cond.instanceMethod yX0_copyFrom, Cond.selects RX0 yX0_copyFrom yX0_copyFrom, Cond.code yX0_copyFrom cX0_copyFrom 3 none, Cond.fieldLink RX0 18 "CastingFeeder$Casting" "shrinkage" "I", Cond.fieldLink RX0 21 "CastingFeeder$Casting" "piping" "I", Cond.fieldLink RX0 24 "CastingFeeder$Casting" "volume" "[I", Cond.fieldLink RX0 28 "CastingFeeder$Casting" "area" "[I", Cond.fieldLink RX0 31 "CastingFeeder$Casting" "chill" "[I", Cond.fieldLink RX0 34 "CastingFeeder$Casting" "feeder" "[Z", Cond.fieldLink RX0 38 "CastingFeeder$Casting" "first" "[I", Cond.fieldLink RX0 41 "CastingFeeder$Casting" "second" "[I", Cond.methodLink RX4 55 yX0_append, Cond.instanceMethod yX0_append, Cond.selects RX0 yX0_append yX0_append, Cond.code yX0_append cX0_append 6 (some .int), Cond.methodLink RX4 102 yX0_link, Cond.instanceMethod yX0_link, Cond.selects RX0 yX0_link yX0_link, Cond.code yX0_link cX0_link 4 (some .int), Cond.methodLink RX4 59 yX1_follow]
def wsX4_leastFeeder_r3 : List Cond := [Cond.instanceMethod yX1_follow, Cond.selects RX1 yX1_follow yX1_follow, Cond.initialized RX1, Cond.code yX1_follow cX1_follow 3 none, Cond.fieldLink RX1 34 "CastingFeeder$Casting" "sections" "I", Cond.methodLink RX1 37 Lib.Math.min.name, Cond.static Lib.Math.min.name, Cond.initialized "java/lang/Math", Cond.code Lib.Math.min.name Lib.Math.min.code 2 (some .int), Cond.fieldLink RX1 9 "CastingFeeder$Freezing" "sections" "I", Cond.fieldLink RX1 15 "CastingFeeder$Freezing" "step" "[I", Cond.fieldLink RX1 19 "CastingFeeder$Freezing" "order" "[I", Cond.methodLink RX1 43 yX0_stepOf, Cond.instanceMethod yX0_stepOf, Cond.selects RX0 yX0_stepOf yX0_stepOf, Cond.code yX0_stepOf cX0_stepOf 8 (some .int), Cond.static yX4_at, Cond.code yX4_at cX4_at 2 (some .int), Cond.methodLink RX0 55 yX0_cooledArea, Cond.instanceMethod yX0_cooledArea, Cond.selects RX0 yX0_cooledArea yX0_cooledArea, Cond.code yX0_cooledArea cX0_cooledArea 2 (some .int), Cond.static yX4_put, Cond.code yX4_put cX4_put 3 none]
def wsX4_leastFeeder_r4 : List Cond := [Cond.methodLink RX1 51 yX1_findSources, Cond.instanceMethod yX1_findSources, Cond.selects RX1 yX1_findSources yX1_findSources, Cond.code yX1_findSources cX1_findSources 5 none, Cond.fieldLink RX1 22 "CastingFeeder$Freezing" "source" "[I", Cond.fieldLink RX1 61 "CastingFeeder$Casting" "joints" "I", Cond.fieldLink RX1 64 "CastingFeeder$Casting" "first" "[I", Cond.fieldLink RX1 71 "CastingFeeder$Casting" "second" "[I", Cond.methodLink RX1 74 yX1_offer, Cond.instanceMethod yX1_offer, Cond.selects RX1 yX1_offer yX1_offer, Cond.code yX1_offer cX1_offer 4 none, Cond.methodLink RX1 55 yX1_drawNeeds, Cond.instanceMethod yX1_drawNeeds, Cond.selects RX1 yX1_drawNeeds yX1_drawNeeds, Cond.code yX1_drawNeeds cX1_drawNeeds 5 none, Cond.fieldLink RX1 25 "CastingFeeder$Freezing" "need" "[I", Cond.methodLink RX1 78 yX0_firstNeed, Cond.instanceMethod yX0_firstNeed, Cond.selects RX0 yX0_firstNeed yX0_firstNeed, Cond.code yX0_firstNeed cX0_firstNeed 2 (some .int), Cond.methodLink RX1 58 yX1_findPores, Cond.instanceMethod yX1_findPores, Cond.selects RX1 yX1_findPores yX1_findPores]
def wsX4_leastFeeder_r5 : List Cond := [Cond.code yX1_findPores cX1_findPores 3 none, Cond.fieldLink RX1 28 "CastingFeeder$Freezing" "pores" "[I", Cond.fieldLink RX1 31 "CastingFeeder$Freezing" "excess" "[I", Cond.methodLink RX1 84 Lib.Math.max.name, Cond.static Lib.Math.max.name, Cond.code Lib.Math.max.name Lib.Math.max.code 2 (some .int), Cond.methodLink RX1 81 yX0_bearablePores, Cond.instanceMethod yX0_bearablePores, Cond.selects RX0 yX0_bearablePores yX0_bearablePores, Cond.code yX0_bearablePores cX0_bearablePores 2 (some .int), Cond.methodLink RX0 52 yX0_isFeeder, Cond.instanceMethod yX0_isFeeder, Cond.selects RX0 yX0_isFeeder yX0_isFeeder, Cond.code yX0_isFeeder cX0_isFeeder 2 (some .boolean), Cond.methodLink RX0 44 yX0_has, Cond.methodLink RX4 141 yX1_isSound, Cond.instanceMethod yX1_isSound, Cond.selects RX1 yX1_isSound yX1_isSound, Cond.code yX1_isSound cX1_isSound 1 (some .boolean), Cond.methodLink RX1 90 yX1_excessOfAll, Cond.instanceMethod yX1_excessOfAll, Cond.selects RX1 yX1_excessOfAll yX1_excessOfAll, Cond.code yX1_excessOfAll cX1_excessOfAll 1 (some .int), Cond.static yX4_sum]
def wsX4_leastFeeder_r6 : List Cond := [Cond.code yX4_sum cX4_sum 4 (some .int)]
def wsX4_leastFeeder : List Cond := .code yX4_leastFeeder cX4_leastFeeder 3 (some .int) :: ((wsX4_leastFeeder_r1 ++ (wsX4_leastFeeder_r2 ++ (wsX4_leastFeeder_r3 ++ (wsX4_leastFeeder_r4 ++ (wsX4_leastFeeder_r5 ++ wsX4_leastFeeder_r6))))) ++ wsX40 ++ wsX00 ++ wsX10)
def wsX4_bestFeeder_r1 : List Cond := [Cond.fieldLink RX4 10 "CastingFeeder" "casting" "LCastingFeeder$Casting;", Cond.fieldLink RX4 91 "CastingFeeder$Casting" "sections" "I", Cond.methodLink RX4 183 yX4_hasRoomForFeeder, Cond.instanceMethod yX4_hasRoomForFeeder, Cond.selects RX4 yX4_hasRoomForFeeder yX4_hasRoomForFeeder, Cond.initialized RX4, Cond.code yX4_hasRoomForFeeder cX4_hasRoomForFeeder 1 (some .boolean), Cond.methodLink RX4 47 yX0_hasRoomForSection, Cond.instanceMethod yX0_hasRoomForSection, Cond.selects RX0 yX0_hasRoomForSection yX0_hasRoomForSection, Cond.initialized RX0, Cond.code yX0_hasRoomForSection cX0_hasRoomForSection 1 (some .boolean), Cond.fieldLink RX0 9 "CastingFeeder$Casting" "sections" "I", Cond.methodLink RX4 99 yX0_hasRoomForJoint, Cond.instanceMethod yX0_hasRoomForJoint, Cond.selects RX0 yX0_hasRoomForJoint yX0_hasRoomForJoint, Cond.code yX0_hasRoomForJoint cX0_hasRoomForJoint 1 (some .boolean), Cond.fieldLink RX0 15 "CastingFeeder$Casting" "joints" "I", Cond.methodLink RX4 186 yX4_isSoundWithFeeder, Cond.instanceMethod yX4_isSoundWithFeeder, Cond.selects RX4 yX4_isSoundWithFeeder yX4_isSoundWithFeeder, Cond.code yX4_isSoundWithFeeder cX4_isSoundWithFeeder 4 (some .boolean), Cond.fieldLink RX4 37 "CastingFeeder" "trial" "LCastingFeeder$Casting;", Cond.fieldLink RX4 40 "CastingFeeder" "tried" "LCastingFeeder$Freezing;"]
def wsX4_bestFeeder_r2 : List Cond := [Cond.methodLink RX4 189 yX0_copyFrom, Cond.instanceMethod yX0_copyFrom, Cond.selects RX0 yX0_copyFrom yX0_copyFrom, Cond.code yX0_copyFrom cX0_copyFrom 3 none, Cond.fieldLink RX0 18 "CastingFeeder$Casting" "shrinkage" "I", Cond.fieldLink RX0 21 "CastingFeeder$Casting" "piping" "I", Cond.fieldLink RX0 24 "CastingFeeder$Casting" "volume" "[I", Cond.fieldLink RX0 28 "CastingFeeder$Casting" "area" "[I", Cond.fieldLink RX0 31 "CastingFeeder$Casting" "chill" "[I", Cond.fieldLink RX0 34 "CastingFeeder$Casting" "feeder" "[Z", Cond.fieldLink RX0 38 "CastingFeeder$Casting" "first" "[I", Cond.fieldLink RX0 41 "CastingFeeder$Casting" "second" "[I", Cond.methodLink RX4 55 yX0_append, Cond.instanceMethod yX0_append, Cond.selects RX0 yX0_append yX0_append, Cond.code yX0_append cX0_append 6 (some .int), Cond.methodLink RX4 102 yX0_link, Cond.instanceMethod yX0_link, Cond.selects RX0 yX0_link yX0_link, Cond.code yX0_link cX0_link 4 (some .int), Cond.methodLink RX4 59 yX1_follow, Cond.instanceMethod yX1_follow, Cond.selects RX1 yX1_follow yX1_follow, Cond.initialized RX1]
def wsX4_bestFeeder_r3 : List Cond := [Cond.code yX1_follow cX1_follow 3 none, Cond.fieldLink RX1 34 "CastingFeeder$Casting" "sections" "I", Cond.methodLink RX1 37 Lib.Math.min.name, Cond.static Lib.Math.min.name, Cond.initialized "java/lang/Math", Cond.code Lib.Math.min.name Lib.Math.min.code 2 (some .int), Cond.fieldLink RX1 9 "CastingFeeder$Freezing" "sections" "I", Cond.fieldLink RX1 15 "CastingFeeder$Freezing" "step" "[I", Cond.fieldLink RX1 19 "CastingFeeder$Freezing" "order" "[I", Cond.methodLink RX1 43 yX0_stepOf, Cond.instanceMethod yX0_stepOf, Cond.selects RX0 yX0_stepOf yX0_stepOf, Cond.code yX0_stepOf cX0_stepOf 8 (some .int), Cond.static yX4_at, Cond.code yX4_at cX4_at 2 (some .int), Cond.methodLink RX0 55 yX0_cooledArea, Cond.instanceMethod yX0_cooledArea, Cond.selects RX0 yX0_cooledArea yX0_cooledArea, Cond.code yX0_cooledArea cX0_cooledArea 2 (some .int), Cond.static yX4_put, Cond.code yX4_put cX4_put 3 none, Cond.methodLink RX1 51 yX1_findSources, Cond.instanceMethod yX1_findSources, Cond.selects RX1 yX1_findSources yX1_findSources]
def wsX4_bestFeeder_r4 : List Cond := [Cond.code yX1_findSources cX1_findSources 5 none, Cond.fieldLink RX1 22 "CastingFeeder$Freezing" "source" "[I", Cond.fieldLink RX1 61 "CastingFeeder$Casting" "joints" "I", Cond.fieldLink RX1 64 "CastingFeeder$Casting" "first" "[I", Cond.fieldLink RX1 71 "CastingFeeder$Casting" "second" "[I", Cond.methodLink RX1 74 yX1_offer, Cond.instanceMethod yX1_offer, Cond.selects RX1 yX1_offer yX1_offer, Cond.code yX1_offer cX1_offer 4 none, Cond.methodLink RX1 55 yX1_drawNeeds, Cond.instanceMethod yX1_drawNeeds, Cond.selects RX1 yX1_drawNeeds yX1_drawNeeds, Cond.code yX1_drawNeeds cX1_drawNeeds 5 none, Cond.fieldLink RX1 25 "CastingFeeder$Freezing" "need" "[I", Cond.methodLink RX1 78 yX0_firstNeed, Cond.instanceMethod yX0_firstNeed, Cond.selects RX0 yX0_firstNeed yX0_firstNeed, Cond.code yX0_firstNeed cX0_firstNeed 2 (some .int), Cond.methodLink RX1 58 yX1_findPores, Cond.instanceMethod yX1_findPores, Cond.selects RX1 yX1_findPores yX1_findPores, Cond.code yX1_findPores cX1_findPores 3 none, Cond.fieldLink RX1 28 "CastingFeeder$Freezing" "pores" "[I", Cond.fieldLink RX1 31 "CastingFeeder$Freezing" "excess" "[I"]
def wsX4_bestFeeder_r5 : List Cond := [Cond.methodLink RX1 84 Lib.Math.max.name, Cond.static Lib.Math.max.name, Cond.code Lib.Math.max.name Lib.Math.max.code 2 (some .int), Cond.methodLink RX1 81 yX0_bearablePores, Cond.instanceMethod yX0_bearablePores, Cond.selects RX0 yX0_bearablePores yX0_bearablePores, Cond.code yX0_bearablePores cX0_bearablePores 2 (some .int), Cond.methodLink RX0 52 yX0_isFeeder, Cond.instanceMethod yX0_isFeeder, Cond.selects RX0 yX0_isFeeder yX0_isFeeder, Cond.code yX0_isFeeder cX0_isFeeder 2 (some .boolean), Cond.methodLink RX0 44 yX0_has, Cond.instanceMethod yX0_has, Cond.selects RX0 yX0_has yX0_has, Cond.code yX0_has cX0_has 2 (some .boolean), Cond.methodLink RX4 141 yX1_isSound, Cond.instanceMethod yX1_isSound, Cond.selects RX1 yX1_isSound yX1_isSound, Cond.code yX1_isSound cX1_isSound 1 (some .boolean), Cond.methodLink RX1 90 yX1_excessOfAll, Cond.instanceMethod yX1_excessOfAll, Cond.selects RX1 yX1_excessOfAll yX1_excessOfAll, Cond.code yX1_excessOfAll cX1_excessOfAll 1 (some .int), Cond.static yX4_sum]
def wsX4_bestFeeder_r6 : List Cond := [Cond.code yX4_sum cX4_sum 4 (some .int)]
def wsX4_bestFeeder : List Cond := .code yX4_bestFeeder cX4_bestFeeder 3 (some .int) :: ((wsX4_bestFeeder_r1 ++ (wsX4_bestFeeder_r2 ++ (wsX4_bestFeeder_r3 ++ (wsX4_bestFeeder_r4 ++ (wsX4_bestFeeder_r5 ++ wsX4_bestFeeder_r6))))) ++ wsX40 ++ wsX00 ++ wsX10)
def wsX4_leastChill_r1 : List Cond := [Cond.fieldLink RX4 10 "CastingFeeder" "casting" "LCastingFeeder$Casting;", Cond.fieldLink RX4 37 "CastingFeeder" "trial" "LCastingFeeder$Casting;", Cond.fieldLink RX4 84 "CastingFeeder$Casting" "chill" "[I", Cond.fieldLink RX4 40 "CastingFeeder" "tried" "LCastingFeeder$Freezing;", Cond.methodLink RX4 62 yX0_has, Cond.instanceMethod yX0_has, Cond.selects RX0 yX0_has yX0_has, Cond.initialized RX0, Cond.code yX0_has cX0_has 2 (some .boolean), Cond.fieldLink RX0 9 "CastingFeeder$Casting" "sections" "I", Cond.methodLink RX4 189 yX0_copyFrom, Cond.instanceMethod yX0_copyFrom, Cond.selects RX0 yX0_copyFrom yX0_copyFrom, Cond.code yX0_copyFrom cX0_copyFrom 3 none, Cond.fieldLink RX0 15 "CastingFeeder$Casting" "joints" "I", Cond.fieldLink RX0 18 "CastingFeeder$Casting" "shrinkage" "I", Cond.fieldLink RX0 21 "CastingFeeder$Casting" "piping" "I", Cond.fieldLink RX0 24 "CastingFeeder$Casting" "volume" "[I", Cond.fieldLink RX0 28 "CastingFeeder$Casting" "area" "[I", Cond.fieldLink RX0 31 "CastingFeeder$Casting" "chill" "[I", Cond.fieldLink RX0 34 "CastingFeeder$Casting" "feeder" "[Z", Cond.fieldLink RX0 38 "CastingFeeder$Casting" "first" "[I", Cond.fieldLink RX0 41 "CastingFeeder$Casting" "second" "[I", Cond.methodLink RX4 73 yX4_put]
def wsX4_leastChill_r2 : List Cond := [Cond.static yX4_put, Cond.initialized RX4, Cond.code yX4_put cX4_put 3 none, Cond.methodLink RX4 192 yX0_stepOf, Cond.instanceMethod yX0_stepOf, Cond.selects RX0 yX0_stepOf yX0_stepOf, Cond.code yX0_stepOf cX0_stepOf 8 (some .int), Cond.static yX4_at, Cond.code yX4_at cX4_at 2 (some .int), Cond.methodLink RX0 55 yX0_cooledArea, Cond.instanceMethod yX0_cooledArea, Cond.selects RX0 yX0_cooledArea yX0_cooledArea, Cond.code yX0_cooledArea cX0_cooledArea 2 (some .int), Cond.methodLink RX4 59 yX1_follow, Cond.instanceMethod yX1_follow, Cond.selects RX1 yX1_follow yX1_follow, Cond.initialized RX1, Cond.code yX1_follow cX1_follow 3 none, Cond.fieldLink RX1 34 "CastingFeeder$Casting" "sections" "I", Cond.methodLink RX1 37 Lib.Math.min.name, Cond.static Lib.Math.min.name, Cond.initialized "java/lang/Math", Cond.code Lib.Math.min.name Lib.Math.min.code 2 (some .int), Cond.fieldLink RX1 9 "CastingFeeder$Freezing" "sections" "I"]
def wsX4_leastChill_r3 : List Cond := [Cond.fieldLink RX1 15 "CastingFeeder$Freezing" "step" "[I", Cond.fieldLink RX1 19 "CastingFeeder$Freezing" "order" "[I", Cond.methodLink RX1 43 yX0_stepOf, Cond.methodLink RX1 51 yX1_findSources, Cond.instanceMethod yX1_findSources, Cond.selects RX1 yX1_findSources yX1_findSources, Cond.code yX1_findSources cX1_findSources 5 none, Cond.fieldLink RX1 22 "CastingFeeder$Freezing" "source" "[I", Cond.fieldLink RX1 61 "CastingFeeder$Casting" "joints" "I", Cond.fieldLink RX1 64 "CastingFeeder$Casting" "first" "[I", Cond.fieldLink RX1 71 "CastingFeeder$Casting" "second" "[I", Cond.methodLink RX1 74 yX1_offer, Cond.instanceMethod yX1_offer, Cond.selects RX1 yX1_offer yX1_offer, Cond.code yX1_offer cX1_offer 4 none, Cond.methodLink RX1 55 yX1_drawNeeds, Cond.instanceMethod yX1_drawNeeds, Cond.selects RX1 yX1_drawNeeds yX1_drawNeeds, Cond.code yX1_drawNeeds cX1_drawNeeds 5 none, Cond.fieldLink RX1 25 "CastingFeeder$Freezing" "need" "[I", Cond.methodLink RX1 78 yX0_firstNeed, Cond.instanceMethod yX0_firstNeed, Cond.selects RX0 yX0_firstNeed yX0_firstNeed, Cond.code yX0_firstNeed cX0_firstNeed 2 (some .int)]
def wsX4_leastChill_r4 : List Cond := [Cond.methodLink RX1 58 yX1_findPores, Cond.instanceMethod yX1_findPores, Cond.selects RX1 yX1_findPores yX1_findPores, Cond.code yX1_findPores cX1_findPores 3 none, Cond.fieldLink RX1 28 "CastingFeeder$Freezing" "pores" "[I", Cond.fieldLink RX1 31 "CastingFeeder$Freezing" "excess" "[I", Cond.methodLink RX1 84 Lib.Math.max.name, Cond.static Lib.Math.max.name, Cond.code Lib.Math.max.name Lib.Math.max.code 2 (some .int), Cond.methodLink RX1 81 yX0_bearablePores, Cond.instanceMethod yX0_bearablePores, Cond.selects RX0 yX0_bearablePores yX0_bearablePores, Cond.code yX0_bearablePores cX0_bearablePores 2 (some .int), Cond.methodLink RX0 52 yX0_isFeeder, Cond.instanceMethod yX0_isFeeder, Cond.selects RX0 yX0_isFeeder yX0_isFeeder, Cond.code yX0_isFeeder cX0_isFeeder 2 (some .boolean), Cond.methodLink RX0 44 yX0_has, Cond.methodLink RX4 141 yX1_isSound, Cond.instanceMethod yX1_isSound, Cond.selects RX1 yX1_isSound yX1_isSound, Cond.code yX1_isSound cX1_isSound 1 (some .boolean), Cond.methodLink RX1 90 yX1_excessOfAll, Cond.instanceMethod yX1_excessOfAll]
def wsX4_leastChill_r5 : List Cond := [Cond.selects RX1 yX1_excessOfAll yX1_excessOfAll, Cond.code yX1_excessOfAll cX1_excessOfAll 1 (some .int), Cond.static yX4_sum, Cond.code yX4_sum cX4_sum 4 (some .int)]
def wsX4_leastChill : List Cond := .code yX4_leastChill cX4_leastChill 5 (some .int) :: ((wsX4_leastChill_r1 ++ (wsX4_leastChill_r2 ++ (wsX4_leastChill_r3 ++ (wsX4_leastChill_r4 ++ wsX4_leastChill_r5)))) ++ wsX40 ++ wsX00 ++ wsX10)
def wsX4_excessWith_r1 : List Cond := [Cond.fieldLink RX4 10 "CastingFeeder" "casting" "LCastingFeeder$Casting;", Cond.fieldLink RX4 37 "CastingFeeder" "trial" "LCastingFeeder$Casting;", Cond.fieldLink RX4 84 "CastingFeeder$Casting" "chill" "[I", Cond.fieldLink RX4 40 "CastingFeeder" "tried" "LCastingFeeder$Freezing;", Cond.methodLink RX4 62 yX0_has, Cond.instanceMethod yX0_has, Cond.selects RX0 yX0_has yX0_has, Cond.initialized RX0, Cond.code yX0_has cX0_has 2 (some .boolean), Cond.fieldLink RX0 9 "CastingFeeder$Casting" "sections" "I", Cond.methodLink RX4 80 yX4_isWithin, Cond.static yX4_isWithin, Cond.initialized RX4, Cond.code yX4_isWithin cX4_isWithin 3 (some .boolean), Cond.methodLink RX4 189 yX0_copyFrom, Cond.instanceMethod yX0_copyFrom, Cond.selects RX0 yX0_copyFrom yX0_copyFrom, Cond.code yX0_copyFrom cX0_copyFrom 3 none, Cond.fieldLink RX0 15 "CastingFeeder$Casting" "joints" "I", Cond.fieldLink RX0 18 "CastingFeeder$Casting" "shrinkage" "I", Cond.fieldLink RX0 21 "CastingFeeder$Casting" "piping" "I", Cond.fieldLink RX0 24 "CastingFeeder$Casting" "volume" "[I", Cond.fieldLink RX0 28 "CastingFeeder$Casting" "area" "[I", Cond.fieldLink RX0 31 "CastingFeeder$Casting" "chill" "[I"]
def wsX4_excessWith_r2 : List Cond := [Cond.fieldLink RX0 34 "CastingFeeder$Casting" "feeder" "[Z", Cond.fieldLink RX0 38 "CastingFeeder$Casting" "first" "[I", Cond.fieldLink RX0 41 "CastingFeeder$Casting" "second" "[I", Cond.methodLink RX4 73 yX4_put, Cond.static yX4_put, Cond.code yX4_put cX4_put 3 none, Cond.methodLink RX4 59 yX1_follow, Cond.instanceMethod yX1_follow, Cond.selects RX1 yX1_follow yX1_follow, Cond.initialized RX1, Cond.code yX1_follow cX1_follow 3 none, Cond.fieldLink RX1 34 "CastingFeeder$Casting" "sections" "I", Cond.methodLink RX1 37 Lib.Math.min.name, Cond.static Lib.Math.min.name, Cond.initialized "java/lang/Math", Cond.code Lib.Math.min.name Lib.Math.min.code 2 (some .int), Cond.fieldLink RX1 9 "CastingFeeder$Freezing" "sections" "I", Cond.fieldLink RX1 15 "CastingFeeder$Freezing" "step" "[I", Cond.fieldLink RX1 19 "CastingFeeder$Freezing" "order" "[I", Cond.methodLink RX1 43 yX0_stepOf, Cond.instanceMethod yX0_stepOf, Cond.selects RX0 yX0_stepOf yX0_stepOf, Cond.code yX0_stepOf cX0_stepOf 8 (some .int), Cond.static yX4_at]
def wsX4_excessWith_r3 : List Cond := [Cond.code yX4_at cX4_at 2 (some .int), Cond.methodLink RX0 55 yX0_cooledArea, Cond.instanceMethod yX0_cooledArea, Cond.selects RX0 yX0_cooledArea yX0_cooledArea, Cond.code yX0_cooledArea cX0_cooledArea 2 (some .int), Cond.methodLink RX1 51 yX1_findSources, Cond.instanceMethod yX1_findSources, Cond.selects RX1 yX1_findSources yX1_findSources, Cond.code yX1_findSources cX1_findSources 5 none, Cond.fieldLink RX1 22 "CastingFeeder$Freezing" "source" "[I", Cond.fieldLink RX1 61 "CastingFeeder$Casting" "joints" "I", Cond.fieldLink RX1 64 "CastingFeeder$Casting" "first" "[I", Cond.fieldLink RX1 71 "CastingFeeder$Casting" "second" "[I", Cond.methodLink RX1 74 yX1_offer, Cond.instanceMethod yX1_offer, Cond.selects RX1 yX1_offer yX1_offer, Cond.code yX1_offer cX1_offer 4 none, Cond.methodLink RX1 55 yX1_drawNeeds, Cond.instanceMethod yX1_drawNeeds, Cond.selects RX1 yX1_drawNeeds yX1_drawNeeds, Cond.code yX1_drawNeeds cX1_drawNeeds 5 none, Cond.fieldLink RX1 25 "CastingFeeder$Freezing" "need" "[I", Cond.methodLink RX1 78 yX0_firstNeed, Cond.instanceMethod yX0_firstNeed]
def wsX4_excessWith_r4 : List Cond := [Cond.selects RX0 yX0_firstNeed yX0_firstNeed, Cond.code yX0_firstNeed cX0_firstNeed 2 (some .int), Cond.methodLink RX1 58 yX1_findPores, Cond.instanceMethod yX1_findPores, Cond.selects RX1 yX1_findPores yX1_findPores, Cond.code yX1_findPores cX1_findPores 3 none, Cond.fieldLink RX1 28 "CastingFeeder$Freezing" "pores" "[I", Cond.fieldLink RX1 31 "CastingFeeder$Freezing" "excess" "[I", Cond.methodLink RX1 84 Lib.Math.max.name, Cond.static Lib.Math.max.name, Cond.code Lib.Math.max.name Lib.Math.max.code 2 (some .int), Cond.methodLink RX1 81 yX0_bearablePores, Cond.instanceMethod yX0_bearablePores, Cond.selects RX0 yX0_bearablePores yX0_bearablePores, Cond.code yX0_bearablePores cX0_bearablePores 2 (some .int), Cond.methodLink RX0 52 yX0_isFeeder, Cond.instanceMethod yX0_isFeeder, Cond.selects RX0 yX0_isFeeder yX0_isFeeder, Cond.code yX0_isFeeder cX0_isFeeder 2 (some .boolean), Cond.methodLink RX0 44 yX0_has, Cond.methodLink RX4 135 yX1_excessOfAll, Cond.instanceMethod yX1_excessOfAll, Cond.selects RX1 yX1_excessOfAll yX1_excessOfAll, Cond.code yX1_excessOfAll cX1_excessOfAll 1 (some .int)]
def wsX4_excessWith_r5 : List Cond := [Cond.static yX4_sum, Cond.code yX4_sum cX4_sum 4 (some .int)]
def wsX4_excessWith : List Cond := .code yX4_excessWith cX4_excessWith 3 (some .int) :: ((wsX4_excessWith_r1 ++ (wsX4_excessWith_r2 ++ (wsX4_excessWith_r3 ++ (wsX4_excessWith_r4 ++ wsX4_excessWith_r5)))) ++ wsX40 ++ wsX00 ++ wsX10)
def wsX4_undo_r1 : List Cond := [Cond.fieldLink RX4 26 "CastingFeeder" "history" "LCastingFeeder$History;", Cond.fieldLink RX4 10 "CastingFeeder" "casting" "LCastingFeeder$Casting;", Cond.fieldLink RX4 19 "CastingFeeder" "freezing" "LCastingFeeder$Freezing;", Cond.fieldLink RX4 201 "CastingFeeder$History" "size" "I", Cond.methodLink RX4 195 yX2_isEmpty, Cond.instanceMethod yX2_isEmpty, Cond.selects RX2 yX2_isEmpty yX2_isEmpty, Cond.initialized RX2, Cond.code yX2_isEmpty cX2_isEmpty 1 (some .boolean), Cond.fieldLink RX2 17 "CastingFeeder$History" "size" "I", Cond.methodLink RX4 198 yX2_restore, Cond.instanceMethod yX2_restore, Cond.selects RX2 yX2_restore yX2_restore, Cond.code yX2_restore cX2_restore 3 none, Cond.methodLink RX2 25 yX2_stateAt, Cond.instanceMethod yX2_stateAt, Cond.selects RX2 yX2_stateAt yX2_stateAt, Cond.code yX2_stateAt cX2_stateAt 2 (some (.object "CastingFeeder$Casting")), Cond.fieldLink RX2 11 "CastingFeeder$History" "states" "[LCastingFeeder$Casting;", Cond.methodLink RX2 29 yX0_copyFrom, Cond.instanceMethod yX0_copyFrom, Cond.selects RX0 yX0_copyFrom yX0_copyFrom, Cond.initialized RX0, Cond.code yX0_copyFrom cX0_copyFrom 3 none]
def wsX4_undo_r2 : List Cond := [Cond.fieldLink RX0 9 "CastingFeeder$Casting" "sections" "I", Cond.fieldLink RX0 15 "CastingFeeder$Casting" "joints" "I", Cond.fieldLink RX0 18 "CastingFeeder$Casting" "shrinkage" "I", Cond.fieldLink RX0 21 "CastingFeeder$Casting" "piping" "I", Cond.fieldLink RX0 24 "CastingFeeder$Casting" "volume" "[I", Cond.fieldLink RX0 28 "CastingFeeder$Casting" "area" "[I", Cond.fieldLink RX0 31 "CastingFeeder$Casting" "chill" "[I", Cond.fieldLink RX0 34 "CastingFeeder$Casting" "feeder" "[Z", Cond.fieldLink RX0 38 "CastingFeeder$Casting" "first" "[I", Cond.fieldLink RX0 41 "CastingFeeder$Casting" "second" "[I", Cond.methodLink RX4 59 yX1_follow, Cond.instanceMethod yX1_follow, Cond.selects RX1 yX1_follow yX1_follow, Cond.initialized RX1, Cond.code yX1_follow cX1_follow 3 none, Cond.fieldLink RX1 34 "CastingFeeder$Casting" "sections" "I", Cond.methodLink RX1 37 Lib.Math.min.name, Cond.static Lib.Math.min.name, Cond.initialized "java/lang/Math", Cond.code Lib.Math.min.name Lib.Math.min.code 2 (some .int), Cond.fieldLink RX1 9 "CastingFeeder$Freezing" "sections" "I", Cond.fieldLink RX1 15 "CastingFeeder$Freezing" "step" "[I", Cond.fieldLink RX1 19 "CastingFeeder$Freezing" "order" "[I", Cond.methodLink RX1 43 yX0_stepOf]
def wsX4_undo_r3 : List Cond := [Cond.instanceMethod yX0_stepOf, Cond.selects RX0 yX0_stepOf yX0_stepOf, Cond.code yX0_stepOf cX0_stepOf 8 (some .int), Cond.static yX4_at, Cond.initialized RX4, Cond.code yX4_at cX4_at 2 (some .int), Cond.methodLink RX0 55 yX0_cooledArea, Cond.instanceMethod yX0_cooledArea, Cond.selects RX0 yX0_cooledArea yX0_cooledArea, Cond.code yX0_cooledArea cX0_cooledArea 2 (some .int), Cond.static yX4_put, Cond.code yX4_put cX4_put 3 none, Cond.methodLink RX1 51 yX1_findSources, Cond.instanceMethod yX1_findSources, Cond.selects RX1 yX1_findSources yX1_findSources, Cond.code yX1_findSources cX1_findSources 5 none, Cond.fieldLink RX1 22 "CastingFeeder$Freezing" "source" "[I", Cond.fieldLink RX1 61 "CastingFeeder$Casting" "joints" "I", Cond.fieldLink RX1 64 "CastingFeeder$Casting" "first" "[I", Cond.fieldLink RX1 71 "CastingFeeder$Casting" "second" "[I", Cond.methodLink RX1 74 yX1_offer, Cond.instanceMethod yX1_offer, Cond.selects RX1 yX1_offer yX1_offer, Cond.code yX1_offer cX1_offer 4 none]
def wsX4_undo_r4 : List Cond := [Cond.methodLink RX1 55 yX1_drawNeeds, Cond.instanceMethod yX1_drawNeeds, Cond.selects RX1 yX1_drawNeeds yX1_drawNeeds, Cond.code yX1_drawNeeds cX1_drawNeeds 5 none, Cond.fieldLink RX1 25 "CastingFeeder$Freezing" "need" "[I", Cond.methodLink RX1 78 yX0_firstNeed, Cond.instanceMethod yX0_firstNeed, Cond.selects RX0 yX0_firstNeed yX0_firstNeed, Cond.code yX0_firstNeed cX0_firstNeed 2 (some .int), Cond.methodLink RX1 58 yX1_findPores, Cond.instanceMethod yX1_findPores, Cond.selects RX1 yX1_findPores yX1_findPores, Cond.code yX1_findPores cX1_findPores 3 none, Cond.fieldLink RX1 28 "CastingFeeder$Freezing" "pores" "[I", Cond.fieldLink RX1 31 "CastingFeeder$Freezing" "excess" "[I", Cond.methodLink RX1 84 Lib.Math.max.name, Cond.static Lib.Math.max.name, Cond.code Lib.Math.max.name Lib.Math.max.code 2 (some .int), Cond.methodLink RX1 81 yX0_bearablePores, Cond.instanceMethod yX0_bearablePores, Cond.selects RX0 yX0_bearablePores yX0_bearablePores, Cond.code yX0_bearablePores cX0_bearablePores 2 (some .int), Cond.methodLink RX0 52 yX0_isFeeder, Cond.instanceMethod yX0_isFeeder]
def wsX4_undo_r5 : List Cond := [Cond.selects RX0 yX0_isFeeder yX0_isFeeder, Cond.code yX0_isFeeder cX0_isFeeder 2 (some .boolean), Cond.methodLink RX0 44 yX0_has, Cond.instanceMethod yX0_has, Cond.selects RX0 yX0_has yX0_has, Cond.code yX0_has cX0_has 2 (some .boolean)]
def wsX4_undo : List Cond := .code yX4_undo cX4_undo 1 (some .int) :: ((wsX4_undo_r1 ++ (wsX4_undo_r2 ++ (wsX4_undo_r3 ++ (wsX4_undo_r4 ++ wsX4_undo_r5)))) ++ wsX40 ++ wsX20 ++ wsX00 ++ wsX10)
def wsX4_type : List Cond := .code yX4_type cX4_type 2 (some .int) :: ([.fieldLink RX4 33 "CastingFeeder" "text" "LCastingFeeder$Text;", .fieldLink RX4 206 "CastingFeeder$Text" "length" "I", .methodLink RX4 80 yX4_isWithin, .static yX4_isWithin, .initialized RX4, .code yX4_isWithin cX4_isWithin 3 (some .boolean), .methodLink RX4 204 yX3_append, .instanceMethod yX3_append, .selects RX3 yX3_append yX3_append, .initialized RX3, .code yX3_append cX3_append 2 (some .boolean), .fieldLink RX3 15 "CastingFeeder$Text" "length" "I", .fieldLink RX3 9 "CastingFeeder$Text" "codes" "[I"] ++ wsX40 ++ wsX30)
def wsX4_clearText : List Cond := .code yX4_clearText cX4_clearText 2 (some .int) :: ([.fieldLink RX4 33 "CastingFeeder" "text" "LCastingFeeder$Text;", .fieldLink RX4 206 "CastingFeeder$Text" "length" "I"] ++ wsX40 ++ wsX30)
def wsX4_textFault_r1 : List Cond := [Cond.fieldLink RX4 37 "CastingFeeder" "trial" "LCastingFeeder$Casting;", Cond.fieldLink RX4 10 "CastingFeeder" "casting" "LCastingFeeder$Casting;", Cond.fieldLink RX4 33 "CastingFeeder" "text" "LCastingFeeder$Text;", Cond.methodLink RX4 189 yX0_copyFrom, Cond.instanceMethod yX0_copyFrom, Cond.selects RX0 yX0_copyFrom yX0_copyFrom, Cond.initialized RX0, Cond.code yX0_copyFrom cX0_copyFrom 3 none, Cond.fieldLink RX0 9 "CastingFeeder$Casting" "sections" "I", Cond.fieldLink RX0 15 "CastingFeeder$Casting" "joints" "I", Cond.fieldLink RX0 18 "CastingFeeder$Casting" "shrinkage" "I", Cond.fieldLink RX0 21 "CastingFeeder$Casting" "piping" "I", Cond.fieldLink RX0 24 "CastingFeeder$Casting" "volume" "[I", Cond.fieldLink RX0 28 "CastingFeeder$Casting" "area" "[I", Cond.fieldLink RX0 31 "CastingFeeder$Casting" "chill" "[I", Cond.fieldLink RX0 34 "CastingFeeder$Casting" "feeder" "[Z", Cond.fieldLink RX0 38 "CastingFeeder$Casting" "first" "[I", Cond.fieldLink RX0 41 "CastingFeeder$Casting" "second" "[I", Cond.methodLink RX4 209 yX3_readInto, Cond.instanceMethod yX3_readInto, Cond.selects RX3 yX3_readInto yX3_readInto, Cond.initialized RX3, Cond.code yX3_readInto cX3_readInto 4 (some .int), Cond.fieldLink RX3 22 "CastingFeeder$Text" "place" "I"]
def wsX4_textFault_r2 : List Cond := [Cond.fieldLink RX3 25 "CastingFeeder$Text" "fault" "I", Cond.fieldLink RX3 19 "CastingFeeder$Text" "items" "I", Cond.methodLink RX3 28 yX3_readItem, Cond.instanceMethod yX3_readItem, Cond.selects RX3 yX3_readItem yX3_readItem, Cond.code yX3_readItem cX3_readItem 6 none, Cond.methodLink RX3 40 yX3_next, Cond.instanceMethod yX3_next, Cond.selects RX3 yX3_next yX3_next, Cond.code yX3_next cX3_next 2 (some .int), Cond.methodLink RX3 81 yX3_codeAt, Cond.instanceMethod yX3_codeAt, Cond.selects RX3 yX3_codeAt yX3_codeAt, Cond.code yX3_codeAt cX3_codeAt 2 (some .int), Cond.fieldLink RX3 15 "CastingFeeder$Text" "length" "I", Cond.fieldLink RX3 9 "CastingFeeder$Text" "codes" "[I", Cond.methodLink RX3 44 yX3_isDigit, Cond.static yX3_isDigit, Cond.code yX3_isDigit cX3_isDigit 1 (some .boolean), Cond.methodLink RX3 48 yX0_hasRoomForSection, Cond.instanceMethod yX0_hasRoomForSection, Cond.selects RX0 yX0_hasRoomForSection yX0_hasRoomForSection, Cond.code yX0_hasRoomForSection cX0_hasRoomForSection 1 (some .boolean), Cond.methodLink RX3 53 yX0_hasRoomForJoint]
def wsX4_textFault_r3 : List Cond := [Cond.instanceMethod yX0_hasRoomForJoint, Cond.selects RX0 yX0_hasRoomForJoint yX0_hasRoomForJoint, Cond.code yX0_hasRoomForJoint cX0_hasRoomForJoint 1 (some .boolean), Cond.methodLink RX3 56 yX3_readSection, Cond.instanceMethod yX3_readSection, Cond.selects RX3 yX3_readSection yX3_readSection, Cond.code yX3_readSection cX3_readSection 6 none, Cond.methodLink RX3 63 yX3_readNumber, Cond.instanceMethod yX3_readNumber, Cond.selects RX3 yX3_readNumber yX3_readNumber, Cond.code yX3_readNumber cX3_readNumber 8 (some .int), Cond.static yX4_isWithin, Cond.initialized RX4, Cond.code yX4_isWithin cX4_isWithin 3 (some .boolean), Cond.methodLink RX3 36 yX3_expect, Cond.instanceMethod yX3_expect, Cond.selects RX3 yX3_expect yX3_expect, Cond.code yX3_expect cX3_expect 2 none, Cond.methodLink RX3 67 yX0_append, Cond.instanceMethod yX0_append, Cond.selects RX0 yX0_append yX0_append, Cond.code yX0_append cX0_append 6 (some .int), Cond.methodLink RX3 60 yX3_readJoint, Cond.instanceMethod yX3_readJoint]
def wsX4_textFault_r4 : List Cond := [Cond.selects RX3 yX3_readJoint yX3_readJoint, Cond.code yX3_readJoint cX3_readJoint 5 none, Cond.fieldLink RX3 71 "CastingFeeder$Casting" "sections" "I", Cond.methodLink RX3 74 yX0_canLink, Cond.instanceMethod yX0_canLink, Cond.selects RX0 yX0_canLink yX0_canLink, Cond.code yX0_canLink cX0_canLink 4 (some .boolean), Cond.methodLink RX0 59 yX0_touches, Cond.instanceMethod yX0_touches, Cond.selects RX0 yX0_touches yX0_touches, Cond.code yX0_touches cX0_touches 3 (some .boolean), Cond.static yX4_at, Cond.code yX4_at cX4_at 2 (some .int), Cond.methodLink RX3 78 yX0_link, Cond.instanceMethod yX0_link, Cond.selects RX0 yX0_link yX0_link, Cond.code yX0_link cX0_link 4 (some .int), Cond.methodLink RX3 32 yX3_isAtEnd, Cond.instanceMethod yX3_isAtEnd, Cond.selects RX3 yX3_isAtEnd yX3_isAtEnd, Cond.code yX3_isAtEnd cX3_isAtEnd 1 (some .boolean)]
def wsX4_textFault : List Cond := .code yX4_textFault cX4_textFault 1 (some .int) :: ((wsX4_textFault_r1 ++ (wsX4_textFault_r2 ++ (wsX4_textFault_r3 ++ wsX4_textFault_r4))) ++ wsX40 ++ wsX00 ++ wsX30)
def wsX4_load_r1 : List Cond := [Cond.fieldLink RX4 37 "CastingFeeder" "trial" "LCastingFeeder$Casting;", Cond.fieldLink RX4 10 "CastingFeeder" "casting" "LCastingFeeder$Casting;", Cond.fieldLink RX4 33 "CastingFeeder" "text" "LCastingFeeder$Text;", Cond.fieldLink RX4 26 "CastingFeeder" "history" "LCastingFeeder$History;", Cond.fieldLink RX4 19 "CastingFeeder" "freezing" "LCastingFeeder$Freezing;", Cond.fieldLink RX4 213 "CastingFeeder$Text" "items" "I", Cond.methodLink RX4 189 yX0_copyFrom, Cond.instanceMethod yX0_copyFrom, Cond.selects RX0 yX0_copyFrom yX0_copyFrom, Cond.initialized RX0, Cond.code yX0_copyFrom cX0_copyFrom 3 none, Cond.fieldLink RX0 9 "CastingFeeder$Casting" "sections" "I", Cond.fieldLink RX0 15 "CastingFeeder$Casting" "joints" "I", Cond.fieldLink RX0 18 "CastingFeeder$Casting" "shrinkage" "I", Cond.fieldLink RX0 21 "CastingFeeder$Casting" "piping" "I", Cond.fieldLink RX0 24 "CastingFeeder$Casting" "volume" "[I", Cond.fieldLink RX0 28 "CastingFeeder$Casting" "area" "[I", Cond.fieldLink RX0 31 "CastingFeeder$Casting" "chill" "[I", Cond.fieldLink RX0 34 "CastingFeeder$Casting" "feeder" "[Z", Cond.fieldLink RX0 38 "CastingFeeder$Casting" "first" "[I", Cond.fieldLink RX0 41 "CastingFeeder$Casting" "second" "[I", Cond.methodLink RX4 209 yX3_readInto, Cond.instanceMethod yX3_readInto, Cond.selects RX3 yX3_readInto yX3_readInto]
def wsX4_load_r2 : List Cond := [Cond.initialized RX3, Cond.code yX3_readInto cX3_readInto 4 (some .int), Cond.fieldLink RX3 22 "CastingFeeder$Text" "place" "I", Cond.fieldLink RX3 25 "CastingFeeder$Text" "fault" "I", Cond.fieldLink RX3 19 "CastingFeeder$Text" "items" "I", Cond.methodLink RX3 28 yX3_readItem, Cond.instanceMethod yX3_readItem, Cond.selects RX3 yX3_readItem yX3_readItem, Cond.code yX3_readItem cX3_readItem 6 none, Cond.methodLink RX3 40 yX3_next, Cond.instanceMethod yX3_next, Cond.selects RX3 yX3_next yX3_next, Cond.code yX3_next cX3_next 2 (some .int), Cond.methodLink RX3 81 yX3_codeAt, Cond.instanceMethod yX3_codeAt, Cond.selects RX3 yX3_codeAt yX3_codeAt, Cond.code yX3_codeAt cX3_codeAt 2 (some .int), Cond.fieldLink RX3 15 "CastingFeeder$Text" "length" "I", Cond.fieldLink RX3 9 "CastingFeeder$Text" "codes" "[I", Cond.methodLink RX3 44 yX3_isDigit, Cond.static yX3_isDigit, Cond.code yX3_isDigit cX3_isDigit 1 (some .boolean), Cond.methodLink RX3 48 yX0_hasRoomForSection, Cond.instanceMethod yX0_hasRoomForSection]
def wsX4_load_r3 : List Cond := [Cond.selects RX0 yX0_hasRoomForSection yX0_hasRoomForSection, Cond.code yX0_hasRoomForSection cX0_hasRoomForSection 1 (some .boolean), Cond.methodLink RX3 53 yX0_hasRoomForJoint, Cond.instanceMethod yX0_hasRoomForJoint, Cond.selects RX0 yX0_hasRoomForJoint yX0_hasRoomForJoint, Cond.code yX0_hasRoomForJoint cX0_hasRoomForJoint 1 (some .boolean), Cond.methodLink RX3 56 yX3_readSection, Cond.instanceMethod yX3_readSection, Cond.selects RX3 yX3_readSection yX3_readSection, Cond.code yX3_readSection cX3_readSection 6 none, Cond.methodLink RX3 63 yX3_readNumber, Cond.instanceMethod yX3_readNumber, Cond.selects RX3 yX3_readNumber yX3_readNumber, Cond.code yX3_readNumber cX3_readNumber 8 (some .int), Cond.static yX4_isWithin, Cond.initialized RX4, Cond.code yX4_isWithin cX4_isWithin 3 (some .boolean), Cond.methodLink RX3 36 yX3_expect, Cond.instanceMethod yX3_expect, Cond.selects RX3 yX3_expect yX3_expect, Cond.code yX3_expect cX3_expect 2 none, Cond.methodLink RX3 67 yX0_append, Cond.instanceMethod yX0_append, Cond.selects RX0 yX0_append yX0_append]
def wsX4_load_r4 : List Cond := [Cond.code yX0_append cX0_append 6 (some .int), Cond.methodLink RX3 60 yX3_readJoint, Cond.instanceMethod yX3_readJoint, Cond.selects RX3 yX3_readJoint yX3_readJoint, Cond.code yX3_readJoint cX3_readJoint 5 none, Cond.fieldLink RX3 71 "CastingFeeder$Casting" "sections" "I", Cond.methodLink RX3 74 yX0_canLink, Cond.instanceMethod yX0_canLink, Cond.selects RX0 yX0_canLink yX0_canLink, Cond.code yX0_canLink cX0_canLink 4 (some .boolean), Cond.methodLink RX0 59 yX0_touches, Cond.instanceMethod yX0_touches, Cond.selects RX0 yX0_touches yX0_touches, Cond.code yX0_touches cX0_touches 3 (some .boolean), Cond.static yX4_at, Cond.code yX4_at cX4_at 2 (some .int), Cond.methodLink RX3 78 yX0_link, Cond.instanceMethod yX0_link, Cond.selects RX0 yX0_link yX0_link, Cond.code yX0_link cX0_link 4 (some .int), Cond.methodLink RX3 32 yX3_isAtEnd, Cond.instanceMethod yX3_isAtEnd, Cond.selects RX3 yX3_isAtEnd yX3_isAtEnd, Cond.code yX3_isAtEnd cX3_isAtEnd 1 (some .boolean)]
def wsX4_load_r5 : List Cond := [Cond.methodLink RX4 51 yX2_keep, Cond.instanceMethod yX2_keep, Cond.selects RX2 yX2_keep yX2_keep, Cond.initialized RX2, Cond.code yX2_keep cX2_keep 3 none, Cond.fieldLink RX2 17 "CastingFeeder$History" "size" "I", Cond.fieldLink RX2 11 "CastingFeeder$History" "states" "[LCastingFeeder$Casting;", Cond.methodLink RX2 22 yX2_dropOldest, Cond.instanceMethod yX2_dropOldest, Cond.selects RX2 yX2_dropOldest yX2_dropOldest, Cond.code yX2_dropOldest cX2_dropOldest 3 none, Cond.methodLink RX2 25 yX2_stateAt, Cond.instanceMethod yX2_stateAt, Cond.selects RX2 yX2_stateAt yX2_stateAt, Cond.code yX2_stateAt cX2_stateAt 2 (some (.object "CastingFeeder$Casting")), Cond.methodLink RX2 29 yX0_copyFrom, Cond.methodLink RX4 59 yX1_follow, Cond.instanceMethod yX1_follow, Cond.selects RX1 yX1_follow yX1_follow, Cond.initialized RX1, Cond.code yX1_follow cX1_follow 3 none, Cond.fieldLink RX1 34 "CastingFeeder$Casting" "sections" "I", Cond.methodLink RX1 37 Lib.Math.min.name, Cond.static Lib.Math.min.name]
def wsX4_load_r6 : List Cond := [Cond.initialized "java/lang/Math", Cond.code Lib.Math.min.name Lib.Math.min.code 2 (some .int), Cond.fieldLink RX1 9 "CastingFeeder$Freezing" "sections" "I", Cond.fieldLink RX1 15 "CastingFeeder$Freezing" "step" "[I", Cond.fieldLink RX1 19 "CastingFeeder$Freezing" "order" "[I", Cond.methodLink RX1 43 yX0_stepOf, Cond.instanceMethod yX0_stepOf, Cond.selects RX0 yX0_stepOf yX0_stepOf, Cond.code yX0_stepOf cX0_stepOf 8 (some .int), Cond.methodLink RX0 55 yX0_cooledArea, Cond.instanceMethod yX0_cooledArea, Cond.selects RX0 yX0_cooledArea yX0_cooledArea, Cond.code yX0_cooledArea cX0_cooledArea 2 (some .int), Cond.static yX4_put, Cond.code yX4_put cX4_put 3 none, Cond.methodLink RX1 51 yX1_findSources, Cond.instanceMethod yX1_findSources, Cond.selects RX1 yX1_findSources yX1_findSources, Cond.code yX1_findSources cX1_findSources 5 none, Cond.fieldLink RX1 22 "CastingFeeder$Freezing" "source" "[I", Cond.fieldLink RX1 61 "CastingFeeder$Casting" "joints" "I", Cond.fieldLink RX1 64 "CastingFeeder$Casting" "first" "[I", Cond.fieldLink RX1 71 "CastingFeeder$Casting" "second" "[I", Cond.methodLink RX1 74 yX1_offer]
def wsX4_load_r7 : List Cond := [Cond.instanceMethod yX1_offer, Cond.selects RX1 yX1_offer yX1_offer, Cond.code yX1_offer cX1_offer 4 none, Cond.methodLink RX1 55 yX1_drawNeeds, Cond.instanceMethod yX1_drawNeeds, Cond.selects RX1 yX1_drawNeeds yX1_drawNeeds, Cond.code yX1_drawNeeds cX1_drawNeeds 5 none, Cond.fieldLink RX1 25 "CastingFeeder$Freezing" "need" "[I", Cond.methodLink RX1 78 yX0_firstNeed, Cond.instanceMethod yX0_firstNeed, Cond.selects RX0 yX0_firstNeed yX0_firstNeed, Cond.code yX0_firstNeed cX0_firstNeed 2 (some .int), Cond.methodLink RX1 58 yX1_findPores, Cond.instanceMethod yX1_findPores, Cond.selects RX1 yX1_findPores yX1_findPores, Cond.code yX1_findPores cX1_findPores 3 none, Cond.fieldLink RX1 28 "CastingFeeder$Freezing" "pores" "[I", Cond.fieldLink RX1 31 "CastingFeeder$Freezing" "excess" "[I", Cond.methodLink RX1 84 Lib.Math.max.name, Cond.static Lib.Math.max.name, Cond.code Lib.Math.max.name Lib.Math.max.code 2 (some .int), Cond.methodLink RX1 81 yX0_bearablePores, Cond.instanceMethod yX0_bearablePores, Cond.selects RX0 yX0_bearablePores yX0_bearablePores]
def wsX4_load_r8 : List Cond := [Cond.code yX0_bearablePores cX0_bearablePores 2 (some .int), Cond.methodLink RX0 52 yX0_isFeeder, Cond.instanceMethod yX0_isFeeder, Cond.selects RX0 yX0_isFeeder yX0_isFeeder, Cond.code yX0_isFeeder cX0_isFeeder 2 (some .boolean), Cond.methodLink RX0 44 yX0_has, Cond.instanceMethod yX0_has, Cond.selects RX0 yX0_has yX0_has, Cond.code yX0_has cX0_has 2 (some .boolean)]
def wsX4_load : List Cond := .code yX4_load cX4_load 1 (some .int) :: ((wsX4_load_r1 ++ (wsX4_load_r2 ++ (wsX4_load_r3 ++ (wsX4_load_r4 ++ (wsX4_load_r5 ++ (wsX4_load_r6 ++ (wsX4_load_r7 ++ wsX4_load_r8))))))) ++ wsX40 ++ wsX30 ++ wsX00 ++ wsX20 ++ wsX10)
def wsX4_digest_r1 : List Cond := [Cond.constantLong RX4 216 (17), Cond.constantLong RX4 218 (31), Cond.fieldLink RX4 10 "CastingFeeder" "casting" "LCastingFeeder$Casting;", Cond.fieldLink RX4 91 "CastingFeeder$Casting" "sections" "I", Cond.fieldLink RX4 112 "CastingFeeder$Casting" "joints" "I", Cond.methodLink RX4 220 yX4_count, Cond.instanceMethod yX4_count, Cond.selects RX4 yX4_count yX4_count, Cond.initialized RX4, Cond.code yX4_count cX4_count 2 (some .int), Cond.fieldLink RX4 115 "CastingFeeder$Casting" "shrinkage" "I", Cond.fieldLink RX4 118 "CastingFeeder$Casting" "piping" "I", Cond.fieldLink RX4 19 "CastingFeeder" "freezing" "LCastingFeeder$Freezing;", Cond.fieldLink RX4 129 "CastingFeeder$Freezing" "pores" "[I", Cond.methodLink RX4 121 yX0_feeders, Cond.instanceMethod yX0_feeders, Cond.selects RX0 yX0_feeders yX0_feeders, Cond.initialized RX0, Cond.code yX0_feeders cX0_feeders 3 (some .int), Cond.fieldLink RX0 9 "CastingFeeder$Casting" "sections" "I", Cond.methodLink RX0 52 yX0_isFeeder, Cond.instanceMethod yX0_isFeeder, Cond.selects RX0 yX0_isFeeder yX0_isFeeder, Cond.code yX0_isFeeder cX0_isFeeder 2 (some .boolean)]
def wsX4_digest_r2 : List Cond := [Cond.fieldLink RX0 34 "CastingFeeder$Casting" "feeder" "[Z", Cond.methodLink RX0 44 yX0_has, Cond.instanceMethod yX0_has, Cond.selects RX0 yX0_has yX0_has, Cond.code yX0_has cX0_has 2 (some .boolean), Cond.methodLink RX4 125 yX1_fedBy, Cond.instanceMethod yX1_fedBy, Cond.selects RX1 yX1_fedBy yX1_fedBy, Cond.initialized RX1, Cond.code yX1_fedBy cX1_fedBy 4 (some .int), Cond.fieldLink RX1 9 "CastingFeeder$Freezing" "sections" "I", Cond.fieldLink RX1 22 "CastingFeeder$Freezing" "source" "[I", Cond.methodLink RX4 132 yX4_sum, Cond.static yX4_sum, Cond.code yX4_sum cX4_sum 4 (some .int), Cond.methodLink RX4 135 yX1_excessOfAll, Cond.instanceMethod yX1_excessOfAll, Cond.selects RX1 yX1_excessOfAll yX1_excessOfAll, Cond.code yX1_excessOfAll cX1_excessOfAll 1 (some .int), Cond.fieldLink RX1 31 "CastingFeeder$Freezing" "excess" "[I", Cond.methodLink RX4 138 yX0_yieldPerMille, Cond.instanceMethod yX0_yieldPerMille, Cond.selects RX0 yX0_yieldPerMille yX0_yieldPerMille, Cond.code yX0_yieldPerMille cX0_yieldPerMille 4 (some .int)]
def wsX4_digest_r3 : List Cond := [Cond.fieldLink RX0 24 "CastingFeeder$Casting" "volume" "[I", Cond.static yX4_at, Cond.code yX4_at cX4_at 2 (some .int), Cond.methodLink RX4 141 yX1_isSound, Cond.instanceMethod yX1_isSound, Cond.selects RX1 yX1_isSound yX1_isSound, Cond.code yX1_isSound cX1_isSound 1 (some .boolean), Cond.methodLink RX1 90 yX1_excessOfAll, Cond.methodLink RX4 223 yX4_section, Cond.instanceMethod yX4_section, Cond.selects RX4 yX4_section yX4_section, Cond.code yX4_section cX4_section 3 (some .int), Cond.fieldLink RX4 65 "CastingFeeder$Casting" "volume" "[I", Cond.fieldLink RX4 77 "CastingFeeder$Casting" "area" "[I", Cond.fieldLink RX4 84 "CastingFeeder$Casting" "chill" "[I", Cond.fieldLink RX4 147 "CastingFeeder$Freezing" "step" "[I", Cond.fieldLink RX4 150 "CastingFeeder$Freezing" "need" "[I", Cond.fieldLink RX4 153 "CastingFeeder$Freezing" "excess" "[I", Cond.fieldLink RX4 156 "CastingFeeder$Freezing" "source" "[I", Cond.methodLink RX4 62 yX0_has, Cond.methodLink RX4 69 yX4_at, Cond.methodLink RX4 144 yX0_isFeeder, Cond.methodLink RX4 159 yX0_neighbours, Cond.instanceMethod yX0_neighbours]
def wsX4_digest_r4 : List Cond := [Cond.selects RX0 yX0_neighbours yX0_neighbours, Cond.code yX0_neighbours cX0_neighbours 4 (some .int), Cond.fieldLink RX0 15 "CastingFeeder$Casting" "joints" "I", Cond.methodLink RX0 59 yX0_touches, Cond.instanceMethod yX0_touches, Cond.selects RX0 yX0_touches yX0_touches, Cond.code yX0_touches cX0_touches 3 (some .boolean), Cond.fieldLink RX0 38 "CastingFeeder$Casting" "first" "[I", Cond.fieldLink RX0 41 "CastingFeeder$Casting" "second" "[I", Cond.methodLink RX4 226 yX4_joint, Cond.instanceMethod yX4_joint, Cond.selects RX4 yX4_joint yX4_joint, Cond.code yX4_joint cX4_joint 3 (some .int), Cond.fieldLink RX4 168 "CastingFeeder$Casting" "first" "[I", Cond.fieldLink RX4 171 "CastingFeeder$Casting" "second" "[I", Cond.methodLink RX4 106 yX0_hasJoint, Cond.instanceMethod yX0_hasJoint, Cond.selects RX0 yX0_hasJoint yX0_hasJoint, Cond.code yX0_hasJoint cX0_hasJoint 2 (some .boolean), Cond.methodLink RX4 80 yX4_isWithin, Cond.static yX4_isWithin, Cond.code yX4_isWithin cX4_isWithin 3 (some .boolean)]
def wsX4_digest : List Cond := .code yX4_digest cX4_digest 5 (some .long) :: ((wsX4_digest_r1 ++ (wsX4_digest_r2 ++ (wsX4_digest_r3 ++ wsX4_digest_r4))) ++ wsX40 ++ wsX00 ++ wsX10)
def wsX5_init : List Cond := .code yX5_init cX5_init 1 none :: ([.methodLink RX5 1 objectInit, .instanceMethod objectInit, .code objectInit ⟨#[0xb1]⟩ 1 none, .arrayClass .int, .fieldLink RX5 7 "CastingFeederModel" "row" "[I", .fieldLink RX5 13 "CastingFeederModel" "order" "[I", .fieldLink RX5 16 "CastingFeederModel" "step" "[I", .fieldLink RX5 19 "CastingFeederModel" "need" "[I", .fieldLink RX5 22 "CastingFeederModel" "fed" "[I", .fieldLink RX5 25 "CastingFeederModel" "text" "[I"] ++ wsX50)
def wsX5_in : List Cond := .code yX5_in cX5_in 3 (some .boolean) :: ([])
def wsX5_copies : List Cond := .code yX5_copies cX5_copies 4 none :: ([.fieldLink RX5 7 "CastingFeederModel" "row" "[I"] ++ wsX50)
def wsX5_saves : List Cond := .code yX5_saves cX5_saves 2 none :: ([.fieldLink RX5 28 "CastingFeederModel" "saved" "I", .methodLink RX5 32 yX5_copies, .instanceMethod yX5_copies, .selects RX5 yX5_copies yX5_copies, .initialized RX5, .code yX5_copies cX5_copies 4 none, .fieldLink RX5 7 "CastingFeederModel" "row" "[I"] ++ wsX50)
def wsX5_of : List Cond := .code yX5_of cX5_of 3 (some .int) :: ([.fieldLink RX5 7 "CastingFeederModel" "row" "[I"] ++ wsX50)
def wsX5_isSection : List Cond := .code yX5_isSection cX5_isSection 2 (some .boolean) :: ([.fieldLink RX5 7 "CastingFeederModel" "row" "[I", .methodLink RX5 36 yX5_in, .static yX5_in, .initialized RX5, .code yX5_in cX5_in 3 (some .boolean)] ++ wsX50)
def wsX5_isJoint : List Cond := .code yX5_isJoint cX5_isJoint 2 (some .boolean) :: ([.fieldLink RX5 7 "CastingFeederModel" "row" "[I", .methodLink RX5 36 yX5_in, .static yX5_in, .initialized RX5, .code yX5_in cX5_in 3 (some .boolean)] ++ wsX50)
def wsX5_areNeighbours : List Cond := .code yX5_areNeighbours cX5_areNeighbours 7 (some .boolean) :: ([.fieldLink RX5 7 "CastingFeederModel" "row" "[I"] ++ wsX50)
def wsX5_lays : List Cond := .code yX5_lays cX5_lays 6 none :: ([.fieldLink RX5 7 "CastingFeederModel" "row" "[I"] ++ wsX50)
def wsX5_joins : List Cond := .code yX5_joins cX5_joins 3 none :: ([.fieldLink RX5 7 "CastingFeederModel" "row" "[I"] ++ wsX50)
def wsX5_parts : List Cond := .code yX5_parts cX5_parts 3 none :: ([.fieldLink RX5 7 "CastingFeederModel" "row" "[I"] ++ wsX50)
def wsX5_isSize : List Cond := .code yX5_isSize cX5_isSize 2 (some .boolean) :: ([.methodLink RX5 36 yX5_in, .static yX5_in, .initialized RX5, .code yX5_in cX5_in 3 (some .boolean)])
def wsX5_addSection : List Cond := .code yX5_addSection cX5_addSection 4 (some .int) :: ([.fieldLink RX5 7 "CastingFeederModel" "row" "[I", .methodLink RX5 40 yX5_isSize, .static yX5_isSize, .initialized RX5, .code yX5_isSize cX5_isSize 2 (some .boolean), .methodLink RX5 36 yX5_in, .static yX5_in, .code yX5_in cX5_in 3 (some .boolean), .methodLink RX5 44 yX5_saves, .instanceMethod yX5_saves, .selects RX5 yX5_saves yX5_saves, .code yX5_saves cX5_saves 2 none, .fieldLink RX5 28 "CastingFeederModel" "saved" "I", .methodLink RX5 32 yX5_copies, .instanceMethod yX5_copies, .selects RX5 yX5_copies yX5_copies, .code yX5_copies cX5_copies 4 none, .methodLink RX5 47 yX5_lays, .instanceMethod yX5_lays, .selects RX5 yX5_lays yX5_lays, .code yX5_lays cX5_lays 6 none] ++ wsX50)
def wsX5_resize_r1 : List Cond := [Cond.fieldLink RX5 7 "CastingFeederModel" "row" "[I", Cond.methodLink RX5 51 yX5_isSection, Cond.instanceMethod yX5_isSection, Cond.selects RX5 yX5_isSection yX5_isSection, Cond.initialized RX5, Cond.code yX5_isSection cX5_isSection 2 (some .boolean), Cond.methodLink RX5 36 yX5_in, Cond.static yX5_in, Cond.code yX5_in cX5_in 3 (some .boolean), Cond.methodLink RX5 40 yX5_isSize, Cond.static yX5_isSize, Cond.code yX5_isSize cX5_isSize 2 (some .boolean), Cond.methodLink RX5 44 yX5_saves, Cond.instanceMethod yX5_saves, Cond.selects RX5 yX5_saves yX5_saves, Cond.code yX5_saves cX5_saves 2 none, Cond.fieldLink RX5 28 "CastingFeederModel" "saved" "I", Cond.methodLink RX5 32 yX5_copies, Cond.instanceMethod yX5_copies, Cond.selects RX5 yX5_copies yX5_copies, Cond.code yX5_copies cX5_copies 4 none, Cond.methodLink RX5 55 yX5_of, Cond.instanceMethod yX5_of, Cond.selects RX5 yX5_of yX5_of]
def wsX5_resize_r2 : List Cond := [Cond.code yX5_of cX5_of 3 (some .int)]
def wsX5_resize : List Cond := .code yX5_resize cX5_resize 5 (some .int) :: ((wsX5_resize_r1 ++ wsX5_resize_r2) ++ wsX50)
def wsX5_setChill : List Cond := .code yX5_setChill cX5_setChill 4 (some .int) :: ([.fieldLink RX5 7 "CastingFeederModel" "row" "[I", .methodLink RX5 51 yX5_isSection, .instanceMethod yX5_isSection, .selects RX5 yX5_isSection yX5_isSection, .initialized RX5, .code yX5_isSection cX5_isSection 2 (some .boolean), .methodLink RX5 36 yX5_in, .static yX5_in, .code yX5_in cX5_in 3 (some .boolean), .methodLink RX5 44 yX5_saves, .instanceMethod yX5_saves, .selects RX5 yX5_saves yX5_saves, .code yX5_saves cX5_saves 2 none, .fieldLink RX5 28 "CastingFeederModel" "saved" "I", .methodLink RX5 32 yX5_copies, .instanceMethod yX5_copies, .selects RX5 yX5_copies yX5_copies, .code yX5_copies cX5_copies 4 none, .methodLink RX5 55 yX5_of, .instanceMethod yX5_of, .selects RX5 yX5_of yX5_of, .code yX5_of cX5_of 3 (some .int)] ++ wsX50)
def wsX5_removeSection : List Cond := .code yX5_removeSection cX5_removeSection 3 (some .int) :: ([.fieldLink RX5 7 "CastingFeederModel" "row" "[I", .methodLink RX5 51 yX5_isSection, .instanceMethod yX5_isSection, .selects RX5 yX5_isSection yX5_isSection, .initialized RX5, .code yX5_isSection cX5_isSection 2 (some .boolean), .methodLink RX5 36 yX5_in, .static yX5_in, .code yX5_in cX5_in 3 (some .boolean), .methodLink RX5 44 yX5_saves, .instanceMethod yX5_saves, .selects RX5 yX5_saves yX5_saves, .code yX5_saves cX5_saves 2 none, .fieldLink RX5 28 "CastingFeederModel" "saved" "I", .methodLink RX5 32 yX5_copies, .instanceMethod yX5_copies, .selects RX5 yX5_copies yX5_copies, .code yX5_copies cX5_copies 4 none, .methodLink RX5 59 yX5_parts, .instanceMethod yX5_parts, .selects RX5 yX5_parts yX5_parts, .code yX5_parts cX5_parts 3 none] ++ wsX50)
def wsX5_join_r1 : List Cond := [Cond.fieldLink RX5 7 "CastingFeederModel" "row" "[I", Cond.methodLink RX5 51 yX5_isSection, Cond.instanceMethod yX5_isSection, Cond.selects RX5 yX5_isSection yX5_isSection, Cond.initialized RX5, Cond.code yX5_isSection cX5_isSection 2 (some .boolean), Cond.methodLink RX5 36 yX5_in, Cond.static yX5_in, Cond.code yX5_in cX5_in 3 (some .boolean), Cond.methodLink RX5 63 yX5_areNeighbours, Cond.instanceMethod yX5_areNeighbours, Cond.selects RX5 yX5_areNeighbours yX5_areNeighbours, Cond.code yX5_areNeighbours cX5_areNeighbours 7 (some .boolean), Cond.methodLink RX5 44 yX5_saves, Cond.instanceMethod yX5_saves, Cond.selects RX5 yX5_saves yX5_saves, Cond.code yX5_saves cX5_saves 2 none, Cond.fieldLink RX5 28 "CastingFeederModel" "saved" "I", Cond.methodLink RX5 32 yX5_copies, Cond.instanceMethod yX5_copies, Cond.selects RX5 yX5_copies yX5_copies, Cond.code yX5_copies cX5_copies 4 none, Cond.methodLink RX5 66 yX5_joins, Cond.instanceMethod yX5_joins]
def wsX5_join_r2 : List Cond := [Cond.selects RX5 yX5_joins yX5_joins, Cond.code yX5_joins cX5_joins 3 none]
def wsX5_join : List Cond := .code yX5_join cX5_join 3 (some .int) :: ((wsX5_join_r1 ++ wsX5_join_r2) ++ wsX50)
def wsX5_part : List Cond := .code yX5_part cX5_part 2 (some .int) :: ([.fieldLink RX5 7 "CastingFeederModel" "row" "[I", .methodLink RX5 69 yX5_isJoint, .instanceMethod yX5_isJoint, .selects RX5 yX5_isJoint yX5_isJoint, .initialized RX5, .code yX5_isJoint cX5_isJoint 2 (some .boolean), .methodLink RX5 36 yX5_in, .static yX5_in, .code yX5_in cX5_in 3 (some .boolean), .methodLink RX5 44 yX5_saves, .instanceMethod yX5_saves, .selects RX5 yX5_saves yX5_saves, .code yX5_saves cX5_saves 2 none, .fieldLink RX5 28 "CastingFeederModel" "saved" "I", .methodLink RX5 32 yX5_copies, .instanceMethod yX5_copies, .selects RX5 yX5_copies yX5_copies, .code yX5_copies cX5_copies 4 none, .methodLink RX5 59 yX5_parts, .instanceMethod yX5_parts, .selects RX5 yX5_parts yX5_parts, .code yX5_parts cX5_parts 3 none] ++ wsX50)
def wsX5_setMetal : List Cond := .code yX5_setMetal cX5_setMetal 4 (some .int) :: ([.fieldLink RX5 7 "CastingFeederModel" "row" "[I", .methodLink RX5 36 yX5_in, .static yX5_in, .initialized RX5, .code yX5_in cX5_in 3 (some .boolean), .methodLink RX5 44 yX5_saves, .instanceMethod yX5_saves, .selects RX5 yX5_saves yX5_saves, .code yX5_saves cX5_saves 2 none, .fieldLink RX5 28 "CastingFeederModel" "saved" "I", .methodLink RX5 32 yX5_copies, .instanceMethod yX5_copies, .selects RX5 yX5_copies yX5_copies, .code yX5_copies cX5_copies 4 none] ++ wsX50)
def wsX5_isBefore : List Cond := .code yX5_isBefore cX5_isBefore 5 (some .boolean) :: ([.methodLink RX5 55 yX5_of, .instanceMethod yX5_of, .selects RX5 yX5_of yX5_of, .initialized RX5, .code yX5_of cX5_of 3 (some .int), .fieldLink RX5 7 "CastingFeederModel" "row" "[I"] ++ wsX50)
def wsX5_firstNeed : List Cond := .code yX5_firstNeed cX5_firstNeed 2 (some .int) :: ([.fieldLink RX5 7 "CastingFeederModel" "row" "[I", .methodLink RX5 55 yX5_of, .instanceMethod yX5_of, .selects RX5 yX5_of yX5_of, .initialized RX5, .code yX5_of cX5_of 3 (some .int)] ++ wsX50)
def wsX5_freezes : List Cond := .code yX5_freezes cX5_freezes 4 none :: ([.fieldLink RX5 7 "CastingFeederModel" "row" "[I", .fieldLink RX5 16 "CastingFeederModel" "step" "[I", .fieldLink RX5 13 "CastingFeederModel" "order" "[I", .fieldLink RX5 19 "CastingFeederModel" "need" "[I", .fieldLink RX5 22 "CastingFeederModel" "fed" "[I", .methodLink RX5 72 yX5_isBefore, .instanceMethod yX5_isBefore, .selects RX5 yX5_isBefore yX5_isBefore, .initialized RX5, .code yX5_isBefore cX5_isBefore 5 (some .boolean), .methodLink RX5 55 yX5_of, .instanceMethod yX5_of, .selects RX5 yX5_of yX5_of, .code yX5_of cX5_of 3 (some .int), .methodLink RX5 75 yX5_firstNeed, .instanceMethod yX5_firstNeed, .selects RX5 yX5_firstNeed yX5_firstNeed, .code yX5_firstNeed cX5_firstNeed 2 (some .int), .methodLink RX5 63 yX5_areNeighbours, .instanceMethod yX5_areNeighbours, .selects RX5 yX5_areNeighbours yX5_areNeighbours, .code yX5_areNeighbours cX5_areNeighbours 7 (some .boolean)] ++ wsX50)
def wsX5_pores : List Cond := .code yX5_pores cX5_pores 2 (some .int) :: ([.fieldLink RX5 22 "CastingFeederModel" "fed" "[I", .fieldLink RX5 19 "CastingFeederModel" "need" "[I"] ++ wsX50)
def wsX5_excess : List Cond := .code yX5_excess cX5_excess 3 (some .int) :: ([.fieldLink RX5 7 "CastingFeederModel" "row" "[I", .methodLink RX5 55 yX5_of, .instanceMethod yX5_of, .selects RX5 yX5_of yX5_of, .initialized RX5, .code yX5_of cX5_of 3 (some .int), .methodLink RX5 79 yX5_pores, .instanceMethod yX5_pores, .selects RX5 yX5_pores yX5_pores, .code yX5_pores cX5_pores 2 (some .int), .fieldLink RX5 22 "CastingFeederModel" "fed" "[I", .fieldLink RX5 19 "CastingFeederModel" "need" "[I"] ++ wsX50)
def wsX5_excesses_r1 : List Cond := [Cond.fieldLink RX5 7 "CastingFeederModel" "row" "[I", Cond.methodLink RX5 82 yX5_freezes, Cond.instanceMethod yX5_freezes, Cond.selects RX5 yX5_freezes yX5_freezes, Cond.initialized RX5, Cond.code yX5_freezes cX5_freezes 4 none, Cond.fieldLink RX5 16 "CastingFeederModel" "step" "[I", Cond.fieldLink RX5 13 "CastingFeederModel" "order" "[I", Cond.fieldLink RX5 19 "CastingFeederModel" "need" "[I", Cond.fieldLink RX5 22 "CastingFeederModel" "fed" "[I", Cond.methodLink RX5 72 yX5_isBefore, Cond.instanceMethod yX5_isBefore, Cond.selects RX5 yX5_isBefore yX5_isBefore, Cond.code yX5_isBefore cX5_isBefore 5 (some .boolean), Cond.methodLink RX5 55 yX5_of, Cond.instanceMethod yX5_of, Cond.selects RX5 yX5_of yX5_of, Cond.code yX5_of cX5_of 3 (some .int), Cond.methodLink RX5 75 yX5_firstNeed, Cond.instanceMethod yX5_firstNeed, Cond.selects RX5 yX5_firstNeed yX5_firstNeed, Cond.code yX5_firstNeed cX5_firstNeed 2 (some .int), Cond.methodLink RX5 63 yX5_areNeighbours, Cond.instanceMethod yX5_areNeighbours]
def wsX5_excesses_r2 : List Cond := [Cond.selects RX5 yX5_areNeighbours yX5_areNeighbours, Cond.code yX5_areNeighbours cX5_areNeighbours 7 (some .boolean), Cond.methodLink RX5 85 yX5_excess, Cond.instanceMethod yX5_excess, Cond.selects RX5 yX5_excess yX5_excess, Cond.code yX5_excess cX5_excess 3 (some .int), Cond.methodLink RX5 79 yX5_pores, Cond.instanceMethod yX5_pores, Cond.selects RX5 yX5_pores yX5_pores, Cond.code yX5_pores cX5_pores 2 (some .int)]
def wsX5_excesses : List Cond := .code yX5_excesses cX5_excesses 3 (some .int) :: ((wsX5_excesses_r1 ++ wsX5_excesses_r2) ++ wsX50)
def wsX5_yields : List Cond := .code yX5_yields cX5_yields 4 (some .int) :: ([.fieldLink RX5 7 "CastingFeederModel" "row" "[I", .methodLink RX5 55 yX5_of, .instanceMethod yX5_of, .selects RX5 yX5_of yX5_of, .initialized RX5, .code yX5_of cX5_of 3 (some .int)] ++ wsX50)
def wsX5_count_r1 : List Cond := [Cond.fieldLink RX5 7 "CastingFeederModel" "row" "[I", Cond.fieldLink RX5 22 "CastingFeederModel" "fed" "[I", Cond.methodLink RX5 36 yX5_in, Cond.static yX5_in, Cond.initialized RX5, Cond.code yX5_in cX5_in 3 (some .boolean), Cond.methodLink RX5 88 yX5_excesses, Cond.instanceMethod yX5_excesses, Cond.selects RX5 yX5_excesses yX5_excesses, Cond.code yX5_excesses cX5_excesses 3 (some .int), Cond.methodLink RX5 82 yX5_freezes, Cond.instanceMethod yX5_freezes, Cond.selects RX5 yX5_freezes yX5_freezes, Cond.code yX5_freezes cX5_freezes 4 none, Cond.fieldLink RX5 16 "CastingFeederModel" "step" "[I", Cond.fieldLink RX5 13 "CastingFeederModel" "order" "[I", Cond.fieldLink RX5 19 "CastingFeederModel" "need" "[I", Cond.methodLink RX5 72 yX5_isBefore, Cond.instanceMethod yX5_isBefore, Cond.selects RX5 yX5_isBefore yX5_isBefore, Cond.code yX5_isBefore cX5_isBefore 5 (some .boolean), Cond.methodLink RX5 55 yX5_of, Cond.instanceMethod yX5_of, Cond.selects RX5 yX5_of yX5_of]
def wsX5_count_r2 : List Cond := [Cond.code yX5_of cX5_of 3 (some .int), Cond.methodLink RX5 75 yX5_firstNeed, Cond.instanceMethod yX5_firstNeed, Cond.selects RX5 yX5_firstNeed yX5_firstNeed, Cond.code yX5_firstNeed cX5_firstNeed 2 (some .int), Cond.methodLink RX5 63 yX5_areNeighbours, Cond.instanceMethod yX5_areNeighbours, Cond.selects RX5 yX5_areNeighbours yX5_areNeighbours, Cond.code yX5_areNeighbours cX5_areNeighbours 7 (some .boolean), Cond.methodLink RX5 85 yX5_excess, Cond.instanceMethod yX5_excess, Cond.selects RX5 yX5_excess yX5_excess, Cond.code yX5_excess cX5_excess 3 (some .int), Cond.methodLink RX5 79 yX5_pores, Cond.instanceMethod yX5_pores, Cond.selects RX5 yX5_pores yX5_pores, Cond.code yX5_pores cX5_pores 2 (some .int), Cond.methodLink RX5 92 yX5_yields, Cond.instanceMethod yX5_yields, Cond.selects RX5 yX5_yields yX5_yields, Cond.code yX5_yields cX5_yields 4 (some .int)]
def wsX5_count : List Cond := .code yX5_count cX5_count 5 (some .int) :: ((wsX5_count_r1 ++ wsX5_count_r2) ++ wsX50)
def wsX5_property : List Cond := .code yX5_property cX5_property 5 (some .int) :: ([.fieldLink RX5 7 "CastingFeederModel" "row" "[I", .fieldLink RX5 22 "CastingFeederModel" "fed" "[I", .fieldLink RX5 16 "CastingFeederModel" "step" "[I", .fieldLink RX5 19 "CastingFeederModel" "need" "[I", .methodLink RX5 55 yX5_of, .instanceMethod yX5_of, .selects RX5 yX5_of yX5_of, .initialized RX5, .code yX5_of cX5_of 3 (some .int), .methodLink RX5 63 yX5_areNeighbours, .instanceMethod yX5_areNeighbours, .selects RX5 yX5_areNeighbours yX5_areNeighbours, .code yX5_areNeighbours cX5_areNeighbours 7 (some .boolean), .methodLink RX5 79 yX5_pores, .instanceMethod yX5_pores, .selects RX5 yX5_pores yX5_pores, .code yX5_pores cX5_pores 2 (some .int), .methodLink RX5 85 yX5_excess, .instanceMethod yX5_excess, .selects RX5 yX5_excess yX5_excess, .code yX5_excess cX5_excess 3 (some .int)] ++ wsX50)
def wsX5_section_r1 : List Cond := [Cond.methodLink RX5 51 yX5_isSection, Cond.instanceMethod yX5_isSection, Cond.selects RX5 yX5_isSection yX5_isSection, Cond.initialized RX5, Cond.code yX5_isSection cX5_isSection 2 (some .boolean), Cond.fieldLink RX5 7 "CastingFeederModel" "row" "[I", Cond.methodLink RX5 36 yX5_in, Cond.static yX5_in, Cond.code yX5_in cX5_in 3 (some .boolean), Cond.methodLink RX5 82 yX5_freezes, Cond.instanceMethod yX5_freezes, Cond.selects RX5 yX5_freezes yX5_freezes, Cond.code yX5_freezes cX5_freezes 4 none, Cond.fieldLink RX5 16 "CastingFeederModel" "step" "[I", Cond.fieldLink RX5 13 "CastingFeederModel" "order" "[I", Cond.fieldLink RX5 19 "CastingFeederModel" "need" "[I", Cond.fieldLink RX5 22 "CastingFeederModel" "fed" "[I", Cond.methodLink RX5 72 yX5_isBefore, Cond.instanceMethod yX5_isBefore, Cond.selects RX5 yX5_isBefore yX5_isBefore, Cond.code yX5_isBefore cX5_isBefore 5 (some .boolean), Cond.methodLink RX5 55 yX5_of, Cond.instanceMethod yX5_of, Cond.selects RX5 yX5_of yX5_of]
def wsX5_section_r2 : List Cond := [Cond.code yX5_of cX5_of 3 (some .int), Cond.methodLink RX5 75 yX5_firstNeed, Cond.instanceMethod yX5_firstNeed, Cond.selects RX5 yX5_firstNeed yX5_firstNeed, Cond.code yX5_firstNeed cX5_firstNeed 2 (some .int), Cond.methodLink RX5 63 yX5_areNeighbours, Cond.instanceMethod yX5_areNeighbours, Cond.selects RX5 yX5_areNeighbours yX5_areNeighbours, Cond.code yX5_areNeighbours cX5_areNeighbours 7 (some .boolean), Cond.methodLink RX5 95 yX5_property, Cond.instanceMethod yX5_property, Cond.selects RX5 yX5_property yX5_property, Cond.code yX5_property cX5_property 5 (some .int), Cond.methodLink RX5 79 yX5_pores, Cond.instanceMethod yX5_pores, Cond.selects RX5 yX5_pores yX5_pores, Cond.code yX5_pores cX5_pores 2 (some .int), Cond.methodLink RX5 85 yX5_excess, Cond.instanceMethod yX5_excess, Cond.selects RX5 yX5_excess yX5_excess, Cond.code yX5_excess cX5_excess 3 (some .int)]
def wsX5_section : List Cond := .code yX5_section cX5_section 3 (some .int) :: ((wsX5_section_r1 ++ wsX5_section_r2) ++ wsX50)
def wsX5_modulus : List Cond := .code yX5_modulus cX5_modulus 8 (some .int) :: ([.methodLink RX5 51 yX5_isSection, .instanceMethod yX5_isSection, .selects RX5 yX5_isSection yX5_isSection, .initialized RX5, .code yX5_isSection cX5_isSection 2 (some .boolean), .fieldLink RX5 7 "CastingFeederModel" "row" "[I", .methodLink RX5 36 yX5_in, .static yX5_in, .code yX5_in cX5_in 3 (some .boolean), .methodLink RX5 55 yX5_of, .instanceMethod yX5_of, .selects RX5 yX5_of yX5_of, .code yX5_of cX5_of 3 (some .int)] ++ wsX50)
def wsX5_joint : List Cond := .code yX5_joint cX5_joint 3 (some .int) :: ([.fieldLink RX5 7 "CastingFeederModel" "row" "[I", .methodLink RX5 69 yX5_isJoint, .instanceMethod yX5_isJoint, .selects RX5 yX5_isJoint yX5_isJoint, .initialized RX5, .code yX5_isJoint cX5_isJoint 2 (some .boolean), .methodLink RX5 36 yX5_in, .static yX5_in, .code yX5_in cX5_in 3 (some .boolean)] ++ wsX50)
def wsX5_atStep_r1 : List Cond := [Cond.fieldLink RX5 7 "CastingFeederModel" "row" "[I", Cond.fieldLink RX5 13 "CastingFeederModel" "order" "[I", Cond.methodLink RX5 82 yX5_freezes, Cond.instanceMethod yX5_freezes, Cond.selects RX5 yX5_freezes yX5_freezes, Cond.initialized RX5, Cond.code yX5_freezes cX5_freezes 4 none, Cond.fieldLink RX5 16 "CastingFeederModel" "step" "[I", Cond.fieldLink RX5 19 "CastingFeederModel" "need" "[I", Cond.fieldLink RX5 22 "CastingFeederModel" "fed" "[I", Cond.methodLink RX5 72 yX5_isBefore, Cond.instanceMethod yX5_isBefore, Cond.selects RX5 yX5_isBefore yX5_isBefore, Cond.code yX5_isBefore cX5_isBefore 5 (some .boolean), Cond.methodLink RX5 55 yX5_of, Cond.instanceMethod yX5_of, Cond.selects RX5 yX5_of yX5_of, Cond.code yX5_of cX5_of 3 (some .int), Cond.methodLink RX5 75 yX5_firstNeed, Cond.instanceMethod yX5_firstNeed, Cond.selects RX5 yX5_firstNeed yX5_firstNeed, Cond.code yX5_firstNeed cX5_firstNeed 2 (some .int), Cond.methodLink RX5 63 yX5_areNeighbours, Cond.instanceMethod yX5_areNeighbours]
def wsX5_atStep_r2 : List Cond := [Cond.selects RX5 yX5_areNeighbours yX5_areNeighbours, Cond.code yX5_areNeighbours cX5_areNeighbours 7 (some .boolean)]
def wsX5_atStep : List Cond := .code yX5_atStep cX5_atStep 2 (some .int) :: ((wsX5_atStep_r1 ++ wsX5_atStep_r2) ++ wsX50)
def wsX5_way_r1 : List Cond := [Cond.fieldLink RX5 22 "CastingFeederModel" "fed" "[I", Cond.methodLink RX5 51 yX5_isSection, Cond.instanceMethod yX5_isSection, Cond.selects RX5 yX5_isSection yX5_isSection, Cond.initialized RX5, Cond.code yX5_isSection cX5_isSection 2 (some .boolean), Cond.fieldLink RX5 7 "CastingFeederModel" "row" "[I", Cond.methodLink RX5 36 yX5_in, Cond.static yX5_in, Cond.code yX5_in cX5_in 3 (some .boolean), Cond.methodLink RX5 82 yX5_freezes, Cond.instanceMethod yX5_freezes, Cond.selects RX5 yX5_freezes yX5_freezes, Cond.code yX5_freezes cX5_freezes 4 none, Cond.fieldLink RX5 16 "CastingFeederModel" "step" "[I", Cond.fieldLink RX5 13 "CastingFeederModel" "order" "[I", Cond.fieldLink RX5 19 "CastingFeederModel" "need" "[I", Cond.methodLink RX5 72 yX5_isBefore, Cond.instanceMethod yX5_isBefore, Cond.selects RX5 yX5_isBefore yX5_isBefore, Cond.code yX5_isBefore cX5_isBefore 5 (some .boolean), Cond.methodLink RX5 55 yX5_of, Cond.instanceMethod yX5_of, Cond.selects RX5 yX5_of yX5_of]
def wsX5_way_r2 : List Cond := [Cond.code yX5_of cX5_of 3 (some .int), Cond.methodLink RX5 75 yX5_firstNeed, Cond.instanceMethod yX5_firstNeed, Cond.selects RX5 yX5_firstNeed yX5_firstNeed, Cond.code yX5_firstNeed cX5_firstNeed 2 (some .int), Cond.methodLink RX5 63 yX5_areNeighbours, Cond.instanceMethod yX5_areNeighbours, Cond.selects RX5 yX5_areNeighbours yX5_areNeighbours, Cond.code yX5_areNeighbours cX5_areNeighbours 7 (some .boolean)]
def wsX5_way : List Cond := .code yX5_way cX5_way 5 (some .int) :: ((wsX5_way_r1 ++ wsX5_way_r2) ++ wsX50)
def wsX5_endOf : List Cond := .code yX5_endOf cX5_endOf 3 (some .int) :: ([.fieldLink RX5 22 "CastingFeederModel" "fed" "[I"] ++ wsX50)
def wsX5_end_r1 : List Cond := [Cond.methodLink RX5 51 yX5_isSection, Cond.instanceMethod yX5_isSection, Cond.selects RX5 yX5_isSection yX5_isSection, Cond.initialized RX5, Cond.code yX5_isSection cX5_isSection 2 (some .boolean), Cond.fieldLink RX5 7 "CastingFeederModel" "row" "[I", Cond.methodLink RX5 36 yX5_in, Cond.static yX5_in, Cond.code yX5_in cX5_in 3 (some .boolean), Cond.methodLink RX5 82 yX5_freezes, Cond.instanceMethod yX5_freezes, Cond.selects RX5 yX5_freezes yX5_freezes, Cond.code yX5_freezes cX5_freezes 4 none, Cond.fieldLink RX5 16 "CastingFeederModel" "step" "[I", Cond.fieldLink RX5 13 "CastingFeederModel" "order" "[I", Cond.fieldLink RX5 19 "CastingFeederModel" "need" "[I", Cond.fieldLink RX5 22 "CastingFeederModel" "fed" "[I", Cond.methodLink RX5 72 yX5_isBefore, Cond.instanceMethod yX5_isBefore, Cond.selects RX5 yX5_isBefore yX5_isBefore, Cond.code yX5_isBefore cX5_isBefore 5 (some .boolean), Cond.methodLink RX5 55 yX5_of, Cond.instanceMethod yX5_of, Cond.selects RX5 yX5_of yX5_of]
def wsX5_end_r2 : List Cond := [Cond.code yX5_of cX5_of 3 (some .int), Cond.methodLink RX5 75 yX5_firstNeed, Cond.instanceMethod yX5_firstNeed, Cond.selects RX5 yX5_firstNeed yX5_firstNeed, Cond.code yX5_firstNeed cX5_firstNeed 2 (some .int), Cond.methodLink RX5 63 yX5_areNeighbours, Cond.instanceMethod yX5_areNeighbours, Cond.selects RX5 yX5_areNeighbours yX5_areNeighbours, Cond.code yX5_areNeighbours cX5_areNeighbours 7 (some .boolean), Cond.methodLink RX5 98 yX5_endOf, Cond.instanceMethod yX5_endOf, Cond.selects RX5 yX5_endOf yX5_endOf, Cond.code yX5_endOf cX5_endOf 3 (some .int)]
def wsX5_end : List Cond := .code yX5_end cX5_end 2 (some .int) :: ((wsX5_end_r1 ++ wsX5_end_r2) ++ wsX50)
def wsX5_gathers_r1 : List Cond := [Cond.fieldLink RX5 7 "CastingFeederModel" "row" "[I", Cond.methodLink RX5 51 yX5_isSection, Cond.instanceMethod yX5_isSection, Cond.selects RX5 yX5_isSection yX5_isSection, Cond.initialized RX5, Cond.code yX5_isSection cX5_isSection 2 (some .boolean), Cond.methodLink RX5 36 yX5_in, Cond.static yX5_in, Cond.code yX5_in cX5_in 3 (some .boolean), Cond.methodLink RX5 82 yX5_freezes, Cond.instanceMethod yX5_freezes, Cond.selects RX5 yX5_freezes yX5_freezes, Cond.code yX5_freezes cX5_freezes 4 none, Cond.fieldLink RX5 16 "CastingFeederModel" "step" "[I", Cond.fieldLink RX5 13 "CastingFeederModel" "order" "[I", Cond.fieldLink RX5 19 "CastingFeederModel" "need" "[I", Cond.fieldLink RX5 22 "CastingFeederModel" "fed" "[I", Cond.methodLink RX5 72 yX5_isBefore, Cond.instanceMethod yX5_isBefore, Cond.selects RX5 yX5_isBefore yX5_isBefore, Cond.code yX5_isBefore cX5_isBefore 5 (some .boolean), Cond.methodLink RX5 55 yX5_of, Cond.instanceMethod yX5_of, Cond.selects RX5 yX5_of yX5_of]
def wsX5_gathers_r2 : List Cond := [Cond.code yX5_of cX5_of 3 (some .int), Cond.methodLink RX5 75 yX5_firstNeed, Cond.instanceMethod yX5_firstNeed, Cond.selects RX5 yX5_firstNeed yX5_firstNeed, Cond.code yX5_firstNeed cX5_firstNeed 2 (some .int), Cond.methodLink RX5 63 yX5_areNeighbours, Cond.instanceMethod yX5_areNeighbours, Cond.selects RX5 yX5_areNeighbours yX5_areNeighbours, Cond.code yX5_areNeighbours cX5_areNeighbours 7 (some .boolean), Cond.methodLink RX5 98 yX5_endOf, Cond.instanceMethod yX5_endOf, Cond.selects RX5 yX5_endOf yX5_endOf, Cond.code yX5_endOf cX5_endOf 3 (some .int)]
def wsX5_gathers : List Cond := .code yX5_gathers cX5_gathers 4 (some .int) :: ((wsX5_gathers_r1 ++ wsX5_gathers_r2) ++ wsX50)
def wsX5_isSoundWith_r1 : List Cond := [Cond.fieldLink RX5 7 "CastingFeederModel" "row" "[I", Cond.methodLink RX5 32 yX5_copies, Cond.instanceMethod yX5_copies, Cond.selects RX5 yX5_copies yX5_copies, Cond.initialized RX5, Cond.code yX5_copies cX5_copies 4 none, Cond.methodLink RX5 47 yX5_lays, Cond.instanceMethod yX5_lays, Cond.selects RX5 yX5_lays yX5_lays, Cond.code yX5_lays cX5_lays 6 none, Cond.methodLink RX5 66 yX5_joins, Cond.instanceMethod yX5_joins, Cond.selects RX5 yX5_joins yX5_joins, Cond.code yX5_joins cX5_joins 3 none, Cond.methodLink RX5 88 yX5_excesses, Cond.instanceMethod yX5_excesses, Cond.selects RX5 yX5_excesses yX5_excesses, Cond.code yX5_excesses cX5_excesses 3 (some .int), Cond.methodLink RX5 82 yX5_freezes, Cond.instanceMethod yX5_freezes, Cond.selects RX5 yX5_freezes yX5_freezes, Cond.code yX5_freezes cX5_freezes 4 none, Cond.fieldLink RX5 16 "CastingFeederModel" "step" "[I", Cond.fieldLink RX5 13 "CastingFeederModel" "order" "[I"]
def wsX5_isSoundWith_r2 : List Cond := [Cond.fieldLink RX5 19 "CastingFeederModel" "need" "[I", Cond.fieldLink RX5 22 "CastingFeederModel" "fed" "[I", Cond.methodLink RX5 72 yX5_isBefore, Cond.instanceMethod yX5_isBefore, Cond.selects RX5 yX5_isBefore yX5_isBefore, Cond.code yX5_isBefore cX5_isBefore 5 (some .boolean), Cond.methodLink RX5 55 yX5_of, Cond.instanceMethod yX5_of, Cond.selects RX5 yX5_of yX5_of, Cond.code yX5_of cX5_of 3 (some .int), Cond.methodLink RX5 75 yX5_firstNeed, Cond.instanceMethod yX5_firstNeed, Cond.selects RX5 yX5_firstNeed yX5_firstNeed, Cond.code yX5_firstNeed cX5_firstNeed 2 (some .int), Cond.methodLink RX5 63 yX5_areNeighbours, Cond.instanceMethod yX5_areNeighbours, Cond.selects RX5 yX5_areNeighbours yX5_areNeighbours, Cond.code yX5_areNeighbours cX5_areNeighbours 7 (some .boolean), Cond.methodLink RX5 85 yX5_excess, Cond.instanceMethod yX5_excess, Cond.selects RX5 yX5_excess yX5_excess, Cond.code yX5_excess cX5_excess 3 (some .int), Cond.methodLink RX5 79 yX5_pores, Cond.instanceMethod yX5_pores]
def wsX5_isSoundWith_r3 : List Cond := [Cond.selects RX5 yX5_pores yX5_pores, Cond.code yX5_pores cX5_pores 2 (some .int)]
def wsX5_isSoundWith : List Cond := .code yX5_isSoundWith cX5_isSoundWith 4 (some .boolean) :: ((wsX5_isSoundWith_r1 ++ (wsX5_isSoundWith_r2 ++ wsX5_isSoundWith_r3)) ++ wsX50)
def wsX5_isFull : List Cond := .code yX5_isFull cX5_isFull 1 (some .boolean) :: ([.fieldLink RX5 7 "CastingFeederModel" "row" "[I"] ++ wsX50)
def wsX5_leastFeeder_r1 : List Cond := [Cond.methodLink RX5 51 yX5_isSection, Cond.instanceMethod yX5_isSection, Cond.selects RX5 yX5_isSection yX5_isSection, Cond.initialized RX5, Cond.code yX5_isSection cX5_isSection 2 (some .boolean), Cond.fieldLink RX5 7 "CastingFeederModel" "row" "[I", Cond.methodLink RX5 36 yX5_in, Cond.static yX5_in, Cond.code yX5_in cX5_in 3 (some .boolean), Cond.methodLink RX5 101 yX5_isFull, Cond.instanceMethod yX5_isFull, Cond.selects RX5 yX5_isFull yX5_isFull, Cond.code yX5_isFull cX5_isFull 1 (some .boolean), Cond.methodLink RX5 105 yX5_isSoundWith, Cond.instanceMethod yX5_isSoundWith, Cond.selects RX5 yX5_isSoundWith yX5_isSoundWith, Cond.code yX5_isSoundWith cX5_isSoundWith 4 (some .boolean), Cond.methodLink RX5 32 yX5_copies, Cond.instanceMethod yX5_copies, Cond.selects RX5 yX5_copies yX5_copies, Cond.code yX5_copies cX5_copies 4 none, Cond.methodLink RX5 47 yX5_lays, Cond.instanceMethod yX5_lays, Cond.selects RX5 yX5_lays yX5_lays]
def wsX5_leastFeeder_r2 : List Cond := [Cond.code yX5_lays cX5_lays 6 none, Cond.methodLink RX5 66 yX5_joins, Cond.instanceMethod yX5_joins, Cond.selects RX5 yX5_joins yX5_joins, Cond.code yX5_joins cX5_joins 3 none, Cond.methodLink RX5 88 yX5_excesses, Cond.instanceMethod yX5_excesses, Cond.selects RX5 yX5_excesses yX5_excesses, Cond.code yX5_excesses cX5_excesses 3 (some .int), Cond.methodLink RX5 82 yX5_freezes, Cond.instanceMethod yX5_freezes, Cond.selects RX5 yX5_freezes yX5_freezes, Cond.code yX5_freezes cX5_freezes 4 none, Cond.fieldLink RX5 16 "CastingFeederModel" "step" "[I", Cond.fieldLink RX5 13 "CastingFeederModel" "order" "[I", Cond.fieldLink RX5 19 "CastingFeederModel" "need" "[I", Cond.fieldLink RX5 22 "CastingFeederModel" "fed" "[I", Cond.methodLink RX5 72 yX5_isBefore, Cond.instanceMethod yX5_isBefore, Cond.selects RX5 yX5_isBefore yX5_isBefore, Cond.code yX5_isBefore cX5_isBefore 5 (some .boolean), Cond.methodLink RX5 55 yX5_of, Cond.instanceMethod yX5_of, Cond.selects RX5 yX5_of yX5_of]
def wsX5_leastFeeder_r3 : List Cond := [Cond.code yX5_of cX5_of 3 (some .int), Cond.methodLink RX5 75 yX5_firstNeed, Cond.instanceMethod yX5_firstNeed, Cond.selects RX5 yX5_firstNeed yX5_firstNeed, Cond.code yX5_firstNeed cX5_firstNeed 2 (some .int), Cond.methodLink RX5 63 yX5_areNeighbours, Cond.instanceMethod yX5_areNeighbours, Cond.selects RX5 yX5_areNeighbours yX5_areNeighbours, Cond.code yX5_areNeighbours cX5_areNeighbours 7 (some .boolean), Cond.methodLink RX5 85 yX5_excess, Cond.instanceMethod yX5_excess, Cond.selects RX5 yX5_excess yX5_excess, Cond.code yX5_excess cX5_excess 3 (some .int), Cond.methodLink RX5 79 yX5_pores, Cond.instanceMethod yX5_pores, Cond.selects RX5 yX5_pores yX5_pores, Cond.code yX5_pores cX5_pores 2 (some .int)]
def wsX5_leastFeeder : List Cond := .code yX5_leastFeeder cX5_leastFeeder 3 (some .int) :: ((wsX5_leastFeeder_r1 ++ (wsX5_leastFeeder_r2 ++ wsX5_leastFeeder_r3)) ++ wsX50)
def wsX5_bestFeeder_r1 : List Cond := [Cond.fieldLink RX5 7 "CastingFeederModel" "row" "[I", Cond.methodLink RX5 101 yX5_isFull, Cond.instanceMethod yX5_isFull, Cond.selects RX5 yX5_isFull yX5_isFull, Cond.initialized RX5, Cond.code yX5_isFull cX5_isFull 1 (some .boolean), Cond.methodLink RX5 105 yX5_isSoundWith, Cond.instanceMethod yX5_isSoundWith, Cond.selects RX5 yX5_isSoundWith yX5_isSoundWith, Cond.code yX5_isSoundWith cX5_isSoundWith 4 (some .boolean), Cond.methodLink RX5 32 yX5_copies, Cond.instanceMethod yX5_copies, Cond.selects RX5 yX5_copies yX5_copies, Cond.code yX5_copies cX5_copies 4 none, Cond.methodLink RX5 47 yX5_lays, Cond.instanceMethod yX5_lays, Cond.selects RX5 yX5_lays yX5_lays, Cond.code yX5_lays cX5_lays 6 none, Cond.methodLink RX5 66 yX5_joins, Cond.instanceMethod yX5_joins, Cond.selects RX5 yX5_joins yX5_joins, Cond.code yX5_joins cX5_joins 3 none, Cond.methodLink RX5 88 yX5_excesses, Cond.instanceMethod yX5_excesses]
def wsX5_bestFeeder_r2 : List Cond := [Cond.selects RX5 yX5_excesses yX5_excesses, Cond.code yX5_excesses cX5_excesses 3 (some .int), Cond.methodLink RX5 82 yX5_freezes, Cond.instanceMethod yX5_freezes, Cond.selects RX5 yX5_freezes yX5_freezes, Cond.code yX5_freezes cX5_freezes 4 none, Cond.fieldLink RX5 16 "CastingFeederModel" "step" "[I", Cond.fieldLink RX5 13 "CastingFeederModel" "order" "[I", Cond.fieldLink RX5 19 "CastingFeederModel" "need" "[I", Cond.fieldLink RX5 22 "CastingFeederModel" "fed" "[I", Cond.methodLink RX5 72 yX5_isBefore, Cond.instanceMethod yX5_isBefore, Cond.selects RX5 yX5_isBefore yX5_isBefore, Cond.code yX5_isBefore cX5_isBefore 5 (some .boolean), Cond.methodLink RX5 55 yX5_of, Cond.instanceMethod yX5_of, Cond.selects RX5 yX5_of yX5_of, Cond.code yX5_of cX5_of 3 (some .int), Cond.methodLink RX5 75 yX5_firstNeed, Cond.instanceMethod yX5_firstNeed, Cond.selects RX5 yX5_firstNeed yX5_firstNeed, Cond.code yX5_firstNeed cX5_firstNeed 2 (some .int), Cond.methodLink RX5 63 yX5_areNeighbours, Cond.instanceMethod yX5_areNeighbours]
def wsX5_bestFeeder_r3 : List Cond := [Cond.selects RX5 yX5_areNeighbours yX5_areNeighbours, Cond.code yX5_areNeighbours cX5_areNeighbours 7 (some .boolean), Cond.methodLink RX5 85 yX5_excess, Cond.instanceMethod yX5_excess, Cond.selects RX5 yX5_excess yX5_excess, Cond.code yX5_excess cX5_excess 3 (some .int), Cond.methodLink RX5 79 yX5_pores, Cond.instanceMethod yX5_pores, Cond.selects RX5 yX5_pores yX5_pores, Cond.code yX5_pores cX5_pores 2 (some .int)]
def wsX5_bestFeeder : List Cond := .code yX5_bestFeeder cX5_bestFeeder 3 (some .int) :: ((wsX5_bestFeeder_r1 ++ (wsX5_bestFeeder_r2 ++ wsX5_bestFeeder_r3)) ++ wsX50)
def wsX5_excessesWith_r1 : List Cond := [Cond.fieldLink RX5 7 "CastingFeederModel" "row" "[I", Cond.methodLink RX5 55 yX5_of, Cond.instanceMethod yX5_of, Cond.selects RX5 yX5_of yX5_of, Cond.initialized RX5, Cond.code yX5_of cX5_of 3 (some .int), Cond.methodLink RX5 88 yX5_excesses, Cond.instanceMethod yX5_excesses, Cond.selects RX5 yX5_excesses yX5_excesses, Cond.code yX5_excesses cX5_excesses 3 (some .int), Cond.methodLink RX5 82 yX5_freezes, Cond.instanceMethod yX5_freezes, Cond.selects RX5 yX5_freezes yX5_freezes, Cond.code yX5_freezes cX5_freezes 4 none, Cond.fieldLink RX5 16 "CastingFeederModel" "step" "[I", Cond.fieldLink RX5 13 "CastingFeederModel" "order" "[I", Cond.fieldLink RX5 19 "CastingFeederModel" "need" "[I", Cond.fieldLink RX5 22 "CastingFeederModel" "fed" "[I", Cond.methodLink RX5 72 yX5_isBefore, Cond.instanceMethod yX5_isBefore, Cond.selects RX5 yX5_isBefore yX5_isBefore, Cond.code yX5_isBefore cX5_isBefore 5 (some .boolean), Cond.methodLink RX5 75 yX5_firstNeed, Cond.instanceMethod yX5_firstNeed]
def wsX5_excessesWith_r2 : List Cond := [Cond.selects RX5 yX5_firstNeed yX5_firstNeed, Cond.code yX5_firstNeed cX5_firstNeed 2 (some .int), Cond.methodLink RX5 63 yX5_areNeighbours, Cond.instanceMethod yX5_areNeighbours, Cond.selects RX5 yX5_areNeighbours yX5_areNeighbours, Cond.code yX5_areNeighbours cX5_areNeighbours 7 (some .boolean), Cond.methodLink RX5 85 yX5_excess, Cond.instanceMethod yX5_excess, Cond.selects RX5 yX5_excess yX5_excess, Cond.code yX5_excess cX5_excess 3 (some .int), Cond.methodLink RX5 79 yX5_pores, Cond.instanceMethod yX5_pores, Cond.selects RX5 yX5_pores yX5_pores, Cond.code yX5_pores cX5_pores 2 (some .int)]
def wsX5_excessesWith : List Cond := .code yX5_excessesWith cX5_excessesWith 5 (some .int) :: ((wsX5_excessesWith_r1 ++ wsX5_excessesWith_r2) ++ wsX50)
def wsX5_leastChill_r1 : List Cond := [Cond.methodLink RX5 51 yX5_isSection, Cond.instanceMethod yX5_isSection, Cond.selects RX5 yX5_isSection yX5_isSection, Cond.initialized RX5, Cond.code yX5_isSection cX5_isSection 2 (some .boolean), Cond.fieldLink RX5 7 "CastingFeederModel" "row" "[I", Cond.methodLink RX5 36 yX5_in, Cond.static yX5_in, Cond.code yX5_in cX5_in 3 (some .boolean), Cond.methodLink RX5 108 yX5_excessesWith, Cond.instanceMethod yX5_excessesWith, Cond.selects RX5 yX5_excessesWith yX5_excessesWith, Cond.code yX5_excessesWith cX5_excessesWith 5 (some .int), Cond.methodLink RX5 55 yX5_of, Cond.instanceMethod yX5_of, Cond.selects RX5 yX5_of yX5_of, Cond.code yX5_of cX5_of 3 (some .int), Cond.methodLink RX5 88 yX5_excesses, Cond.instanceMethod yX5_excesses, Cond.selects RX5 yX5_excesses yX5_excesses, Cond.code yX5_excesses cX5_excesses 3 (some .int), Cond.methodLink RX5 82 yX5_freezes, Cond.instanceMethod yX5_freezes, Cond.selects RX5 yX5_freezes yX5_freezes]
def wsX5_leastChill_r2 : List Cond := [Cond.code yX5_freezes cX5_freezes 4 none, Cond.fieldLink RX5 16 "CastingFeederModel" "step" "[I", Cond.fieldLink RX5 13 "CastingFeederModel" "order" "[I", Cond.fieldLink RX5 19 "CastingFeederModel" "need" "[I", Cond.fieldLink RX5 22 "CastingFeederModel" "fed" "[I", Cond.methodLink RX5 72 yX5_isBefore, Cond.instanceMethod yX5_isBefore, Cond.selects RX5 yX5_isBefore yX5_isBefore, Cond.code yX5_isBefore cX5_isBefore 5 (some .boolean), Cond.methodLink RX5 75 yX5_firstNeed, Cond.instanceMethod yX5_firstNeed, Cond.selects RX5 yX5_firstNeed yX5_firstNeed, Cond.code yX5_firstNeed cX5_firstNeed 2 (some .int), Cond.methodLink RX5 63 yX5_areNeighbours, Cond.instanceMethod yX5_areNeighbours, Cond.selects RX5 yX5_areNeighbours yX5_areNeighbours, Cond.code yX5_areNeighbours cX5_areNeighbours 7 (some .boolean), Cond.methodLink RX5 85 yX5_excess, Cond.instanceMethod yX5_excess, Cond.selects RX5 yX5_excess yX5_excess, Cond.code yX5_excess cX5_excess 3 (some .int), Cond.methodLink RX5 79 yX5_pores, Cond.instanceMethod yX5_pores, Cond.selects RX5 yX5_pores yX5_pores]
def wsX5_leastChill_r3 : List Cond := [Cond.code yX5_pores cX5_pores 2 (some .int)]
def wsX5_leastChill : List Cond := .code yX5_leastChill cX5_leastChill 3 (some .int) :: ((wsX5_leastChill_r1 ++ (wsX5_leastChill_r2 ++ wsX5_leastChill_r3)) ++ wsX50)
def wsX5_excessWith_r1 : List Cond := [Cond.methodLink RX5 51 yX5_isSection, Cond.instanceMethod yX5_isSection, Cond.selects RX5 yX5_isSection yX5_isSection, Cond.initialized RX5, Cond.code yX5_isSection cX5_isSection 2 (some .boolean), Cond.fieldLink RX5 7 "CastingFeederModel" "row" "[I", Cond.methodLink RX5 36 yX5_in, Cond.static yX5_in, Cond.code yX5_in cX5_in 3 (some .boolean), Cond.methodLink RX5 108 yX5_excessesWith, Cond.instanceMethod yX5_excessesWith, Cond.selects RX5 yX5_excessesWith yX5_excessesWith, Cond.code yX5_excessesWith cX5_excessesWith 5 (some .int), Cond.methodLink RX5 55 yX5_of, Cond.instanceMethod yX5_of, Cond.selects RX5 yX5_of yX5_of, Cond.code yX5_of cX5_of 3 (some .int), Cond.methodLink RX5 88 yX5_excesses, Cond.instanceMethod yX5_excesses, Cond.selects RX5 yX5_excesses yX5_excesses, Cond.code yX5_excesses cX5_excesses 3 (some .int), Cond.methodLink RX5 82 yX5_freezes, Cond.instanceMethod yX5_freezes, Cond.selects RX5 yX5_freezes yX5_freezes]
def wsX5_excessWith_r2 : List Cond := [Cond.code yX5_freezes cX5_freezes 4 none, Cond.fieldLink RX5 16 "CastingFeederModel" "step" "[I", Cond.fieldLink RX5 13 "CastingFeederModel" "order" "[I", Cond.fieldLink RX5 19 "CastingFeederModel" "need" "[I", Cond.fieldLink RX5 22 "CastingFeederModel" "fed" "[I", Cond.methodLink RX5 72 yX5_isBefore, Cond.instanceMethod yX5_isBefore, Cond.selects RX5 yX5_isBefore yX5_isBefore, Cond.code yX5_isBefore cX5_isBefore 5 (some .boolean), Cond.methodLink RX5 75 yX5_firstNeed, Cond.instanceMethod yX5_firstNeed, Cond.selects RX5 yX5_firstNeed yX5_firstNeed, Cond.code yX5_firstNeed cX5_firstNeed 2 (some .int), Cond.methodLink RX5 63 yX5_areNeighbours, Cond.instanceMethod yX5_areNeighbours, Cond.selects RX5 yX5_areNeighbours yX5_areNeighbours, Cond.code yX5_areNeighbours cX5_areNeighbours 7 (some .boolean), Cond.methodLink RX5 85 yX5_excess, Cond.instanceMethod yX5_excess, Cond.selects RX5 yX5_excess yX5_excess, Cond.code yX5_excess cX5_excess 3 (some .int), Cond.methodLink RX5 79 yX5_pores, Cond.instanceMethod yX5_pores, Cond.selects RX5 yX5_pores yX5_pores]
def wsX5_excessWith_r3 : List Cond := [Cond.code yX5_pores cX5_pores 2 (some .int)]
def wsX5_excessWith : List Cond := .code yX5_excessWith cX5_excessWith 3 (some .int) :: ((wsX5_excessWith_r1 ++ (wsX5_excessWith_r2 ++ wsX5_excessWith_r3)) ++ wsX50)
def wsX5_undo : List Cond := .code yX5_undo cX5_undo 1 (some .int) :: ([.fieldLink RX5 28 "CastingFeederModel" "saved" "I", .methodLink RX5 32 yX5_copies, .instanceMethod yX5_copies, .selects RX5 yX5_copies yX5_copies, .initialized RX5, .code yX5_copies cX5_copies 4 none, .fieldLink RX5 7 "CastingFeederModel" "row" "[I"] ++ wsX50)
def wsX5_type : List Cond := .code yX5_type cX5_type 2 (some .int) :: ([.fieldLink RX5 111 "CastingFeederModel" "length" "I", .fieldLink RX5 25 "CastingFeederModel" "text" "[I", .methodLink RX5 36 yX5_in, .static yX5_in, .initialized RX5, .code yX5_in cX5_in 3 (some .boolean)] ++ wsX50)
def wsX5_clearText : List Cond := .code yX5_clearText cX5_clearText 2 (some .int) :: ([.fieldLink RX5 111 "CastingFeederModel" "length" "I"] ++ wsX50)
def wsX5_here : List Cond := .code yX5_here cX5_here 1 (some .int) :: ([.fieldLink RX5 114 "CastingFeederModel" "at" "I", .fieldLink RX5 111 "CastingFeederModel" "length" "I", .fieldLink RX5 25 "CastingFeederModel" "text" "[I"] ++ wsX50)
def wsX5_sign : List Cond := .code yX5_sign cX5_sign 3 (some .boolean) :: ([.fieldLink RX5 114 "CastingFeederModel" "at" "I", .methodLink RX5 117 yX5_here, .instanceMethod yX5_here, .selects RX5 yX5_here yX5_here, .initialized RX5, .code yX5_here cX5_here 1 (some .int), .fieldLink RX5 111 "CastingFeederModel" "length" "I", .fieldLink RX5 25 "CastingFeederModel" "text" "[I"] ++ wsX50)
def wsX5_finds : List Cond := .code yX5_finds cX5_finds 6 (some .int) :: ([.fieldLink RX5 114 "CastingFeederModel" "at" "I", .fieldLink RX5 111 "CastingFeederModel" "length" "I", .fieldLink RX5 25 "CastingFeederModel" "text" "[I", .fieldLink RX5 120 "CastingFeederModel" "number" "I", .methodLink RX5 117 yX5_here, .instanceMethod yX5_here, .selects RX5 yX5_here yX5_here, .initialized RX5, .code yX5_here cX5_here 1 (some .int), .methodLink RX5 36 yX5_in, .static yX5_in, .code yX5_in cX5_in 3 (some .boolean)] ++ wsX50)
def wsX5_reads : List Cond := .code yX5_reads cX5_reads 4 (some .boolean) :: ([.fieldLink RX5 114 "CastingFeederModel" "at" "I", .methodLink RX5 123 yX5_finds, .instanceMethod yX5_finds, .selects RX5 yX5_finds yX5_finds, .initialized RX5, .code yX5_finds cX5_finds 6 (some .int), .fieldLink RX5 111 "CastingFeederModel" "length" "I", .fieldLink RX5 25 "CastingFeederModel" "text" "[I", .fieldLink RX5 120 "CastingFeederModel" "number" "I", .methodLink RX5 117 yX5_here, .instanceMethod yX5_here, .selects RX5 yX5_here yX5_here, .code yX5_here cX5_here 1 (some .int), .methodLink RX5 36 yX5_in, .static yX5_in, .code yX5_in cX5_in 3 (some .boolean)] ++ wsX50)
def wsX5_readsSection_r1 : List Cond := [Cond.fieldLink RX5 7 "CastingFeederModel" "row" "[I", Cond.fieldLink RX5 114 "CastingFeederModel" "at" "I", Cond.fieldLink RX5 120 "CastingFeederModel" "number" "I", Cond.methodLink RX5 126 yX5_reads, Cond.instanceMethod yX5_reads, Cond.selects RX5 yX5_reads yX5_reads, Cond.initialized RX5, Cond.code yX5_reads cX5_reads 4 (some .boolean), Cond.methodLink RX5 123 yX5_finds, Cond.instanceMethod yX5_finds, Cond.selects RX5 yX5_finds yX5_finds, Cond.code yX5_finds cX5_finds 6 (some .int), Cond.fieldLink RX5 111 "CastingFeederModel" "length" "I", Cond.fieldLink RX5 25 "CastingFeederModel" "text" "[I", Cond.methodLink RX5 117 yX5_here, Cond.instanceMethod yX5_here, Cond.selects RX5 yX5_here yX5_here, Cond.code yX5_here cX5_here 1 (some .int), Cond.methodLink RX5 36 yX5_in, Cond.static yX5_in, Cond.code yX5_in cX5_in 3 (some .boolean), Cond.methodLink RX5 129 yX5_sign, Cond.instanceMethod yX5_sign, Cond.selects RX5 yX5_sign yX5_sign]
def wsX5_readsSection_r2 : List Cond := [Cond.code yX5_sign cX5_sign 3 (some .boolean), Cond.methodLink RX5 47 yX5_lays, Cond.instanceMethod yX5_lays, Cond.selects RX5 yX5_lays yX5_lays, Cond.code yX5_lays cX5_lays 6 none]
def wsX5_readsSection : List Cond := .code yX5_readsSection cX5_readsSection 4 (some .boolean) :: ((wsX5_readsSection_r1 ++ wsX5_readsSection_r2) ++ wsX50)
def wsX5_readsJoint_r1 : List Cond := [Cond.fieldLink RX5 7 "CastingFeederModel" "row" "[I", Cond.fieldLink RX5 120 "CastingFeederModel" "number" "I", Cond.fieldLink RX5 114 "CastingFeederModel" "at" "I", Cond.methodLink RX5 126 yX5_reads, Cond.instanceMethod yX5_reads, Cond.selects RX5 yX5_reads yX5_reads, Cond.initialized RX5, Cond.code yX5_reads cX5_reads 4 (some .boolean), Cond.methodLink RX5 123 yX5_finds, Cond.instanceMethod yX5_finds, Cond.selects RX5 yX5_finds yX5_finds, Cond.code yX5_finds cX5_finds 6 (some .int), Cond.fieldLink RX5 111 "CastingFeederModel" "length" "I", Cond.fieldLink RX5 25 "CastingFeederModel" "text" "[I", Cond.methodLink RX5 117 yX5_here, Cond.instanceMethod yX5_here, Cond.selects RX5 yX5_here yX5_here, Cond.code yX5_here cX5_here 1 (some .int), Cond.methodLink RX5 36 yX5_in, Cond.static yX5_in, Cond.code yX5_in cX5_in 3 (some .boolean), Cond.methodLink RX5 129 yX5_sign, Cond.instanceMethod yX5_sign, Cond.selects RX5 yX5_sign yX5_sign]
def wsX5_readsJoint_r2 : List Cond := [Cond.code yX5_sign cX5_sign 3 (some .boolean), Cond.methodLink RX5 63 yX5_areNeighbours, Cond.instanceMethod yX5_areNeighbours, Cond.selects RX5 yX5_areNeighbours yX5_areNeighbours, Cond.code yX5_areNeighbours cX5_areNeighbours 7 (some .boolean), Cond.methodLink RX5 66 yX5_joins, Cond.instanceMethod yX5_joins, Cond.selects RX5 yX5_joins yX5_joins, Cond.code yX5_joins cX5_joins 3 none]
def wsX5_readsJoint : List Cond := .code yX5_readsJoint cX5_readsJoint 3 (some .boolean) :: ((wsX5_readsJoint_r1 ++ wsX5_readsJoint_r2) ++ wsX50)
def wsX5_readsItem_r1 : List Cond := [Cond.fieldLink RX5 132 "CastingFeederModel" "items" "I", Cond.methodLink RX5 117 yX5_here, Cond.instanceMethod yX5_here, Cond.selects RX5 yX5_here yX5_here, Cond.initialized RX5, Cond.code yX5_here cX5_here 1 (some .int), Cond.fieldLink RX5 114 "CastingFeederModel" "at" "I", Cond.fieldLink RX5 111 "CastingFeederModel" "length" "I", Cond.fieldLink RX5 25 "CastingFeederModel" "text" "[I", Cond.methodLink RX5 135 yX5_readsSection, Cond.instanceMethod yX5_readsSection, Cond.selects RX5 yX5_readsSection yX5_readsSection, Cond.code yX5_readsSection cX5_readsSection 4 (some .boolean), Cond.fieldLink RX5 7 "CastingFeederModel" "row" "[I", Cond.fieldLink RX5 120 "CastingFeederModel" "number" "I", Cond.methodLink RX5 126 yX5_reads, Cond.instanceMethod yX5_reads, Cond.selects RX5 yX5_reads yX5_reads, Cond.code yX5_reads cX5_reads 4 (some .boolean), Cond.methodLink RX5 123 yX5_finds, Cond.instanceMethod yX5_finds, Cond.selects RX5 yX5_finds yX5_finds, Cond.code yX5_finds cX5_finds 6 (some .int), Cond.methodLink RX5 36 yX5_in]
def wsX5_readsItem_r2 : List Cond := [Cond.static yX5_in, Cond.code yX5_in cX5_in 3 (some .boolean), Cond.methodLink RX5 129 yX5_sign, Cond.instanceMethod yX5_sign, Cond.selects RX5 yX5_sign yX5_sign, Cond.code yX5_sign cX5_sign 3 (some .boolean), Cond.methodLink RX5 47 yX5_lays, Cond.instanceMethod yX5_lays, Cond.selects RX5 yX5_lays yX5_lays, Cond.code yX5_lays cX5_lays 6 none, Cond.methodLink RX5 138 yX5_readsJoint, Cond.instanceMethod yX5_readsJoint, Cond.selects RX5 yX5_readsJoint yX5_readsJoint, Cond.code yX5_readsJoint cX5_readsJoint 3 (some .boolean), Cond.methodLink RX5 63 yX5_areNeighbours, Cond.instanceMethod yX5_areNeighbours, Cond.selects RX5 yX5_areNeighbours yX5_areNeighbours, Cond.code yX5_areNeighbours cX5_areNeighbours 7 (some .boolean), Cond.methodLink RX5 66 yX5_joins, Cond.instanceMethod yX5_joins, Cond.selects RX5 yX5_joins yX5_joins, Cond.code yX5_joins cX5_joins 3 none]
def wsX5_readsItem : List Cond := .code yX5_readsItem cX5_readsItem 2 (some .boolean) :: ((wsX5_readsItem_r1 ++ wsX5_readsItem_r2) ++ wsX50)
def wsX5_readsText_r1 : List Cond := [Cond.fieldLink RX5 114 "CastingFeederModel" "at" "I", Cond.fieldLink RX5 132 "CastingFeederModel" "items" "I", Cond.methodLink RX5 141 yX5_readsItem, Cond.instanceMethod yX5_readsItem, Cond.selects RX5 yX5_readsItem yX5_readsItem, Cond.initialized RX5, Cond.code yX5_readsItem cX5_readsItem 2 (some .boolean), Cond.methodLink RX5 117 yX5_here, Cond.instanceMethod yX5_here, Cond.selects RX5 yX5_here yX5_here, Cond.code yX5_here cX5_here 1 (some .int), Cond.fieldLink RX5 111 "CastingFeederModel" "length" "I", Cond.fieldLink RX5 25 "CastingFeederModel" "text" "[I", Cond.methodLink RX5 135 yX5_readsSection, Cond.instanceMethod yX5_readsSection, Cond.selects RX5 yX5_readsSection yX5_readsSection, Cond.code yX5_readsSection cX5_readsSection 4 (some .boolean), Cond.fieldLink RX5 7 "CastingFeederModel" "row" "[I", Cond.fieldLink RX5 120 "CastingFeederModel" "number" "I", Cond.methodLink RX5 126 yX5_reads, Cond.instanceMethod yX5_reads, Cond.selects RX5 yX5_reads yX5_reads, Cond.code yX5_reads cX5_reads 4 (some .boolean), Cond.methodLink RX5 123 yX5_finds]
def wsX5_readsText_r2 : List Cond := [Cond.instanceMethod yX5_finds, Cond.selects RX5 yX5_finds yX5_finds, Cond.code yX5_finds cX5_finds 6 (some .int), Cond.methodLink RX5 36 yX5_in, Cond.static yX5_in, Cond.code yX5_in cX5_in 3 (some .boolean), Cond.methodLink RX5 129 yX5_sign, Cond.instanceMethod yX5_sign, Cond.selects RX5 yX5_sign yX5_sign, Cond.code yX5_sign cX5_sign 3 (some .boolean), Cond.methodLink RX5 47 yX5_lays, Cond.instanceMethod yX5_lays, Cond.selects RX5 yX5_lays yX5_lays, Cond.code yX5_lays cX5_lays 6 none, Cond.methodLink RX5 138 yX5_readsJoint, Cond.instanceMethod yX5_readsJoint, Cond.selects RX5 yX5_readsJoint yX5_readsJoint, Cond.code yX5_readsJoint cX5_readsJoint 3 (some .boolean), Cond.methodLink RX5 63 yX5_areNeighbours, Cond.instanceMethod yX5_areNeighbours, Cond.selects RX5 yX5_areNeighbours yX5_areNeighbours, Cond.code yX5_areNeighbours cX5_areNeighbours 7 (some .boolean), Cond.methodLink RX5 66 yX5_joins, Cond.instanceMethod yX5_joins]
def wsX5_readsText_r3 : List Cond := [Cond.selects RX5 yX5_joins yX5_joins, Cond.code yX5_joins cX5_joins 3 none]
def wsX5_readsText : List Cond := .code yX5_readsText cX5_readsText 3 (some .boolean) :: ((wsX5_readsText_r1 ++ (wsX5_readsText_r2 ++ wsX5_readsText_r3)) ++ wsX50)
def wsX5_textFault_r1 : List Cond := [Cond.fieldLink RX5 114 "CastingFeederModel" "at" "I", Cond.methodLink RX5 32 yX5_copies, Cond.instanceMethod yX5_copies, Cond.selects RX5 yX5_copies yX5_copies, Cond.initialized RX5, Cond.code yX5_copies cX5_copies 4 none, Cond.fieldLink RX5 7 "CastingFeederModel" "row" "[I", Cond.methodLink RX5 144 yX5_readsText, Cond.instanceMethod yX5_readsText, Cond.selects RX5 yX5_readsText yX5_readsText, Cond.code yX5_readsText cX5_readsText 3 (some .boolean), Cond.fieldLink RX5 132 "CastingFeederModel" "items" "I", Cond.methodLink RX5 141 yX5_readsItem, Cond.instanceMethod yX5_readsItem, Cond.selects RX5 yX5_readsItem yX5_readsItem, Cond.code yX5_readsItem cX5_readsItem 2 (some .boolean), Cond.methodLink RX5 117 yX5_here, Cond.instanceMethod yX5_here, Cond.selects RX5 yX5_here yX5_here, Cond.code yX5_here cX5_here 1 (some .int), Cond.fieldLink RX5 111 "CastingFeederModel" "length" "I", Cond.fieldLink RX5 25 "CastingFeederModel" "text" "[I", Cond.methodLink RX5 135 yX5_readsSection, Cond.instanceMethod yX5_readsSection]
def wsX5_textFault_r2 : List Cond := [Cond.selects RX5 yX5_readsSection yX5_readsSection, Cond.code yX5_readsSection cX5_readsSection 4 (some .boolean), Cond.fieldLink RX5 120 "CastingFeederModel" "number" "I", Cond.methodLink RX5 126 yX5_reads, Cond.instanceMethod yX5_reads, Cond.selects RX5 yX5_reads yX5_reads, Cond.code yX5_reads cX5_reads 4 (some .boolean), Cond.methodLink RX5 123 yX5_finds, Cond.instanceMethod yX5_finds, Cond.selects RX5 yX5_finds yX5_finds, Cond.code yX5_finds cX5_finds 6 (some .int), Cond.methodLink RX5 36 yX5_in, Cond.static yX5_in, Cond.code yX5_in cX5_in 3 (some .boolean), Cond.methodLink RX5 129 yX5_sign, Cond.instanceMethod yX5_sign, Cond.selects RX5 yX5_sign yX5_sign, Cond.code yX5_sign cX5_sign 3 (some .boolean), Cond.methodLink RX5 47 yX5_lays, Cond.instanceMethod yX5_lays, Cond.selects RX5 yX5_lays yX5_lays, Cond.code yX5_lays cX5_lays 6 none, Cond.methodLink RX5 138 yX5_readsJoint, Cond.instanceMethod yX5_readsJoint]
def wsX5_textFault_r3 : List Cond := [Cond.selects RX5 yX5_readsJoint yX5_readsJoint, Cond.code yX5_readsJoint cX5_readsJoint 3 (some .boolean), Cond.methodLink RX5 63 yX5_areNeighbours, Cond.instanceMethod yX5_areNeighbours, Cond.selects RX5 yX5_areNeighbours yX5_areNeighbours, Cond.code yX5_areNeighbours cX5_areNeighbours 7 (some .boolean), Cond.methodLink RX5 66 yX5_joins, Cond.instanceMethod yX5_joins, Cond.selects RX5 yX5_joins yX5_joins, Cond.code yX5_joins cX5_joins 3 none]
def wsX5_textFault : List Cond := .code yX5_textFault cX5_textFault 2 (some .int) :: ((wsX5_textFault_r1 ++ (wsX5_textFault_r2 ++ wsX5_textFault_r3)) ++ wsX50)
def wsX5_load_r1 : List Cond := [Cond.fieldLink RX5 132 "CastingFeederModel" "items" "I", Cond.methodLink RX5 147 yX5_textFault, Cond.instanceMethod yX5_textFault, Cond.selects RX5 yX5_textFault yX5_textFault, Cond.initialized RX5, Cond.code yX5_textFault cX5_textFault 2 (some .int), Cond.fieldLink RX5 114 "CastingFeederModel" "at" "I", Cond.methodLink RX5 32 yX5_copies, Cond.instanceMethod yX5_copies, Cond.selects RX5 yX5_copies yX5_copies, Cond.code yX5_copies cX5_copies 4 none, Cond.fieldLink RX5 7 "CastingFeederModel" "row" "[I", Cond.methodLink RX5 144 yX5_readsText, Cond.instanceMethod yX5_readsText, Cond.selects RX5 yX5_readsText yX5_readsText, Cond.code yX5_readsText cX5_readsText 3 (some .boolean), Cond.methodLink RX5 141 yX5_readsItem, Cond.instanceMethod yX5_readsItem, Cond.selects RX5 yX5_readsItem yX5_readsItem, Cond.code yX5_readsItem cX5_readsItem 2 (some .boolean), Cond.methodLink RX5 117 yX5_here, Cond.instanceMethod yX5_here, Cond.selects RX5 yX5_here yX5_here, Cond.code yX5_here cX5_here 1 (some .int)]
def wsX5_load_r2 : List Cond := [Cond.fieldLink RX5 111 "CastingFeederModel" "length" "I", Cond.fieldLink RX5 25 "CastingFeederModel" "text" "[I", Cond.methodLink RX5 135 yX5_readsSection, Cond.instanceMethod yX5_readsSection, Cond.selects RX5 yX5_readsSection yX5_readsSection, Cond.code yX5_readsSection cX5_readsSection 4 (some .boolean), Cond.fieldLink RX5 120 "CastingFeederModel" "number" "I", Cond.methodLink RX5 126 yX5_reads, Cond.instanceMethod yX5_reads, Cond.selects RX5 yX5_reads yX5_reads, Cond.code yX5_reads cX5_reads 4 (some .boolean), Cond.methodLink RX5 123 yX5_finds, Cond.instanceMethod yX5_finds, Cond.selects RX5 yX5_finds yX5_finds, Cond.code yX5_finds cX5_finds 6 (some .int), Cond.methodLink RX5 36 yX5_in, Cond.static yX5_in, Cond.code yX5_in cX5_in 3 (some .boolean), Cond.methodLink RX5 129 yX5_sign, Cond.instanceMethod yX5_sign, Cond.selects RX5 yX5_sign yX5_sign, Cond.code yX5_sign cX5_sign 3 (some .boolean), Cond.methodLink RX5 47 yX5_lays, Cond.instanceMethod yX5_lays]
def wsX5_load_r3 : List Cond := [Cond.selects RX5 yX5_lays yX5_lays, Cond.code yX5_lays cX5_lays 6 none, Cond.methodLink RX5 138 yX5_readsJoint, Cond.instanceMethod yX5_readsJoint, Cond.selects RX5 yX5_readsJoint yX5_readsJoint, Cond.code yX5_readsJoint cX5_readsJoint 3 (some .boolean), Cond.methodLink RX5 63 yX5_areNeighbours, Cond.instanceMethod yX5_areNeighbours, Cond.selects RX5 yX5_areNeighbours yX5_areNeighbours, Cond.code yX5_areNeighbours cX5_areNeighbours 7 (some .boolean), Cond.methodLink RX5 66 yX5_joins, Cond.instanceMethod yX5_joins, Cond.selects RX5 yX5_joins yX5_joins, Cond.code yX5_joins cX5_joins 3 none, Cond.methodLink RX5 44 yX5_saves, Cond.instanceMethod yX5_saves, Cond.selects RX5 yX5_saves yX5_saves, Cond.code yX5_saves cX5_saves 2 none, Cond.fieldLink RX5 28 "CastingFeederModel" "saved" "I"]
def wsX5_load : List Cond := .code yX5_load cX5_load 2 (some .int) :: ((wsX5_load_r1 ++ (wsX5_load_r2 ++ wsX5_load_r3)) ++ wsX50)
def wsX5_note : List Cond := .code yX5_note cX5_note 2 none :: ([.constantLong RX5 150 (31), .fieldLink RX5 152 "CastingFeederModel" "h" "J"] ++ wsX50)
def wsX5_digest_r1 : List Cond := [Cond.constantLong RX5 156 (17), Cond.fieldLink RX5 152 "CastingFeederModel" "h" "J", Cond.fieldLink RX5 7 "CastingFeederModel" "row" "[I", Cond.methodLink RX5 158 yX5_count, Cond.instanceMethod yX5_count, Cond.selects RX5 yX5_count yX5_count, Cond.initialized RX5, Cond.code yX5_count cX5_count 5 (some .int), Cond.fieldLink RX5 22 "CastingFeederModel" "fed" "[I", Cond.methodLink RX5 36 yX5_in, Cond.static yX5_in, Cond.code yX5_in cX5_in 3 (some .boolean), Cond.methodLink RX5 88 yX5_excesses, Cond.instanceMethod yX5_excesses, Cond.selects RX5 yX5_excesses yX5_excesses, Cond.code yX5_excesses cX5_excesses 3 (some .int), Cond.methodLink RX5 82 yX5_freezes, Cond.instanceMethod yX5_freezes, Cond.selects RX5 yX5_freezes yX5_freezes, Cond.code yX5_freezes cX5_freezes 4 none, Cond.fieldLink RX5 16 "CastingFeederModel" "step" "[I", Cond.fieldLink RX5 13 "CastingFeederModel" "order" "[I", Cond.fieldLink RX5 19 "CastingFeederModel" "need" "[I", Cond.methodLink RX5 72 yX5_isBefore]
def wsX5_digest_r2 : List Cond := [Cond.instanceMethod yX5_isBefore, Cond.selects RX5 yX5_isBefore yX5_isBefore, Cond.code yX5_isBefore cX5_isBefore 5 (some .boolean), Cond.methodLink RX5 55 yX5_of, Cond.instanceMethod yX5_of, Cond.selects RX5 yX5_of yX5_of, Cond.code yX5_of cX5_of 3 (some .int), Cond.methodLink RX5 75 yX5_firstNeed, Cond.instanceMethod yX5_firstNeed, Cond.selects RX5 yX5_firstNeed yX5_firstNeed, Cond.code yX5_firstNeed cX5_firstNeed 2 (some .int), Cond.methodLink RX5 63 yX5_areNeighbours, Cond.instanceMethod yX5_areNeighbours, Cond.selects RX5 yX5_areNeighbours yX5_areNeighbours, Cond.code yX5_areNeighbours cX5_areNeighbours 7 (some .boolean), Cond.methodLink RX5 85 yX5_excess, Cond.instanceMethod yX5_excess, Cond.selects RX5 yX5_excess yX5_excess, Cond.code yX5_excess cX5_excess 3 (some .int), Cond.methodLink RX5 79 yX5_pores, Cond.instanceMethod yX5_pores, Cond.selects RX5 yX5_pores yX5_pores, Cond.code yX5_pores cX5_pores 2 (some .int), Cond.methodLink RX5 92 yX5_yields]
def wsX5_digest_r3 : List Cond := [Cond.instanceMethod yX5_yields, Cond.selects RX5 yX5_yields yX5_yields, Cond.code yX5_yields cX5_yields 4 (some .int), Cond.methodLink RX5 161 yX5_note, Cond.instanceMethod yX5_note, Cond.selects RX5 yX5_note yX5_note, Cond.code yX5_note cX5_note 2 none, Cond.constantLong RX5 150 (31), Cond.methodLink RX5 95 yX5_property, Cond.instanceMethod yX5_property, Cond.selects RX5 yX5_property yX5_property, Cond.code yX5_property cX5_property 5 (some .int)]
def wsX5_digest : List Cond := .code yX5_digest cX5_digest 3 (some .long) :: ((wsX5_digest_r1 ++ (wsX5_digest_r2 ++ wsX5_digest_r3)) ++ wsX50)
def wsJ9_max_7cf53 : List Cond := .code yJ9_max_7cf53 cJ9_max_7cf53 2 (some .int) :: ([])
def wsJ9_min_7cf53 : List Cond := .code yJ9_min_7cf53 cJ9_min_7cf53 2 (some .int) :: ([])
abbrev vwCl : List vw_C := [(RX0, TX0, 10), (RX1, TX1, 7), (RX2, TX2, 2), (RX3, TX3, 5), (RX4, TX4, 6), (RX5, TX5, 12)]
end
section
theorem dX0_init_0 : decode cX0_init 0 = .ok (.aload_n 0, 1) := by decide +kernel
theorem dX0_init_1 : decode cX0_init 1 = .ok (.invokespecial 3, 3) := by decide +kernel
theorem dX0_init_4 : decode cX0_init 4 = .ok (.aload_n 0, 1) := by decide +kernel
theorem dX0_init_5 : decode cX0_init 5 = .ok (.iconst 0, 1) := by decide +kernel
theorem dX0_init_6 : decode cX0_init 6 = .ok (.putfield 9, 3) := by decide +kernel
theorem dX0_init_9 : decode cX0_init 9 = .ok (.aload_n 0, 1) := by decide +kernel
theorem dX0_init_10 : decode cX0_init 10 = .ok (.iconst 0, 1) := by decide +kernel
theorem dX0_init_11 : decode cX0_init 11 = .ok (.putfield 15, 3) := by decide +kernel
theorem dX0_init_14 : decode cX0_init 14 = .ok (.aload_n 0, 1) := by decide +kernel
theorem dX0_init_15 : decode cX0_init 15 = .ok (.bipush 50, 2) := by decide +kernel
theorem dX0_init_17 : decode cX0_init 17 = .ok (.putfield 18, 3) := by decide +kernel
theorem dX0_init_20 : decode cX0_init 20 = .ok (.aload_n 0, 1) := by decide +kernel
theorem dX0_init_21 : decode cX0_init 21 = .ok (.sipush 140, 3) := by decide +kernel
theorem dX0_init_24 : decode cX0_init 24 = .ok (.putfield 21, 3) := by decide +kernel
theorem dX0_init_27 : decode cX0_init 27 = .ok (.aload_n 0, 1) := by decide +kernel
theorem dX0_init_28 : decode cX0_init 28 = .ok (.bipush 12, 2) := by decide +kernel
theorem dX0_init_30 : decode cX0_init 30 = .ok (.newarray .int, 2) := by decide +kernel
theorem dX0_init_32 : decode cX0_init 32 = .ok (.putfield 24, 3) := by decide +kernel
theorem dX0_init_35 : decode cX0_init 35 = .ok (.aload_n 0, 1) := by decide +kernel
theorem dX0_init_36 : decode cX0_init 36 = .ok (.bipush 12, 2) := by decide +kernel
theorem dX0_init_38 : decode cX0_init 38 = .ok (.newarray .int, 2) := by decide +kernel
theorem dX0_init_40 : decode cX0_init 40 = .ok (.putfield 28, 3) := by decide +kernel
theorem dX0_init_43 : decode cX0_init 43 = .ok (.aload_n 0, 1) := by decide +kernel
theorem dX0_init_44 : decode cX0_init 44 = .ok (.bipush 12, 2) := by decide +kernel
theorem dX0_init_46 : decode cX0_init 46 = .ok (.newarray .int, 2) := by decide +kernel
theorem dX0_init_48 : decode cX0_init 48 = .ok (.putfield 31, 3) := by decide +kernel
theorem dX0_init_51 : decode cX0_init 51 = .ok (.aload_n 0, 1) := by decide +kernel
theorem dX0_init_52 : decode cX0_init 52 = .ok (.bipush 12, 2) := by decide +kernel
theorem dX0_init_54 : decode cX0_init 54 = .ok (.newarray .boolean, 2) := by decide +kernel
theorem dX0_init_56 : decode cX0_init 56 = .ok (.putfield 34, 3) := by decide +kernel
theorem dX0_init_59 : decode cX0_init 59 = .ok (.aload_n 0, 1) := by decide +kernel
theorem dX0_init_60 : decode cX0_init 60 = .ok (.bipush 20, 2) := by decide +kernel
theorem dX0_init_62 : decode cX0_init 62 = .ok (.newarray .int, 2) := by decide +kernel
theorem dX0_init_64 : decode cX0_init 64 = .ok (.putfield 38, 3) := by decide +kernel
theorem dX0_init_67 : decode cX0_init 67 = .ok (.aload_n 0, 1) := by decide +kernel
theorem dX0_init_68 : decode cX0_init 68 = .ok (.bipush 20, 2) := by decide +kernel
theorem dX0_init_70 : decode cX0_init 70 = .ok (.newarray .int, 2) := by decide +kernel
theorem dX0_init_72 : decode cX0_init 72 = .ok (.putfield 41, 3) := by decide +kernel
theorem dX0_init_75 : decode cX0_init 75 = .ok (.return_, 1) := by decide +kernel
theorem dX0_copyFrom_0 : decode cX0_copyFrom 0 = .ok (.aload_n 0, 1) := by decide +kernel
theorem dX0_copyFrom_1 : decode cX0_copyFrom 1 = .ok (.aload_n 1, 1) := by decide +kernel
theorem dX0_copyFrom_2 : decode cX0_copyFrom 2 = .ok (.getfield 9, 3) := by decide +kernel
theorem dX0_copyFrom_5 : decode cX0_copyFrom 5 = .ok (.putfield 9, 3) := by decide +kernel
theorem dX0_copyFrom_8 : decode cX0_copyFrom 8 = .ok (.aload_n 0, 1) := by decide +kernel
theorem dX0_copyFrom_9 : decode cX0_copyFrom 9 = .ok (.aload_n 1, 1) := by decide +kernel
theorem dX0_copyFrom_10 : decode cX0_copyFrom 10 = .ok (.getfield 15, 3) := by decide +kernel
theorem dX0_copyFrom_13 : decode cX0_copyFrom 13 = .ok (.putfield 15, 3) := by decide +kernel
theorem dX0_copyFrom_16 : decode cX0_copyFrom 16 = .ok (.aload_n 0, 1) := by decide +kernel
theorem dX0_copyFrom_17 : decode cX0_copyFrom 17 = .ok (.aload_n 1, 1) := by decide +kernel
theorem dX0_copyFrom_18 : decode cX0_copyFrom 18 = .ok (.getfield 18, 3) := by decide +kernel
theorem dX0_copyFrom_21 : decode cX0_copyFrom 21 = .ok (.putfield 18, 3) := by decide +kernel
theorem dX0_copyFrom_24 : decode cX0_copyFrom 24 = .ok (.aload_n 0, 1) := by decide +kernel
theorem dX0_copyFrom_25 : decode cX0_copyFrom 25 = .ok (.aload_n 1, 1) := by decide +kernel
theorem dX0_copyFrom_26 : decode cX0_copyFrom 26 = .ok (.getfield 21, 3) := by decide +kernel
theorem dX0_copyFrom_29 : decode cX0_copyFrom 29 = .ok (.putfield 21, 3) := by decide +kernel
theorem dX0_copyFrom_32 : decode cX0_copyFrom 32 = .ok (.iconst 0, 1) := by decide +kernel
theorem dX0_copyFrom_33 : decode cX0_copyFrom 33 = .ok (.istore_n 2, 1) := by decide +kernel
theorem dX0_copyFrom_34 : decode cX0_copyFrom 34 = .ok (.iload_n 2, 1) := by decide +kernel
theorem dX0_copyFrom_35 : decode cX0_copyFrom 35 = .ok (.bipush 12, 2) := by decide +kernel
theorem dX0_copyFrom_37 : decode cX0_copyFrom 37 = .ok (.if_icmp .ge 57, 3) := by decide +kernel
theorem dX0_copyFrom_40 : decode cX0_copyFrom 40 = .ok (.aload_n 0, 1) := by decide +kernel
theorem dX0_copyFrom_41 : decode cX0_copyFrom 41 = .ok (.getfield 24, 3) := by decide +kernel
theorem dX0_copyFrom_44 : decode cX0_copyFrom 44 = .ok (.iload_n 2, 1) := by decide +kernel
theorem dX0_copyFrom_45 : decode cX0_copyFrom 45 = .ok (.aload_n 1, 1) := by decide +kernel
theorem dX0_copyFrom_46 : decode cX0_copyFrom 46 = .ok (.getfield 24, 3) := by decide +kernel
theorem dX0_copyFrom_49 : decode cX0_copyFrom 49 = .ok (.iload_n 2, 1) := by decide +kernel
theorem dX0_copyFrom_50 : decode cX0_copyFrom 50 = .ok (.iaload, 1) := by decide +kernel
theorem dX0_copyFrom_51 : decode cX0_copyFrom 51 = .ok (.iastore, 1) := by decide +kernel
theorem dX0_copyFrom_52 : decode cX0_copyFrom 52 = .ok (.aload_n 0, 1) := by decide +kernel
theorem dX0_copyFrom_53 : decode cX0_copyFrom 53 = .ok (.getfield 28, 3) := by decide +kernel
theorem dX0_copyFrom_56 : decode cX0_copyFrom 56 = .ok (.iload_n 2, 1) := by decide +kernel
theorem dX0_copyFrom_57 : decode cX0_copyFrom 57 = .ok (.aload_n 1, 1) := by decide +kernel
theorem dX0_copyFrom_58 : decode cX0_copyFrom 58 = .ok (.getfield 28, 3) := by decide +kernel
theorem dX0_copyFrom_61 : decode cX0_copyFrom 61 = .ok (.iload_n 2, 1) := by decide +kernel
theorem dX0_copyFrom_62 : decode cX0_copyFrom 62 = .ok (.iaload, 1) := by decide +kernel
theorem dX0_copyFrom_63 : decode cX0_copyFrom 63 = .ok (.iastore, 1) := by decide +kernel
theorem dX0_copyFrom_64 : decode cX0_copyFrom 64 = .ok (.aload_n 0, 1) := by decide +kernel
theorem dX0_copyFrom_65 : decode cX0_copyFrom 65 = .ok (.getfield 31, 3) := by decide +kernel
theorem dX0_copyFrom_68 : decode cX0_copyFrom 68 = .ok (.iload_n 2, 1) := by decide +kernel
theorem dX0_copyFrom_69 : decode cX0_copyFrom 69 = .ok (.aload_n 1, 1) := by decide +kernel
theorem dX0_copyFrom_70 : decode cX0_copyFrom 70 = .ok (.getfield 31, 3) := by decide +kernel
theorem dX0_copyFrom_73 : decode cX0_copyFrom 73 = .ok (.iload_n 2, 1) := by decide +kernel
theorem dX0_copyFrom_74 : decode cX0_copyFrom 74 = .ok (.iaload, 1) := by decide +kernel
theorem dX0_copyFrom_75 : decode cX0_copyFrom 75 = .ok (.iastore, 1) := by decide +kernel
theorem dX0_copyFrom_76 : decode cX0_copyFrom 76 = .ok (.aload_n 0, 1) := by decide +kernel
theorem dX0_copyFrom_77 : decode cX0_copyFrom 77 = .ok (.getfield 34, 3) := by decide +kernel
theorem dX0_copyFrom_80 : decode cX0_copyFrom 80 = .ok (.iload_n 2, 1) := by decide +kernel
theorem dX0_copyFrom_81 : decode cX0_copyFrom 81 = .ok (.aload_n 1, 1) := by decide +kernel
theorem dX0_copyFrom_82 : decode cX0_copyFrom 82 = .ok (.getfield 34, 3) := by decide +kernel
theorem dX0_copyFrom_85 : decode cX0_copyFrom 85 = .ok (.iload_n 2, 1) := by decide +kernel
theorem dX0_copyFrom_86 : decode cX0_copyFrom 86 = .ok (.baload, 1) := by decide +kernel
theorem dX0_copyFrom_87 : decode cX0_copyFrom 87 = .ok (.bastore, 1) := by decide +kernel
theorem dX0_copyFrom_88 : decode cX0_copyFrom 88 = .ok (.iinc 2 1, 3) := by decide +kernel
theorem dX0_copyFrom_91 : decode cX0_copyFrom 91 = .ok (.goto (-57), 3) := by decide +kernel
theorem dX0_copyFrom_94 : decode cX0_copyFrom 94 = .ok (.iconst 0, 1) := by decide +kernel
theorem dX0_copyFrom_95 : decode cX0_copyFrom 95 = .ok (.istore_n 2, 1) := by decide +kernel
theorem dX0_copyFrom_96 : decode cX0_copyFrom 96 = .ok (.iload_n 2, 1) := by decide +kernel
theorem dX0_copyFrom_97 : decode cX0_copyFrom 97 = .ok (.bipush 20, 2) := by decide +kernel
theorem dX0_copyFrom_99 : decode cX0_copyFrom 99 = .ok (.if_icmp .ge 33, 3) := by decide +kernel
theorem dX0_copyFrom_102 : decode cX0_copyFrom 102 = .ok (.aload_n 0, 1) := by decide +kernel
theorem dX0_copyFrom_103 : decode cX0_copyFrom 103 = .ok (.getfield 38, 3) := by decide +kernel
theorem dX0_copyFrom_106 : decode cX0_copyFrom 106 = .ok (.iload_n 2, 1) := by decide +kernel
theorem dX0_copyFrom_107 : decode cX0_copyFrom 107 = .ok (.aload_n 1, 1) := by decide +kernel
theorem dX0_copyFrom_108 : decode cX0_copyFrom 108 = .ok (.getfield 38, 3) := by decide +kernel
theorem dX0_copyFrom_111 : decode cX0_copyFrom 111 = .ok (.iload_n 2, 1) := by decide +kernel
theorem dX0_copyFrom_112 : decode cX0_copyFrom 112 = .ok (.iaload, 1) := by decide +kernel
theorem dX0_copyFrom_113 : decode cX0_copyFrom 113 = .ok (.iastore, 1) := by decide +kernel
theorem dX0_copyFrom_114 : decode cX0_copyFrom 114 = .ok (.aload_n 0, 1) := by decide +kernel
theorem dX0_copyFrom_115 : decode cX0_copyFrom 115 = .ok (.getfield 41, 3) := by decide +kernel
theorem dX0_copyFrom_118 : decode cX0_copyFrom 118 = .ok (.iload_n 2, 1) := by decide +kernel
theorem dX0_copyFrom_119 : decode cX0_copyFrom 119 = .ok (.aload_n 1, 1) := by decide +kernel
theorem dX0_copyFrom_120 : decode cX0_copyFrom 120 = .ok (.getfield 41, 3) := by decide +kernel
theorem dX0_copyFrom_123 : decode cX0_copyFrom 123 = .ok (.iload_n 2, 1) := by decide +kernel
theorem dX0_copyFrom_124 : decode cX0_copyFrom 124 = .ok (.iaload, 1) := by decide +kernel
theorem dX0_copyFrom_125 : decode cX0_copyFrom 125 = .ok (.iastore, 1) := by decide +kernel
theorem dX0_copyFrom_126 : decode cX0_copyFrom 126 = .ok (.iinc 2 1, 3) := by decide +kernel
theorem dX0_copyFrom_129 : decode cX0_copyFrom 129 = .ok (.goto (-33), 3) := by decide +kernel
theorem dX0_copyFrom_132 : decode cX0_copyFrom 132 = .ok (.return_, 1) := by decide +kernel
theorem dX0_has_0 : decode cX0_has 0 = .ok (.iload_n 1, 1) := by decide +kernel
theorem dX0_has_1 : decode cX0_has 1 = .ok (.ifCond .lt 15, 3) := by decide +kernel
theorem dX0_has_4 : decode cX0_has 4 = .ok (.iload_n 1, 1) := by decide +kernel
theorem dX0_has_5 : decode cX0_has 5 = .ok (.aload_n 0, 1) := by decide +kernel
theorem dX0_has_6 : decode cX0_has 6 = .ok (.getfield 9, 3) := by decide +kernel
theorem dX0_has_9 : decode cX0_has 9 = .ok (.if_icmp .ge 7, 3) := by decide +kernel
theorem dX0_has_12 : decode cX0_has 12 = .ok (.iconst 1, 1) := by decide +kernel
theorem dX0_has_13 : decode cX0_has 13 = .ok (.goto 4, 3) := by decide +kernel
theorem dX0_has_16 : decode cX0_has 16 = .ok (.iconst 0, 1) := by decide +kernel
theorem dX0_has_17 : decode cX0_has 17 = .ok (.ireturn, 1) := by decide +kernel
theorem dX0_hasJoint_0 : decode cX0_hasJoint 0 = .ok (.iload_n 1, 1) := by decide +kernel
theorem dX0_hasJoint_1 : decode cX0_hasJoint 1 = .ok (.ifCond .lt 15, 3) := by decide +kernel
theorem dX0_hasJoint_4 : decode cX0_hasJoint 4 = .ok (.iload_n 1, 1) := by decide +kernel
theorem dX0_hasJoint_5 : decode cX0_hasJoint 5 = .ok (.aload_n 0, 1) := by decide +kernel
theorem dX0_hasJoint_6 : decode cX0_hasJoint 6 = .ok (.getfield 15, 3) := by decide +kernel
theorem dX0_hasJoint_9 : decode cX0_hasJoint 9 = .ok (.if_icmp .ge 7, 3) := by decide +kernel
theorem dX0_hasJoint_12 : decode cX0_hasJoint 12 = .ok (.iconst 1, 1) := by decide +kernel
theorem dX0_hasJoint_13 : decode cX0_hasJoint 13 = .ok (.goto 4, 3) := by decide +kernel
theorem dX0_hasJoint_16 : decode cX0_hasJoint 16 = .ok (.iconst 0, 1) := by decide +kernel
theorem dX0_hasJoint_17 : decode cX0_hasJoint 17 = .ok (.ireturn, 1) := by decide +kernel
theorem dX0_hasRoomForSection_0 : decode cX0_hasRoomForSection 0 = .ok (.aload_n 0, 1) := by decide +kernel
theorem dX0_hasRoomForSection_1 : decode cX0_hasRoomForSection 1 = .ok (.getfield 9, 3) := by decide +kernel
theorem dX0_hasRoomForSection_4 : decode cX0_hasRoomForSection 4 = .ok (.bipush 12, 2) := by decide +kernel
theorem dX0_hasRoomForSection_6 : decode cX0_hasRoomForSection 6 = .ok (.if_icmp .ge 7, 3) := by decide +kernel
theorem dX0_hasRoomForSection_9 : decode cX0_hasRoomForSection 9 = .ok (.iconst 1, 1) := by decide +kernel
theorem dX0_hasRoomForSection_10 : decode cX0_hasRoomForSection 10 = .ok (.goto 4, 3) := by decide +kernel
theorem dX0_hasRoomForSection_13 : decode cX0_hasRoomForSection 13 = .ok (.iconst 0, 1) := by decide +kernel
theorem dX0_hasRoomForSection_14 : decode cX0_hasRoomForSection 14 = .ok (.ireturn, 1) := by decide +kernel
theorem dX0_hasRoomForJoint_0 : decode cX0_hasRoomForJoint 0 = .ok (.aload_n 0, 1) := by decide +kernel
theorem dX0_hasRoomForJoint_1 : decode cX0_hasRoomForJoint 1 = .ok (.getfield 15, 3) := by decide +kernel
theorem dX0_hasRoomForJoint_4 : decode cX0_hasRoomForJoint 4 = .ok (.bipush 20, 2) := by decide +kernel
theorem dX0_hasRoomForJoint_6 : decode cX0_hasRoomForJoint 6 = .ok (.if_icmp .ge 7, 3) := by decide +kernel
theorem dX0_hasRoomForJoint_9 : decode cX0_hasRoomForJoint 9 = .ok (.iconst 1, 1) := by decide +kernel
theorem dX0_hasRoomForJoint_10 : decode cX0_hasRoomForJoint 10 = .ok (.goto 4, 3) := by decide +kernel
theorem dX0_hasRoomForJoint_13 : decode cX0_hasRoomForJoint 13 = .ok (.iconst 0, 1) := by decide +kernel
theorem dX0_hasRoomForJoint_14 : decode cX0_hasRoomForJoint 14 = .ok (.ireturn, 1) := by decide +kernel
set_option maxRecDepth 20000 in
theorem ggX0_isFeeder_X0_has : GoodIn wsX0_isFeeder wsX0_has := goodIn_r _ [6, 7, 8, 9, 10, 11, 12, 13, 14, 15, 16, 17] (by decide +kernel) (by decide +kernel)
set_option maxRecDepth 20000 in
theorem gX0_isFeeder_X0_has : GoodIn wsX0_isFeeder (wsV RX0 44 RX0 yX0_has wsX0_has) := goodIn_app (goodIn_of _ (by decide +kernel)) ggX0_isFeeder_X0_has
theorem dX0_isFeeder_0 : decode cX0_isFeeder 0 = .ok (.aload_n 0, 1) := by decide +kernel
theorem dX0_isFeeder_1 : decode cX0_isFeeder 1 = .ok (.iload_n 1, 1) := by decide +kernel
theorem dX0_isFeeder_2 : decode cX0_isFeeder 2 = .ok (.invokevirtual 44, 3) := by decide +kernel
theorem dX0_isFeeder_5 : decode cX0_isFeeder 5 = .ok (.ifCond .eq 16, 3) := by decide +kernel
theorem dX0_isFeeder_8 : decode cX0_isFeeder 8 = .ok (.aload_n 0, 1) := by decide +kernel
theorem dX0_isFeeder_9 : decode cX0_isFeeder 9 = .ok (.getfield 34, 3) := by decide +kernel
theorem dX0_isFeeder_12 : decode cX0_isFeeder 12 = .ok (.iload_n 1, 1) := by decide +kernel
theorem dX0_isFeeder_13 : decode cX0_isFeeder 13 = .ok (.baload, 1) := by decide +kernel
theorem dX0_isFeeder_14 : decode cX0_isFeeder 14 = .ok (.ifCond .eq 7, 3) := by decide +kernel
theorem dX0_isFeeder_17 : decode cX0_isFeeder 17 = .ok (.iconst 1, 1) := by decide +kernel
theorem dX0_isFeeder_18 : decode cX0_isFeeder 18 = .ok (.goto 4, 3) := by decide +kernel
theorem dX0_isFeeder_21 : decode cX0_isFeeder 21 = .ok (.iconst 0, 1) := by decide +kernel
theorem dX0_isFeeder_22 : decode cX0_isFeeder 22 = .ok (.ireturn, 1) := by decide +kernel
set_option maxRecDepth 20000 in
theorem ggX0_cooledArea_X4_at : GoodIn wsX0_cooledArea wsX4_at := goodIn_r _ [5] (by decide +kernel) (by decide +kernel)
set_option maxRecDepth 20000 in
theorem gX0_cooledArea_X4_at_n48 : GoodIn wsX0_cooledArea (wsX4_at) := ggX0_cooledArea_X4_at
theorem dX0_cooledArea_0 : decode cX0_cooledArea 0 = .ok (.aload_n 0, 1) := by decide +kernel
theorem dX0_cooledArea_1 : decode cX0_cooledArea 1 = .ok (.getfield 28, 3) := by decide +kernel
theorem dX0_cooledArea_4 : decode cX0_cooledArea 4 = .ok (.iload_n 1, 1) := by decide +kernel
theorem dX0_cooledArea_5 : decode cX0_cooledArea 5 = .ok (.invokestatic 48, 3) := by decide +kernel
theorem dX0_cooledArea_8 : decode cX0_cooledArea 8 = .ok (.aload_n 0, 1) := by decide +kernel
theorem dX0_cooledArea_9 : decode cX0_cooledArea 9 = .ok (.getfield 31, 3) := by decide +kernel
theorem dX0_cooledArea_12 : decode cX0_cooledArea 12 = .ok (.iload_n 1, 1) := by decide +kernel
theorem dX0_cooledArea_13 : decode cX0_cooledArea 13 = .ok (.invokestatic 48, 3) := by decide +kernel
theorem dX0_cooledArea_16 : decode cX0_cooledArea 16 = .ok (.iadd, 1) := by decide +kernel
theorem dX0_cooledArea_17 : decode cX0_cooledArea 17 = .ok (.ireturn, 1) := by decide +kernel
set_option maxRecDepth 20000 in
theorem ggX0_firstNeed_X4_at : GoodIn wsX0_firstNeed wsX4_at := goodIn_r _ [5] (by decide +kernel) (by decide +kernel)
set_option maxRecDepth 20000 in
theorem gX0_firstNeed_X4_at_n48 : GoodIn wsX0_firstNeed (wsX4_at) := ggX0_firstNeed_X4_at
theorem dX0_firstNeed_0 : decode cX0_firstNeed 0 = .ok (.aload_n 0, 1) := by decide +kernel
theorem dX0_firstNeed_1 : decode cX0_firstNeed 1 = .ok (.getfield 24, 3) := by decide +kernel
theorem dX0_firstNeed_4 : decode cX0_firstNeed 4 = .ok (.iload_n 1, 1) := by decide +kernel
theorem dX0_firstNeed_5 : decode cX0_firstNeed 5 = .ok (.invokestatic 48, 3) := by decide +kernel
theorem dX0_firstNeed_8 : decode cX0_firstNeed 8 = .ok (.aload_n 0, 1) := by decide +kernel
theorem dX0_firstNeed_9 : decode cX0_firstNeed 9 = .ok (.getfield 18, 3) := by decide +kernel
theorem dX0_firstNeed_12 : decode cX0_firstNeed 12 = .ok (.imul, 1) := by decide +kernel
theorem dX0_firstNeed_13 : decode cX0_firstNeed 13 = .ok (.sipush 1000, 3) := by decide +kernel
theorem dX0_firstNeed_16 : decode cX0_firstNeed 16 = .ok (.idiv, 1) := by decide +kernel
theorem dX0_firstNeed_17 : decode cX0_firstNeed 17 = .ok (.ireturn, 1) := by decide +kernel
set_option maxRecDepth 20000 in
theorem ggX0_bearablePores_X0_isFeeder : GoodIn wsX0_bearablePores wsX0_isFeeder := goodIn_r _ [7, 8, 9, 10, 11, 6, 12, 13, 17, 18, 19, 20, 21, 22, 23, 24, 25, 26] (by decide +kernel) (by decide +kernel)
set_option maxRecDepth 20000 in
theorem gX0_bearablePores_X0_isFeeder : GoodIn wsX0_bearablePores (wsV RX0 52 RX0 yX0_isFeeder wsX0_isFeeder) := goodIn_app (goodIn_of _ (by decide +kernel)) ggX0_bearablePores_X0_isFeeder
set_option maxRecDepth 20000 in
theorem ggX0_bearablePores_X4_at : GoodIn wsX0_bearablePores wsX4_at := goodIn_r _ [16] (by decide +kernel) (by decide +kernel)
set_option maxRecDepth 20000 in
theorem gX0_bearablePores_X4_at_n48 : GoodIn wsX0_bearablePores (wsX4_at) := ggX0_bearablePores_X4_at
theorem dX0_bearablePores_0 : decode cX0_bearablePores 0 = .ok (.aload_n 0, 1) := by decide +kernel
theorem dX0_bearablePores_1 : decode cX0_bearablePores 1 = .ok (.iload_n 1, 1) := by decide +kernel
theorem dX0_bearablePores_2 : decode cX0_bearablePores 2 = .ok (.invokevirtual 52, 3) := by decide +kernel
theorem dX0_bearablePores_5 : decode cX0_bearablePores 5 = .ok (.ifCond .eq 23, 3) := by decide +kernel
theorem dX0_bearablePores_8 : decode cX0_bearablePores 8 = .ok (.aload_n 0, 1) := by decide +kernel
theorem dX0_bearablePores_9 : decode cX0_bearablePores 9 = .ok (.getfield 24, 3) := by decide +kernel
theorem dX0_bearablePores_12 : decode cX0_bearablePores 12 = .ok (.iload_n 1, 1) := by decide +kernel
theorem dX0_bearablePores_13 : decode cX0_bearablePores 13 = .ok (.invokestatic 48, 3) := by decide +kernel
theorem dX0_bearablePores_16 : decode cX0_bearablePores 16 = .ok (.aload_n 0, 1) := by decide +kernel
theorem dX0_bearablePores_17 : decode cX0_bearablePores 17 = .ok (.getfield 21, 3) := by decide +kernel
theorem dX0_bearablePores_20 : decode cX0_bearablePores 20 = .ok (.imul, 1) := by decide +kernel
theorem dX0_bearablePores_21 : decode cX0_bearablePores 21 = .ok (.sipush 1000, 3) := by decide +kernel
theorem dX0_bearablePores_24 : decode cX0_bearablePores 24 = .ok (.idiv, 1) := by decide +kernel
theorem dX0_bearablePores_25 : decode cX0_bearablePores 25 = .ok (.goto 4, 3) := by decide +kernel
theorem dX0_bearablePores_28 : decode cX0_bearablePores 28 = .ok (.iconst 0, 1) := by decide +kernel
theorem dX0_bearablePores_29 : decode cX0_bearablePores 29 = .ok (.ireturn, 1) := by decide +kernel
set_option maxRecDepth 20000 in
theorem ggX0_stepOf_X4_at : GoodIn wsX0_stepOf wsX4_at := goodIn_r _ [7] (by decide +kernel) (by decide +kernel)
set_option maxRecDepth 20000 in
theorem gX0_stepOf_X4_at_n48 : GoodIn wsX0_stepOf (wsX4_at) := ggX0_stepOf_X4_at
set_option maxRecDepth 20000 in
theorem ggX0_stepOf_X0_cooledArea : GoodIn wsX0_stepOf wsX0_cooledArea := goodIn_r _ [12, 3, 4, 5, 6, 7, 13, 14, 15, 16, 17, 18, 19, 20, 21, 22] (by decide +kernel) (by decide +kernel)
set_option maxRecDepth 20000 in
theorem gX0_stepOf_X0_cooledArea : GoodIn wsX0_stepOf (wsV RX0 55 RX0 yX0_cooledArea wsX0_cooledArea) := goodIn_app (goodIn_of _ (by decide +kernel)) ggX0_stepOf_X0_cooledArea
theorem dX0_stepOf_0 : decode cX0_stepOf 0 = .ok (.aload_n 0, 1) := by decide +kernel
theorem dX0_stepOf_1 : decode cX0_stepOf 1 = .ok (.getfield 24, 3) := by decide +kernel
theorem dX0_stepOf_4 : decode cX0_stepOf 4 = .ok (.iload_n 1, 1) := by decide +kernel
theorem dX0_stepOf_5 : decode cX0_stepOf 5 = .ok (.invokestatic 48, 3) := by decide +kernel
theorem dX0_stepOf_8 : decode cX0_stepOf 8 = .ok (.istore_n 2, 1) := by decide +kernel
theorem dX0_stepOf_9 : decode cX0_stepOf 9 = .ok (.aload_n 0, 1) := by decide +kernel
theorem dX0_stepOf_10 : decode cX0_stepOf 10 = .ok (.iload_n 1, 1) := by decide +kernel
theorem dX0_stepOf_11 : decode cX0_stepOf 11 = .ok (.invokevirtual 55, 3) := by decide +kernel
theorem dX0_stepOf_14 : decode cX0_stepOf 14 = .ok (.istore_n 3, 1) := by decide +kernel
theorem dX0_stepOf_15 : decode cX0_stepOf 15 = .ok (.iconst 0, 1) := by decide +kernel
theorem dX0_stepOf_16 : decode cX0_stepOf 16 = .ok (.istore 4, 2) := by decide +kernel
theorem dX0_stepOf_18 : decode cX0_stepOf 18 = .ok (.iconst 0, 1) := by decide +kernel
theorem dX0_stepOf_19 : decode cX0_stepOf 19 = .ok (.istore 5, 2) := by decide +kernel
theorem dX0_stepOf_21 : decode cX0_stepOf 21 = .ok (.iload 5, 2) := by decide +kernel
theorem dX0_stepOf_23 : decode cX0_stepOf 23 = .ok (.aload_n 0, 1) := by decide +kernel
theorem dX0_stepOf_24 : decode cX0_stepOf 24 = .ok (.getfield 9, 3) := by decide +kernel
theorem dX0_stepOf_27 : decode cX0_stepOf 27 = .ok (.if_icmp .ge 62, 3) := by decide +kernel
theorem dX0_stepOf_30 : decode cX0_stepOf 30 = .ok (.aload_n 0, 1) := by decide +kernel
theorem dX0_stepOf_31 : decode cX0_stepOf 31 = .ok (.getfield 24, 3) := by decide +kernel
theorem dX0_stepOf_34 : decode cX0_stepOf 34 = .ok (.iload 5, 2) := by decide +kernel
theorem dX0_stepOf_36 : decode cX0_stepOf 36 = .ok (.iaload, 1) := by decide +kernel
theorem dX0_stepOf_37 : decode cX0_stepOf 37 = .ok (.iload_n 3, 1) := by decide +kernel
theorem dX0_stepOf_38 : decode cX0_stepOf 38 = .ok (.imul, 1) := by decide +kernel
theorem dX0_stepOf_39 : decode cX0_stepOf 39 = .ok (.istore 6, 2) := by decide +kernel
theorem dX0_stepOf_41 : decode cX0_stepOf 41 = .ok (.iload_n 2, 1) := by decide +kernel
theorem dX0_stepOf_42 : decode cX0_stepOf 42 = .ok (.aload_n 0, 1) := by decide +kernel
theorem dX0_stepOf_43 : decode cX0_stepOf 43 = .ok (.getfield 28, 3) := by decide +kernel
theorem dX0_stepOf_46 : decode cX0_stepOf 46 = .ok (.iload 5, 2) := by decide +kernel
theorem dX0_stepOf_48 : decode cX0_stepOf 48 = .ok (.iaload, 1) := by decide +kernel
theorem dX0_stepOf_49 : decode cX0_stepOf 49 = .ok (.aload_n 0, 1) := by decide +kernel
theorem dX0_stepOf_50 : decode cX0_stepOf 50 = .ok (.getfield 31, 3) := by decide +kernel
theorem dX0_stepOf_53 : decode cX0_stepOf 53 = .ok (.iload 5, 2) := by decide +kernel
theorem dX0_stepOf_55 : decode cX0_stepOf 55 = .ok (.iaload, 1) := by decide +kernel
theorem dX0_stepOf_56 : decode cX0_stepOf 56 = .ok (.iadd, 1) := by decide +kernel
theorem dX0_stepOf_57 : decode cX0_stepOf 57 = .ok (.imul, 1) := by decide +kernel
theorem dX0_stepOf_58 : decode cX0_stepOf 58 = .ok (.istore 7, 2) := by decide +kernel
theorem dX0_stepOf_60 : decode cX0_stepOf 60 = .ok (.iload 6, 2) := by decide +kernel
theorem dX0_stepOf_62 : decode cX0_stepOf 62 = .ok (.iload 7, 2) := by decide +kernel
theorem dX0_stepOf_64 : decode cX0_stepOf 64 = .ok (.if_icmp .lt 16, 3) := by decide +kernel
theorem dX0_stepOf_67 : decode cX0_stepOf 67 = .ok (.iload 6, 2) := by decide +kernel
theorem dX0_stepOf_69 : decode cX0_stepOf 69 = .ok (.iload 7, 2) := by decide +kernel
theorem dX0_stepOf_71 : decode cX0_stepOf 71 = .ok (.if_icmp .ne 12, 3) := by decide +kernel
theorem dX0_stepOf_74 : decode cX0_stepOf 74 = .ok (.iload 5, 2) := by decide +kernel
theorem dX0_stepOf_76 : decode cX0_stepOf 76 = .ok (.iload_n 1, 1) := by decide +kernel
theorem dX0_stepOf_77 : decode cX0_stepOf 77 = .ok (.if_icmp .ge 6, 3) := by decide +kernel
theorem dX0_stepOf_80 : decode cX0_stepOf 80 = .ok (.iinc 4 1, 3) := by decide +kernel
theorem dX0_stepOf_83 : decode cX0_stepOf 83 = .ok (.iinc 5 1, 3) := by decide +kernel
theorem dX0_stepOf_86 : decode cX0_stepOf 86 = .ok (.goto (-65), 3) := by decide +kernel
theorem dX0_stepOf_89 : decode cX0_stepOf 89 = .ok (.iload 4, 2) := by decide +kernel
theorem dX0_stepOf_91 : decode cX0_stepOf 91 = .ok (.ireturn, 1) := by decide +kernel
set_option maxRecDepth 20000 in
theorem ggX0_feeders_X0_isFeeder : GoodIn wsX0_feeders wsX0_isFeeder := goodIn_r _ [6, 7, 8, 9, 10, 5, 11, 1, 12, 13, 14, 15, 16, 17, 18, 19, 20, 21] (by decide +kernel) (by decide +kernel)
set_option maxRecDepth 20000 in
theorem gX0_feeders_X0_isFeeder : GoodIn wsX0_feeders (wsV RX0 52 RX0 yX0_isFeeder wsX0_isFeeder) := goodIn_app (goodIn_of _ (by decide +kernel)) ggX0_feeders_X0_isFeeder
theorem dX0_feeders_0 : decode cX0_feeders 0 = .ok (.iconst 0, 1) := by decide +kernel
theorem dX0_feeders_1 : decode cX0_feeders 1 = .ok (.istore_n 1, 1) := by decide +kernel
theorem dX0_feeders_2 : decode cX0_feeders 2 = .ok (.iconst 0, 1) := by decide +kernel
theorem dX0_feeders_3 : decode cX0_feeders 3 = .ok (.istore_n 2, 1) := by decide +kernel
theorem dX0_feeders_4 : decode cX0_feeders 4 = .ok (.iload_n 2, 1) := by decide +kernel
theorem dX0_feeders_5 : decode cX0_feeders 5 = .ok (.aload_n 0, 1) := by decide +kernel
theorem dX0_feeders_6 : decode cX0_feeders 6 = .ok (.getfield 9, 3) := by decide +kernel
theorem dX0_feeders_9 : decode cX0_feeders 9 = .ok (.if_icmp .ge 20, 3) := by decide +kernel
theorem dX0_feeders_12 : decode cX0_feeders 12 = .ok (.aload_n 0, 1) := by decide +kernel
theorem dX0_feeders_13 : decode cX0_feeders 13 = .ok (.iload_n 2, 1) := by decide +kernel
theorem dX0_feeders_14 : decode cX0_feeders 14 = .ok (.invokevirtual 52, 3) := by decide +kernel
theorem dX0_feeders_17 : decode cX0_feeders 17 = .ok (.ifCond .eq 6, 3) := by decide +kernel
theorem dX0_feeders_20 : decode cX0_feeders 20 = .ok (.iinc 1 1, 3) := by decide +kernel
theorem dX0_feeders_23 : decode cX0_feeders 23 = .ok (.iinc 2 1, 3) := by decide +kernel
theorem dX0_feeders_26 : decode cX0_feeders 26 = .ok (.goto (-22), 3) := by decide +kernel
theorem dX0_feeders_29 : decode cX0_feeders 29 = .ok (.iload_n 1, 1) := by decide +kernel
theorem dX0_feeders_30 : decode cX0_feeders 30 = .ok (.ireturn, 1) := by decide +kernel
set_option maxRecDepth 20000 in
theorem ggX0_yieldPerMille_X4_at : GoodIn wsX0_yieldPerMille wsX4_at := goodIn_r _ [5] (by decide +kernel) (by decide +kernel)
set_option maxRecDepth 20000 in
theorem gX0_yieldPerMille_X4_at_n48 : GoodIn wsX0_yieldPerMille (wsX4_at) := ggX0_yieldPerMille_X4_at
set_option maxRecDepth 20000 in
theorem ggX0_yieldPerMille_X0_isFeeder : GoodIn wsX0_yieldPerMille wsX0_isFeeder := goodIn_r _ [10, 11, 12, 13, 14, 9, 15, 1, 16, 17, 18, 19, 20, 21, 22, 23, 24, 25] (by decide +kernel) (by decide +kernel)
set_option maxRecDepth 20000 in
theorem gX0_yieldPerMille_X0_isFeeder : GoodIn wsX0_yieldPerMille (wsV RX0 52 RX0 yX0_isFeeder wsX0_isFeeder) := goodIn_app (goodIn_of _ (by decide +kernel)) ggX0_yieldPerMille_X0_isFeeder
theorem dX0_yieldPerMille_0 : decode cX0_yieldPerMille 0 = .ok (.iconst 0, 1) := by decide +kernel
theorem dX0_yieldPerMille_1 : decode cX0_yieldPerMille 1 = .ok (.istore_n 1, 1) := by decide +kernel
theorem dX0_yieldPerMille_2 : decode cX0_yieldPerMille 2 = .ok (.iconst 0, 1) := by decide +kernel
theorem dX0_yieldPerMille_3 : decode cX0_yieldPerMille 3 = .ok (.istore_n 2, 1) := by decide +kernel
theorem dX0_yieldPerMille_4 : decode cX0_yieldPerMille 4 = .ok (.iconst 0, 1) := by decide +kernel
theorem dX0_yieldPerMille_5 : decode cX0_yieldPerMille 5 = .ok (.istore_n 3, 1) := by decide +kernel
theorem dX0_yieldPerMille_6 : decode cX0_yieldPerMille 6 = .ok (.iload_n 3, 1) := by decide +kernel
theorem dX0_yieldPerMille_7 : decode cX0_yieldPerMille 7 = .ok (.aload_n 0, 1) := by decide +kernel
theorem dX0_yieldPerMille_8 : decode cX0_yieldPerMille 8 = .ok (.getfield 9, 3) := by decide +kernel
theorem dX0_yieldPerMille_11 : decode cX0_yieldPerMille 11 = .ok (.if_icmp .ge 39, 3) := by decide +kernel
theorem dX0_yieldPerMille_14 : decode cX0_yieldPerMille 14 = .ok (.iload_n 1, 1) := by decide +kernel
theorem dX0_yieldPerMille_15 : decode cX0_yieldPerMille 15 = .ok (.aload_n 0, 1) := by decide +kernel
theorem dX0_yieldPerMille_16 : decode cX0_yieldPerMille 16 = .ok (.getfield 24, 3) := by decide +kernel
theorem dX0_yieldPerMille_19 : decode cX0_yieldPerMille 19 = .ok (.iload_n 3, 1) := by decide +kernel
theorem dX0_yieldPerMille_20 : decode cX0_yieldPerMille 20 = .ok (.invokestatic 48, 3) := by decide +kernel
theorem dX0_yieldPerMille_23 : decode cX0_yieldPerMille 23 = .ok (.iadd, 1) := by decide +kernel
theorem dX0_yieldPerMille_24 : decode cX0_yieldPerMille 24 = .ok (.istore_n 1, 1) := by decide +kernel
theorem dX0_yieldPerMille_25 : decode cX0_yieldPerMille 25 = .ok (.aload_n 0, 1) := by decide +kernel
theorem dX0_yieldPerMille_26 : decode cX0_yieldPerMille 26 = .ok (.iload_n 3, 1) := by decide +kernel
theorem dX0_yieldPerMille_27 : decode cX0_yieldPerMille 27 = .ok (.invokevirtual 52, 3) := by decide +kernel
theorem dX0_yieldPerMille_30 : decode cX0_yieldPerMille 30 = .ok (.ifCond .ne 14, 3) := by decide +kernel
theorem dX0_yieldPerMille_33 : decode cX0_yieldPerMille 33 = .ok (.iload_n 2, 1) := by decide +kernel
theorem dX0_yieldPerMille_34 : decode cX0_yieldPerMille 34 = .ok (.aload_n 0, 1) := by decide +kernel
theorem dX0_yieldPerMille_35 : decode cX0_yieldPerMille 35 = .ok (.getfield 24, 3) := by decide +kernel
theorem dX0_yieldPerMille_38 : decode cX0_yieldPerMille 38 = .ok (.iload_n 3, 1) := by decide +kernel
theorem dX0_yieldPerMille_39 : decode cX0_yieldPerMille 39 = .ok (.invokestatic 48, 3) := by decide +kernel
theorem dX0_yieldPerMille_42 : decode cX0_yieldPerMille 42 = .ok (.iadd, 1) := by decide +kernel
theorem dX0_yieldPerMille_43 : decode cX0_yieldPerMille 43 = .ok (.istore_n 2, 1) := by decide +kernel
theorem dX0_yieldPerMille_44 : decode cX0_yieldPerMille 44 = .ok (.iinc 3 1, 3) := by decide +kernel
theorem dX0_yieldPerMille_47 : decode cX0_yieldPerMille 47 = .ok (.goto (-41), 3) := by decide +kernel
theorem dX0_yieldPerMille_50 : decode cX0_yieldPerMille 50 = .ok (.iload_n 1, 1) := by decide +kernel
theorem dX0_yieldPerMille_51 : decode cX0_yieldPerMille 51 = .ok (.ifCond .le 13, 3) := by decide +kernel
theorem dX0_yieldPerMille_54 : decode cX0_yieldPerMille 54 = .ok (.sipush 1000, 3) := by decide +kernel
theorem dX0_yieldPerMille_57 : decode cX0_yieldPerMille 57 = .ok (.iload_n 2, 1) := by decide +kernel
theorem dX0_yieldPerMille_58 : decode cX0_yieldPerMille 58 = .ok (.imul, 1) := by decide +kernel
theorem dX0_yieldPerMille_59 : decode cX0_yieldPerMille 59 = .ok (.iload_n 1, 1) := by decide +kernel
theorem dX0_yieldPerMille_60 : decode cX0_yieldPerMille 60 = .ok (.idiv, 1) := by decide +kernel
theorem dX0_yieldPerMille_61 : decode cX0_yieldPerMille 61 = .ok (.goto 4, 3) := by decide +kernel
theorem dX0_yieldPerMille_64 : decode cX0_yieldPerMille 64 = .ok (.iconst 0, 1) := by decide +kernel
theorem dX0_yieldPerMille_65 : decode cX0_yieldPerMille 65 = .ok (.ireturn, 1) := by decide +kernel
set_option maxRecDepth 20000 in
theorem ggX0_neighbours_X0_touches : GoodIn wsX0_neighbours wsX0_touches := goodIn_r _ [6, 7, 8, 9, 10, 11, 12, 13, 14, 15, 16, 17, 18, 19, 20, 21] (by decide +kernel) (by decide +kernel)
set_option maxRecDepth 20000 in
theorem gX0_neighbours_X0_touches : GoodIn wsX0_neighbours (wsV RX0 59 RX0 yX0_touches wsX0_touches) := goodIn_app (goodIn_of _ (by decide +kernel)) ggX0_neighbours_X0_touches
theorem dX0_neighbours_0 : decode cX0_neighbours 0 = .ok (.iconst 0, 1) := by decide +kernel
theorem dX0_neighbours_1 : decode cX0_neighbours 1 = .ok (.istore_n 2, 1) := by decide +kernel
theorem dX0_neighbours_2 : decode cX0_neighbours 2 = .ok (.iconst 0, 1) := by decide +kernel
theorem dX0_neighbours_3 : decode cX0_neighbours 3 = .ok (.istore_n 3, 1) := by decide +kernel
theorem dX0_neighbours_4 : decode cX0_neighbours 4 = .ok (.iload_n 3, 1) := by decide +kernel
theorem dX0_neighbours_5 : decode cX0_neighbours 5 = .ok (.aload_n 0, 1) := by decide +kernel
theorem dX0_neighbours_6 : decode cX0_neighbours 6 = .ok (.getfield 15, 3) := by decide +kernel
theorem dX0_neighbours_9 : decode cX0_neighbours 9 = .ok (.if_icmp .ge 21, 3) := by decide +kernel
theorem dX0_neighbours_12 : decode cX0_neighbours 12 = .ok (.aload_n 0, 1) := by decide +kernel
theorem dX0_neighbours_13 : decode cX0_neighbours 13 = .ok (.iload_n 3, 1) := by decide +kernel
theorem dX0_neighbours_14 : decode cX0_neighbours 14 = .ok (.iload_n 1, 1) := by decide +kernel
theorem dX0_neighbours_15 : decode cX0_neighbours 15 = .ok (.invokevirtual 59, 3) := by decide +kernel
theorem dX0_neighbours_18 : decode cX0_neighbours 18 = .ok (.ifCond .eq 6, 3) := by decide +kernel
theorem dX0_neighbours_21 : decode cX0_neighbours 21 = .ok (.iinc 2 1, 3) := by decide +kernel
theorem dX0_neighbours_24 : decode cX0_neighbours 24 = .ok (.iinc 3 1, 3) := by decide +kernel
theorem dX0_neighbours_27 : decode cX0_neighbours 27 = .ok (.goto (-23), 3) := by decide +kernel
theorem dX0_neighbours_30 : decode cX0_neighbours 30 = .ok (.iload_n 2, 1) := by decide +kernel
theorem dX0_neighbours_31 : decode cX0_neighbours 31 = .ok (.ireturn, 1) := by decide +kernel
set_option maxRecDepth 20000 in
theorem ggX0_touches_X4_at : GoodIn wsX0_touches wsX4_at := goodIn_r _ [5] (by decide +kernel) (by decide +kernel)
set_option maxRecDepth 20000 in
theorem gX0_touches_X4_at_n48 : GoodIn wsX0_touches (wsX4_at) := ggX0_touches_X4_at
theorem dX0_touches_0 : decode cX0_touches 0 = .ok (.aload_n 0, 1) := by decide +kernel
theorem dX0_touches_1 : decode cX0_touches 1 = .ok (.getfield 38, 3) := by decide +kernel
theorem dX0_touches_4 : decode cX0_touches 4 = .ok (.iload_n 1, 1) := by decide +kernel
theorem dX0_touches_5 : decode cX0_touches 5 = .ok (.invokestatic 48, 3) := by decide +kernel
theorem dX0_touches_8 : decode cX0_touches 8 = .ok (.iload_n 2, 1) := by decide +kernel
theorem dX0_touches_9 : decode cX0_touches 9 = .ok (.if_icmp .eq 15, 3) := by decide +kernel
theorem dX0_touches_12 : decode cX0_touches 12 = .ok (.aload_n 0, 1) := by decide +kernel
theorem dX0_touches_13 : decode cX0_touches 13 = .ok (.getfield 41, 3) := by decide +kernel
theorem dX0_touches_16 : decode cX0_touches 16 = .ok (.iload_n 1, 1) := by decide +kernel
theorem dX0_touches_17 : decode cX0_touches 17 = .ok (.invokestatic 48, 3) := by decide +kernel
theorem dX0_touches_20 : decode cX0_touches 20 = .ok (.iload_n 2, 1) := by decide +kernel
theorem dX0_touches_21 : decode cX0_touches 21 = .ok (.if_icmp .ne 7, 3) := by decide +kernel
theorem dX0_touches_24 : decode cX0_touches 24 = .ok (.iconst 1, 1) := by decide +kernel
theorem dX0_touches_25 : decode cX0_touches 25 = .ok (.goto 4, 3) := by decide +kernel
theorem dX0_touches_28 : decode cX0_touches 28 = .ok (.iconst 0, 1) := by decide +kernel
theorem dX0_touches_29 : decode cX0_touches 29 = .ok (.ireturn, 1) := by decide +kernel
set_option maxRecDepth 20000 in
theorem ggX0_canLink_X0_touches : GoodIn wsX0_canLink wsX0_touches := goodIn_r _ [6, 7, 8, 9, 10, 11, 12, 13, 14, 15, 16, 17, 18, 19, 20, 21] (by decide +kernel) (by decide +kernel)
set_option maxRecDepth 20000 in
theorem gX0_canLink_X0_touches : GoodIn wsX0_canLink (wsV RX0 59 RX0 yX0_touches wsX0_touches) := goodIn_app (goodIn_of _ (by decide +kernel)) ggX0_canLink_X0_touches
theorem dX0_canLink_0 : decode cX0_canLink 0 = .ok (.iload_n 1, 1) := by decide +kernel
theorem dX0_canLink_1 : decode cX0_canLink 1 = .ok (.iload_n 2, 1) := by decide +kernel
theorem dX0_canLink_2 : decode cX0_canLink 2 = .ok (.if_icmp .ne 5, 3) := by decide +kernel
theorem dX0_canLink_5 : decode cX0_canLink 5 = .ok (.iconst 0, 1) := by decide +kernel
theorem dX0_canLink_6 : decode cX0_canLink 6 = .ok (.ireturn, 1) := by decide +kernel
theorem dX0_canLink_7 : decode cX0_canLink 7 = .ok (.iconst 0, 1) := by decide +kernel
theorem dX0_canLink_8 : decode cX0_canLink 8 = .ok (.istore_n 3, 1) := by decide +kernel
theorem dX0_canLink_9 : decode cX0_canLink 9 = .ok (.iload_n 3, 1) := by decide +kernel
theorem dX0_canLink_10 : decode cX0_canLink 10 = .ok (.aload_n 0, 1) := by decide +kernel
theorem dX0_canLink_11 : decode cX0_canLink 11 = .ok (.getfield 15, 3) := by decide +kernel
theorem dX0_canLink_14 : decode cX0_canLink 14 = .ok (.if_icmp .ge 29, 3) := by decide +kernel
theorem dX0_canLink_17 : decode cX0_canLink 17 = .ok (.aload_n 0, 1) := by decide +kernel
theorem dX0_canLink_18 : decode cX0_canLink 18 = .ok (.iload_n 3, 1) := by decide +kernel
theorem dX0_canLink_19 : decode cX0_canLink 19 = .ok (.iload_n 1, 1) := by decide +kernel
theorem dX0_canLink_20 : decode cX0_canLink 20 = .ok (.invokevirtual 59, 3) := by decide +kernel
theorem dX0_canLink_23 : decode cX0_canLink 23 = .ok (.ifCond .eq 14, 3) := by decide +kernel
theorem dX0_canLink_26 : decode cX0_canLink 26 = .ok (.aload_n 0, 1) := by decide +kernel
theorem dX0_canLink_27 : decode cX0_canLink 27 = .ok (.iload_n 3, 1) := by decide +kernel
theorem dX0_canLink_28 : decode cX0_canLink 28 = .ok (.iload_n 2, 1) := by decide +kernel
theorem dX0_canLink_29 : decode cX0_canLink 29 = .ok (.invokevirtual 59, 3) := by decide +kernel
theorem dX0_canLink_32 : decode cX0_canLink 32 = .ok (.ifCond .eq 5, 3) := by decide +kernel
theorem dX0_canLink_35 : decode cX0_canLink 35 = .ok (.iconst 0, 1) := by decide +kernel
theorem dX0_canLink_36 : decode cX0_canLink 36 = .ok (.ireturn, 1) := by decide +kernel
theorem dX0_canLink_37 : decode cX0_canLink 37 = .ok (.iinc 3 1, 3) := by decide +kernel
theorem dX0_canLink_40 : decode cX0_canLink 40 = .ok (.goto (-31), 3) := by decide +kernel
theorem dX0_canLink_43 : decode cX0_canLink 43 = .ok (.iconst 1, 1) := by decide +kernel
theorem dX0_canLink_44 : decode cX0_canLink 44 = .ok (.ireturn, 1) := by decide +kernel
theorem dX0_append_0 : decode cX0_append 0 = .ok (.aload_n 0, 1) := by decide +kernel
theorem dX0_append_1 : decode cX0_append 1 = .ok (.getfield 9, 3) := by decide +kernel
theorem dX0_append_4 : decode cX0_append 4 = .ok (.istore 5, 2) := by decide +kernel
theorem dX0_append_6 : decode cX0_append 6 = .ok (.iload 5, 2) := by decide +kernel
theorem dX0_append_8 : decode cX0_append 8 = .ok (.ifCond .lt 10, 3) := by decide +kernel
theorem dX0_append_11 : decode cX0_append 11 = .ok (.iload 5, 2) := by decide +kernel
theorem dX0_append_13 : decode cX0_append 13 = .ok (.bipush 12, 2) := by decide +kernel
theorem dX0_append_15 : decode cX0_append 15 = .ok (.if_icmp .lt 6, 3) := by decide +kernel
theorem dX0_append_18 : decode cX0_append 18 = .ok (.bipush (-5), 2) := by decide +kernel
theorem dX0_append_20 : decode cX0_append 20 = .ok (.ireturn, 1) := by decide +kernel
theorem dX0_append_21 : decode cX0_append 21 = .ok (.aload_n 0, 1) := by decide +kernel
theorem dX0_append_22 : decode cX0_append 22 = .ok (.getfield 24, 3) := by decide +kernel
theorem dX0_append_25 : decode cX0_append 25 = .ok (.iload 5, 2) := by decide +kernel
theorem dX0_append_27 : decode cX0_append 27 = .ok (.iload_n 1, 1) := by decide +kernel
theorem dX0_append_28 : decode cX0_append 28 = .ok (.iastore, 1) := by decide +kernel
theorem dX0_append_29 : decode cX0_append 29 = .ok (.aload_n 0, 1) := by decide +kernel
theorem dX0_append_30 : decode cX0_append 30 = .ok (.getfield 28, 3) := by decide +kernel
theorem dX0_append_33 : decode cX0_append 33 = .ok (.iload 5, 2) := by decide +kernel
theorem dX0_append_35 : decode cX0_append 35 = .ok (.iload_n 2, 1) := by decide +kernel
theorem dX0_append_36 : decode cX0_append 36 = .ok (.iastore, 1) := by decide +kernel
theorem dX0_append_37 : decode cX0_append 37 = .ok (.aload_n 0, 1) := by decide +kernel
theorem dX0_append_38 : decode cX0_append 38 = .ok (.getfield 31, 3) := by decide +kernel
theorem dX0_append_41 : decode cX0_append 41 = .ok (.iload 5, 2) := by decide +kernel
theorem dX0_append_43 : decode cX0_append 43 = .ok (.iload_n 3, 1) := by decide +kernel
theorem dX0_append_44 : decode cX0_append 44 = .ok (.iastore, 1) := by decide +kernel
theorem dX0_append_45 : decode cX0_append 45 = .ok (.aload_n 0, 1) := by decide +kernel
theorem dX0_append_46 : decode cX0_append 46 = .ok (.getfield 34, 3) := by decide +kernel
theorem dX0_append_49 : decode cX0_append 49 = .ok (.iload 5, 2) := by decide +kernel
theorem dX0_append_51 : decode cX0_append 51 = .ok (.iload 4, 2) := by decide +kernel
theorem dX0_append_53 : decode cX0_append 53 = .ok (.bastore, 1) := by decide +kernel
theorem dX0_append_54 : decode cX0_append 54 = .ok (.aload_n 0, 1) := by decide +kernel
theorem dX0_append_55 : decode cX0_append 55 = .ok (.iload 5, 2) := by decide +kernel
theorem dX0_append_57 : decode cX0_append 57 = .ok (.iconst 1, 1) := by decide +kernel
theorem dX0_append_58 : decode cX0_append 58 = .ok (.iadd, 1) := by decide +kernel
theorem dX0_append_59 : decode cX0_append 59 = .ok (.putfield 9, 3) := by decide +kernel
theorem dX0_append_62 : decode cX0_append 62 = .ok (.iload 5, 2) := by decide +kernel
theorem dX0_append_64 : decode cX0_append 64 = .ok (.ireturn, 1) := by decide +kernel
theorem dX0_link_0 : decode cX0_link 0 = .ok (.aload_n 0, 1) := by decide +kernel
theorem dX0_link_1 : decode cX0_link 1 = .ok (.getfield 15, 3) := by decide +kernel
theorem dX0_link_4 : decode cX0_link 4 = .ok (.istore_n 3, 1) := by decide +kernel
theorem dX0_link_5 : decode cX0_link 5 = .ok (.iload_n 3, 1) := by decide +kernel
theorem dX0_link_6 : decode cX0_link 6 = .ok (.ifCond .lt 9, 3) := by decide +kernel
theorem dX0_link_9 : decode cX0_link 9 = .ok (.iload_n 3, 1) := by decide +kernel
theorem dX0_link_10 : decode cX0_link 10 = .ok (.bipush 20, 2) := by decide +kernel
theorem dX0_link_12 : decode cX0_link 12 = .ok (.if_icmp .lt 6, 3) := by decide +kernel
theorem dX0_link_15 : decode cX0_link 15 = .ok (.bipush (-5), 2) := by decide +kernel
theorem dX0_link_17 : decode cX0_link 17 = .ok (.ireturn, 1) := by decide +kernel
theorem dX0_link_18 : decode cX0_link 18 = .ok (.aload_n 0, 1) := by decide +kernel
theorem dX0_link_19 : decode cX0_link 19 = .ok (.getfield 38, 3) := by decide +kernel
theorem dX0_link_22 : decode cX0_link 22 = .ok (.iload_n 3, 1) := by decide +kernel
theorem dX0_link_23 : decode cX0_link 23 = .ok (.iload_n 1, 1) := by decide +kernel
theorem dX0_link_24 : decode cX0_link 24 = .ok (.iastore, 1) := by decide +kernel
theorem dX0_link_25 : decode cX0_link 25 = .ok (.aload_n 0, 1) := by decide +kernel
theorem dX0_link_26 : decode cX0_link 26 = .ok (.getfield 41, 3) := by decide +kernel
theorem dX0_link_29 : decode cX0_link 29 = .ok (.iload_n 3, 1) := by decide +kernel
theorem dX0_link_30 : decode cX0_link 30 = .ok (.iload_n 2, 1) := by decide +kernel
theorem dX0_link_31 : decode cX0_link 31 = .ok (.iastore, 1) := by decide +kernel
theorem dX0_link_32 : decode cX0_link 32 = .ok (.aload_n 0, 1) := by decide +kernel
theorem dX0_link_33 : decode cX0_link 33 = .ok (.iload_n 3, 1) := by decide +kernel
theorem dX0_link_34 : decode cX0_link 34 = .ok (.iconst 1, 1) := by decide +kernel
theorem dX0_link_35 : decode cX0_link 35 = .ok (.iadd, 1) := by decide +kernel
theorem dX0_link_36 : decode cX0_link 36 = .ok (.putfield 15, 3) := by decide +kernel
theorem dX0_link_39 : decode cX0_link 39 = .ok (.iload_n 3, 1) := by decide +kernel
theorem dX0_link_40 : decode cX0_link 40 = .ok (.ireturn, 1) := by decide +kernel
set_option maxRecDepth 20000 in
theorem ggX0_unlink_X4_at : GoodIn wsX0_unlink wsX4_at := goodIn_r _ [10] (by decide +kernel) (by decide +kernel)
set_option maxRecDepth 20000 in
theorem gX0_unlink_X4_at_n48 : GoodIn wsX0_unlink (wsX4_at) := ggX0_unlink_X4_at
set_option maxRecDepth 20000 in
theorem ggX0_unlink_X4_put : GoodIn wsX0_unlink wsX4_put := goodIn_r _ [12] (by decide +kernel) (by decide +kernel)
set_option maxRecDepth 20000 in
theorem gX0_unlink_X4_put_n69 : GoodIn wsX0_unlink (wsX4_put) := ggX0_unlink_X4_put
theorem dX0_unlink_0 : decode cX0_unlink 0 = .ok (.iload_n 1, 1) := by decide +kernel
theorem dX0_unlink_1 : decode cX0_unlink 1 = .ok (.iconst 0, 1) := by decide +kernel
theorem dX0_unlink_2 : decode cX0_unlink 2 = .ok (.invokestatic 63, 3) := by decide +kernel
theorem dX0_unlink_5 : decode cX0_unlink 5 = .ok (.istore_n 2, 1) := by decide +kernel
theorem dX0_unlink_6 : decode cX0_unlink 6 = .ok (.iload_n 2, 1) := by decide +kernel
theorem dX0_unlink_7 : decode cX0_unlink 7 = .ok (.iconst 1, 1) := by decide +kernel
theorem dX0_unlink_8 : decode cX0_unlink 8 = .ok (.iadd, 1) := by decide +kernel
theorem dX0_unlink_9 : decode cX0_unlink 9 = .ok (.aload_n 0, 1) := by decide +kernel
theorem dX0_unlink_10 : decode cX0_unlink 10 = .ok (.getfield 15, 3) := by decide +kernel
theorem dX0_unlink_13 : decode cX0_unlink 13 = .ok (.if_icmp .ge 45, 3) := by decide +kernel
theorem dX0_unlink_16 : decode cX0_unlink 16 = .ok (.aload_n 0, 1) := by decide +kernel
theorem dX0_unlink_17 : decode cX0_unlink 17 = .ok (.getfield 38, 3) := by decide +kernel
theorem dX0_unlink_20 : decode cX0_unlink 20 = .ok (.iload_n 2, 1) := by decide +kernel
theorem dX0_unlink_21 : decode cX0_unlink 21 = .ok (.aload_n 0, 1) := by decide +kernel
theorem dX0_unlink_22 : decode cX0_unlink 22 = .ok (.getfield 38, 3) := by decide +kernel
theorem dX0_unlink_25 : decode cX0_unlink 25 = .ok (.iload_n 2, 1) := by decide +kernel
theorem dX0_unlink_26 : decode cX0_unlink 26 = .ok (.iconst 1, 1) := by decide +kernel
theorem dX0_unlink_27 : decode cX0_unlink 27 = .ok (.iadd, 1) := by decide +kernel
theorem dX0_unlink_28 : decode cX0_unlink 28 = .ok (.invokestatic 48, 3) := by decide +kernel
theorem dX0_unlink_31 : decode cX0_unlink 31 = .ok (.invokestatic 69, 3) := by decide +kernel
theorem dX0_unlink_34 : decode cX0_unlink 34 = .ok (.aload_n 0, 1) := by decide +kernel
theorem dX0_unlink_35 : decode cX0_unlink 35 = .ok (.getfield 41, 3) := by decide +kernel
theorem dX0_unlink_38 : decode cX0_unlink 38 = .ok (.iload_n 2, 1) := by decide +kernel
theorem dX0_unlink_39 : decode cX0_unlink 39 = .ok (.aload_n 0, 1) := by decide +kernel
theorem dX0_unlink_40 : decode cX0_unlink 40 = .ok (.getfield 41, 3) := by decide +kernel
theorem dX0_unlink_43 : decode cX0_unlink 43 = .ok (.iload_n 2, 1) := by decide +kernel
theorem dX0_unlink_44 : decode cX0_unlink 44 = .ok (.iconst 1, 1) := by decide +kernel
theorem dX0_unlink_45 : decode cX0_unlink 45 = .ok (.iadd, 1) := by decide +kernel
theorem dX0_unlink_46 : decode cX0_unlink 46 = .ok (.invokestatic 48, 3) := by decide +kernel
theorem dX0_unlink_49 : decode cX0_unlink 49 = .ok (.invokestatic 69, 3) := by decide +kernel
theorem dX0_unlink_52 : decode cX0_unlink 52 = .ok (.iinc 2 1, 3) := by decide +kernel
theorem dX0_unlink_55 : decode cX0_unlink 55 = .ok (.goto (-49), 3) := by decide +kernel
theorem dX0_unlink_58 : decode cX0_unlink 58 = .ok (.aload_n 0, 1) := by decide +kernel
theorem dX0_unlink_59 : decode cX0_unlink 59 = .ok (.dup, 1) := by decide +kernel
theorem dX0_unlink_60 : decode cX0_unlink 60 = .ok (.getfield 15, 3) := by decide +kernel
theorem dX0_unlink_63 : decode cX0_unlink 63 = .ok (.iconst 1, 1) := by decide +kernel
theorem dX0_unlink_64 : decode cX0_unlink 64 = .ok (.isub, 1) := by decide +kernel
theorem dX0_unlink_65 : decode cX0_unlink 65 = .ok (.putfield 15, 3) := by decide +kernel
theorem dX0_unlink_68 : decode cX0_unlink 68 = .ok (.return_, 1) := by decide +kernel
set_option maxRecDepth 20000 in
theorem ggX0_drop_X0_touches : GoodIn wsX0_drop wsX0_touches := goodIn_r _ [17, 2, 3, 18, 19, 20, 30, 31, 32, 33, 34, 35, 36, 37, 38, 39] (by decide +kernel) (by decide +kernel)
set_option maxRecDepth 20000 in
theorem gX0_drop_X0_touches : GoodIn wsX0_drop (wsV RX0 59 RX0 yX0_touches wsX0_touches) := goodIn_app (goodIn_of _ (by decide +kernel)) ggX0_drop_X0_touches
set_option maxRecDepth 20000 in
theorem ggX0_drop_X0_unlink : GoodIn wsX0_drop wsX0_unlink := goodIn_r _ [24, 4, 5, 6, 7, 1, 2, 3, 18, 19, 20, 25, 26, 30, 31, 32, 33, 34, 35, 36, 37, 38, 39] (by decide +kernel) (by decide +kernel)
set_option maxRecDepth 20000 in
theorem gX0_drop_X0_unlink : GoodIn wsX0_drop (wsV RX0 73 RX0 yX0_unlink wsX0_unlink) := goodIn_app (goodIn_of _ (by decide +kernel)) ggX0_drop_X0_unlink
set_option maxRecDepth 20000 in
theorem ggX0_drop_X4_at : GoodIn wsX0_drop wsX4_at := goodIn_r _ [20] (by decide +kernel) (by decide +kernel)
set_option maxRecDepth 20000 in
theorem gX0_drop_X4_at_n48 : GoodIn wsX0_drop (wsX4_at) := ggX0_drop_X4_at
set_option maxRecDepth 20000 in
theorem ggX0_drop_X0_without : GoodIn wsX0_drop wsX0_without := goodIn_r _ [29] (by decide +kernel) (by decide +kernel)
set_option maxRecDepth 20000 in
theorem gX0_drop_X0_without : GoodIn wsX0_drop (va_wsS RX0 77 yX0_without wsX0_without) := goodIn_app (goodIn_of _ (by decide +kernel)) ggX0_drop_X0_without
set_option maxRecDepth 20000 in
theorem ggX0_drop_X4_put : GoodIn wsX0_drop wsX4_put := goodIn_r _ [26] (by decide +kernel) (by decide +kernel)
set_option maxRecDepth 20000 in
theorem gX0_drop_X4_put_n69 : GoodIn wsX0_drop (wsX4_put) := ggX0_drop_X4_put
theorem dX0_drop_0 : decode cX0_drop 0 = .ok (.aload_n 0, 1) := by decide +kernel
theorem dX0_drop_1 : decode cX0_drop 1 = .ok (.getfield 15, 3) := by decide +kernel
theorem dX0_drop_4 : decode cX0_drop 4 = .ok (.iconst 1, 1) := by decide +kernel
theorem dX0_drop_5 : decode cX0_drop 5 = .ok (.isub, 1) := by decide +kernel
theorem dX0_drop_6 : decode cX0_drop 6 = .ok (.istore_n 2, 1) := by decide +kernel
theorem dX0_drop_7 : decode cX0_drop 7 = .ok (.iload_n 2, 1) := by decide +kernel
theorem dX0_drop_8 : decode cX0_drop 8 = .ok (.ifCond .lt 23, 3) := by decide +kernel
theorem dX0_drop_11 : decode cX0_drop 11 = .ok (.aload_n 0, 1) := by decide +kernel
theorem dX0_drop_12 : decode cX0_drop 12 = .ok (.iload_n 2, 1) := by decide +kernel
theorem dX0_drop_13 : decode cX0_drop 13 = .ok (.iload_n 1, 1) := by decide +kernel
theorem dX0_drop_14 : decode cX0_drop 14 = .ok (.invokevirtual 59, 3) := by decide +kernel
theorem dX0_drop_17 : decode cX0_drop 17 = .ok (.ifCond .eq 8, 3) := by decide +kernel
theorem dX0_drop_20 : decode cX0_drop 20 = .ok (.aload_n 0, 1) := by decide +kernel
theorem dX0_drop_21 : decode cX0_drop 21 = .ok (.iload_n 2, 1) := by decide +kernel
theorem dX0_drop_22 : decode cX0_drop 22 = .ok (.invokevirtual 73, 3) := by decide +kernel
theorem dX0_drop_25 : decode cX0_drop 25 = .ok (.iinc 2 (-1), 3) := by decide +kernel
theorem dX0_drop_28 : decode cX0_drop 28 = .ok (.goto (-21), 3) := by decide +kernel
theorem dX0_drop_31 : decode cX0_drop 31 = .ok (.iconst 0, 1) := by decide +kernel
theorem dX0_drop_32 : decode cX0_drop 32 = .ok (.istore_n 2, 1) := by decide +kernel
theorem dX0_drop_33 : decode cX0_drop 33 = .ok (.iload_n 2, 1) := by decide +kernel
theorem dX0_drop_34 : decode cX0_drop 34 = .ok (.aload_n 0, 1) := by decide +kernel
theorem dX0_drop_35 : decode cX0_drop 35 = .ok (.getfield 15, 3) := by decide +kernel
theorem dX0_drop_38 : decode cX0_drop 38 = .ok (.if_icmp .ge 49, 3) := by decide +kernel
theorem dX0_drop_41 : decode cX0_drop 41 = .ok (.aload_n 0, 1) := by decide +kernel
theorem dX0_drop_42 : decode cX0_drop 42 = .ok (.getfield 38, 3) := by decide +kernel
theorem dX0_drop_45 : decode cX0_drop 45 = .ok (.iload_n 2, 1) := by decide +kernel
theorem dX0_drop_46 : decode cX0_drop 46 = .ok (.iload_n 1, 1) := by decide +kernel
theorem dX0_drop_47 : decode cX0_drop 47 = .ok (.aload_n 0, 1) := by decide +kernel
theorem dX0_drop_48 : decode cX0_drop 48 = .ok (.getfield 38, 3) := by decide +kernel
theorem dX0_drop_51 : decode cX0_drop 51 = .ok (.iload_n 2, 1) := by decide +kernel
theorem dX0_drop_52 : decode cX0_drop 52 = .ok (.invokestatic 48, 3) := by decide +kernel
theorem dX0_drop_55 : decode cX0_drop 55 = .ok (.invokestatic 77, 3) := by decide +kernel
theorem dX0_drop_58 : decode cX0_drop 58 = .ok (.invokestatic 69, 3) := by decide +kernel
theorem dX0_drop_61 : decode cX0_drop 61 = .ok (.aload_n 0, 1) := by decide +kernel
theorem dX0_drop_62 : decode cX0_drop 62 = .ok (.getfield 41, 3) := by decide +kernel
theorem dX0_drop_65 : decode cX0_drop 65 = .ok (.iload_n 2, 1) := by decide +kernel
theorem dX0_drop_66 : decode cX0_drop 66 = .ok (.iload_n 1, 1) := by decide +kernel
theorem dX0_drop_67 : decode cX0_drop 67 = .ok (.aload_n 0, 1) := by decide +kernel
theorem dX0_drop_68 : decode cX0_drop 68 = .ok (.getfield 41, 3) := by decide +kernel
theorem dX0_drop_71 : decode cX0_drop 71 = .ok (.iload_n 2, 1) := by decide +kernel
theorem dX0_drop_72 : decode cX0_drop 72 = .ok (.invokestatic 48, 3) := by decide +kernel
theorem dX0_drop_75 : decode cX0_drop 75 = .ok (.invokestatic 77, 3) := by decide +kernel
theorem dX0_drop_78 : decode cX0_drop 78 = .ok (.invokestatic 69, 3) := by decide +kernel
theorem dX0_drop_81 : decode cX0_drop 81 = .ok (.iinc 2 1, 3) := by decide +kernel
theorem dX0_drop_84 : decode cX0_drop 84 = .ok (.goto (-51), 3) := by decide +kernel
theorem dX0_drop_87 : decode cX0_drop 87 = .ok (.iload_n 1, 1) := by decide +kernel
theorem dX0_drop_88 : decode cX0_drop 88 = .ok (.iconst 0, 1) := by decide +kernel
theorem dX0_drop_89 : decode cX0_drop 89 = .ok (.invokestatic 63, 3) := by decide +kernel
theorem dX0_drop_92 : decode cX0_drop 92 = .ok (.istore_n 2, 1) := by decide +kernel
theorem dX0_drop_93 : decode cX0_drop 93 = .ok (.iload_n 2, 1) := by decide +kernel
theorem dX0_drop_94 : decode cX0_drop 94 = .ok (.iconst 1, 1) := by decide +kernel
theorem dX0_drop_95 : decode cX0_drop 95 = .ok (.iadd, 1) := by decide +kernel
theorem dX0_drop_96 : decode cX0_drop 96 = .ok (.bipush 12, 2) := by decide +kernel
theorem dX0_drop_98 : decode cX0_drop 98 = .ok (.if_icmp .ge 65, 3) := by decide +kernel
theorem dX0_drop_101 : decode cX0_drop 101 = .ok (.aload_n 0, 1) := by decide +kernel
theorem dX0_drop_102 : decode cX0_drop 102 = .ok (.getfield 24, 3) := by decide +kernel
theorem dX0_drop_105 : decode cX0_drop 105 = .ok (.iload_n 2, 1) := by decide +kernel
theorem dX0_drop_106 : decode cX0_drop 106 = .ok (.aload_n 0, 1) := by decide +kernel
theorem dX0_drop_107 : decode cX0_drop 107 = .ok (.getfield 24, 3) := by decide +kernel
theorem dX0_drop_110 : decode cX0_drop 110 = .ok (.iload_n 2, 1) := by decide +kernel
theorem dX0_drop_111 : decode cX0_drop 111 = .ok (.iconst 1, 1) := by decide +kernel
theorem dX0_drop_112 : decode cX0_drop 112 = .ok (.iadd, 1) := by decide +kernel
theorem dX0_drop_113 : decode cX0_drop 113 = .ok (.iaload, 1) := by decide +kernel
theorem dX0_drop_114 : decode cX0_drop 114 = .ok (.iastore, 1) := by decide +kernel
theorem dX0_drop_115 : decode cX0_drop 115 = .ok (.aload_n 0, 1) := by decide +kernel
theorem dX0_drop_116 : decode cX0_drop 116 = .ok (.getfield 28, 3) := by decide +kernel
theorem dX0_drop_119 : decode cX0_drop 119 = .ok (.iload_n 2, 1) := by decide +kernel
theorem dX0_drop_120 : decode cX0_drop 120 = .ok (.aload_n 0, 1) := by decide +kernel
theorem dX0_drop_121 : decode cX0_drop 121 = .ok (.getfield 28, 3) := by decide +kernel
theorem dX0_drop_124 : decode cX0_drop 124 = .ok (.iload_n 2, 1) := by decide +kernel
theorem dX0_drop_125 : decode cX0_drop 125 = .ok (.iconst 1, 1) := by decide +kernel
theorem dX0_drop_126 : decode cX0_drop 126 = .ok (.iadd, 1) := by decide +kernel
theorem dX0_drop_127 : decode cX0_drop 127 = .ok (.iaload, 1) := by decide +kernel
theorem dX0_drop_128 : decode cX0_drop 128 = .ok (.iastore, 1) := by decide +kernel
theorem dX0_drop_129 : decode cX0_drop 129 = .ok (.aload_n 0, 1) := by decide +kernel
theorem dX0_drop_130 : decode cX0_drop 130 = .ok (.getfield 31, 3) := by decide +kernel
theorem dX0_drop_133 : decode cX0_drop 133 = .ok (.iload_n 2, 1) := by decide +kernel
theorem dX0_drop_134 : decode cX0_drop 134 = .ok (.aload_n 0, 1) := by decide +kernel
theorem dX0_drop_135 : decode cX0_drop 135 = .ok (.getfield 31, 3) := by decide +kernel
theorem dX0_drop_138 : decode cX0_drop 138 = .ok (.iload_n 2, 1) := by decide +kernel
theorem dX0_drop_139 : decode cX0_drop 139 = .ok (.iconst 1, 1) := by decide +kernel
theorem dX0_drop_140 : decode cX0_drop 140 = .ok (.iadd, 1) := by decide +kernel
theorem dX0_drop_141 : decode cX0_drop 141 = .ok (.iaload, 1) := by decide +kernel
theorem dX0_drop_142 : decode cX0_drop 142 = .ok (.iastore, 1) := by decide +kernel
theorem dX0_drop_143 : decode cX0_drop 143 = .ok (.aload_n 0, 1) := by decide +kernel
theorem dX0_drop_144 : decode cX0_drop 144 = .ok (.getfield 34, 3) := by decide +kernel
theorem dX0_drop_147 : decode cX0_drop 147 = .ok (.iload_n 2, 1) := by decide +kernel
theorem dX0_drop_148 : decode cX0_drop 148 = .ok (.aload_n 0, 1) := by decide +kernel
theorem dX0_drop_149 : decode cX0_drop 149 = .ok (.getfield 34, 3) := by decide +kernel
theorem dX0_drop_152 : decode cX0_drop 152 = .ok (.iload_n 2, 1) := by decide +kernel
theorem dX0_drop_153 : decode cX0_drop 153 = .ok (.iconst 1, 1) := by decide +kernel
theorem dX0_drop_154 : decode cX0_drop 154 = .ok (.iadd, 1) := by decide +kernel
theorem dX0_drop_155 : decode cX0_drop 155 = .ok (.baload, 1) := by decide +kernel
theorem dX0_drop_156 : decode cX0_drop 156 = .ok (.bastore, 1) := by decide +kernel
theorem dX0_drop_157 : decode cX0_drop 157 = .ok (.iinc 2 1, 3) := by decide +kernel
theorem dX0_drop_160 : decode cX0_drop 160 = .ok (.goto (-67), 3) := by decide +kernel
theorem dX0_drop_163 : decode cX0_drop 163 = .ok (.aload_n 0, 1) := by decide +kernel
theorem dX0_drop_164 : decode cX0_drop 164 = .ok (.dup, 1) := by decide +kernel
theorem dX0_drop_165 : decode cX0_drop 165 = .ok (.getfield 9, 3) := by decide +kernel
theorem dX0_drop_168 : decode cX0_drop 168 = .ok (.iconst 1, 1) := by decide +kernel
theorem dX0_drop_169 : decode cX0_drop 169 = .ok (.isub, 1) := by decide +kernel
theorem dX0_drop_170 : decode cX0_drop 170 = .ok (.putfield 9, 3) := by decide +kernel
theorem dX0_drop_173 : decode cX0_drop 173 = .ok (.return_, 1) := by decide +kernel
theorem dX0_without_0 : decode cX0_without 0 = .ok (.iload_n 1, 1) := by decide +kernel
theorem dX0_without_1 : decode cX0_without 1 = .ok (.iload_n 0, 1) := by decide +kernel
theorem dX0_without_2 : decode cX0_without 2 = .ok (.if_icmp .le 9, 3) := by decide +kernel
theorem dX0_without_5 : decode cX0_without 5 = .ok (.iload_n 1, 1) := by decide +kernel
theorem dX0_without_6 : decode cX0_without 6 = .ok (.iconst 1, 1) := by decide +kernel
theorem dX0_without_7 : decode cX0_without 7 = .ok (.isub, 1) := by decide +kernel
theorem dX0_without_8 : decode cX0_without 8 = .ok (.goto 4, 3) := by decide +kernel
theorem dX0_without_11 : decode cX0_without 11 = .ok (.iload_n 1, 1) := by decide +kernel
theorem dX0_without_12 : decode cX0_without 12 = .ok (.ireturn, 1) := by decide +kernel
end
section
set_option maxRecDepth 20000 in
theorem ggX4_init_X0_init : GoodIn wsX4_init wsX0_init := goodIn_r _ [23, 24, 2, 3, 25, 26, 27, 28, 29, 30, 31, 32, 33, 34, 35, 36, 62, 63, 64, 65, 66, 67, 68, 69, 70, 71] (by decide +kernel) (by decide +kernel)
set_option maxRecDepth 20000 in
theorem gX4_init_X0_init_n9 : GoodIn wsX4_init (wsX0_init) := ggX4_init_X0_init
set_option maxRecDepth 20000 in
theorem ggX4_init_X1_init : GoodIn wsX4_init wsX1_init := goodIn_r _ [38, 39, 2, 3, 40, 29, 41, 42, 43, 44, 45, 46, 78, 79, 80, 81, 82, 83, 84] (by decide +kernel) (by decide +kernel)
set_option maxRecDepth 20000 in
theorem gX4_init_X1_init_n18 : GoodIn wsX4_init (wsX1_init) := ggX4_init_X1_init
set_option maxRecDepth 20000 in
theorem ggX4_init_X2_init : GoodIn wsX4_init wsX2_init := goodIn_r _ [49, 50, 2, 3, 51, 52, 53, 5, 6, 22, 23, 24, 25, 26, 27, 28, 29, 30, 31, 32, 33, 34, 35, 36, 85, 86, 62, 63, 64, 65, 66, 67, 68, 69, 70, 71] (by decide +kernel) (by decide +kernel)
set_option maxRecDepth 20000 in
theorem gX4_init_X2_init : GoodIn wsX4_init (wsX2_init) := ggX4_init_X2_init
set_option maxRecDepth 20000 in
theorem ggX4_init_X3_init : GoodIn wsX4_init wsX3_init := goodIn_r _ [55, 56, 2, 3, 29, 57, 58, 59, 60, 61, 87, 88, 89, 90, 91] (by decide +kernel) (by decide +kernel)
set_option maxRecDepth 20000 in
theorem gX4_init_X3_init_n32 : GoodIn wsX4_init (wsX3_init) := ggX4_init_X3_init
theorem dX4_init_0 : decode cX4_init 0 = .ok (.aload_n 0, 1) := by decide +kernel
theorem dX4_init_1 : decode cX4_init 1 = .ok (.invokespecial 1, 3) := by decide +kernel
theorem dX4_init_4 : decode cX4_init 4 = .ok (.aload_n 0, 1) := by decide +kernel
theorem dX4_init_5 : decode cX4_init 5 = .ok (.new 7, 3) := by decide +kernel
theorem dX4_init_8 : decode cX4_init 8 = .ok (.dup, 1) := by decide +kernel
theorem dX4_init_9 : decode cX4_init 9 = .ok (.invokespecial 9, 3) := by decide +kernel
theorem dX4_init_12 : decode cX4_init 12 = .ok (.putfield 10, 3) := by decide +kernel
theorem dX4_init_15 : decode cX4_init 15 = .ok (.aload_n 0, 1) := by decide +kernel
theorem dX4_init_16 : decode cX4_init 16 = .ok (.new 16, 3) := by decide +kernel
theorem dX4_init_19 : decode cX4_init 19 = .ok (.dup, 1) := by decide +kernel
theorem dX4_init_20 : decode cX4_init 20 = .ok (.invokespecial 18, 3) := by decide +kernel
theorem dX4_init_23 : decode cX4_init 23 = .ok (.putfield 19, 3) := by decide +kernel
theorem dX4_init_26 : decode cX4_init 26 = .ok (.aload_n 0, 1) := by decide +kernel
theorem dX4_init_27 : decode cX4_init 27 = .ok (.new 23, 3) := by decide +kernel
theorem dX4_init_30 : decode cX4_init 30 = .ok (.dup, 1) := by decide +kernel
theorem dX4_init_31 : decode cX4_init 31 = .ok (.invokespecial 25, 3) := by decide +kernel
theorem dX4_init_34 : decode cX4_init 34 = .ok (.putfield 26, 3) := by decide +kernel
theorem dX4_init_37 : decode cX4_init 37 = .ok (.aload_n 0, 1) := by decide +kernel
theorem dX4_init_38 : decode cX4_init 38 = .ok (.new 30, 3) := by decide +kernel
theorem dX4_init_41 : decode cX4_init 41 = .ok (.dup, 1) := by decide +kernel
theorem dX4_init_42 : decode cX4_init 42 = .ok (.invokespecial 32, 3) := by decide +kernel
theorem dX4_init_45 : decode cX4_init 45 = .ok (.putfield 33, 3) := by decide +kernel
theorem dX4_init_48 : decode cX4_init 48 = .ok (.aload_n 0, 1) := by decide +kernel
theorem dX4_init_49 : decode cX4_init 49 = .ok (.new 7, 3) := by decide +kernel
theorem dX4_init_52 : decode cX4_init 52 = .ok (.dup, 1) := by decide +kernel
theorem dX4_init_53 : decode cX4_init 53 = .ok (.invokespecial 9, 3) := by decide +kernel
theorem dX4_init_56 : decode cX4_init 56 = .ok (.putfield 37, 3) := by decide +kernel
theorem dX4_init_59 : decode cX4_init 59 = .ok (.aload_n 0, 1) := by decide +kernel
theorem dX4_init_60 : decode cX4_init 60 = .ok (.new 16, 3) := by decide +kernel
theorem dX4_init_63 : decode cX4_init 63 = .ok (.dup, 1) := by decide +kernel
theorem dX4_init_64 : decode cX4_init 64 = .ok (.invokespecial 18, 3) := by decide +kernel
theorem dX4_init_67 : decode cX4_init 67 = .ok (.putfield 40, 3) := by decide +kernel
theorem dX4_init_70 : decode cX4_init 70 = .ok (.return_, 1) := by decide +kernel
set_option maxRecDepth 20000 in
theorem ggX4_addSection_X4_isSize : GoodIn wsX4_addSection wsX4_isSize := goodIn_r _ [7, 8, 9, 6, 10] (by decide +kernel) (by decide +kernel)
set_option maxRecDepth 20000 in
theorem gX4_addSection_X4_isSize : GoodIn wsX4_addSection (va_wsS RX4 43 yX4_isSize wsX4_isSize) := goodIn_app (goodIn_of _ (by decide +kernel)) ggX4_addSection_X4_isSize
set_option maxRecDepth 20000 in
theorem ggX4_addSection_X0_hasRoomForSection : GoodIn wsX4_addSection wsX0_hasRoomForSection := goodIn_r _ [15, 16, 122, 123, 124, 125, 126, 127, 128, 129, 130, 131] (by decide +kernel) (by decide +kernel)
set_option maxRecDepth 20000 in
theorem gX4_addSection_X0_hasRoomForSection : GoodIn wsX4_addSection (wsV RX4 47 RX0 yX0_hasRoomForSection wsX0_hasRoomForSection) := goodIn_app (goodIn_of _ (by decide +kernel)) ggX4_addSection_X0_hasRoomForSection
set_option maxRecDepth 20000 in
theorem ggX4_addSection_X2_keep : GoodIn wsX4_addSection wsX2_keep := goodIn_r _ [21, 22, 23, 24, 25, 26, 20, 27, 28, 29, 30, 31, 32, 33, 34, 14, 35, 16, 36, 37, 38, 39, 40, 41, 42, 43, 44, 132, 133, 122, 123, 124, 125, 126, 127, 128, 129, 130, 131] (by decide +kernel) (by decide +kernel)
set_option maxRecDepth 20000 in
theorem gX4_addSection_X2_keep : GoodIn wsX4_addSection (wsV RX4 51 RX2 yX2_keep wsX2_keep) := goodIn_app (goodIn_of _ (by decide +kernel)) ggX4_addSection_X2_keep
set_option maxRecDepth 20000 in
theorem ggX4_addSection_X0_append : GoodIn wsX4_addSection wsX0_append := goodIn_r _ [48, 16, 39, 40, 41, 42, 122, 123, 124, 125, 126, 127, 128, 129, 130, 131] (by decide +kernel) (by decide +kernel)
set_option maxRecDepth 20000 in
theorem gX4_addSection_X0_append : GoodIn wsX4_addSection (wsV RX4 55 RX0 yX0_append wsX0_append) := goodIn_app (goodIn_of _ (by decide +kernel)) ggX4_addSection_X0_append
set_option maxRecDepth 20000 in
theorem ggX4_addSection_X1_follow : GoodIn wsX4_addSection wsX1_follow := goodIn_r _ [53, 54, 55, 56, 57, 58, 59, 60, 61, 62, 63, 64, 14, 65, 39, 16, 40, 41, 66, 6, 67, 68, 69, 70, 71, 72, 73, 74, 75, 76, 52, 77, 78, 79, 80, 81, 82, 83, 84, 85, 86, 87, 88, 89, 90, 91, 92, 93, 94, 37, 95, 96, 97, 98, 99, 100, 101, 102, 103, 104, 105, 106, 107, 38, 108, 109, 110, 111, 42, 112, 113, 114, 115, 122, 123, 124, 125, 126, 127, 128, 129, 130, 131, 134, 135, 136, 137, 138, 139, 140] (by decide +kernel) (by decide +kernel)
set_option maxRecDepth 20000 in
theorem gX4_addSection_X1_follow : GoodIn wsX4_addSection (wsV RX4 59 RX1 yX1_follow wsX1_follow) := goodIn_app (goodIn_of _ (by decide +kernel)) ggX4_addSection_X1_follow
theorem dX4_addSection_0 : decode cX4_addSection 0 = .ok (.iload_n 1, 1) := by decide +kernel
theorem dX4_addSection_1 : decode cX4_addSection 1 = .ok (.invokestatic 43, 3) := by decide +kernel
theorem dX4_addSection_4 : decode cX4_addSection 4 = .ok (.ifCond .eq 10, 3) := by decide +kernel
theorem dX4_addSection_7 : decode cX4_addSection 7 = .ok (.iload_n 2, 1) := by decide +kernel
theorem dX4_addSection_8 : decode cX4_addSection 8 = .ok (.invokestatic 43, 3) := by decide +kernel
theorem dX4_addSection_11 : decode cX4_addSection 11 = .ok (.ifCond .ne 6, 3) := by decide +kernel
theorem dX4_addSection_14 : decode cX4_addSection 14 = .ok (.bipush (-3), 2) := by decide +kernel
theorem dX4_addSection_16 : decode cX4_addSection 16 = .ok (.ireturn, 1) := by decide +kernel
theorem dX4_addSection_17 : decode cX4_addSection 17 = .ok (.aload_n 0, 1) := by decide +kernel
theorem dX4_addSection_18 : decode cX4_addSection 18 = .ok (.getfield 10, 3) := by decide +kernel
theorem dX4_addSection_21 : decode cX4_addSection 21 = .ok (.invokevirtual 47, 3) := by decide +kernel
theorem dX4_addSection_24 : decode cX4_addSection 24 = .ok (.ifCond .ne 6, 3) := by decide +kernel
theorem dX4_addSection_27 : decode cX4_addSection 27 = .ok (.bipush (-5), 2) := by decide +kernel
theorem dX4_addSection_29 : decode cX4_addSection 29 = .ok (.ireturn, 1) := by decide +kernel
theorem dX4_addSection_30 : decode cX4_addSection 30 = .ok (.aload_n 0, 1) := by decide +kernel
theorem dX4_addSection_31 : decode cX4_addSection 31 = .ok (.getfield 26, 3) := by decide +kernel
theorem dX4_addSection_34 : decode cX4_addSection 34 = .ok (.aload_n 0, 1) := by decide +kernel
theorem dX4_addSection_35 : decode cX4_addSection 35 = .ok (.getfield 10, 3) := by decide +kernel
theorem dX4_addSection_38 : decode cX4_addSection 38 = .ok (.invokevirtual 51, 3) := by decide +kernel
theorem dX4_addSection_41 : decode cX4_addSection 41 = .ok (.aload_n 0, 1) := by decide +kernel
theorem dX4_addSection_42 : decode cX4_addSection 42 = .ok (.getfield 10, 3) := by decide +kernel
theorem dX4_addSection_45 : decode cX4_addSection 45 = .ok (.iload_n 1, 1) := by decide +kernel
theorem dX4_addSection_46 : decode cX4_addSection 46 = .ok (.iload_n 2, 1) := by decide +kernel
theorem dX4_addSection_47 : decode cX4_addSection 47 = .ok (.iconst 0, 1) := by decide +kernel
theorem dX4_addSection_48 : decode cX4_addSection 48 = .ok (.iload_n 3, 1) := by decide +kernel
theorem dX4_addSection_49 : decode cX4_addSection 49 = .ok (.invokevirtual 55, 3) := by decide +kernel
theorem dX4_addSection_52 : decode cX4_addSection 52 = .ok (.istore 4, 2) := by decide +kernel
theorem dX4_addSection_54 : decode cX4_addSection 54 = .ok (.aload_n 0, 1) := by decide +kernel
theorem dX4_addSection_55 : decode cX4_addSection 55 = .ok (.getfield 19, 3) := by decide +kernel
theorem dX4_addSection_58 : decode cX4_addSection 58 = .ok (.aload_n 0, 1) := by decide +kernel
theorem dX4_addSection_59 : decode cX4_addSection 59 = .ok (.getfield 10, 3) := by decide +kernel
theorem dX4_addSection_62 : decode cX4_addSection 62 = .ok (.invokevirtual 59, 3) := by decide +kernel
theorem dX4_addSection_65 : decode cX4_addSection 65 = .ok (.iload 4, 2) := by decide +kernel
theorem dX4_addSection_67 : decode cX4_addSection 67 = .ok (.ireturn, 1) := by decide +kernel
set_option maxRecDepth 20000 in
theorem ggX4_resize_X0_has : GoodIn wsX4_resize wsX0_has := goodIn_r _ [10, 11, 119, 120, 121, 122, 123, 124, 125, 126, 127, 128] (by decide +kernel) (by decide +kernel)
set_option maxRecDepth 20000 in
theorem gX4_resize_X0_has : GoodIn wsX4_resize (wsV RX4 62 RX0 yX0_has wsX0_has) := goodIn_app (goodIn_of _ (by decide +kernel)) ggX4_resize_X0_has
set_option maxRecDepth 20000 in
theorem ggX4_resize_X4_isSize : GoodIn wsX4_resize wsX4_isSize := goodIn_r _ [15, 16, 17, 14, 18] (by decide +kernel) (by decide +kernel)
set_option maxRecDepth 20000 in
theorem gX4_resize_X4_isSize : GoodIn wsX4_resize (va_wsS RX4 43 yX4_isSize wsX4_isSize) := goodIn_app (goodIn_of _ (by decide +kernel)) ggX4_resize_X4_isSize
set_option maxRecDepth 20000 in
theorem ggX4_resize_X2_keep : GoodIn wsX4_resize wsX2_keep := goodIn_r _ [23, 24, 25, 26, 27, 28, 22, 29, 30, 31, 32, 33, 34, 35, 36, 9, 37, 11, 38, 39, 40, 41, 42, 43, 44, 45, 46, 129, 130, 119, 120, 121, 122, 123, 124, 125, 126, 127, 128] (by decide +kernel) (by decide +kernel)
set_option maxRecDepth 20000 in
theorem gX4_resize_X2_keep : GoodIn wsX4_resize (wsV RX4 51 RX2 yX2_keep wsX2_keep) := goodIn_app (goodIn_of _ (by decide +kernel)) ggX4_resize_X2_keep
set_option maxRecDepth 20000 in
theorem ggX4_resize_X4_at : GoodIn wsX4_resize wsX4_at := goodIn_r _ [49] (by decide +kernel) (by decide +kernel)
set_option maxRecDepth 20000 in
theorem gX4_resize_X4_at : GoodIn wsX4_resize (va_wsS RX4 69 yX4_at wsX4_at) := goodIn_app (goodIn_of _ (by decide +kernel)) ggX4_resize_X4_at
set_option maxRecDepth 20000 in
theorem ggX4_resize_X4_put : GoodIn wsX4_resize wsX4_put := goodIn_r _ [52] (by decide +kernel) (by decide +kernel)
set_option maxRecDepth 20000 in
theorem gX4_resize_X4_put : GoodIn wsX4_resize (va_wsS RX4 73 yX4_put wsX4_put) := goodIn_app (goodIn_of _ (by decide +kernel)) ggX4_resize_X4_put
set_option maxRecDepth 20000 in
theorem ggX4_resize_X1_follow : GoodIn wsX4_resize wsX1_follow := goodIn_r _ [57, 58, 59, 60, 61, 62, 63, 64, 65, 66, 67, 68, 9, 69, 41, 11, 42, 43, 48, 14, 49, 70, 71, 72, 73, 51, 52, 74, 75, 76, 56, 77, 78, 79, 80, 81, 82, 83, 84, 85, 86, 87, 88, 89, 90, 91, 92, 93, 94, 39, 95, 96, 97, 98, 99, 100, 101, 102, 103, 104, 105, 106, 107, 40, 108, 109, 110, 111, 44, 112, 7, 8, 10, 119, 120, 121, 122, 123, 124, 125, 126, 127, 128, 131, 132, 133, 134, 135, 136, 137] (by decide +kernel) (by decide +kernel)
set_option maxRecDepth 20000 in
theorem gX4_resize_X1_follow : GoodIn wsX4_resize (wsV RX4 59 RX1 yX1_follow wsX1_follow) := goodIn_app (goodIn_of _ (by decide +kernel)) ggX4_resize_X1_follow
theorem dX4_resize_0 : decode cX4_resize 0 = .ok (.aload_n 0, 1) := by decide +kernel
theorem dX4_resize_1 : decode cX4_resize 1 = .ok (.getfield 10, 3) := by decide +kernel
theorem dX4_resize_4 : decode cX4_resize 4 = .ok (.iload_n 1, 1) := by decide +kernel
theorem dX4_resize_5 : decode cX4_resize 5 = .ok (.invokevirtual 62, 3) := by decide +kernel
theorem dX4_resize_8 : decode cX4_resize 8 = .ok (.ifCond .ne 6, 3) := by decide +kernel
theorem dX4_resize_11 : decode cX4_resize 11 = .ok (.bipush (-2), 2) := by decide +kernel
theorem dX4_resize_13 : decode cX4_resize 13 = .ok (.ireturn, 1) := by decide +kernel
theorem dX4_resize_14 : decode cX4_resize 14 = .ok (.iload_n 2, 1) := by decide +kernel
theorem dX4_resize_15 : decode cX4_resize 15 = .ok (.invokestatic 43, 3) := by decide +kernel
theorem dX4_resize_18 : decode cX4_resize 18 = .ok (.ifCond .eq 10, 3) := by decide +kernel
theorem dX4_resize_21 : decode cX4_resize 21 = .ok (.iload_n 3, 1) := by decide +kernel
theorem dX4_resize_22 : decode cX4_resize 22 = .ok (.invokestatic 43, 3) := by decide +kernel
theorem dX4_resize_25 : decode cX4_resize 25 = .ok (.ifCond .ne 6, 3) := by decide +kernel
theorem dX4_resize_28 : decode cX4_resize 28 = .ok (.bipush (-3), 2) := by decide +kernel
theorem dX4_resize_30 : decode cX4_resize 30 = .ok (.ireturn, 1) := by decide +kernel
theorem dX4_resize_31 : decode cX4_resize 31 = .ok (.aload_n 0, 1) := by decide +kernel
theorem dX4_resize_32 : decode cX4_resize 32 = .ok (.getfield 26, 3) := by decide +kernel
theorem dX4_resize_35 : decode cX4_resize 35 = .ok (.aload_n 0, 1) := by decide +kernel
theorem dX4_resize_36 : decode cX4_resize 36 = .ok (.getfield 10, 3) := by decide +kernel
theorem dX4_resize_39 : decode cX4_resize 39 = .ok (.invokevirtual 51, 3) := by decide +kernel
theorem dX4_resize_42 : decode cX4_resize 42 = .ok (.aload_n 0, 1) := by decide +kernel
theorem dX4_resize_43 : decode cX4_resize 43 = .ok (.getfield 10, 3) := by decide +kernel
theorem dX4_resize_46 : decode cX4_resize 46 = .ok (.getfield 65, 3) := by decide +kernel
theorem dX4_resize_49 : decode cX4_resize 49 = .ok (.iload_n 1, 1) := by decide +kernel
theorem dX4_resize_50 : decode cX4_resize 50 = .ok (.invokestatic 69, 3) := by decide +kernel
theorem dX4_resize_53 : decode cX4_resize 53 = .ok (.istore 4, 2) := by decide +kernel
theorem dX4_resize_55 : decode cX4_resize 55 = .ok (.aload_n 0, 1) := by decide +kernel
theorem dX4_resize_56 : decode cX4_resize 56 = .ok (.getfield 10, 3) := by decide +kernel
theorem dX4_resize_59 : decode cX4_resize 59 = .ok (.getfield 65, 3) := by decide +kernel
theorem dX4_resize_62 : decode cX4_resize 62 = .ok (.iload_n 1, 1) := by decide +kernel
theorem dX4_resize_63 : decode cX4_resize 63 = .ok (.iload_n 2, 1) := by decide +kernel
theorem dX4_resize_64 : decode cX4_resize 64 = .ok (.invokestatic 73, 3) := by decide +kernel
theorem dX4_resize_67 : decode cX4_resize 67 = .ok (.aload_n 0, 1) := by decide +kernel
theorem dX4_resize_68 : decode cX4_resize 68 = .ok (.getfield 10, 3) := by decide +kernel
theorem dX4_resize_71 : decode cX4_resize 71 = .ok (.getfield 77, 3) := by decide +kernel
theorem dX4_resize_74 : decode cX4_resize 74 = .ok (.iload_n 1, 1) := by decide +kernel
theorem dX4_resize_75 : decode cX4_resize 75 = .ok (.iload_n 3, 1) := by decide +kernel
theorem dX4_resize_76 : decode cX4_resize 76 = .ok (.invokestatic 73, 3) := by decide +kernel
theorem dX4_resize_79 : decode cX4_resize 79 = .ok (.aload_n 0, 1) := by decide +kernel
theorem dX4_resize_80 : decode cX4_resize 80 = .ok (.getfield 19, 3) := by decide +kernel
theorem dX4_resize_83 : decode cX4_resize 83 = .ok (.aload_n 0, 1) := by decide +kernel
theorem dX4_resize_84 : decode cX4_resize 84 = .ok (.getfield 10, 3) := by decide +kernel
theorem dX4_resize_87 : decode cX4_resize 87 = .ok (.invokevirtual 59, 3) := by decide +kernel
theorem dX4_resize_90 : decode cX4_resize 90 = .ok (.iload 4, 2) := by decide +kernel
theorem dX4_resize_92 : decode cX4_resize 92 = .ok (.ireturn, 1) := by decide +kernel
set_option maxRecDepth 20000 in
theorem ggX4_setChill_X0_has : GoodIn wsX4_setChill wsX0_has := goodIn_r _ [9, 10, 115, 116, 117, 118, 119, 120, 121, 122, 123, 124] (by decide +kernel) (by decide +kernel)
set_option maxRecDepth 20000 in
theorem gX4_setChill_X0_has : GoodIn wsX4_setChill (wsV RX4 62 RX0 yX0_has wsX0_has) := goodIn_app (goodIn_of _ (by decide +kernel)) ggX4_setChill_X0_has
set_option maxRecDepth 20000 in
theorem ggX4_setChill_X4_isWithin : GoodIn wsX4_setChill wsX4_isWithin := goodIn_r _ [14] (by decide +kernel) (by decide +kernel)
set_option maxRecDepth 20000 in
theorem gX4_setChill_X4_isWithin : GoodIn wsX4_setChill (va_wsS RX4 80 yX4_isWithin wsX4_isWithin) := goodIn_app (goodIn_of _ (by decide +kernel)) ggX4_setChill_X4_isWithin
set_option maxRecDepth 20000 in
theorem ggX4_setChill_X2_keep : GoodIn wsX4_setChill wsX2_keep := goodIn_r _ [19, 20, 21, 22, 23, 24, 18, 25, 26, 27, 28, 29, 30, 31, 32, 8, 33, 10, 34, 35, 36, 37, 38, 39, 40, 41, 42, 125, 126, 115, 116, 117, 118, 119, 120, 121, 122, 123, 124] (by decide +kernel) (by decide +kernel)
set_option maxRecDepth 20000 in
theorem gX4_setChill_X2_keep : GoodIn wsX4_setChill (wsV RX4 51 RX2 yX2_keep wsX2_keep) := goodIn_app (goodIn_of _ (by decide +kernel)) ggX4_setChill_X2_keep
set_option maxRecDepth 20000 in
theorem ggX4_setChill_X4_at : GoodIn wsX4_setChill wsX4_at := goodIn_r _ [45] (by decide +kernel) (by decide +kernel)
set_option maxRecDepth 20000 in
theorem gX4_setChill_X4_at : GoodIn wsX4_setChill (va_wsS RX4 69 yX4_at wsX4_at) := goodIn_app (goodIn_of _ (by decide +kernel)) ggX4_setChill_X4_at
set_option maxRecDepth 20000 in
theorem ggX4_setChill_X4_put : GoodIn wsX4_setChill wsX4_put := goodIn_r _ [48] (by decide +kernel) (by decide +kernel)
set_option maxRecDepth 20000 in
theorem gX4_setChill_X4_put : GoodIn wsX4_setChill (va_wsS RX4 73 yX4_put wsX4_put) := goodIn_app (goodIn_of _ (by decide +kernel)) ggX4_setChill_X4_put
set_option maxRecDepth 20000 in
theorem ggX4_setChill_X1_follow : GoodIn wsX4_setChill wsX1_follow := goodIn_r _ [53, 54, 55, 56, 57, 58, 59, 60, 61, 62, 63, 64, 8, 65, 37, 10, 38, 39, 44, 13, 45, 66, 67, 68, 69, 47, 48, 70, 71, 72, 52, 73, 74, 75, 76, 77, 78, 79, 80, 81, 82, 83, 84, 85, 86, 87, 88, 89, 90, 35, 91, 92, 93, 94, 95, 96, 97, 98, 99, 100, 101, 102, 103, 36, 104, 105, 106, 107, 40, 108, 6, 7, 9, 115, 116, 117, 118, 119, 120, 121, 122, 123, 124, 127, 128, 129, 130, 131, 132, 133] (by decide +kernel) (by decide +kernel)
set_option maxRecDepth 20000 in
theorem gX4_setChill_X1_follow : GoodIn wsX4_setChill (wsV RX4 59 RX1 yX1_follow wsX1_follow) := goodIn_app (goodIn_of _ (by decide +kernel)) ggX4_setChill_X1_follow
theorem dX4_setChill_0 : decode cX4_setChill 0 = .ok (.aload_n 0, 1) := by decide +kernel
theorem dX4_setChill_1 : decode cX4_setChill 1 = .ok (.getfield 10, 3) := by decide +kernel
theorem dX4_setChill_4 : decode cX4_setChill 4 = .ok (.iload_n 1, 1) := by decide +kernel
theorem dX4_setChill_5 : decode cX4_setChill 5 = .ok (.invokevirtual 62, 3) := by decide +kernel
theorem dX4_setChill_8 : decode cX4_setChill 8 = .ok (.ifCond .ne 6, 3) := by decide +kernel
theorem dX4_setChill_11 : decode cX4_setChill 11 = .ok (.bipush (-2), 2) := by decide +kernel
theorem dX4_setChill_13 : decode cX4_setChill 13 = .ok (.ireturn, 1) := by decide +kernel
theorem dX4_setChill_14 : decode cX4_setChill 14 = .ok (.iload_n 2, 1) := by decide +kernel
theorem dX4_setChill_15 : decode cX4_setChill 15 = .ok (.iconst 0, 1) := by decide +kernel
theorem dX4_setChill_16 : decode cX4_setChill 16 = .ok (.sipush 500, 3) := by decide +kernel
theorem dX4_setChill_19 : decode cX4_setChill 19 = .ok (.invokestatic 80, 3) := by decide +kernel
theorem dX4_setChill_22 : decode cX4_setChill 22 = .ok (.ifCond .ne 6, 3) := by decide +kernel
theorem dX4_setChill_25 : decode cX4_setChill 25 = .ok (.bipush (-3), 2) := by decide +kernel
theorem dX4_setChill_27 : decode cX4_setChill 27 = .ok (.ireturn, 1) := by decide +kernel
theorem dX4_setChill_28 : decode cX4_setChill 28 = .ok (.aload_n 0, 1) := by decide +kernel
theorem dX4_setChill_29 : decode cX4_setChill 29 = .ok (.getfield 26, 3) := by decide +kernel
theorem dX4_setChill_32 : decode cX4_setChill 32 = .ok (.aload_n 0, 1) := by decide +kernel
theorem dX4_setChill_33 : decode cX4_setChill 33 = .ok (.getfield 10, 3) := by decide +kernel
theorem dX4_setChill_36 : decode cX4_setChill 36 = .ok (.invokevirtual 51, 3) := by decide +kernel
theorem dX4_setChill_39 : decode cX4_setChill 39 = .ok (.aload_n 0, 1) := by decide +kernel
theorem dX4_setChill_40 : decode cX4_setChill 40 = .ok (.getfield 10, 3) := by decide +kernel
theorem dX4_setChill_43 : decode cX4_setChill 43 = .ok (.getfield 84, 3) := by decide +kernel
theorem dX4_setChill_46 : decode cX4_setChill 46 = .ok (.iload_n 1, 1) := by decide +kernel
theorem dX4_setChill_47 : decode cX4_setChill 47 = .ok (.invokestatic 69, 3) := by decide +kernel
theorem dX4_setChill_50 : decode cX4_setChill 50 = .ok (.istore_n 3, 1) := by decide +kernel
theorem dX4_setChill_51 : decode cX4_setChill 51 = .ok (.aload_n 0, 1) := by decide +kernel
theorem dX4_setChill_52 : decode cX4_setChill 52 = .ok (.getfield 10, 3) := by decide +kernel
theorem dX4_setChill_55 : decode cX4_setChill 55 = .ok (.getfield 84, 3) := by decide +kernel
theorem dX4_setChill_58 : decode cX4_setChill 58 = .ok (.iload_n 1, 1) := by decide +kernel
theorem dX4_setChill_59 : decode cX4_setChill 59 = .ok (.iload_n 2, 1) := by decide +kernel
theorem dX4_setChill_60 : decode cX4_setChill 60 = .ok (.invokestatic 73, 3) := by decide +kernel
theorem dX4_setChill_63 : decode cX4_setChill 63 = .ok (.aload_n 0, 1) := by decide +kernel
theorem dX4_setChill_64 : decode cX4_setChill 64 = .ok (.getfield 19, 3) := by decide +kernel
theorem dX4_setChill_67 : decode cX4_setChill 67 = .ok (.aload_n 0, 1) := by decide +kernel
theorem dX4_setChill_68 : decode cX4_setChill 68 = .ok (.getfield 10, 3) := by decide +kernel
theorem dX4_setChill_71 : decode cX4_setChill 71 = .ok (.invokevirtual 59, 3) := by decide +kernel
theorem dX4_setChill_74 : decode cX4_setChill 74 = .ok (.iload_n 3, 1) := by decide +kernel
theorem dX4_setChill_75 : decode cX4_setChill 75 = .ok (.ireturn, 1) := by decide +kernel
set_option maxRecDepth 20000 in
theorem ggX4_removeSection_X0_has : GoodIn wsX4_removeSection wsX0_has := goodIn_r _ [9, 10, 126, 127, 128, 129, 130, 131, 132, 133, 134, 135] (by decide +kernel) (by decide +kernel)
set_option maxRecDepth 20000 in
theorem gX4_removeSection_X0_has : GoodIn wsX4_removeSection (wsV RX4 62 RX0 yX0_has wsX0_has) := goodIn_app (goodIn_of _ (by decide +kernel)) ggX4_removeSection_X0_has
set_option maxRecDepth 20000 in
theorem ggX4_removeSection_X2_keep : GoodIn wsX4_removeSection wsX2_keep := goodIn_r _ [15, 16, 17, 18, 19, 20, 14, 21, 22, 23, 24, 25, 26, 27, 28, 8, 29, 10, 30, 31, 32, 33, 34, 35, 36, 37, 38, 136, 137, 126, 127, 128, 129, 130, 131, 132, 133, 134, 135] (by decide +kernel) (by decide +kernel)
set_option maxRecDepth 20000 in
theorem gX4_removeSection_X2_keep : GoodIn wsX4_removeSection (wsV RX4 51 RX2 yX2_keep wsX2_keep) := goodIn_app (goodIn_of _ (by decide +kernel)) ggX4_removeSection_X2_keep
set_option maxRecDepth 20000 in
theorem ggX4_removeSection_X0_drop : GoodIn wsX4_removeSection wsX0_drop := goodIn_r _ [42, 30, 37, 38, 43, 44, 45, 46, 33, 34, 35, 36, 10, 47, 48, 49, 8, 50, 51, 52, 53, 54, 55, 56, 57, 58, 59, 60, 61, 62, 126, 127, 128, 129, 130, 131, 132, 133, 134, 135] (by decide +kernel) (by decide +kernel)
set_option maxRecDepth 20000 in
theorem gX4_removeSection_X0_drop : GoodIn wsX4_removeSection (wsV RX4 87 RX0 yX0_drop wsX0_drop) := goodIn_app (goodIn_of _ (by decide +kernel)) ggX4_removeSection_X0_drop
set_option maxRecDepth 20000 in
theorem ggX4_removeSection_X1_follow : GoodIn wsX4_removeSection wsX1_follow := goodIn_r _ [67, 68, 69, 70, 45, 71, 72, 73, 74, 75, 76, 77, 8, 78, 33, 10, 34, 35, 51, 52, 53, 79, 80, 81, 82, 58, 59, 83, 84, 85, 66, 86, 87, 88, 89, 90, 91, 92, 93, 94, 95, 96, 97, 98, 99, 100, 101, 102, 103, 31, 104, 105, 106, 107, 108, 109, 110, 44, 46, 111, 112, 113, 114, 32, 115, 116, 117, 118, 36, 119, 6, 7, 9, 126, 127, 128, 129, 130, 131, 132, 133, 134, 135, 138, 139, 140, 141, 142, 143, 144] (by decide +kernel) (by decide +kernel)
set_option maxRecDepth 20000 in
theorem gX4_removeSection_X1_follow : GoodIn wsX4_removeSection (wsV RX4 59 RX1 yX1_follow wsX1_follow) := goodIn_app (goodIn_of _ (by decide +kernel)) ggX4_removeSection_X1_follow
theorem dX4_removeSection_0 : decode cX4_removeSection 0 = .ok (.aload_n 0, 1) := by decide +kernel
theorem dX4_removeSection_1 : decode cX4_removeSection 1 = .ok (.getfield 10, 3) := by decide +kernel
theorem dX4_removeSection_4 : decode cX4_removeSection 4 = .ok (.iload_n 1, 1) := by decide +kernel
theorem dX4_removeSection_5 : decode cX4_removeSection 5 = .ok (.invokevirtual 62, 3) := by decide +kernel
theorem dX4_removeSection_8 : decode cX4_removeSection 8 = .ok (.ifCond .ne 6, 3) := by decide +kernel
theorem dX4_removeSection_11 : decode cX4_removeSection 11 = .ok (.bipush (-2), 2) := by decide +kernel
theorem dX4_removeSection_13 : decode cX4_removeSection 13 = .ok (.ireturn, 1) := by decide +kernel
theorem dX4_removeSection_14 : decode cX4_removeSection 14 = .ok (.aload_n 0, 1) := by decide +kernel
theorem dX4_removeSection_15 : decode cX4_removeSection 15 = .ok (.getfield 26, 3) := by decide +kernel
theorem dX4_removeSection_18 : decode cX4_removeSection 18 = .ok (.aload_n 0, 1) := by decide +kernel
theorem dX4_removeSection_19 : decode cX4_removeSection 19 = .ok (.getfield 10, 3) := by decide +kernel
theorem dX4_removeSection_22 : decode cX4_removeSection 22 = .ok (.invokevirtual 51, 3) := by decide +kernel
theorem dX4_removeSection_25 : decode cX4_removeSection 25 = .ok (.aload_n 0, 1) := by decide +kernel
theorem dX4_removeSection_26 : decode cX4_removeSection 26 = .ok (.getfield 10, 3) := by decide +kernel
theorem dX4_removeSection_29 : decode cX4_removeSection 29 = .ok (.iload_n 1, 1) := by decide +kernel
theorem dX4_removeSection_30 : decode cX4_removeSection 30 = .ok (.invokevirtual 87, 3) := by decide +kernel
theorem dX4_removeSection_33 : decode cX4_removeSection 33 = .ok (.aload_n 0, 1) := by decide +kernel
theorem dX4_removeSection_34 : decode cX4_removeSection 34 = .ok (.getfield 19, 3) := by decide +kernel
theorem dX4_removeSection_37 : decode cX4_removeSection 37 = .ok (.aload_n 0, 1) := by decide +kernel
theorem dX4_removeSection_38 : decode cX4_removeSection 38 = .ok (.getfield 10, 3) := by decide +kernel
theorem dX4_removeSection_41 : decode cX4_removeSection 41 = .ok (.invokevirtual 59, 3) := by decide +kernel
theorem dX4_removeSection_44 : decode cX4_removeSection 44 = .ok (.aload_n 0, 1) := by decide +kernel
theorem dX4_removeSection_45 : decode cX4_removeSection 45 = .ok (.getfield 10, 3) := by decide +kernel
theorem dX4_removeSection_48 : decode cX4_removeSection 48 = .ok (.getfield 91, 3) := by decide +kernel
theorem dX4_removeSection_51 : decode cX4_removeSection 51 = .ok (.ireturn, 1) := by decide +kernel
set_option maxRecDepth 20000 in
theorem ggX4_join_X0_has : GoodIn wsX4_join wsX0_has := goodIn_r _ [8, 9, 125, 126, 127, 128, 129, 130, 131, 132, 133, 134] (by decide +kernel) (by decide +kernel)
set_option maxRecDepth 20000 in
theorem gX4_join_X0_has : GoodIn wsX4_join (wsV RX4 62 RX0 yX0_has wsX0_has) := goodIn_app (goodIn_of _ (by decide +kernel)) ggX4_join_X0_has
set_option maxRecDepth 20000 in
theorem ggX4_join_X0_canLink : GoodIn wsX4_join wsX0_canLink := goodIn_r _ [13, 14, 15, 16, 17, 7, 18, 19, 20, 21, 22, 23, 125, 126, 127, 128, 129, 130, 131, 132, 133, 134] (by decide +kernel) (by decide +kernel)
set_option maxRecDepth 20000 in
theorem gX4_join_X0_canLink : GoodIn wsX4_join (wsV RX4 95 RX0 yX0_canLink wsX0_canLink) := goodIn_app (goodIn_of _ (by decide +kernel)) ggX4_join_X0_canLink
set_option maxRecDepth 20000 in
theorem ggX4_join_X0_hasRoomForJoint : GoodIn wsX4_join wsX0_hasRoomForJoint := goodIn_r _ [27, 14, 125, 126, 127, 128, 129, 130, 131, 132, 133, 134] (by decide +kernel) (by decide +kernel)
set_option maxRecDepth 20000 in
theorem gX4_join_X0_hasRoomForJoint : GoodIn wsX4_join (wsV RX4 99 RX0 yX0_hasRoomForJoint wsX0_hasRoomForJoint) := goodIn_app (goodIn_of _ (by decide +kernel)) ggX4_join_X0_hasRoomForJoint
set_option maxRecDepth 20000 in
theorem ggX4_join_X2_keep : GoodIn wsX4_join wsX2_keep := goodIn_r _ [32, 33, 34, 35, 36, 37, 31, 38, 39, 40, 41, 42, 43, 44, 45, 7, 46, 9, 14, 47, 48, 49, 50, 51, 52, 19, 20, 135, 136, 125, 126, 127, 128, 129, 130, 131, 132, 133, 134] (by decide +kernel) (by decide +kernel)
set_option maxRecDepth 20000 in
theorem gX4_join_X2_keep : GoodIn wsX4_join (wsV RX4 51 RX2 yX2_keep wsX2_keep) := goodIn_app (goodIn_of _ (by decide +kernel)) ggX4_join_X2_keep
set_option maxRecDepth 20000 in
theorem ggX4_join_X0_link : GoodIn wsX4_join wsX0_link := goodIn_r _ [56, 14, 19, 20, 125, 126, 127, 128, 129, 130, 131, 132, 133, 134] (by decide +kernel) (by decide +kernel)
set_option maxRecDepth 20000 in
theorem gX4_join_X0_link : GoodIn wsX4_join (wsV RX4 102 RX0 yX0_link wsX0_link) := goodIn_app (goodIn_of _ (by decide +kernel)) ggX4_join_X0_link
set_option maxRecDepth 20000 in
theorem ggX4_join_X1_follow : GoodIn wsX4_join wsX1_follow := goodIn_r _ [61, 62, 63, 64, 65, 66, 67, 68, 69, 70, 71, 72, 7, 73, 49, 9, 50, 51, 21, 22, 23, 74, 75, 76, 77, 78, 79, 80, 81, 82, 60, 83, 84, 85, 86, 87, 88, 89, 90, 91, 92, 93, 94, 95, 96, 97, 98, 99, 100, 47, 101, 102, 103, 104, 105, 106, 107, 108, 109, 110, 111, 112, 113, 48, 114, 115, 116, 117, 52, 118, 5, 6, 8, 125, 126, 127, 128, 129, 130, 131, 132, 133, 134, 137, 138, 139, 140, 141, 142, 143] (by decide +kernel) (by decide +kernel)
set_option maxRecDepth 20000 in
theorem gX4_join_X1_follow : GoodIn wsX4_join (wsV RX4 59 RX1 yX1_follow wsX1_follow) := goodIn_app (goodIn_of _ (by decide +kernel)) ggX4_join_X1_follow
theorem dX4_join_0 : decode cX4_join 0 = .ok (.aload_n 0, 1) := by decide +kernel
theorem dX4_join_1 : decode cX4_join 1 = .ok (.getfield 10, 3) := by decide +kernel
theorem dX4_join_4 : decode cX4_join 4 = .ok (.iload_n 1, 1) := by decide +kernel
theorem dX4_join_5 : decode cX4_join 5 = .ok (.invokevirtual 62, 3) := by decide +kernel
theorem dX4_join_8 : decode cX4_join 8 = .ok (.ifCond .eq 14, 3) := by decide +kernel
theorem dX4_join_11 : decode cX4_join 11 = .ok (.aload_n 0, 1) := by decide +kernel
theorem dX4_join_12 : decode cX4_join 12 = .ok (.getfield 10, 3) := by decide +kernel
theorem dX4_join_15 : decode cX4_join 15 = .ok (.iload_n 2, 1) := by decide +kernel
theorem dX4_join_16 : decode cX4_join 16 = .ok (.invokevirtual 62, 3) := by decide +kernel
theorem dX4_join_19 : decode cX4_join 19 = .ok (.ifCond .ne 6, 3) := by decide +kernel
theorem dX4_join_22 : decode cX4_join 22 = .ok (.bipush (-2), 2) := by decide +kernel
theorem dX4_join_24 : decode cX4_join 24 = .ok (.ireturn, 1) := by decide +kernel
theorem dX4_join_25 : decode cX4_join 25 = .ok (.aload_n 0, 1) := by decide +kernel
theorem dX4_join_26 : decode cX4_join 26 = .ok (.getfield 10, 3) := by decide +kernel
theorem dX4_join_29 : decode cX4_join 29 = .ok (.iload_n 1, 1) := by decide +kernel
theorem dX4_join_30 : decode cX4_join 30 = .ok (.iload_n 2, 1) := by decide +kernel
theorem dX4_join_31 : decode cX4_join 31 = .ok (.invokevirtual 95, 3) := by decide +kernel
theorem dX4_join_34 : decode cX4_join 34 = .ok (.ifCond .ne 6, 3) := by decide +kernel
theorem dX4_join_37 : decode cX4_join 37 = .ok (.bipush (-4), 2) := by decide +kernel
theorem dX4_join_39 : decode cX4_join 39 = .ok (.ireturn, 1) := by decide +kernel
theorem dX4_join_40 : decode cX4_join 40 = .ok (.aload_n 0, 1) := by decide +kernel
theorem dX4_join_41 : decode cX4_join 41 = .ok (.getfield 10, 3) := by decide +kernel
theorem dX4_join_44 : decode cX4_join 44 = .ok (.invokevirtual 99, 3) := by decide +kernel
theorem dX4_join_47 : decode cX4_join 47 = .ok (.ifCond .ne 6, 3) := by decide +kernel
theorem dX4_join_50 : decode cX4_join 50 = .ok (.bipush (-5), 2) := by decide +kernel
theorem dX4_join_52 : decode cX4_join 52 = .ok (.ireturn, 1) := by decide +kernel
theorem dX4_join_53 : decode cX4_join 53 = .ok (.aload_n 0, 1) := by decide +kernel
theorem dX4_join_54 : decode cX4_join 54 = .ok (.getfield 26, 3) := by decide +kernel
theorem dX4_join_57 : decode cX4_join 57 = .ok (.aload_n 0, 1) := by decide +kernel
theorem dX4_join_58 : decode cX4_join 58 = .ok (.getfield 10, 3) := by decide +kernel
theorem dX4_join_61 : decode cX4_join 61 = .ok (.invokevirtual 51, 3) := by decide +kernel
theorem dX4_join_64 : decode cX4_join 64 = .ok (.aload_n 0, 1) := by decide +kernel
theorem dX4_join_65 : decode cX4_join 65 = .ok (.getfield 10, 3) := by decide +kernel
theorem dX4_join_68 : decode cX4_join 68 = .ok (.iload_n 1, 1) := by decide +kernel
theorem dX4_join_69 : decode cX4_join 69 = .ok (.iload_n 2, 1) := by decide +kernel
theorem dX4_join_70 : decode cX4_join 70 = .ok (.invokevirtual 102, 3) := by decide +kernel
theorem dX4_join_73 : decode cX4_join 73 = .ok (.istore_n 3, 1) := by decide +kernel
theorem dX4_join_74 : decode cX4_join 74 = .ok (.aload_n 0, 1) := by decide +kernel
theorem dX4_join_75 : decode cX4_join 75 = .ok (.getfield 19, 3) := by decide +kernel
theorem dX4_join_78 : decode cX4_join 78 = .ok (.aload_n 0, 1) := by decide +kernel
theorem dX4_join_79 : decode cX4_join 79 = .ok (.getfield 10, 3) := by decide +kernel
theorem dX4_join_82 : decode cX4_join 82 = .ok (.invokevirtual 59, 3) := by decide +kernel
theorem dX4_join_85 : decode cX4_join 85 = .ok (.iload_n 3, 1) := by decide +kernel
theorem dX4_join_86 : decode cX4_join 86 = .ok (.ireturn, 1) := by decide +kernel
set_option maxRecDepth 20000 in
theorem ggX4_part_X0_hasJoint : GoodIn wsX4_part wsX0_hasJoint := goodIn_r _ [9, 10, 118, 119, 120, 121, 122, 123, 124, 125, 126, 127] (by decide +kernel) (by decide +kernel)
set_option maxRecDepth 20000 in
theorem gX4_part_X0_hasJoint : GoodIn wsX4_part (wsV RX4 106 RX0 yX0_hasJoint wsX0_hasJoint) := goodIn_app (goodIn_of _ (by decide +kernel)) ggX4_part_X0_hasJoint
set_option maxRecDepth 20000 in
theorem ggX4_part_X2_keep : GoodIn wsX4_part wsX2_keep := goodIn_r _ [15, 16, 17, 18, 19, 20, 14, 21, 22, 23, 24, 25, 26, 27, 28, 8, 29, 30, 10, 31, 32, 33, 34, 35, 36, 37, 38, 128, 129, 118, 119, 120, 121, 122, 123, 124, 125, 126, 127] (by decide +kernel) (by decide +kernel)
set_option maxRecDepth 20000 in
theorem gX4_part_X2_keep : GoodIn wsX4_part (wsV RX4 51 RX2 yX2_keep wsX2_keep) := goodIn_app (goodIn_of _ (by decide +kernel)) ggX4_part_X2_keep
set_option maxRecDepth 20000 in
theorem ggX4_part_X0_unlink : GoodIn wsX4_part wsX0_unlink := goodIn_r _ [42, 43, 44, 45, 46, 10, 37, 38, 47, 48, 49, 50, 51, 118, 119, 120, 121, 122, 123, 124, 125, 126, 127] (by decide +kernel) (by decide +kernel)
set_option maxRecDepth 20000 in
theorem gX4_part_X0_unlink : GoodIn wsX4_part (wsV RX4 109 RX0 yX0_unlink wsX0_unlink) := goodIn_app (goodIn_of _ (by decide +kernel)) ggX4_part_X0_unlink
set_option maxRecDepth 20000 in
theorem ggX4_part_X1_follow : GoodIn wsX4_part wsX1_follow := goodIn_r _ [56, 57, 58, 59, 45, 60, 61, 62, 63, 64, 65, 66, 8, 67, 33, 30, 34, 35, 47, 48, 49, 68, 69, 70, 71, 50, 51, 72, 73, 74, 55, 75, 76, 77, 78, 79, 80, 81, 82, 83, 84, 85, 86, 87, 88, 89, 90, 91, 92, 31, 93, 94, 95, 96, 97, 98, 99, 44, 46, 100, 101, 102, 103, 32, 104, 105, 106, 107, 36, 108, 109, 110, 111, 118, 119, 120, 121, 122, 123, 124, 125, 126, 127, 130, 131, 132, 133, 134, 135, 136] (by decide +kernel) (by decide +kernel)
set_option maxRecDepth 20000 in
theorem gX4_part_X1_follow : GoodIn wsX4_part (wsV RX4 59 RX1 yX1_follow wsX1_follow) := goodIn_app (goodIn_of _ (by decide +kernel)) ggX4_part_X1_follow
theorem dX4_part_0 : decode cX4_part 0 = .ok (.aload_n 0, 1) := by decide +kernel
theorem dX4_part_1 : decode cX4_part 1 = .ok (.getfield 10, 3) := by decide +kernel
theorem dX4_part_4 : decode cX4_part 4 = .ok (.iload_n 1, 1) := by decide +kernel
theorem dX4_part_5 : decode cX4_part 5 = .ok (.invokevirtual 106, 3) := by decide +kernel
theorem dX4_part_8 : decode cX4_part 8 = .ok (.ifCond .ne 6, 3) := by decide +kernel
theorem dX4_part_11 : decode cX4_part 11 = .ok (.bipush (-2), 2) := by decide +kernel
theorem dX4_part_13 : decode cX4_part 13 = .ok (.ireturn, 1) := by decide +kernel
theorem dX4_part_14 : decode cX4_part 14 = .ok (.aload_n 0, 1) := by decide +kernel
theorem dX4_part_15 : decode cX4_part 15 = .ok (.getfield 26, 3) := by decide +kernel
theorem dX4_part_18 : decode cX4_part 18 = .ok (.aload_n 0, 1) := by decide +kernel
theorem dX4_part_19 : decode cX4_part 19 = .ok (.getfield 10, 3) := by decide +kernel
theorem dX4_part_22 : decode cX4_part 22 = .ok (.invokevirtual 51, 3) := by decide +kernel
theorem dX4_part_25 : decode cX4_part 25 = .ok (.aload_n 0, 1) := by decide +kernel
theorem dX4_part_26 : decode cX4_part 26 = .ok (.getfield 10, 3) := by decide +kernel
theorem dX4_part_29 : decode cX4_part 29 = .ok (.iload_n 1, 1) := by decide +kernel
theorem dX4_part_30 : decode cX4_part 30 = .ok (.invokevirtual 109, 3) := by decide +kernel
theorem dX4_part_33 : decode cX4_part 33 = .ok (.aload_n 0, 1) := by decide +kernel
theorem dX4_part_34 : decode cX4_part 34 = .ok (.getfield 19, 3) := by decide +kernel
theorem dX4_part_37 : decode cX4_part 37 = .ok (.aload_n 0, 1) := by decide +kernel
theorem dX4_part_38 : decode cX4_part 38 = .ok (.getfield 10, 3) := by decide +kernel
theorem dX4_part_41 : decode cX4_part 41 = .ok (.invokevirtual 59, 3) := by decide +kernel
theorem dX4_part_44 : decode cX4_part 44 = .ok (.aload_n 0, 1) := by decide +kernel
theorem dX4_part_45 : decode cX4_part 45 = .ok (.getfield 10, 3) := by decide +kernel
theorem dX4_part_48 : decode cX4_part 48 = .ok (.getfield 112, 3) := by decide +kernel
theorem dX4_part_51 : decode cX4_part 51 = .ok (.ireturn, 1) := by decide +kernel
set_option maxRecDepth 20000 in
theorem ggX4_setMetal_X4_isWithin : GoodIn wsX4_setMetal wsX4_isWithin := goodIn_r _ [9] (by decide +kernel) (by decide +kernel)
set_option maxRecDepth 20000 in
theorem gX4_setMetal_X4_isWithin : GoodIn wsX4_setMetal (va_wsS RX4 80 yX4_isWithin wsX4_isWithin) := goodIn_app (goodIn_of _ (by decide +kernel)) ggX4_setMetal_X4_isWithin
set_option maxRecDepth 20000 in
theorem ggX4_setMetal_X2_keep : GoodIn wsX4_setMetal wsX2_keep := goodIn_r _ [14, 15, 16, 17, 18, 19, 13, 20, 21, 22, 23, 24, 25, 26, 27, 28, 29, 30, 31, 32, 33, 34, 35, 36, 37, 38, 39, 123, 124, 113, 114, 115, 116, 117, 118, 119, 120, 121, 122] (by decide +kernel) (by decide +kernel)
set_option maxRecDepth 20000 in
theorem gX4_setMetal_X2_keep : GoodIn wsX4_setMetal (wsV RX4 51 RX2 yX2_keep wsX2_keep) := goodIn_app (goodIn_of _ (by decide +kernel)) ggX4_setMetal_X2_keep
set_option maxRecDepth 20000 in
theorem ggX4_setMetal_X1_follow : GoodIn wsX4_setMetal wsX1_follow := goodIn_r _ [44, 45, 46, 47, 48, 49, 50, 51, 52, 53, 54, 55, 28, 56, 34, 30, 35, 36, 57, 8, 58, 59, 60, 61, 62, 63, 64, 65, 66, 67, 43, 68, 69, 70, 71, 72, 73, 74, 75, 76, 77, 78, 79, 80, 81, 82, 83, 84, 85, 32, 86, 87, 88, 89, 90, 91, 92, 93, 94, 95, 96, 97, 98, 33, 99, 100, 101, 102, 37, 103, 104, 105, 106, 113, 114, 115, 116, 117, 118, 119, 120, 121, 122, 125, 126, 127, 128, 129, 130, 131] (by decide +kernel) (by decide +kernel)
set_option maxRecDepth 20000 in
theorem gX4_setMetal_X1_follow : GoodIn wsX4_setMetal (wsV RX4 59 RX1 yX1_follow wsX1_follow) := goodIn_app (goodIn_of _ (by decide +kernel)) ggX4_setMetal_X1_follow
theorem dX4_setMetal_0 : decode cX4_setMetal 0 = .ok (.iload_n 1, 1) := by decide +kernel
theorem dX4_setMetal_1 : decode cX4_setMetal 1 = .ok (.iconst 0, 1) := by decide +kernel
theorem dX4_setMetal_2 : decode cX4_setMetal 2 = .ok (.sipush 200, 3) := by decide +kernel
theorem dX4_setMetal_5 : decode cX4_setMetal 5 = .ok (.invokestatic 80, 3) := by decide +kernel
theorem dX4_setMetal_8 : decode cX4_setMetal 8 = .ok (.ifCond .eq 14, 3) := by decide +kernel
theorem dX4_setMetal_11 : decode cX4_setMetal 11 = .ok (.iload_n 2, 1) := by decide +kernel
theorem dX4_setMetal_12 : decode cX4_setMetal 12 = .ok (.iconst 0, 1) := by decide +kernel
theorem dX4_setMetal_13 : decode cX4_setMetal 13 = .ok (.sipush 500, 3) := by decide +kernel
theorem dX4_setMetal_16 : decode cX4_setMetal 16 = .ok (.invokestatic 80, 3) := by decide +kernel
theorem dX4_setMetal_19 : decode cX4_setMetal 19 = .ok (.ifCond .ne 6, 3) := by decide +kernel
theorem dX4_setMetal_22 : decode cX4_setMetal 22 = .ok (.bipush (-3), 2) := by decide +kernel
theorem dX4_setMetal_24 : decode cX4_setMetal 24 = .ok (.ireturn, 1) := by decide +kernel
theorem dX4_setMetal_25 : decode cX4_setMetal 25 = .ok (.aload_n 0, 1) := by decide +kernel
theorem dX4_setMetal_26 : decode cX4_setMetal 26 = .ok (.getfield 26, 3) := by decide +kernel
theorem dX4_setMetal_29 : decode cX4_setMetal 29 = .ok (.aload_n 0, 1) := by decide +kernel
theorem dX4_setMetal_30 : decode cX4_setMetal 30 = .ok (.getfield 10, 3) := by decide +kernel
theorem dX4_setMetal_33 : decode cX4_setMetal 33 = .ok (.invokevirtual 51, 3) := by decide +kernel
theorem dX4_setMetal_36 : decode cX4_setMetal 36 = .ok (.aload_n 0, 1) := by decide +kernel
theorem dX4_setMetal_37 : decode cX4_setMetal 37 = .ok (.getfield 10, 3) := by decide +kernel
theorem dX4_setMetal_40 : decode cX4_setMetal 40 = .ok (.getfield 115, 3) := by decide +kernel
theorem dX4_setMetal_43 : decode cX4_setMetal 43 = .ok (.istore_n 3, 1) := by decide +kernel
theorem dX4_setMetal_44 : decode cX4_setMetal 44 = .ok (.aload_n 0, 1) := by decide +kernel
theorem dX4_setMetal_45 : decode cX4_setMetal 45 = .ok (.getfield 10, 3) := by decide +kernel
theorem dX4_setMetal_48 : decode cX4_setMetal 48 = .ok (.iload_n 1, 1) := by decide +kernel
theorem dX4_setMetal_49 : decode cX4_setMetal 49 = .ok (.putfield 115, 3) := by decide +kernel
theorem dX4_setMetal_52 : decode cX4_setMetal 52 = .ok (.aload_n 0, 1) := by decide +kernel
theorem dX4_setMetal_53 : decode cX4_setMetal 53 = .ok (.getfield 10, 3) := by decide +kernel
theorem dX4_setMetal_56 : decode cX4_setMetal 56 = .ok (.iload_n 2, 1) := by decide +kernel
theorem dX4_setMetal_57 : decode cX4_setMetal 57 = .ok (.putfield 118, 3) := by decide +kernel
theorem dX4_setMetal_60 : decode cX4_setMetal 60 = .ok (.aload_n 0, 1) := by decide +kernel
theorem dX4_setMetal_61 : decode cX4_setMetal 61 = .ok (.getfield 19, 3) := by decide +kernel
theorem dX4_setMetal_64 : decode cX4_setMetal 64 = .ok (.aload_n 0, 1) := by decide +kernel
theorem dX4_setMetal_65 : decode cX4_setMetal 65 = .ok (.getfield 10, 3) := by decide +kernel
theorem dX4_setMetal_68 : decode cX4_setMetal 68 = .ok (.invokevirtual 59, 3) := by decide +kernel
theorem dX4_setMetal_71 : decode cX4_setMetal 71 = .ok (.iload_n 3, 1) := by decide +kernel
theorem dX4_setMetal_72 : decode cX4_setMetal 72 = .ok (.ireturn, 1) := by decide +kernel
set_option maxRecDepth 20000 in
theorem ggX4_count_X0_feeders : GoodIn wsX4_count wsX0_feeders := goodIn_r _ [12, 13, 14, 15, 16, 11, 17, 18, 19, 20, 21, 22, 57, 58, 59, 60, 61, 62, 63, 64, 65, 66] (by decide +kernel) (by decide +kernel)
set_option maxRecDepth 20000 in
theorem gX4_count_X0_feeders : GoodIn wsX4_count (wsV RX4 121 RX0 yX0_feeders wsX0_feeders) := goodIn_app (goodIn_of _ (by decide +kernel)) ggX4_count_X0_feeders
set_option maxRecDepth 20000 in
theorem ggX4_count_X1_fedBy : GoodIn wsX4_count wsX1_fedBy := goodIn_r _ [27, 28, 29, 67, 68, 69, 70, 71, 72, 73] (by decide +kernel) (by decide +kernel)
set_option maxRecDepth 20000 in
theorem gX4_count_X1_fedBy : GoodIn wsX4_count (wsV RX4 125 RX1 yX1_fedBy wsX1_fedBy) := goodIn_app (goodIn_of _ (by decide +kernel)) ggX4_count_X1_fedBy
set_option maxRecDepth 20000 in
theorem ggX4_count_X4_sum : GoodIn wsX4_count wsX4_sum := goodIn_r _ [33] (by decide +kernel) (by decide +kernel)
set_option maxRecDepth 20000 in
theorem gX4_count_X4_sum : GoodIn wsX4_count (va_wsS RX4 132 yX4_sum wsX4_sum) := goodIn_app (goodIn_of _ (by decide +kernel)) ggX4_count_X4_sum
set_option maxRecDepth 20000 in
theorem ggX4_count_X1_excessOfAll : GoodIn wsX4_count wsX1_excessOfAll := goodIn_r _ [37, 38, 28, 31, 32, 33, 67, 68, 69, 70, 71, 72, 73] (by decide +kernel) (by decide +kernel)
set_option maxRecDepth 20000 in
theorem gX4_count_X1_excessOfAll : GoodIn wsX4_count (wsV RX4 135 RX1 yX1_excessOfAll wsX1_excessOfAll) := goodIn_app (goodIn_of _ (by decide +kernel)) ggX4_count_X1_excessOfAll
set_option maxRecDepth 20000 in
theorem ggX4_count_X0_yieldPerMille : GoodIn wsX4_count wsX0_yieldPerMille := goodIn_r _ [42, 13, 43, 44, 32, 45, 14, 15, 16, 11, 17, 18, 19, 20, 21, 22, 57, 58, 59, 60, 61, 62, 63, 64, 65, 66] (by decide +kernel) (by decide +kernel)
set_option maxRecDepth 20000 in
theorem gX4_count_X0_yieldPerMille : GoodIn wsX4_count (wsV RX4 138 RX0 yX0_yieldPerMille wsX0_yieldPerMille) := goodIn_app (goodIn_of _ (by decide +kernel)) ggX4_count_X0_yieldPerMille
set_option maxRecDepth 20000 in
theorem ggX4_count_X1_isSound : GoodIn wsX4_count wsX1_isSound := goodIn_r _ [49, 50, 35, 36, 26, 37, 38, 28, 31, 32, 33, 67, 68, 69, 70, 71, 72, 73] (by decide +kernel) (by decide +kernel)
set_option maxRecDepth 20000 in
theorem gX4_count_X1_isSound : GoodIn wsX4_count (wsV RX4 141 RX1 yX1_isSound wsX1_isSound) := goodIn_app (goodIn_of _ (by decide +kernel)) ggX4_count_X1_isSound
theorem dX4_count_0 : decode cX4_count 0 = .ok (.iload_n 1, 1) := by decide +kernel
theorem dX4_count_1 : decode cX4_count 1 = .ok (.tableswitch 154 0 9 #[55, 63, 71, 79, 87, 95, 104, 122, 130, 138], 55) := by decide +kernel
theorem dX4_count_56 : decode cX4_count 56 = .ok (.aload_n 0, 1) := by decide +kernel
theorem dX4_count_57 : decode cX4_count 57 = .ok (.getfield 10, 3) := by decide +kernel
theorem dX4_count_60 : decode cX4_count 60 = .ok (.getfield 91, 3) := by decide +kernel
theorem dX4_count_63 : decode cX4_count 63 = .ok (.ireturn, 1) := by decide +kernel
theorem dX4_count_64 : decode cX4_count 64 = .ok (.aload_n 0, 1) := by decide +kernel
theorem dX4_count_65 : decode cX4_count 65 = .ok (.getfield 10, 3) := by decide +kernel
theorem dX4_count_68 : decode cX4_count 68 = .ok (.getfield 112, 3) := by decide +kernel
theorem dX4_count_71 : decode cX4_count 71 = .ok (.ireturn, 1) := by decide +kernel
theorem dX4_count_72 : decode cX4_count 72 = .ok (.aload_n 0, 1) := by decide +kernel
theorem dX4_count_73 : decode cX4_count 73 = .ok (.getfield 10, 3) := by decide +kernel
theorem dX4_count_76 : decode cX4_count 76 = .ok (.getfield 115, 3) := by decide +kernel
theorem dX4_count_79 : decode cX4_count 79 = .ok (.ireturn, 1) := by decide +kernel
theorem dX4_count_80 : decode cX4_count 80 = .ok (.aload_n 0, 1) := by decide +kernel
theorem dX4_count_81 : decode cX4_count 81 = .ok (.getfield 10, 3) := by decide +kernel
theorem dX4_count_84 : decode cX4_count 84 = .ok (.getfield 118, 3) := by decide +kernel
theorem dX4_count_87 : decode cX4_count 87 = .ok (.ireturn, 1) := by decide +kernel
theorem dX4_count_88 : decode cX4_count 88 = .ok (.aload_n 0, 1) := by decide +kernel
theorem dX4_count_89 : decode cX4_count 89 = .ok (.getfield 10, 3) := by decide +kernel
theorem dX4_count_92 : decode cX4_count 92 = .ok (.invokevirtual 121, 3) := by decide +kernel
theorem dX4_count_95 : decode cX4_count 95 = .ok (.ireturn, 1) := by decide +kernel
theorem dX4_count_96 : decode cX4_count 96 = .ok (.aload_n 0, 1) := by decide +kernel
theorem dX4_count_97 : decode cX4_count 97 = .ok (.getfield 19, 3) := by decide +kernel
theorem dX4_count_100 : decode cX4_count 100 = .ok (.iconst (-1), 1) := by decide +kernel
theorem dX4_count_101 : decode cX4_count 101 = .ok (.invokevirtual 125, 3) := by decide +kernel
theorem dX4_count_104 : decode cX4_count 104 = .ok (.ireturn, 1) := by decide +kernel
theorem dX4_count_105 : decode cX4_count 105 = .ok (.aload_n 0, 1) := by decide +kernel
theorem dX4_count_106 : decode cX4_count 106 = .ok (.getfield 19, 3) := by decide +kernel
theorem dX4_count_109 : decode cX4_count 109 = .ok (.getfield 129, 3) := by decide +kernel
theorem dX4_count_112 : decode cX4_count 112 = .ok (.aload_n 0, 1) := by decide +kernel
theorem dX4_count_113 : decode cX4_count 113 = .ok (.getfield 10, 3) := by decide +kernel
theorem dX4_count_116 : decode cX4_count 116 = .ok (.getfield 91, 3) := by decide +kernel
theorem dX4_count_119 : decode cX4_count 119 = .ok (.invokestatic 132, 3) := by decide +kernel
theorem dX4_count_122 : decode cX4_count 122 = .ok (.ireturn, 1) := by decide +kernel
theorem dX4_count_123 : decode cX4_count 123 = .ok (.aload_n 0, 1) := by decide +kernel
theorem dX4_count_124 : decode cX4_count 124 = .ok (.getfield 19, 3) := by decide +kernel
theorem dX4_count_127 : decode cX4_count 127 = .ok (.invokevirtual 135, 3) := by decide +kernel
theorem dX4_count_130 : decode cX4_count 130 = .ok (.ireturn, 1) := by decide +kernel
theorem dX4_count_131 : decode cX4_count 131 = .ok (.aload_n 0, 1) := by decide +kernel
theorem dX4_count_132 : decode cX4_count 132 = .ok (.getfield 10, 3) := by decide +kernel
theorem dX4_count_135 : decode cX4_count 135 = .ok (.invokevirtual 138, 3) := by decide +kernel
theorem dX4_count_138 : decode cX4_count 138 = .ok (.ireturn, 1) := by decide +kernel
theorem dX4_count_139 : decode cX4_count 139 = .ok (.aload_n 0, 1) := by decide +kernel
theorem dX4_count_140 : decode cX4_count 140 = .ok (.getfield 19, 3) := by decide +kernel
theorem dX4_count_143 : decode cX4_count 143 = .ok (.invokevirtual 141, 3) := by decide +kernel
theorem dX4_count_146 : decode cX4_count 146 = .ok (.ifCond .eq 7, 3) := by decide +kernel
theorem dX4_count_149 : decode cX4_count 149 = .ok (.iconst 1, 1) := by decide +kernel
theorem dX4_count_150 : decode cX4_count 150 = .ok (.goto 4, 3) := by decide +kernel
theorem dX4_count_153 : decode cX4_count 153 = .ok (.iconst 0, 1) := by decide +kernel
theorem dX4_count_154 : decode cX4_count 154 = .ok (.ireturn, 1) := by decide +kernel
theorem dX4_count_155 : decode cX4_count 155 = .ok (.bipush (-3), 2) := by decide +kernel
theorem dX4_count_157 : decode cX4_count 157 = .ok (.ireturn, 1) := by decide +kernel
set_option maxRecDepth 20000 in
theorem ggX4_section_X0_has : GoodIn wsX4_section wsX0_has := goodIn_r _ [15, 16, 51, 52, 53, 54, 55, 56, 57, 58, 59, 60] (by decide +kernel) (by decide +kernel)
set_option maxRecDepth 20000 in
theorem gX4_section_X0_has : GoodIn wsX4_section (wsV RX4 62 RX0 yX0_has wsX0_has) := goodIn_app (goodIn_of _ (by decide +kernel)) ggX4_section_X0_has
set_option maxRecDepth 20000 in
theorem ggX4_section_X4_at : GoodIn wsX4_section wsX4_at := goodIn_r _ [20] (by decide +kernel) (by decide +kernel)
set_option maxRecDepth 20000 in
theorem gX4_section_X4_at : GoodIn wsX4_section (va_wsS RX4 69 yX4_at wsX4_at) := goodIn_app (goodIn_of _ (by decide +kernel)) ggX4_section_X4_at
set_option maxRecDepth 20000 in
theorem ggX4_section_X0_isFeeder : GoodIn wsX4_section wsX0_isFeeder := goodIn_r _ [24, 25, 26, 12, 13, 14, 15, 16, 51, 52, 53, 54, 55, 56, 57, 58, 59, 60] (by decide +kernel) (by decide +kernel)
set_option maxRecDepth 20000 in
theorem gX4_section_X0_isFeeder : GoodIn wsX4_section (wsV RX4 144 RX0 yX0_isFeeder wsX0_isFeeder) := goodIn_app (goodIn_of _ (by decide +kernel)) ggX4_section_X0_isFeeder
set_option maxRecDepth 20000 in
theorem ggX4_section_X1_fedBy : GoodIn wsX4_section wsX1_fedBy := goodIn_r _ [31, 32, 33, 61, 62, 63, 64, 65, 66, 67] (by decide +kernel) (by decide +kernel)
set_option maxRecDepth 20000 in
theorem gX4_section_X1_fedBy : GoodIn wsX4_section (wsV RX4 125 RX1 yX1_fedBy wsX1_fedBy) := goodIn_app (goodIn_of _ (by decide +kernel)) ggX4_section_X1_fedBy
set_option maxRecDepth 20000 in
theorem ggX4_section_X0_neighbours : GoodIn wsX4_section wsX0_neighbours := goodIn_r _ [37, 38, 39, 40, 41, 14, 42, 43, 44, 18, 19, 20, 51, 52, 53, 54, 55, 56, 57, 58, 59, 60] (by decide +kernel) (by decide +kernel)
set_option maxRecDepth 20000 in
theorem gX4_section_X0_neighbours : GoodIn wsX4_section (wsV RX4 159 RX0 yX0_neighbours wsX0_neighbours) := goodIn_app (goodIn_of _ (by decide +kernel)) ggX4_section_X0_neighbours
theorem dX4_section_0 : decode cX4_section 0 = .ok (.aload_n 0, 1) := by decide +kernel
theorem dX4_section_1 : decode cX4_section 1 = .ok (.getfield 10, 3) := by decide +kernel
theorem dX4_section_4 : decode cX4_section 4 = .ok (.iload_n 1, 1) := by decide +kernel
theorem dX4_section_5 : decode cX4_section 5 = .ok (.invokevirtual 62, 3) := by decide +kernel
theorem dX4_section_8 : decode cX4_section 8 = .ok (.ifCond .ne 6, 3) := by decide +kernel
theorem dX4_section_11 : decode cX4_section 11 = .ok (.bipush (-2), 2) := by decide +kernel
theorem dX4_section_13 : decode cX4_section 13 = .ok (.ireturn, 1) := by decide +kernel
theorem dX4_section_14 : decode cX4_section 14 = .ok (.iload_n 2, 1) := by decide +kernel
theorem dX4_section_15 : decode cX4_section 15 = .ok (.tableswitch 188 0 10 #[57, 69, 81, 93, 110, 122, 134, 146, 158, 170, 179], 57) := by decide +kernel
theorem dX4_section_72 : decode cX4_section 72 = .ok (.aload_n 0, 1) := by decide +kernel
theorem dX4_section_73 : decode cX4_section 73 = .ok (.getfield 10, 3) := by decide +kernel
theorem dX4_section_76 : decode cX4_section 76 = .ok (.getfield 65, 3) := by decide +kernel
theorem dX4_section_79 : decode cX4_section 79 = .ok (.iload_n 1, 1) := by decide +kernel
theorem dX4_section_80 : decode cX4_section 80 = .ok (.invokestatic 69, 3) := by decide +kernel
theorem dX4_section_83 : decode cX4_section 83 = .ok (.ireturn, 1) := by decide +kernel
theorem dX4_section_84 : decode cX4_section 84 = .ok (.aload_n 0, 1) := by decide +kernel
theorem dX4_section_85 : decode cX4_section 85 = .ok (.getfield 10, 3) := by decide +kernel
theorem dX4_section_88 : decode cX4_section 88 = .ok (.getfield 77, 3) := by decide +kernel
theorem dX4_section_91 : decode cX4_section 91 = .ok (.iload_n 1, 1) := by decide +kernel
theorem dX4_section_92 : decode cX4_section 92 = .ok (.invokestatic 69, 3) := by decide +kernel
theorem dX4_section_95 : decode cX4_section 95 = .ok (.ireturn, 1) := by decide +kernel
theorem dX4_section_96 : decode cX4_section 96 = .ok (.aload_n 0, 1) := by decide +kernel
theorem dX4_section_97 : decode cX4_section 97 = .ok (.getfield 10, 3) := by decide +kernel
theorem dX4_section_100 : decode cX4_section 100 = .ok (.getfield 84, 3) := by decide +kernel
theorem dX4_section_103 : decode cX4_section 103 = .ok (.iload_n 1, 1) := by decide +kernel
theorem dX4_section_104 : decode cX4_section 104 = .ok (.invokestatic 69, 3) := by decide +kernel
theorem dX4_section_107 : decode cX4_section 107 = .ok (.ireturn, 1) := by decide +kernel
theorem dX4_section_108 : decode cX4_section 108 = .ok (.aload_n 0, 1) := by decide +kernel
theorem dX4_section_109 : decode cX4_section 109 = .ok (.getfield 10, 3) := by decide +kernel
theorem dX4_section_112 : decode cX4_section 112 = .ok (.iload_n 1, 1) := by decide +kernel
theorem dX4_section_113 : decode cX4_section 113 = .ok (.invokevirtual 144, 3) := by decide +kernel
theorem dX4_section_116 : decode cX4_section 116 = .ok (.ifCond .eq 7, 3) := by decide +kernel
theorem dX4_section_119 : decode cX4_section 119 = .ok (.iconst 1, 1) := by decide +kernel
theorem dX4_section_120 : decode cX4_section 120 = .ok (.goto 4, 3) := by decide +kernel
theorem dX4_section_123 : decode cX4_section 123 = .ok (.iconst 0, 1) := by decide +kernel
theorem dX4_section_124 : decode cX4_section 124 = .ok (.ireturn, 1) := by decide +kernel
theorem dX4_section_125 : decode cX4_section 125 = .ok (.aload_n 0, 1) := by decide +kernel
theorem dX4_section_126 : decode cX4_section 126 = .ok (.getfield 19, 3) := by decide +kernel
theorem dX4_section_129 : decode cX4_section 129 = .ok (.getfield 147, 3) := by decide +kernel
theorem dX4_section_132 : decode cX4_section 132 = .ok (.iload_n 1, 1) := by decide +kernel
theorem dX4_section_133 : decode cX4_section 133 = .ok (.invokestatic 69, 3) := by decide +kernel
theorem dX4_section_136 : decode cX4_section 136 = .ok (.ireturn, 1) := by decide +kernel
theorem dX4_section_137 : decode cX4_section 137 = .ok (.aload_n 0, 1) := by decide +kernel
theorem dX4_section_138 : decode cX4_section 138 = .ok (.getfield 19, 3) := by decide +kernel
theorem dX4_section_141 : decode cX4_section 141 = .ok (.getfield 150, 3) := by decide +kernel
theorem dX4_section_144 : decode cX4_section 144 = .ok (.iload_n 1, 1) := by decide +kernel
theorem dX4_section_145 : decode cX4_section 145 = .ok (.invokestatic 69, 3) := by decide +kernel
theorem dX4_section_148 : decode cX4_section 148 = .ok (.ireturn, 1) := by decide +kernel
theorem dX4_section_149 : decode cX4_section 149 = .ok (.aload_n 0, 1) := by decide +kernel
theorem dX4_section_150 : decode cX4_section 150 = .ok (.getfield 19, 3) := by decide +kernel
theorem dX4_section_153 : decode cX4_section 153 = .ok (.getfield 129, 3) := by decide +kernel
theorem dX4_section_156 : decode cX4_section 156 = .ok (.iload_n 1, 1) := by decide +kernel
theorem dX4_section_157 : decode cX4_section 157 = .ok (.invokestatic 69, 3) := by decide +kernel
theorem dX4_section_160 : decode cX4_section 160 = .ok (.ireturn, 1) := by decide +kernel
theorem dX4_section_161 : decode cX4_section 161 = .ok (.aload_n 0, 1) := by decide +kernel
theorem dX4_section_162 : decode cX4_section 162 = .ok (.getfield 19, 3) := by decide +kernel
theorem dX4_section_165 : decode cX4_section 165 = .ok (.getfield 153, 3) := by decide +kernel
theorem dX4_section_168 : decode cX4_section 168 = .ok (.iload_n 1, 1) := by decide +kernel
theorem dX4_section_169 : decode cX4_section 169 = .ok (.invokestatic 69, 3) := by decide +kernel
theorem dX4_section_172 : decode cX4_section 172 = .ok (.ireturn, 1) := by decide +kernel
theorem dX4_section_173 : decode cX4_section 173 = .ok (.aload_n 0, 1) := by decide +kernel
theorem dX4_section_174 : decode cX4_section 174 = .ok (.getfield 19, 3) := by decide +kernel
theorem dX4_section_177 : decode cX4_section 177 = .ok (.getfield 156, 3) := by decide +kernel
theorem dX4_section_180 : decode cX4_section 180 = .ok (.iload_n 1, 1) := by decide +kernel
theorem dX4_section_181 : decode cX4_section 181 = .ok (.invokestatic 69, 3) := by decide +kernel
theorem dX4_section_184 : decode cX4_section 184 = .ok (.ireturn, 1) := by decide +kernel
theorem dX4_section_185 : decode cX4_section 185 = .ok (.aload_n 0, 1) := by decide +kernel
theorem dX4_section_186 : decode cX4_section 186 = .ok (.getfield 19, 3) := by decide +kernel
theorem dX4_section_189 : decode cX4_section 189 = .ok (.iload_n 1, 1) := by decide +kernel
theorem dX4_section_190 : decode cX4_section 190 = .ok (.invokevirtual 125, 3) := by decide +kernel
theorem dX4_section_193 : decode cX4_section 193 = .ok (.ireturn, 1) := by decide +kernel
theorem dX4_section_194 : decode cX4_section 194 = .ok (.aload_n 0, 1) := by decide +kernel
theorem dX4_section_195 : decode cX4_section 195 = .ok (.getfield 10, 3) := by decide +kernel
theorem dX4_section_198 : decode cX4_section 198 = .ok (.iload_n 1, 1) := by decide +kernel
theorem dX4_section_199 : decode cX4_section 199 = .ok (.invokevirtual 159, 3) := by decide +kernel
theorem dX4_section_202 : decode cX4_section 202 = .ok (.ireturn, 1) := by decide +kernel
theorem dX4_section_203 : decode cX4_section 203 = .ok (.bipush (-3), 2) := by decide +kernel
theorem dX4_section_205 : decode cX4_section 205 = .ok (.ireturn, 1) := by decide +kernel
set_option maxRecDepth 20000 in
theorem ggX4_modulus_X0_has : GoodIn wsX4_modulus wsX0_has := goodIn_r _ [7, 8, 28, 29, 30, 31, 32, 33, 34, 35, 36, 37] (by decide +kernel) (by decide +kernel)
set_option maxRecDepth 20000 in
theorem gX4_modulus_X0_has : GoodIn wsX4_modulus (wsV RX4 62 RX0 yX0_has wsX0_has) := goodIn_app (goodIn_of _ (by decide +kernel)) ggX4_modulus_X0_has
set_option maxRecDepth 20000 in
theorem ggX4_modulus_X4_at : GoodIn wsX4_modulus wsX4_at := goodIn_r _ [12] (by decide +kernel) (by decide +kernel)
set_option maxRecDepth 20000 in
theorem gX4_modulus_X4_at : GoodIn wsX4_modulus (va_wsS RX4 69 yX4_at wsX4_at) := goodIn_app (goodIn_of _ (by decide +kernel)) ggX4_modulus_X4_at
set_option maxRecDepth 20000 in
theorem ggX4_modulus_X0_cooledArea : GoodIn wsX4_modulus wsX0_cooledArea := goodIn_r _ [16, 17, 18, 10, 11, 12, 28, 29, 30, 31, 32, 33, 34, 35, 36, 37] (by decide +kernel) (by decide +kernel)
set_option maxRecDepth 20000 in
theorem gX4_modulus_X0_cooledArea : GoodIn wsX4_modulus (wsV RX4 162 RX0 yX0_cooledArea wsX0_cooledArea) := goodIn_app (goodIn_of _ (by decide +kernel)) ggX4_modulus_X0_cooledArea
set_option maxRecDepth 20000 in
theorem ggX4_modulus_X4_commonDivisor : GoodIn wsX4_modulus wsX4_commonDivisor := goodIn_r _ [21] (by decide +kernel) (by decide +kernel)
set_option maxRecDepth 20000 in
theorem gX4_modulus_X4_commonDivisor : GoodIn wsX4_modulus (va_wsS RX4 165 yX4_commonDivisor wsX4_commonDivisor) := goodIn_app (goodIn_of _ (by decide +kernel)) ggX4_modulus_X4_commonDivisor
theorem dX4_modulus_0 : decode cX4_modulus 0 = .ok (.aload_n 0, 1) := by decide +kernel
theorem dX4_modulus_1 : decode cX4_modulus 1 = .ok (.getfield 10, 3) := by decide +kernel
theorem dX4_modulus_4 : decode cX4_modulus 4 = .ok (.iload_n 1, 1) := by decide +kernel
theorem dX4_modulus_5 : decode cX4_modulus 5 = .ok (.invokevirtual 62, 3) := by decide +kernel
theorem dX4_modulus_8 : decode cX4_modulus 8 = .ok (.ifCond .ne 6, 3) := by decide +kernel
theorem dX4_modulus_11 : decode cX4_modulus 11 = .ok (.bipush (-2), 2) := by decide +kernel
theorem dX4_modulus_13 : decode cX4_modulus 13 = .ok (.ireturn, 1) := by decide +kernel
theorem dX4_modulus_14 : decode cX4_modulus 14 = .ok (.aload_n 0, 1) := by decide +kernel
theorem dX4_modulus_15 : decode cX4_modulus 15 = .ok (.getfield 10, 3) := by decide +kernel
theorem dX4_modulus_18 : decode cX4_modulus 18 = .ok (.getfield 65, 3) := by decide +kernel
theorem dX4_modulus_21 : decode cX4_modulus 21 = .ok (.iload_n 1, 1) := by decide +kernel
theorem dX4_modulus_22 : decode cX4_modulus 22 = .ok (.invokestatic 69, 3) := by decide +kernel
theorem dX4_modulus_25 : decode cX4_modulus 25 = .ok (.istore_n 3, 1) := by decide +kernel
theorem dX4_modulus_26 : decode cX4_modulus 26 = .ok (.aload_n 0, 1) := by decide +kernel
theorem dX4_modulus_27 : decode cX4_modulus 27 = .ok (.getfield 10, 3) := by decide +kernel
theorem dX4_modulus_30 : decode cX4_modulus 30 = .ok (.iload_n 1, 1) := by decide +kernel
theorem dX4_modulus_31 : decode cX4_modulus 31 = .ok (.invokevirtual 162, 3) := by decide +kernel
theorem dX4_modulus_34 : decode cX4_modulus 34 = .ok (.istore 4, 2) := by decide +kernel
theorem dX4_modulus_36 : decode cX4_modulus 36 = .ok (.iload_n 3, 1) := by decide +kernel
theorem dX4_modulus_37 : decode cX4_modulus 37 = .ok (.iload 4, 2) := by decide +kernel
theorem dX4_modulus_39 : decode cX4_modulus 39 = .ok (.invokestatic 165, 3) := by decide +kernel
theorem dX4_modulus_42 : decode cX4_modulus 42 = .ok (.istore 5, 2) := by decide +kernel
theorem dX4_modulus_44 : decode cX4_modulus 44 = .ok (.iload_n 2, 1) := by decide +kernel
theorem dX4_modulus_45 : decode cX4_modulus 45 = .ok (.ifCond .eq 8, 3) := by decide +kernel
theorem dX4_modulus_48 : decode cX4_modulus 48 = .ok (.iload 4, 2) := by decide +kernel
theorem dX4_modulus_50 : decode cX4_modulus 50 = .ok (.goto 4, 3) := by decide +kernel
theorem dX4_modulus_53 : decode cX4_modulus 53 = .ok (.iload_n 3, 1) := by decide +kernel
theorem dX4_modulus_54 : decode cX4_modulus 54 = .ok (.istore 6, 2) := by decide +kernel
theorem dX4_modulus_56 : decode cX4_modulus 56 = .ok (.iload 5, 2) := by decide +kernel
theorem dX4_modulus_58 : decode cX4_modulus 58 = .ok (.ifCond .le 11, 3) := by decide +kernel
theorem dX4_modulus_61 : decode cX4_modulus 61 = .ok (.iload 6, 2) := by decide +kernel
theorem dX4_modulus_63 : decode cX4_modulus 63 = .ok (.iload 5, 2) := by decide +kernel
theorem dX4_modulus_65 : decode cX4_modulus 65 = .ok (.idiv, 1) := by decide +kernel
theorem dX4_modulus_66 : decode cX4_modulus 66 = .ok (.goto 5, 3) := by decide +kernel
theorem dX4_modulus_69 : decode cX4_modulus 69 = .ok (.iload 6, 2) := by decide +kernel
theorem dX4_modulus_71 : decode cX4_modulus 71 = .ok (.ireturn, 1) := by decide +kernel
set_option maxRecDepth 20000 in
theorem ggX4_joint_X0_hasJoint : GoodIn wsX4_joint wsX0_hasJoint := goodIn_r _ [8, 9, 23, 24, 25, 26, 27, 28, 29, 30, 31, 32] (by decide +kernel) (by decide +kernel)
set_option maxRecDepth 20000 in
theorem gX4_joint_X0_hasJoint : GoodIn wsX4_joint (wsV RX4 106 RX0 yX0_hasJoint wsX0_hasJoint) := goodIn_app (goodIn_of _ (by decide +kernel)) ggX4_joint_X0_hasJoint
set_option maxRecDepth 20000 in
theorem ggX4_joint_X4_isWithin : GoodIn wsX4_joint wsX4_isWithin := goodIn_r _ [13] (by decide +kernel) (by decide +kernel)
set_option maxRecDepth 20000 in
theorem gX4_joint_X4_isWithin : GoodIn wsX4_joint (va_wsS RX4 80 yX4_isWithin wsX4_isWithin) := goodIn_app (goodIn_of _ (by decide +kernel)) ggX4_joint_X4_isWithin
set_option maxRecDepth 20000 in
theorem ggX4_joint_X4_at : GoodIn wsX4_joint wsX4_at := goodIn_r _ [16] (by decide +kernel) (by decide +kernel)
set_option maxRecDepth 20000 in
theorem gX4_joint_X4_at : GoodIn wsX4_joint (va_wsS RX4 69 yX4_at wsX4_at) := goodIn_app (goodIn_of _ (by decide +kernel)) ggX4_joint_X4_at
theorem dX4_joint_0 : decode cX4_joint 0 = .ok (.aload_n 0, 1) := by decide +kernel
theorem dX4_joint_1 : decode cX4_joint 1 = .ok (.getfield 10, 3) := by decide +kernel
theorem dX4_joint_4 : decode cX4_joint 4 = .ok (.iload_n 1, 1) := by decide +kernel
theorem dX4_joint_5 : decode cX4_joint 5 = .ok (.invokevirtual 106, 3) := by decide +kernel
theorem dX4_joint_8 : decode cX4_joint 8 = .ok (.ifCond .ne 6, 3) := by decide +kernel
theorem dX4_joint_11 : decode cX4_joint 11 = .ok (.bipush (-2), 2) := by decide +kernel
theorem dX4_joint_13 : decode cX4_joint 13 = .ok (.ireturn, 1) := by decide +kernel
theorem dX4_joint_14 : decode cX4_joint 14 = .ok (.iload_n 2, 1) := by decide +kernel
theorem dX4_joint_15 : decode cX4_joint 15 = .ok (.iconst 0, 1) := by decide +kernel
theorem dX4_joint_16 : decode cX4_joint 16 = .ok (.iconst 1, 1) := by decide +kernel
theorem dX4_joint_17 : decode cX4_joint 17 = .ok (.invokestatic 80, 3) := by decide +kernel
theorem dX4_joint_20 : decode cX4_joint 20 = .ok (.ifCond .ne 6, 3) := by decide +kernel
theorem dX4_joint_23 : decode cX4_joint 23 = .ok (.bipush (-3), 2) := by decide +kernel
theorem dX4_joint_25 : decode cX4_joint 25 = .ok (.ireturn, 1) := by decide +kernel
theorem dX4_joint_26 : decode cX4_joint 26 = .ok (.iload_n 2, 1) := by decide +kernel
theorem dX4_joint_27 : decode cX4_joint 27 = .ok (.ifCond .ne 13, 3) := by decide +kernel
theorem dX4_joint_30 : decode cX4_joint 30 = .ok (.aload_n 0, 1) := by decide +kernel
theorem dX4_joint_31 : decode cX4_joint 31 = .ok (.getfield 10, 3) := by decide +kernel
theorem dX4_joint_34 : decode cX4_joint 34 = .ok (.getfield 168, 3) := by decide +kernel
theorem dX4_joint_37 : decode cX4_joint 37 = .ok (.goto 10, 3) := by decide +kernel
theorem dX4_joint_40 : decode cX4_joint 40 = .ok (.aload_n 0, 1) := by decide +kernel
theorem dX4_joint_41 : decode cX4_joint 41 = .ok (.getfield 10, 3) := by decide +kernel
theorem dX4_joint_44 : decode cX4_joint 44 = .ok (.getfield 171, 3) := by decide +kernel
theorem dX4_joint_47 : decode cX4_joint 47 = .ok (.iload_n 1, 1) := by decide +kernel
theorem dX4_joint_48 : decode cX4_joint 48 = .ok (.invokestatic 69, 3) := by decide +kernel
theorem dX4_joint_51 : decode cX4_joint 51 = .ok (.ireturn, 1) := by decide +kernel
set_option maxRecDepth 20000 in
theorem ggX4_atStep_X4_at : GoodIn wsX4_atStep wsX4_at := goodIn_r _ [8] (by decide +kernel) (by decide +kernel)
set_option maxRecDepth 20000 in
theorem gX4_atStep_X4_at : GoodIn wsX4_atStep (va_wsS RX4 69 yX4_at wsX4_at) := goodIn_app (goodIn_of _ (by decide +kernel)) ggX4_atStep_X4_at
theorem dX4_atStep_0 : decode cX4_atStep 0 = .ok (.iload_n 1, 1) := by decide +kernel
theorem dX4_atStep_1 : decode cX4_atStep 1 = .ok (.ifCond .ge 6, 3) := by decide +kernel
theorem dX4_atStep_4 : decode cX4_atStep 4 = .ok (.bipush (-3), 2) := by decide +kernel
theorem dX4_atStep_6 : decode cX4_atStep 6 = .ok (.ireturn, 1) := by decide +kernel
theorem dX4_atStep_7 : decode cX4_atStep 7 = .ok (.iload_n 1, 1) := by decide +kernel
theorem dX4_atStep_8 : decode cX4_atStep 8 = .ok (.aload_n 0, 1) := by decide +kernel
theorem dX4_atStep_9 : decode cX4_atStep 9 = .ok (.getfield 10, 3) := by decide +kernel
theorem dX4_atStep_12 : decode cX4_atStep 12 = .ok (.getfield 91, 3) := by decide +kernel
theorem dX4_atStep_15 : decode cX4_atStep 15 = .ok (.if_icmp .ge 17, 3) := by decide +kernel
theorem dX4_atStep_18 : decode cX4_atStep 18 = .ok (.aload_n 0, 1) := by decide +kernel
theorem dX4_atStep_19 : decode cX4_atStep 19 = .ok (.getfield 19, 3) := by decide +kernel
theorem dX4_atStep_22 : decode cX4_atStep 22 = .ok (.getfield 174, 3) := by decide +kernel
theorem dX4_atStep_25 : decode cX4_atStep 25 = .ok (.iload_n 1, 1) := by decide +kernel
theorem dX4_atStep_26 : decode cX4_atStep 26 = .ok (.invokestatic 69, 3) := by decide +kernel
theorem dX4_atStep_29 : decode cX4_atStep 29 = .ok (.goto 4, 3) := by decide +kernel
theorem dX4_atStep_32 : decode cX4_atStep 32 = .ok (.iconst (-1), 1) := by decide +kernel
theorem dX4_atStep_33 : decode cX4_atStep 33 = .ok (.ireturn, 1) := by decide +kernel
set_option maxRecDepth 20000 in
theorem ggX4_way_X0_has : GoodIn wsX4_way wsX0_has := goodIn_r _ [8, 9, 27, 28, 29, 30, 31, 32, 33, 34, 35, 36] (by decide +kernel) (by decide +kernel)
set_option maxRecDepth 20000 in
theorem gX4_way_X0_has : GoodIn wsX4_way (wsV RX4 62 RX0 yX0_has wsX0_has) := goodIn_app (goodIn_of _ (by decide +kernel)) ggX4_way_X0_has
set_option maxRecDepth 20000 in
theorem ggX4_way_X4_at : GoodIn wsX4_way wsX4_at := goodIn_r _ [13] (by decide +kernel) (by decide +kernel)
set_option maxRecDepth 20000 in
theorem gX4_way_X4_at : GoodIn wsX4_way (va_wsS RX4 69 yX4_at wsX4_at) := goodIn_app (goodIn_of _ (by decide +kernel)) ggX4_way_X4_at
theorem dX4_way_0 : decode cX4_way 0 = .ok (.aload_n 0, 1) := by decide +kernel
theorem dX4_way_1 : decode cX4_way 1 = .ok (.getfield 10, 3) := by decide +kernel
theorem dX4_way_4 : decode cX4_way 4 = .ok (.iload_n 1, 1) := by decide +kernel
theorem dX4_way_5 : decode cX4_way 5 = .ok (.invokevirtual 62, 3) := by decide +kernel
theorem dX4_way_8 : decode cX4_way 8 = .ok (.ifCond .ne 6, 3) := by decide +kernel
theorem dX4_way_11 : decode cX4_way 11 = .ok (.bipush (-2), 2) := by decide +kernel
theorem dX4_way_13 : decode cX4_way 13 = .ok (.ireturn, 1) := by decide +kernel
theorem dX4_way_14 : decode cX4_way 14 = .ok (.iload_n 2, 1) := by decide +kernel
theorem dX4_way_15 : decode cX4_way 15 = .ok (.ifCond .ge 6, 3) := by decide +kernel
theorem dX4_way_18 : decode cX4_way 18 = .ok (.bipush (-3), 2) := by decide +kernel
theorem dX4_way_20 : decode cX4_way 20 = .ok (.ireturn, 1) := by decide +kernel
theorem dX4_way_21 : decode cX4_way 21 = .ok (.iload_n 1, 1) := by decide +kernel
theorem dX4_way_22 : decode cX4_way 22 = .ok (.istore_n 3, 1) := by decide +kernel
theorem dX4_way_23 : decode cX4_way 23 = .ok (.iconst 0, 1) := by decide +kernel
theorem dX4_way_24 : decode cX4_way 24 = .ok (.istore 4, 2) := by decide +kernel
theorem dX4_way_26 : decode cX4_way 26 = .ok (.iload 4, 2) := by decide +kernel
theorem dX4_way_28 : decode cX4_way 28 = .ok (.iload_n 2, 1) := by decide +kernel
theorem dX4_way_29 : decode cX4_way 29 = .ok (.if_icmp .ge 26, 3) := by decide +kernel
theorem dX4_way_32 : decode cX4_way 32 = .ok (.iload_n 3, 1) := by decide +kernel
theorem dX4_way_33 : decode cX4_way 33 = .ok (.iconst (-1), 1) := by decide +kernel
theorem dX4_way_34 : decode cX4_way 34 = .ok (.if_icmp .eq 21, 3) := by decide +kernel
theorem dX4_way_37 : decode cX4_way 37 = .ok (.aload_n 0, 1) := by decide +kernel
theorem dX4_way_38 : decode cX4_way 38 = .ok (.getfield 19, 3) := by decide +kernel
theorem dX4_way_41 : decode cX4_way 41 = .ok (.getfield 156, 3) := by decide +kernel
theorem dX4_way_44 : decode cX4_way 44 = .ok (.iload_n 3, 1) := by decide +kernel
theorem dX4_way_45 : decode cX4_way 45 = .ok (.invokestatic 69, 3) := by decide +kernel
theorem dX4_way_48 : decode cX4_way 48 = .ok (.istore_n 3, 1) := by decide +kernel
theorem dX4_way_49 : decode cX4_way 49 = .ok (.iinc 4 1, 3) := by decide +kernel
theorem dX4_way_52 : decode cX4_way 52 = .ok (.goto (-26), 3) := by decide +kernel
theorem dX4_way_55 : decode cX4_way 55 = .ok (.iload_n 3, 1) := by decide +kernel
theorem dX4_way_56 : decode cX4_way 56 = .ok (.ireturn, 1) := by decide +kernel
set_option maxRecDepth 20000 in
theorem ggX4_end_X0_has : GoodIn wsX4_end wsX0_has := goodIn_r _ [7, 8, 25, 26, 27, 28, 29, 30, 31, 32, 33, 34] (by decide +kernel) (by decide +kernel)
set_option maxRecDepth 20000 in
theorem gX4_end_X0_has : GoodIn wsX4_end (wsV RX4 62 RX0 yX0_has wsX0_has) := goodIn_app (goodIn_of _ (by decide +kernel)) ggX4_end_X0_has
set_option maxRecDepth 20000 in
theorem ggX4_end_X1_hotSpotOf : GoodIn wsX4_end wsX1_hotSpotOf := goodIn_r _ [13, 14, 15, 16, 17, 18, 35, 36, 37, 38, 39, 40, 41] (by decide +kernel) (by decide +kernel)
set_option maxRecDepth 20000 in
theorem gX4_end_X1_hotSpotOf : GoodIn wsX4_end (wsV RX4 177 RX1 yX1_hotSpotOf wsX1_hotSpotOf) := goodIn_app (goodIn_of _ (by decide +kernel)) ggX4_end_X1_hotSpotOf
theorem dX4_end_0 : decode cX4_end 0 = .ok (.aload_n 0, 1) := by decide +kernel
theorem dX4_end_1 : decode cX4_end 1 = .ok (.getfield 10, 3) := by decide +kernel
theorem dX4_end_4 : decode cX4_end 4 = .ok (.iload_n 1, 1) := by decide +kernel
theorem dX4_end_5 : decode cX4_end 5 = .ok (.invokevirtual 62, 3) := by decide +kernel
theorem dX4_end_8 : decode cX4_end 8 = .ok (.ifCond .eq 14, 3) := by decide +kernel
theorem dX4_end_11 : decode cX4_end 11 = .ok (.aload_n 0, 1) := by decide +kernel
theorem dX4_end_12 : decode cX4_end 12 = .ok (.getfield 19, 3) := by decide +kernel
theorem dX4_end_15 : decode cX4_end 15 = .ok (.iload_n 1, 1) := by decide +kernel
theorem dX4_end_16 : decode cX4_end 16 = .ok (.invokevirtual 177, 3) := by decide +kernel
theorem dX4_end_19 : decode cX4_end 19 = .ok (.goto 5, 3) := by decide +kernel
theorem dX4_end_22 : decode cX4_end 22 = .ok (.bipush (-2), 2) := by decide +kernel
theorem dX4_end_24 : decode cX4_end 24 = .ok (.ireturn, 1) := by decide +kernel
set_option maxRecDepth 20000 in
theorem ggX4_gathers_X0_has : GoodIn wsX4_gathers wsX0_has := goodIn_r _ [8, 9, 32, 33, 34, 35, 36, 37, 38, 39, 40, 41] (by decide +kernel) (by decide +kernel)
set_option maxRecDepth 20000 in
theorem gX4_gathers_X0_has : GoodIn wsX4_gathers (wsV RX4 62 RX0 yX0_has wsX0_has) := goodIn_app (goodIn_of _ (by decide +kernel)) ggX4_gathers_X0_has
set_option maxRecDepth 20000 in
theorem ggX4_gathers_X1_hotSpotOf : GoodIn wsX4_gathers wsX1_hotSpotOf := goodIn_r _ [14, 15, 16, 17, 18, 19, 42, 43, 44, 45, 46, 47, 48] (by decide +kernel) (by decide +kernel)
set_option maxRecDepth 20000 in
theorem gX4_gathers_X1_hotSpotOf : GoodIn wsX4_gathers (wsV RX4 177 RX1 yX1_hotSpotOf wsX1_hotSpotOf) := goodIn_app (goodIn_of _ (by decide +kernel)) ggX4_gathers_X1_hotSpotOf
set_option maxRecDepth 20000 in
theorem ggX4_gathers_X0_firstNeed : GoodIn wsX4_gathers wsX0_firstNeed := goodIn_r _ [23, 24, 25, 17, 18, 19, 32, 33, 34, 35, 36, 37, 38, 39, 40, 41] (by decide +kernel) (by decide +kernel)
set_option maxRecDepth 20000 in
theorem gX4_gathers_X0_firstNeed : GoodIn wsX4_gathers (wsV RX4 180 RX0 yX0_firstNeed wsX0_firstNeed) := goodIn_app (goodIn_of _ (by decide +kernel)) ggX4_gathers_X0_firstNeed
theorem dX4_gathers_0 : decode cX4_gathers 0 = .ok (.aload_n 0, 1) := by decide +kernel
theorem dX4_gathers_1 : decode cX4_gathers 1 = .ok (.getfield 10, 3) := by decide +kernel
theorem dX4_gathers_4 : decode cX4_gathers 4 = .ok (.iload_n 1, 1) := by decide +kernel
theorem dX4_gathers_5 : decode cX4_gathers 5 = .ok (.invokevirtual 62, 3) := by decide +kernel
theorem dX4_gathers_8 : decode cX4_gathers 8 = .ok (.ifCond .ne 6, 3) := by decide +kernel
theorem dX4_gathers_11 : decode cX4_gathers 11 = .ok (.bipush (-2), 2) := by decide +kernel
theorem dX4_gathers_13 : decode cX4_gathers 13 = .ok (.ireturn, 1) := by decide +kernel
theorem dX4_gathers_14 : decode cX4_gathers 14 = .ok (.iconst 0, 1) := by decide +kernel
theorem dX4_gathers_15 : decode cX4_gathers 15 = .ok (.istore_n 2, 1) := by decide +kernel
theorem dX4_gathers_16 : decode cX4_gathers 16 = .ok (.iconst 0, 1) := by decide +kernel
theorem dX4_gathers_17 : decode cX4_gathers 17 = .ok (.istore_n 3, 1) := by decide +kernel
theorem dX4_gathers_18 : decode cX4_gathers 18 = .ok (.iload_n 3, 1) := by decide +kernel
theorem dX4_gathers_19 : decode cX4_gathers 19 = .ok (.aload_n 0, 1) := by decide +kernel
theorem dX4_gathers_20 : decode cX4_gathers 20 = .ok (.getfield 10, 3) := by decide +kernel
theorem dX4_gathers_23 : decode cX4_gathers 23 = .ok (.getfield 91, 3) := by decide +kernel
theorem dX4_gathers_26 : decode cX4_gathers 26 = .ok (.if_icmp .ge 32, 3) := by decide +kernel
theorem dX4_gathers_29 : decode cX4_gathers 29 = .ok (.aload_n 0, 1) := by decide +kernel
theorem dX4_gathers_30 : decode cX4_gathers 30 = .ok (.getfield 19, 3) := by decide +kernel
theorem dX4_gathers_33 : decode cX4_gathers 33 = .ok (.iload_n 3, 1) := by decide +kernel
theorem dX4_gathers_34 : decode cX4_gathers 34 = .ok (.invokevirtual 177, 3) := by decide +kernel
theorem dX4_gathers_37 : decode cX4_gathers 37 = .ok (.iload_n 1, 1) := by decide +kernel
theorem dX4_gathers_38 : decode cX4_gathers 38 = .ok (.if_icmp .ne 14, 3) := by decide +kernel
theorem dX4_gathers_41 : decode cX4_gathers 41 = .ok (.iload_n 2, 1) := by decide +kernel
theorem dX4_gathers_42 : decode cX4_gathers 42 = .ok (.aload_n 0, 1) := by decide +kernel
theorem dX4_gathers_43 : decode cX4_gathers 43 = .ok (.getfield 10, 3) := by decide +kernel
theorem dX4_gathers_46 : decode cX4_gathers 46 = .ok (.iload_n 3, 1) := by decide +kernel
theorem dX4_gathers_47 : decode cX4_gathers 47 = .ok (.invokevirtual 180, 3) := by decide +kernel
theorem dX4_gathers_50 : decode cX4_gathers 50 = .ok (.iadd, 1) := by decide +kernel
theorem dX4_gathers_51 : decode cX4_gathers 51 = .ok (.istore_n 2, 1) := by decide +kernel
theorem dX4_gathers_52 : decode cX4_gathers 52 = .ok (.iinc 3 1, 3) := by decide +kernel
theorem dX4_gathers_55 : decode cX4_gathers 55 = .ok (.goto (-37), 3) := by decide +kernel
theorem dX4_gathers_58 : decode cX4_gathers 58 = .ok (.iload_n 2, 1) := by decide +kernel
theorem dX4_gathers_59 : decode cX4_gathers 59 = .ok (.ireturn, 1) := by decide +kernel
set_option maxRecDepth 20000 in
theorem ggX4_leastFeeder_X0_has : GoodIn wsX4_leastFeeder wsX0_has := goodIn_r _ [6, 7, 128, 129, 130, 131, 132, 133, 134, 135, 136, 137] (by decide +kernel) (by decide +kernel)
set_option maxRecDepth 20000 in
theorem gX4_leastFeeder_X0_has : GoodIn wsX4_leastFeeder (wsV RX4 62 RX0 yX0_has wsX0_has) := goodIn_app (goodIn_of _ (by decide +kernel)) ggX4_leastFeeder_X0_has
set_option maxRecDepth 20000 in
theorem ggX4_leastFeeder_X4_hasRoomForFeeder : GoodIn wsX4_leastFeeder wsX4_hasRoomForFeeder := goodIn_r _ [12, 1, 13, 14, 15, 5, 16, 7, 17, 18, 19, 20, 21, 122, 123, 124, 125, 126, 127, 128, 129, 130, 131, 132, 133, 134, 135, 136, 137] (by decide +kernel) (by decide +kernel)
set_option maxRecDepth 20000 in
theorem gX4_leastFeeder_X4_hasRoomForFeeder : GoodIn wsX4_leastFeeder (wsV RX4 183 RX4 yX4_hasRoomForFeeder wsX4_hasRoomForFeeder) := goodIn_app (goodIn_of _ (by decide +kernel)) ggX4_leastFeeder_X4_hasRoomForFeeder
set_option maxRecDepth 20000 in
theorem ggX4_leastFeeder_X4_isSoundWithFeeder : GoodIn wsX4_leastFeeder wsX4_isSoundWithFeeder := goodIn_r _ [25, 26, 1, 27, 28, 29, 30, 5, 31, 7, 21, 32, 33, 34, 35, 36, 37, 38, 39, 40, 41, 42, 43, 44, 45, 46, 47, 48, 49, 50, 51, 52, 53, 54, 55, 56, 57, 58, 59, 60, 61, 62, 63, 64, 65, 11, 66, 67, 68, 69, 70, 71, 72, 73, 74, 75, 76, 77, 78, 79, 80, 81, 82, 83, 84, 85, 86, 87, 88, 89, 90, 91, 92, 93, 94, 95, 96, 97, 98, 99, 100, 101, 102, 103, 104, 105, 106, 107, 108, 109, 110, 111, 3, 4, 6, 112, 113, 114, 115, 116, 117, 118, 119, 120, 121, 122, 123, 124, 125, 126, 127, 128, 129, 130, 131, 132, 133, 134, 135, 136, 137, 138, 139, 140, 141, 142, 143, 144] (by decide +kernel) (by decide +kernel)
set_option maxRecDepth 20000 in
theorem gX4_leastFeeder_X4_isSoundWithFeeder : GoodIn wsX4_leastFeeder (wsV RX4 186 RX4 yX4_isSoundWithFeeder wsX4_isSoundWithFeeder) := goodIn_app (goodIn_of _ (by decide +kernel)) ggX4_leastFeeder_X4_isSoundWithFeeder
theorem dX4_leastFeeder_0 : decode cX4_leastFeeder 0 = .ok (.aload_n 0, 1) := by decide +kernel
theorem dX4_leastFeeder_1 : decode cX4_leastFeeder 1 = .ok (.getfield 10, 3) := by decide +kernel
theorem dX4_leastFeeder_4 : decode cX4_leastFeeder 4 = .ok (.iload_n 1, 1) := by decide +kernel
theorem dX4_leastFeeder_5 : decode cX4_leastFeeder 5 = .ok (.invokevirtual 62, 3) := by decide +kernel
theorem dX4_leastFeeder_8 : decode cX4_leastFeeder 8 = .ok (.ifCond .ne 6, 3) := by decide +kernel
theorem dX4_leastFeeder_11 : decode cX4_leastFeeder 11 = .ok (.bipush (-2), 2) := by decide +kernel
theorem dX4_leastFeeder_13 : decode cX4_leastFeeder 13 = .ok (.ireturn, 1) := by decide +kernel
theorem dX4_leastFeeder_14 : decode cX4_leastFeeder 14 = .ok (.aload_n 0, 1) := by decide +kernel
theorem dX4_leastFeeder_15 : decode cX4_leastFeeder 15 = .ok (.invokevirtual 183, 3) := by decide +kernel
theorem dX4_leastFeeder_18 : decode cX4_leastFeeder 18 = .ok (.ifCond .ne 6, 3) := by decide +kernel
theorem dX4_leastFeeder_21 : decode cX4_leastFeeder 21 = .ok (.bipush (-5), 2) := by decide +kernel
theorem dX4_leastFeeder_23 : decode cX4_leastFeeder 23 = .ok (.ireturn, 1) := by decide +kernel
theorem dX4_leastFeeder_24 : decode cX4_leastFeeder 24 = .ok (.iconst 1, 1) := by decide +kernel
theorem dX4_leastFeeder_25 : decode cX4_leastFeeder 25 = .ok (.istore_n 2, 1) := by decide +kernel
theorem dX4_leastFeeder_26 : decode cX4_leastFeeder 26 = .ok (.iload_n 2, 1) := by decide +kernel
theorem dX4_leastFeeder_27 : decode cX4_leastFeeder 27 = .ok (.bipush 15, 2) := by decide +kernel
theorem dX4_leastFeeder_29 : decode cX4_leastFeeder 29 = .ok (.if_icmp .gt 20, 3) := by decide +kernel
theorem dX4_leastFeeder_32 : decode cX4_leastFeeder 32 = .ok (.aload_n 0, 1) := by decide +kernel
theorem dX4_leastFeeder_33 : decode cX4_leastFeeder 33 = .ok (.iload_n 1, 1) := by decide +kernel
theorem dX4_leastFeeder_34 : decode cX4_leastFeeder 34 = .ok (.iload_n 2, 1) := by decide +kernel
theorem dX4_leastFeeder_35 : decode cX4_leastFeeder 35 = .ok (.invokevirtual 186, 3) := by decide +kernel
theorem dX4_leastFeeder_38 : decode cX4_leastFeeder 38 = .ok (.ifCond .eq 5, 3) := by decide +kernel
theorem dX4_leastFeeder_41 : decode cX4_leastFeeder 41 = .ok (.iload_n 2, 1) := by decide +kernel
theorem dX4_leastFeeder_42 : decode cX4_leastFeeder 42 = .ok (.ireturn, 1) := by decide +kernel
theorem dX4_leastFeeder_43 : decode cX4_leastFeeder 43 = .ok (.iinc 2 1, 3) := by decide +kernel
theorem dX4_leastFeeder_46 : decode cX4_leastFeeder 46 = .ok (.goto (-20), 3) := by decide +kernel
theorem dX4_leastFeeder_49 : decode cX4_leastFeeder 49 = .ok (.iconst (-1), 1) := by decide +kernel
theorem dX4_leastFeeder_50 : decode cX4_leastFeeder 50 = .ok (.ireturn, 1) := by decide +kernel
set_option maxRecDepth 20000 in
theorem ggX4_bestFeeder_X4_hasRoomForFeeder : GoodIn wsX4_bestFeeder wsX4_hasRoomForFeeder := goodIn_r _ [7, 1, 8, 9, 10, 11, 12, 13, 14, 15, 16, 17, 18, 122, 123, 124, 125, 126, 127, 128, 129, 130, 131, 132, 133, 134, 135, 136, 137] (by decide +kernel) (by decide +kernel)
set_option maxRecDepth 20000 in
theorem gX4_bestFeeder_X4_hasRoomForFeeder : GoodIn wsX4_bestFeeder (wsV RX4 183 RX4 yX4_hasRoomForFeeder wsX4_hasRoomForFeeder) := goodIn_app (goodIn_of _ (by decide +kernel)) ggX4_bestFeeder_X4_hasRoomForFeeder
set_option maxRecDepth 20000 in
theorem ggX4_bestFeeder_X4_isSoundWithFeeder : GoodIn wsX4_bestFeeder wsX4_isSoundWithFeeder := goodIn_r _ [22, 23, 1, 24, 25, 26, 27, 11, 28, 13, 18, 29, 30, 31, 32, 33, 34, 35, 36, 37, 38, 39, 40, 41, 42, 43, 44, 45, 46, 47, 48, 49, 50, 51, 52, 53, 54, 55, 56, 57, 58, 59, 60, 61, 62, 6, 63, 64, 65, 66, 67, 68, 69, 70, 71, 72, 73, 74, 75, 76, 77, 78, 79, 80, 81, 82, 83, 84, 85, 86, 87, 88, 89, 90, 91, 92, 93, 94, 95, 96, 97, 98, 99, 100, 101, 102, 103, 104, 105, 106, 107, 108, 109, 110, 111, 112, 113, 114, 115, 116, 117, 118, 119, 120, 121, 122, 123, 124, 125, 126, 127, 128, 129, 130, 131, 132, 133, 134, 135, 136, 137, 138, 139, 140, 141, 142, 143, 144] (by decide +kernel) (by decide +kernel)
set_option maxRecDepth 20000 in
theorem gX4_bestFeeder_X4_isSoundWithFeeder : GoodIn wsX4_bestFeeder (wsV RX4 186 RX4 yX4_isSoundWithFeeder wsX4_isSoundWithFeeder) := goodIn_app (goodIn_of _ (by decide +kernel)) ggX4_bestFeeder_X4_isSoundWithFeeder
theorem dX4_bestFeeder_0 : decode cX4_bestFeeder 0 = .ok (.aload_n 0, 1) := by decide +kernel
theorem dX4_bestFeeder_1 : decode cX4_bestFeeder 1 = .ok (.invokevirtual 183, 3) := by decide +kernel
theorem dX4_bestFeeder_4 : decode cX4_bestFeeder 4 = .ok (.ifCond .ne 6, 3) := by decide +kernel
theorem dX4_bestFeeder_7 : decode cX4_bestFeeder 7 = .ok (.bipush (-5), 2) := by decide +kernel
theorem dX4_bestFeeder_9 : decode cX4_bestFeeder 9 = .ok (.ireturn, 1) := by decide +kernel
theorem dX4_bestFeeder_10 : decode cX4_bestFeeder 10 = .ok (.iconst 1, 1) := by decide +kernel
theorem dX4_bestFeeder_11 : decode cX4_bestFeeder 11 = .ok (.istore_n 1, 1) := by decide +kernel
theorem dX4_bestFeeder_12 : decode cX4_bestFeeder 12 = .ok (.iload_n 1, 1) := by decide +kernel
theorem dX4_bestFeeder_13 : decode cX4_bestFeeder 13 = .ok (.bipush 15, 2) := by decide +kernel
theorem dX4_bestFeeder_15 : decode cX4_bestFeeder 15 = .ok (.if_icmp .gt 44, 3) := by decide +kernel
theorem dX4_bestFeeder_18 : decode cX4_bestFeeder 18 = .ok (.iconst 0, 1) := by decide +kernel
theorem dX4_bestFeeder_19 : decode cX4_bestFeeder 19 = .ok (.istore_n 2, 1) := by decide +kernel
theorem dX4_bestFeeder_20 : decode cX4_bestFeeder 20 = .ok (.iload_n 2, 1) := by decide +kernel
theorem dX4_bestFeeder_21 : decode cX4_bestFeeder 21 = .ok (.aload_n 0, 1) := by decide +kernel
theorem dX4_bestFeeder_22 : decode cX4_bestFeeder 22 = .ok (.getfield 10, 3) := by decide +kernel
theorem dX4_bestFeeder_25 : decode cX4_bestFeeder 25 = .ok (.getfield 91, 3) := by decide +kernel
theorem dX4_bestFeeder_28 : decode cX4_bestFeeder 28 = .ok (.if_icmp .ge 25, 3) := by decide +kernel
theorem dX4_bestFeeder_31 : decode cX4_bestFeeder 31 = .ok (.aload_n 0, 1) := by decide +kernel
theorem dX4_bestFeeder_32 : decode cX4_bestFeeder 32 = .ok (.iload_n 2, 1) := by decide +kernel
theorem dX4_bestFeeder_33 : decode cX4_bestFeeder 33 = .ok (.iload_n 1, 1) := by decide +kernel
theorem dX4_bestFeeder_34 : decode cX4_bestFeeder 34 = .ok (.invokevirtual 186, 3) := by decide +kernel
theorem dX4_bestFeeder_37 : decode cX4_bestFeeder 37 = .ok (.ifCond .eq 10, 3) := by decide +kernel
theorem dX4_bestFeeder_40 : decode cX4_bestFeeder 40 = .ok (.bipush 100, 2) := by decide +kernel
theorem dX4_bestFeeder_42 : decode cX4_bestFeeder 42 = .ok (.iload_n 1, 1) := by decide +kernel
theorem dX4_bestFeeder_43 : decode cX4_bestFeeder 43 = .ok (.imul, 1) := by decide +kernel
theorem dX4_bestFeeder_44 : decode cX4_bestFeeder 44 = .ok (.iload_n 2, 1) := by decide +kernel
theorem dX4_bestFeeder_45 : decode cX4_bestFeeder 45 = .ok (.iadd, 1) := by decide +kernel
theorem dX4_bestFeeder_46 : decode cX4_bestFeeder 46 = .ok (.ireturn, 1) := by decide +kernel
theorem dX4_bestFeeder_47 : decode cX4_bestFeeder 47 = .ok (.iinc 2 1, 3) := by decide +kernel
theorem dX4_bestFeeder_50 : decode cX4_bestFeeder 50 = .ok (.goto (-30), 3) := by decide +kernel
theorem dX4_bestFeeder_53 : decode cX4_bestFeeder 53 = .ok (.iinc 1 1, 3) := by decide +kernel
theorem dX4_bestFeeder_56 : decode cX4_bestFeeder 56 = .ok (.goto (-44), 3) := by decide +kernel
theorem dX4_bestFeeder_59 : decode cX4_bestFeeder 59 = .ok (.iconst (-1), 1) := by decide +kernel
theorem dX4_bestFeeder_60 : decode cX4_bestFeeder 60 = .ok (.ireturn, 1) := by decide +kernel
set_option maxRecDepth 20000 in
theorem ggX4_leastChill_X0_has : GoodIn wsX4_leastChill wsX0_has := goodIn_r _ [9, 10, 107, 108, 109, 110, 111, 112, 113, 114, 115, 116] (by decide +kernel) (by decide +kernel)
set_option maxRecDepth 20000 in
theorem gX4_leastChill_X0_has : GoodIn wsX4_leastChill (wsV RX4 62 RX0 yX0_has wsX0_has) := goodIn_app (goodIn_of _ (by decide +kernel)) ggX4_leastChill_X0_has
set_option maxRecDepth 20000 in
theorem ggX4_leastChill_X0_copyFrom : GoodIn wsX4_leastChill wsX0_copyFrom := goodIn_r _ [14, 10, 15, 16, 17, 18, 19, 20, 21, 22, 23, 107, 108, 109, 110, 111, 112, 113, 114, 115, 116] (by decide +kernel) (by decide +kernel)
set_option maxRecDepth 20000 in
theorem gX4_leastChill_X0_copyFrom : GoodIn wsX4_leastChill (wsV RX4 189 RX0 yX0_copyFrom wsX0_copyFrom) := goodIn_app (goodIn_of _ (by decide +kernel)) ggX4_leastChill_X0_copyFrom
set_option maxRecDepth 20000 in
theorem ggX4_leastChill_X4_put : GoodIn wsX4_leastChill wsX4_put := goodIn_r _ [27] (by decide +kernel) (by decide +kernel)
set_option maxRecDepth 20000 in
theorem gX4_leastChill_X4_put : GoodIn wsX4_leastChill (va_wsS RX4 73 yX4_put wsX4_put) := goodIn_app (goodIn_of _ (by decide +kernel)) ggX4_leastChill_X4_put
set_option maxRecDepth 20000 in
theorem ggX4_leastChill_X0_stepOf : GoodIn wsX4_leastChill wsX0_stepOf := goodIn_r _ [31, 18, 10, 19, 20, 32, 26, 33, 34, 35, 36, 8, 37, 107, 108, 109, 110, 111, 112, 113, 114, 115, 116] (by decide +kernel) (by decide +kernel)
set_option maxRecDepth 20000 in
theorem gX4_leastChill_X0_stepOf : GoodIn wsX4_leastChill (wsV RX4 192 RX0 yX0_stepOf wsX0_stepOf) := goodIn_app (goodIn_of _ (by decide +kernel)) ggX4_leastChill_X0_stepOf
set_option maxRecDepth 20000 in
theorem ggX4_leastChill_X1_follow : GoodIn wsX4_leastChill wsX1_follow := goodIn_r _ [42, 43, 44, 45, 46, 47, 48, 49, 50, 51, 29, 30, 8, 31, 18, 10, 19, 20, 32, 26, 33, 34, 35, 36, 37, 25, 27, 52, 53, 54, 41, 55, 56, 57, 58, 59, 60, 61, 62, 63, 64, 65, 66, 67, 68, 69, 70, 71, 72, 16, 73, 74, 75, 76, 77, 78, 79, 80, 81, 82, 83, 84, 85, 17, 86, 87, 88, 89, 21, 90, 6, 7, 9, 107, 108, 109, 110, 111, 112, 113, 114, 115, 116, 117, 118, 119, 120, 121, 122, 123] (by decide +kernel) (by decide +kernel)
set_option maxRecDepth 20000 in
theorem gX4_leastChill_X1_follow : GoodIn wsX4_leastChill (wsV RX4 59 RX1 yX1_follow wsX1_follow) := goodIn_app (goodIn_of _ (by decide +kernel)) ggX4_leastChill_X1_follow
set_option maxRecDepth 20000 in
theorem ggX4_leastChill_X1_isSound : GoodIn wsX4_leastChill wsX1_isSound := goodIn_r _ [94, 95, 96, 97, 41, 98, 78, 48, 99, 26, 100, 117, 118, 119, 120, 121, 122, 123] (by decide +kernel) (by decide +kernel)
set_option maxRecDepth 20000 in
theorem gX4_leastChill_X1_isSound : GoodIn wsX4_leastChill (wsV RX4 141 RX1 yX1_isSound wsX1_isSound) := goodIn_app (goodIn_of _ (by decide +kernel)) ggX4_leastChill_X1_isSound
theorem dX4_leastChill_0 : decode cX4_leastChill 0 = .ok (.aload_n 0, 1) := by decide +kernel
theorem dX4_leastChill_1 : decode cX4_leastChill 1 = .ok (.getfield 10, 3) := by decide +kernel
theorem dX4_leastChill_4 : decode cX4_leastChill 4 = .ok (.iload_n 1, 1) := by decide +kernel
theorem dX4_leastChill_5 : decode cX4_leastChill 5 = .ok (.invokevirtual 62, 3) := by decide +kernel
theorem dX4_leastChill_8 : decode cX4_leastChill 8 = .ok (.ifCond .ne 6, 3) := by decide +kernel
theorem dX4_leastChill_11 : decode cX4_leastChill 11 = .ok (.bipush (-2), 2) := by decide +kernel
theorem dX4_leastChill_13 : decode cX4_leastChill 13 = .ok (.ireturn, 1) := by decide +kernel
theorem dX4_leastChill_14 : decode cX4_leastChill 14 = .ok (.aload_n 0, 1) := by decide +kernel
theorem dX4_leastChill_15 : decode cX4_leastChill 15 = .ok (.getfield 37, 3) := by decide +kernel
theorem dX4_leastChill_18 : decode cX4_leastChill 18 = .ok (.aload_n 0, 1) := by decide +kernel
theorem dX4_leastChill_19 : decode cX4_leastChill 19 = .ok (.getfield 10, 3) := by decide +kernel
theorem dX4_leastChill_22 : decode cX4_leastChill 22 = .ok (.invokevirtual 189, 3) := by decide +kernel
theorem dX4_leastChill_25 : decode cX4_leastChill 25 = .ok (.iconst (-1), 1) := by decide +kernel
theorem dX4_leastChill_26 : decode cX4_leastChill 26 = .ok (.istore_n 2, 1) := by decide +kernel
theorem dX4_leastChill_27 : decode cX4_leastChill 27 = .ok (.iconst 0, 1) := by decide +kernel
theorem dX4_leastChill_28 : decode cX4_leastChill 28 = .ok (.istore_n 3, 1) := by decide +kernel
theorem dX4_leastChill_29 : decode cX4_leastChill 29 = .ok (.iload_n 3, 1) := by decide +kernel
theorem dX4_leastChill_30 : decode cX4_leastChill 30 = .ok (.sipush 500, 3) := by decide +kernel
theorem dX4_leastChill_33 : decode cX4_leastChill 33 = .ok (.if_icmp .gt 63, 3) := by decide +kernel
theorem dX4_leastChill_36 : decode cX4_leastChill 36 = .ok (.aload_n 0, 1) := by decide +kernel
theorem dX4_leastChill_37 : decode cX4_leastChill 37 = .ok (.getfield 37, 3) := by decide +kernel
theorem dX4_leastChill_40 : decode cX4_leastChill 40 = .ok (.getfield 84, 3) := by decide +kernel
theorem dX4_leastChill_43 : decode cX4_leastChill 43 = .ok (.iload_n 1, 1) := by decide +kernel
theorem dX4_leastChill_44 : decode cX4_leastChill 44 = .ok (.iload_n 3, 1) := by decide +kernel
theorem dX4_leastChill_45 : decode cX4_leastChill 45 = .ok (.invokestatic 73, 3) := by decide +kernel
theorem dX4_leastChill_48 : decode cX4_leastChill 48 = .ok (.aload_n 0, 1) := by decide +kernel
theorem dX4_leastChill_49 : decode cX4_leastChill 49 = .ok (.getfield 37, 3) := by decide +kernel
theorem dX4_leastChill_52 : decode cX4_leastChill 52 = .ok (.iload_n 1, 1) := by decide +kernel
theorem dX4_leastChill_53 : decode cX4_leastChill 53 = .ok (.invokevirtual 192, 3) := by decide +kernel
theorem dX4_leastChill_56 : decode cX4_leastChill 56 = .ok (.istore 4, 2) := by decide +kernel
theorem dX4_leastChill_58 : decode cX4_leastChill 58 = .ok (.iload 4, 2) := by decide +kernel
theorem dX4_leastChill_60 : decode cX4_leastChill 60 = .ok (.iload_n 2, 1) := by decide +kernel
theorem dX4_leastChill_61 : decode cX4_leastChill 61 = .ok (.if_icmp .eq 29, 3) := by decide +kernel
theorem dX4_leastChill_64 : decode cX4_leastChill 64 = .ok (.iload 4, 2) := by decide +kernel
theorem dX4_leastChill_66 : decode cX4_leastChill 66 = .ok (.istore_n 2, 1) := by decide +kernel
theorem dX4_leastChill_67 : decode cX4_leastChill 67 = .ok (.aload_n 0, 1) := by decide +kernel
theorem dX4_leastChill_68 : decode cX4_leastChill 68 = .ok (.getfield 40, 3) := by decide +kernel
theorem dX4_leastChill_71 : decode cX4_leastChill 71 = .ok (.aload_n 0, 1) := by decide +kernel
theorem dX4_leastChill_72 : decode cX4_leastChill 72 = .ok (.getfield 37, 3) := by decide +kernel
theorem dX4_leastChill_75 : decode cX4_leastChill 75 = .ok (.invokevirtual 59, 3) := by decide +kernel
theorem dX4_leastChill_78 : decode cX4_leastChill 78 = .ok (.aload_n 0, 1) := by decide +kernel
theorem dX4_leastChill_79 : decode cX4_leastChill 79 = .ok (.getfield 40, 3) := by decide +kernel
theorem dX4_leastChill_82 : decode cX4_leastChill 82 = .ok (.invokevirtual 141, 3) := by decide +kernel
theorem dX4_leastChill_85 : decode cX4_leastChill 85 = .ok (.ifCond .eq 5, 3) := by decide +kernel
theorem dX4_leastChill_88 : decode cX4_leastChill 88 = .ok (.iload_n 3, 1) := by decide +kernel
theorem dX4_leastChill_89 : decode cX4_leastChill 89 = .ok (.ireturn, 1) := by decide +kernel
theorem dX4_leastChill_90 : decode cX4_leastChill 90 = .ok (.iinc 3 1, 3) := by decide +kernel
theorem dX4_leastChill_93 : decode cX4_leastChill 93 = .ok (.goto (-64), 3) := by decide +kernel
theorem dX4_leastChill_96 : decode cX4_leastChill 96 = .ok (.iconst (-1), 1) := by decide +kernel
theorem dX4_leastChill_97 : decode cX4_leastChill 97 = .ok (.ireturn, 1) := by decide +kernel
set_option maxRecDepth 20000 in
theorem ggX4_excessWith_X0_has : GoodIn wsX4_excessWith wsX0_has := goodIn_r _ [9, 10, 105, 106, 107, 108, 109, 110, 111, 112, 113, 114] (by decide +kernel) (by decide +kernel)
set_option maxRecDepth 20000 in
theorem gX4_excessWith_X0_has : GoodIn wsX4_excessWith (wsV RX4 62 RX0 yX0_has wsX0_has) := goodIn_app (goodIn_of _ (by decide +kernel)) ggX4_excessWith_X0_has
set_option maxRecDepth 20000 in
theorem ggX4_excessWith_X4_isWithin : GoodIn wsX4_excessWith wsX4_isWithin := goodIn_r _ [14] (by decide +kernel) (by decide +kernel)
set_option maxRecDepth 20000 in
theorem gX4_excessWith_X4_isWithin : GoodIn wsX4_excessWith (va_wsS RX4 80 yX4_isWithin wsX4_isWithin) := goodIn_app (goodIn_of _ (by decide +kernel)) ggX4_excessWith_X4_isWithin
set_option maxRecDepth 20000 in
theorem ggX4_excessWith_X0_copyFrom : GoodIn wsX4_excessWith wsX0_copyFrom := goodIn_r _ [18, 10, 19, 20, 21, 22, 23, 24, 25, 26, 27, 105, 106, 107, 108, 109, 110, 111, 112, 113, 114] (by decide +kernel) (by decide +kernel)
set_option maxRecDepth 20000 in
theorem gX4_excessWith_X0_copyFrom : GoodIn wsX4_excessWith (wsV RX4 189 RX0 yX0_copyFrom wsX0_copyFrom) := goodIn_app (goodIn_of _ (by decide +kernel)) ggX4_excessWith_X0_copyFrom
set_option maxRecDepth 20000 in
theorem ggX4_excessWith_X4_put : GoodIn wsX4_excessWith wsX4_put := goodIn_r _ [30] (by decide +kernel) (by decide +kernel)
set_option maxRecDepth 20000 in
theorem gX4_excessWith_X4_put : GoodIn wsX4_excessWith (va_wsS RX4 73 yX4_put wsX4_put) := goodIn_app (goodIn_of _ (by decide +kernel)) ggX4_excessWith_X4_put
set_option maxRecDepth 20000 in
theorem ggX4_excessWith_X1_follow : GoodIn wsX4_excessWith wsX1_follow := goodIn_r _ [35, 36, 37, 38, 39, 40, 41, 42, 43, 44, 45, 46, 8, 47, 22, 10, 23, 24, 48, 13, 49, 50, 51, 52, 53, 29, 30, 54, 55, 56, 34, 57, 58, 59, 60, 61, 62, 63, 64, 65, 66, 67, 68, 69, 70, 71, 72, 73, 74, 20, 75, 76, 77, 78, 79, 80, 81, 82, 83, 84, 85, 86, 87, 21, 88, 89, 90, 91, 25, 92, 6, 7, 9, 105, 106, 107, 108, 109, 110, 111, 112, 113, 114, 115, 116, 117, 118, 119, 120, 121] (by decide +kernel) (by decide +kernel)
set_option maxRecDepth 20000 in
theorem gX4_excessWith_X1_follow : GoodIn wsX4_excessWith (wsV RX4 59 RX1 yX1_follow wsX1_follow) := goodIn_app (goodIn_of _ (by decide +kernel)) ggX4_excessWith_X1_follow
set_option maxRecDepth 20000 in
theorem ggX4_excessWith_X1_excessOfAll : GoodIn wsX4_excessWith wsX1_excessOfAll := goodIn_r _ [96, 80, 41, 97, 13, 98, 115, 116, 117, 118, 119, 120, 121] (by decide +kernel) (by decide +kernel)
set_option maxRecDepth 20000 in
theorem gX4_excessWith_X1_excessOfAll : GoodIn wsX4_excessWith (wsV RX4 135 RX1 yX1_excessOfAll wsX1_excessOfAll) := goodIn_app (goodIn_of _ (by decide +kernel)) ggX4_excessWith_X1_excessOfAll
theorem dX4_excessWith_0 : decode cX4_excessWith 0 = .ok (.aload_n 0, 1) := by decide +kernel
theorem dX4_excessWith_1 : decode cX4_excessWith 1 = .ok (.getfield 10, 3) := by decide +kernel
theorem dX4_excessWith_4 : decode cX4_excessWith 4 = .ok (.iload_n 1, 1) := by decide +kernel
theorem dX4_excessWith_5 : decode cX4_excessWith 5 = .ok (.invokevirtual 62, 3) := by decide +kernel
theorem dX4_excessWith_8 : decode cX4_excessWith 8 = .ok (.ifCond .ne 6, 3) := by decide +kernel
theorem dX4_excessWith_11 : decode cX4_excessWith 11 = .ok (.bipush (-2), 2) := by decide +kernel
theorem dX4_excessWith_13 : decode cX4_excessWith 13 = .ok (.ireturn, 1) := by decide +kernel
theorem dX4_excessWith_14 : decode cX4_excessWith 14 = .ok (.iload_n 2, 1) := by decide +kernel
theorem dX4_excessWith_15 : decode cX4_excessWith 15 = .ok (.iconst 0, 1) := by decide +kernel
theorem dX4_excessWith_16 : decode cX4_excessWith 16 = .ok (.sipush 500, 3) := by decide +kernel
theorem dX4_excessWith_19 : decode cX4_excessWith 19 = .ok (.invokestatic 80, 3) := by decide +kernel
theorem dX4_excessWith_22 : decode cX4_excessWith 22 = .ok (.ifCond .ne 6, 3) := by decide +kernel
theorem dX4_excessWith_25 : decode cX4_excessWith 25 = .ok (.bipush (-3), 2) := by decide +kernel
theorem dX4_excessWith_27 : decode cX4_excessWith 27 = .ok (.ireturn, 1) := by decide +kernel
theorem dX4_excessWith_28 : decode cX4_excessWith 28 = .ok (.aload_n 0, 1) := by decide +kernel
theorem dX4_excessWith_29 : decode cX4_excessWith 29 = .ok (.getfield 37, 3) := by decide +kernel
theorem dX4_excessWith_32 : decode cX4_excessWith 32 = .ok (.aload_n 0, 1) := by decide +kernel
theorem dX4_excessWith_33 : decode cX4_excessWith 33 = .ok (.getfield 10, 3) := by decide +kernel
theorem dX4_excessWith_36 : decode cX4_excessWith 36 = .ok (.invokevirtual 189, 3) := by decide +kernel
theorem dX4_excessWith_39 : decode cX4_excessWith 39 = .ok (.aload_n 0, 1) := by decide +kernel
theorem dX4_excessWith_40 : decode cX4_excessWith 40 = .ok (.getfield 37, 3) := by decide +kernel
theorem dX4_excessWith_43 : decode cX4_excessWith 43 = .ok (.getfield 84, 3) := by decide +kernel
theorem dX4_excessWith_46 : decode cX4_excessWith 46 = .ok (.iload_n 1, 1) := by decide +kernel
theorem dX4_excessWith_47 : decode cX4_excessWith 47 = .ok (.iload_n 2, 1) := by decide +kernel
theorem dX4_excessWith_48 : decode cX4_excessWith 48 = .ok (.invokestatic 73, 3) := by decide +kernel
theorem dX4_excessWith_51 : decode cX4_excessWith 51 = .ok (.aload_n 0, 1) := by decide +kernel
theorem dX4_excessWith_52 : decode cX4_excessWith 52 = .ok (.getfield 40, 3) := by decide +kernel
theorem dX4_excessWith_55 : decode cX4_excessWith 55 = .ok (.aload_n 0, 1) := by decide +kernel
theorem dX4_excessWith_56 : decode cX4_excessWith 56 = .ok (.getfield 37, 3) := by decide +kernel
theorem dX4_excessWith_59 : decode cX4_excessWith 59 = .ok (.invokevirtual 59, 3) := by decide +kernel
theorem dX4_excessWith_62 : decode cX4_excessWith 62 = .ok (.aload_n 0, 1) := by decide +kernel
theorem dX4_excessWith_63 : decode cX4_excessWith 63 = .ok (.getfield 40, 3) := by decide +kernel
theorem dX4_excessWith_66 : decode cX4_excessWith 66 = .ok (.invokevirtual 135, 3) := by decide +kernel
theorem dX4_excessWith_69 : decode cX4_excessWith 69 = .ok (.ireturn, 1) := by decide +kernel
set_option maxRecDepth 20000 in
theorem ggX4_hasRoomForFeeder_X0_hasRoomForSection : GoodIn wsX4_hasRoomForFeeder wsX0_hasRoomForSection := goodIn_r _ [6, 7, 19, 20, 21, 22, 23, 24, 25, 26, 27, 28] (by decide +kernel) (by decide +kernel)
set_option maxRecDepth 20000 in
theorem gX4_hasRoomForFeeder_X0_hasRoomForSection : GoodIn wsX4_hasRoomForFeeder (wsV RX4 47 RX0 yX0_hasRoomForSection wsX0_hasRoomForSection) := goodIn_app (goodIn_of _ (by decide +kernel)) ggX4_hasRoomForFeeder_X0_hasRoomForSection
set_option maxRecDepth 20000 in
theorem ggX4_hasRoomForFeeder_X0_hasRoomForJoint : GoodIn wsX4_hasRoomForFeeder wsX0_hasRoomForJoint := goodIn_r _ [11, 12, 19, 20, 21, 22, 23, 24, 25, 26, 27, 28] (by decide +kernel) (by decide +kernel)
set_option maxRecDepth 20000 in
theorem gX4_hasRoomForFeeder_X0_hasRoomForJoint : GoodIn wsX4_hasRoomForFeeder (wsV RX4 99 RX0 yX0_hasRoomForJoint wsX0_hasRoomForJoint) := goodIn_app (goodIn_of _ (by decide +kernel)) ggX4_hasRoomForFeeder_X0_hasRoomForJoint
theorem dX4_hasRoomForFeeder_0 : decode cX4_hasRoomForFeeder 0 = .ok (.aload_n 0, 1) := by decide +kernel
theorem dX4_hasRoomForFeeder_1 : decode cX4_hasRoomForFeeder 1 = .ok (.getfield 10, 3) := by decide +kernel
theorem dX4_hasRoomForFeeder_4 : decode cX4_hasRoomForFeeder 4 = .ok (.invokevirtual 47, 3) := by decide +kernel
theorem dX4_hasRoomForFeeder_7 : decode cX4_hasRoomForFeeder 7 = .ok (.ifCond .eq 17, 3) := by decide +kernel
theorem dX4_hasRoomForFeeder_10 : decode cX4_hasRoomForFeeder 10 = .ok (.aload_n 0, 1) := by decide +kernel
theorem dX4_hasRoomForFeeder_11 : decode cX4_hasRoomForFeeder 11 = .ok (.getfield 10, 3) := by decide +kernel
theorem dX4_hasRoomForFeeder_14 : decode cX4_hasRoomForFeeder 14 = .ok (.invokevirtual 99, 3) := by decide +kernel
theorem dX4_hasRoomForFeeder_17 : decode cX4_hasRoomForFeeder 17 = .ok (.ifCond .eq 7, 3) := by decide +kernel
theorem dX4_hasRoomForFeeder_20 : decode cX4_hasRoomForFeeder 20 = .ok (.iconst 1, 1) := by decide +kernel
theorem dX4_hasRoomForFeeder_21 : decode cX4_hasRoomForFeeder 21 = .ok (.goto 4, 3) := by decide +kernel
theorem dX4_hasRoomForFeeder_24 : decode cX4_hasRoomForFeeder 24 = .ok (.iconst 0, 1) := by decide +kernel
theorem dX4_hasRoomForFeeder_25 : decode cX4_hasRoomForFeeder 25 = .ok (.ireturn, 1) := by decide +kernel
set_option maxRecDepth 20000 in
theorem ggX4_isSoundWithFeeder_X0_copyFrom : GoodIn wsX4_isSoundWithFeeder wsX0_copyFrom := goodIn_r _ [8, 9, 10, 11, 12, 13, 14, 15, 16, 17, 18, 111, 112, 113, 114, 115, 116, 117, 118, 119, 120] (by decide +kernel) (by decide +kernel)
set_option maxRecDepth 20000 in
theorem gX4_isSoundWithFeeder_X0_copyFrom : GoodIn wsX4_isSoundWithFeeder (wsV RX4 189 RX0 yX0_copyFrom wsX0_copyFrom) := goodIn_app (goodIn_of _ (by decide +kernel)) ggX4_isSoundWithFeeder_X0_copyFrom
set_option maxRecDepth 20000 in
theorem ggX4_isSoundWithFeeder_X0_append : GoodIn wsX4_isSoundWithFeeder wsX0_append := goodIn_r _ [22, 9, 13, 14, 15, 16, 111, 112, 113, 114, 115, 116, 117, 118, 119, 120] (by decide +kernel) (by decide +kernel)
set_option maxRecDepth 20000 in
theorem gX4_isSoundWithFeeder_X0_append : GoodIn wsX4_isSoundWithFeeder (wsV RX4 55 RX0 yX0_append wsX0_append) := goodIn_app (goodIn_of _ (by decide +kernel)) ggX4_isSoundWithFeeder_X0_append
set_option maxRecDepth 20000 in
theorem ggX4_isSoundWithFeeder_X0_link : GoodIn wsX4_isSoundWithFeeder wsX0_link := goodIn_r _ [26, 10, 17, 18, 111, 112, 113, 114, 115, 116, 117, 118, 119, 120] (by decide +kernel) (by decide +kernel)
set_option maxRecDepth 20000 in
theorem gX4_isSoundWithFeeder_X0_link : GoodIn wsX4_isSoundWithFeeder (wsV RX4 102 RX0 yX0_link wsX0_link) := goodIn_app (goodIn_of _ (by decide +kernel)) ggX4_isSoundWithFeeder_X0_link
set_option maxRecDepth 20000 in
theorem ggX4_isSoundWithFeeder_X1_follow : GoodIn wsX4_isSoundWithFeeder wsX1_follow := goodIn_r _ [31, 32, 33, 34, 35, 36, 37, 38, 39, 40, 41, 42, 7, 43, 13, 9, 14, 15, 44, 45, 46, 47, 48, 49, 50, 51, 52, 53, 54, 55, 30, 56, 57, 58, 59, 60, 61, 62, 63, 64, 65, 66, 67, 68, 69, 70, 71, 72, 73, 11, 74, 75, 76, 77, 78, 79, 80, 81, 82, 83, 84, 85, 86, 12, 87, 88, 89, 90, 16, 91, 92, 93, 94, 111, 112, 113, 114, 115, 116, 117, 118, 119, 120, 121, 122, 123, 124, 125, 126, 127] (by decide +kernel) (by decide +kernel)
set_option maxRecDepth 20000 in
theorem gX4_isSoundWithFeeder_X1_follow : GoodIn wsX4_isSoundWithFeeder (wsV RX4 59 RX1 yX1_follow wsX1_follow) := goodIn_app (goodIn_of _ (by decide +kernel)) ggX4_isSoundWithFeeder_X1_follow
set_option maxRecDepth 20000 in
theorem ggX4_isSoundWithFeeder_X1_isSound : GoodIn wsX4_isSoundWithFeeder wsX1_isSound := goodIn_r _ [98, 99, 100, 101, 30, 102, 79, 37, 103, 45, 104, 121, 122, 123, 124, 125, 126, 127] (by decide +kernel) (by decide +kernel)
set_option maxRecDepth 20000 in
theorem gX4_isSoundWithFeeder_X1_isSound : GoodIn wsX4_isSoundWithFeeder (wsV RX4 141 RX1 yX1_isSound wsX1_isSound) := goodIn_app (goodIn_of _ (by decide +kernel)) ggX4_isSoundWithFeeder_X1_isSound
theorem dX4_isSoundWithFeeder_0 : decode cX4_isSoundWithFeeder 0 = .ok (.aload_n 0, 1) := by decide +kernel
theorem dX4_isSoundWithFeeder_1 : decode cX4_isSoundWithFeeder 1 = .ok (.getfield 37, 3) := by decide +kernel
theorem dX4_isSoundWithFeeder_4 : decode cX4_isSoundWithFeeder 4 = .ok (.aload_n 0, 1) := by decide +kernel
theorem dX4_isSoundWithFeeder_5 : decode cX4_isSoundWithFeeder 5 = .ok (.getfield 10, 3) := by decide +kernel
theorem dX4_isSoundWithFeeder_8 : decode cX4_isSoundWithFeeder 8 = .ok (.invokevirtual 189, 3) := by decide +kernel
theorem dX4_isSoundWithFeeder_11 : decode cX4_isSoundWithFeeder 11 = .ok (.aload_n 0, 1) := by decide +kernel
theorem dX4_isSoundWithFeeder_12 : decode cX4_isSoundWithFeeder 12 = .ok (.getfield 37, 3) := by decide +kernel
theorem dX4_isSoundWithFeeder_15 : decode cX4_isSoundWithFeeder 15 = .ok (.iload_n 2, 1) := by decide +kernel
theorem dX4_isSoundWithFeeder_16 : decode cX4_isSoundWithFeeder 16 = .ok (.iload_n 2, 1) := by decide +kernel
theorem dX4_isSoundWithFeeder_17 : decode cX4_isSoundWithFeeder 17 = .ok (.imul, 1) := by decide +kernel
theorem dX4_isSoundWithFeeder_18 : decode cX4_isSoundWithFeeder 18 = .ok (.iload_n 2, 1) := by decide +kernel
theorem dX4_isSoundWithFeeder_19 : decode cX4_isSoundWithFeeder 19 = .ok (.imul, 1) := by decide +kernel
theorem dX4_isSoundWithFeeder_20 : decode cX4_isSoundWithFeeder 20 = .ok (.iconst 5, 1) := by decide +kernel
theorem dX4_isSoundWithFeeder_21 : decode cX4_isSoundWithFeeder 21 = .ok (.iload_n 2, 1) := by decide +kernel
theorem dX4_isSoundWithFeeder_22 : decode cX4_isSoundWithFeeder 22 = .ok (.imul, 1) := by decide +kernel
theorem dX4_isSoundWithFeeder_23 : decode cX4_isSoundWithFeeder 23 = .ok (.iload_n 2, 1) := by decide +kernel
theorem dX4_isSoundWithFeeder_24 : decode cX4_isSoundWithFeeder 24 = .ok (.imul, 1) := by decide +kernel
theorem dX4_isSoundWithFeeder_25 : decode cX4_isSoundWithFeeder 25 = .ok (.iconst 0, 1) := by decide +kernel
theorem dX4_isSoundWithFeeder_26 : decode cX4_isSoundWithFeeder 26 = .ok (.iconst 1, 1) := by decide +kernel
theorem dX4_isSoundWithFeeder_27 : decode cX4_isSoundWithFeeder 27 = .ok (.invokevirtual 55, 3) := by decide +kernel
theorem dX4_isSoundWithFeeder_30 : decode cX4_isSoundWithFeeder 30 = .ok (.istore_n 3, 1) := by decide +kernel
theorem dX4_isSoundWithFeeder_31 : decode cX4_isSoundWithFeeder 31 = .ok (.aload_n 0, 1) := by decide +kernel
theorem dX4_isSoundWithFeeder_32 : decode cX4_isSoundWithFeeder 32 = .ok (.getfield 37, 3) := by decide +kernel
theorem dX4_isSoundWithFeeder_35 : decode cX4_isSoundWithFeeder 35 = .ok (.iload_n 1, 1) := by decide +kernel
theorem dX4_isSoundWithFeeder_36 : decode cX4_isSoundWithFeeder 36 = .ok (.iload_n 3, 1) := by decide +kernel
theorem dX4_isSoundWithFeeder_37 : decode cX4_isSoundWithFeeder 37 = .ok (.invokevirtual 102, 3) := by decide +kernel
theorem dX4_isSoundWithFeeder_40 : decode cX4_isSoundWithFeeder 40 = .ok (.pop, 1) := by decide +kernel
theorem dX4_isSoundWithFeeder_41 : decode cX4_isSoundWithFeeder 41 = .ok (.aload_n 0, 1) := by decide +kernel
theorem dX4_isSoundWithFeeder_42 : decode cX4_isSoundWithFeeder 42 = .ok (.getfield 40, 3) := by decide +kernel
theorem dX4_isSoundWithFeeder_45 : decode cX4_isSoundWithFeeder 45 = .ok (.aload_n 0, 1) := by decide +kernel
theorem dX4_isSoundWithFeeder_46 : decode cX4_isSoundWithFeeder 46 = .ok (.getfield 37, 3) := by decide +kernel
theorem dX4_isSoundWithFeeder_49 : decode cX4_isSoundWithFeeder 49 = .ok (.invokevirtual 59, 3) := by decide +kernel
theorem dX4_isSoundWithFeeder_52 : decode cX4_isSoundWithFeeder 52 = .ok (.aload_n 0, 1) := by decide +kernel
theorem dX4_isSoundWithFeeder_53 : decode cX4_isSoundWithFeeder 53 = .ok (.getfield 40, 3) := by decide +kernel
theorem dX4_isSoundWithFeeder_56 : decode cX4_isSoundWithFeeder 56 = .ok (.invokevirtual 141, 3) := by decide +kernel
theorem dX4_isSoundWithFeeder_59 : decode cX4_isSoundWithFeeder 59 = .ok (.ireturn, 1) := by decide +kernel
set_option maxRecDepth 20000 in
theorem ggX4_undo_X2_isEmpty : GoodIn wsX4_undo wsX2_isEmpty := goodIn_r _ [9, 10, 109, 110] (by decide +kernel) (by decide +kernel)
set_option maxRecDepth 20000 in
theorem gX4_undo_X2_isEmpty : GoodIn wsX4_undo (wsV RX4 195 RX2 yX2_isEmpty wsX2_isEmpty) := goodIn_app (goodIn_of _ (by decide +kernel)) ggX4_undo_X2_isEmpty
set_option maxRecDepth 20000 in
theorem ggX4_undo_X2_restore : GoodIn wsX4_undo wsX2_restore := goodIn_r _ [14, 10, 15, 16, 17, 8, 18, 19, 20, 21, 22, 23, 24, 25, 26, 27, 28, 29, 30, 31, 32, 33, 34, 109, 110, 111, 112, 113, 114, 115, 116, 117, 118, 119, 120] (by decide +kernel) (by decide +kernel)
set_option maxRecDepth 20000 in
theorem gX4_undo_X2_restore : GoodIn wsX4_undo (wsV RX4 198 RX2 yX2_restore wsX2_restore) := goodIn_app (goodIn_of _ (by decide +kernel)) ggX4_undo_X2_restore
set_option maxRecDepth 20000 in
theorem ggX4_undo_X1_follow : GoodIn wsX4_undo wsX1_follow := goodIn_r _ [39, 40, 41, 42, 43, 44, 45, 46, 47, 48, 49, 50, 23, 51, 29, 25, 30, 31, 52, 53, 54, 55, 56, 57, 58, 59, 60, 61, 62, 63, 38, 64, 65, 66, 67, 68, 69, 70, 71, 72, 73, 74, 75, 76, 77, 78, 79, 80, 81, 27, 82, 83, 84, 85, 86, 87, 88, 89, 90, 91, 92, 93, 94, 28, 95, 96, 97, 98, 32, 99, 100, 101, 102, 111, 112, 113, 114, 115, 116, 117, 118, 119, 120, 121, 122, 123, 124, 125, 126, 127] (by decide +kernel) (by decide +kernel)
set_option maxRecDepth 20000 in
theorem gX4_undo_X1_follow : GoodIn wsX4_undo (wsV RX4 59 RX1 yX1_follow wsX1_follow) := goodIn_app (goodIn_of _ (by decide +kernel)) ggX4_undo_X1_follow
theorem dX4_undo_0 : decode cX4_undo 0 = .ok (.aload_n 0, 1) := by decide +kernel
theorem dX4_undo_1 : decode cX4_undo 1 = .ok (.getfield 26, 3) := by decide +kernel
theorem dX4_undo_4 : decode cX4_undo 4 = .ok (.invokevirtual 195, 3) := by decide +kernel
theorem dX4_undo_7 : decode cX4_undo 7 = .ok (.ifCond .eq 6, 3) := by decide +kernel
theorem dX4_undo_10 : decode cX4_undo 10 = .ok (.bipush (-4), 2) := by decide +kernel
theorem dX4_undo_12 : decode cX4_undo 12 = .ok (.ireturn, 1) := by decide +kernel
theorem dX4_undo_13 : decode cX4_undo 13 = .ok (.aload_n 0, 1) := by decide +kernel
theorem dX4_undo_14 : decode cX4_undo 14 = .ok (.getfield 26, 3) := by decide +kernel
theorem dX4_undo_17 : decode cX4_undo 17 = .ok (.aload_n 0, 1) := by decide +kernel
theorem dX4_undo_18 : decode cX4_undo 18 = .ok (.getfield 10, 3) := by decide +kernel
theorem dX4_undo_21 : decode cX4_undo 21 = .ok (.invokevirtual 198, 3) := by decide +kernel
theorem dX4_undo_24 : decode cX4_undo 24 = .ok (.aload_n 0, 1) := by decide +kernel
theorem dX4_undo_25 : decode cX4_undo 25 = .ok (.getfield 19, 3) := by decide +kernel
theorem dX4_undo_28 : decode cX4_undo 28 = .ok (.aload_n 0, 1) := by decide +kernel
theorem dX4_undo_29 : decode cX4_undo 29 = .ok (.getfield 10, 3) := by decide +kernel
theorem dX4_undo_32 : decode cX4_undo 32 = .ok (.invokevirtual 59, 3) := by decide +kernel
theorem dX4_undo_35 : decode cX4_undo 35 = .ok (.aload_n 0, 1) := by decide +kernel
theorem dX4_undo_36 : decode cX4_undo 36 = .ok (.getfield 26, 3) := by decide +kernel
theorem dX4_undo_39 : decode cX4_undo 39 = .ok (.getfield 201, 3) := by decide +kernel
theorem dX4_undo_42 : decode cX4_undo 42 = .ok (.ireturn, 1) := by decide +kernel
set_option maxRecDepth 20000 in
theorem ggX4_type_X4_isWithin : GoodIn wsX4_type wsX4_isWithin := goodIn_r _ [6] (by decide +kernel) (by decide +kernel)
set_option maxRecDepth 20000 in
theorem gX4_type_X4_isWithin : GoodIn wsX4_type (va_wsS RX4 80 yX4_isWithin wsX4_isWithin) := goodIn_app (goodIn_of _ (by decide +kernel)) ggX4_type_X4_isWithin
set_option maxRecDepth 20000 in
theorem ggX4_type_X3_append : GoodIn wsX4_type wsX3_append := goodIn_r _ [11, 12, 13, 20, 21, 22, 23, 24] (by decide +kernel) (by decide +kernel)
set_option maxRecDepth 20000 in
theorem gX4_type_X3_append : GoodIn wsX4_type (wsV RX4 204 RX3 yX3_append wsX3_append) := goodIn_app (goodIn_of _ (by decide +kernel)) ggX4_type_X3_append
theorem dX4_type_0 : decode cX4_type 0 = .ok (.iload_n 1, 1) := by decide +kernel
theorem dX4_type_1 : decode cX4_type 1 = .ok (.iconst 0, 1) := by decide +kernel
theorem dX4_type_2 : decode cX4_type 2 = .ok (.sipush 255, 3) := by decide +kernel
theorem dX4_type_5 : decode cX4_type 5 = .ok (.invokestatic 80, 3) := by decide +kernel
theorem dX4_type_8 : decode cX4_type 8 = .ok (.ifCond .ne 6, 3) := by decide +kernel
theorem dX4_type_11 : decode cX4_type 11 = .ok (.bipush (-3), 2) := by decide +kernel
theorem dX4_type_13 : decode cX4_type 13 = .ok (.ireturn, 1) := by decide +kernel
theorem dX4_type_14 : decode cX4_type 14 = .ok (.aload_n 0, 1) := by decide +kernel
theorem dX4_type_15 : decode cX4_type 15 = .ok (.getfield 33, 3) := by decide +kernel
theorem dX4_type_18 : decode cX4_type 18 = .ok (.iload_n 1, 1) := by decide +kernel
theorem dX4_type_19 : decode cX4_type 19 = .ok (.invokevirtual 204, 3) := by decide +kernel
theorem dX4_type_22 : decode cX4_type 22 = .ok (.ifCond .eq 13, 3) := by decide +kernel
theorem dX4_type_25 : decode cX4_type 25 = .ok (.aload_n 0, 1) := by decide +kernel
theorem dX4_type_26 : decode cX4_type 26 = .ok (.getfield 33, 3) := by decide +kernel
theorem dX4_type_29 : decode cX4_type 29 = .ok (.getfield 206, 3) := by decide +kernel
theorem dX4_type_32 : decode cX4_type 32 = .ok (.goto 5, 3) := by decide +kernel
theorem dX4_type_35 : decode cX4_type 35 = .ok (.bipush (-5), 2) := by decide +kernel
theorem dX4_type_37 : decode cX4_type 37 = .ok (.ireturn, 1) := by decide +kernel
theorem dX4_clearText_0 : decode cX4_clearText 0 = .ok (.aload_n 0, 1) := by decide +kernel
theorem dX4_clearText_1 : decode cX4_clearText 1 = .ok (.getfield 33, 3) := by decide +kernel
theorem dX4_clearText_4 : decode cX4_clearText 4 = .ok (.getfield 206, 3) := by decide +kernel
theorem dX4_clearText_7 : decode cX4_clearText 7 = .ok (.istore_n 1, 1) := by decide +kernel
theorem dX4_clearText_8 : decode cX4_clearText 8 = .ok (.aload_n 0, 1) := by decide +kernel
theorem dX4_clearText_9 : decode cX4_clearText 9 = .ok (.getfield 33, 3) := by decide +kernel
theorem dX4_clearText_12 : decode cX4_clearText 12 = .ok (.iconst 0, 1) := by decide +kernel
theorem dX4_clearText_13 : decode cX4_clearText 13 = .ok (.putfield 206, 3) := by decide +kernel
theorem dX4_clearText_16 : decode cX4_clearText 16 = .ok (.iload_n 1, 1) := by decide +kernel
theorem dX4_clearText_17 : decode cX4_clearText 17 = .ok (.ireturn, 1) := by decide +kernel
set_option maxRecDepth 20000 in
theorem ggX4_textFault_X0_copyFrom : GoodIn wsX4_textFault wsX0_copyFrom := goodIn_r _ [8, 9, 10, 11, 12, 13, 14, 15, 16, 17, 18, 100, 101, 102, 103, 104, 105, 106, 107, 108, 109] (by decide +kernel) (by decide +kernel)
set_option maxRecDepth 20000 in
theorem gX4_textFault_X0_copyFrom : GoodIn wsX4_textFault (wsV RX4 189 RX0 yX0_copyFrom wsX0_copyFrom) := goodIn_app (goodIn_of _ (by decide +kernel)) ggX4_textFault_X0_copyFrom
set_option maxRecDepth 20000 in
theorem ggX4_textFault_X3_readInto : GoodIn wsX4_textFault wsX3_readInto := goodIn_r _ [23, 24, 25, 26, 27, 28, 29, 22, 30, 31, 32, 33, 34, 35, 36, 37, 38, 39, 40, 41, 42, 43, 44, 45, 46, 7, 47, 9, 48, 49, 50, 51, 10, 52, 53, 54, 55, 56, 57, 58, 59, 60, 61, 62, 63, 64, 65, 66, 67, 68, 69, 70, 13, 14, 15, 16, 71, 72, 73, 74, 75, 76, 77, 78, 79, 80, 81, 82, 83, 17, 18, 84, 85, 86, 87, 88, 89, 90, 91, 92, 93, 110, 111, 112, 113, 114, 100, 101, 102, 103, 104, 105, 106, 107, 108, 109] (by decide +kernel) (by decide +kernel)
set_option maxRecDepth 20000 in
theorem gX4_textFault_X3_readInto : GoodIn wsX4_textFault (wsV RX4 209 RX3 yX3_readInto wsX3_readInto) := goodIn_app (goodIn_of _ (by decide +kernel)) ggX4_textFault_X3_readInto
theorem dX4_textFault_0 : decode cX4_textFault 0 = .ok (.aload_n 0, 1) := by decide +kernel
theorem dX4_textFault_1 : decode cX4_textFault 1 = .ok (.getfield 37, 3) := by decide +kernel
theorem dX4_textFault_4 : decode cX4_textFault 4 = .ok (.aload_n 0, 1) := by decide +kernel
theorem dX4_textFault_5 : decode cX4_textFault 5 = .ok (.getfield 10, 3) := by decide +kernel
theorem dX4_textFault_8 : decode cX4_textFault 8 = .ok (.invokevirtual 189, 3) := by decide +kernel
theorem dX4_textFault_11 : decode cX4_textFault 11 = .ok (.aload_n 0, 1) := by decide +kernel
theorem dX4_textFault_12 : decode cX4_textFault 12 = .ok (.getfield 33, 3) := by decide +kernel
theorem dX4_textFault_15 : decode cX4_textFault 15 = .ok (.aload_n 0, 1) := by decide +kernel
theorem dX4_textFault_16 : decode cX4_textFault 16 = .ok (.getfield 37, 3) := by decide +kernel
theorem dX4_textFault_19 : decode cX4_textFault 19 = .ok (.invokevirtual 209, 3) := by decide +kernel
theorem dX4_textFault_22 : decode cX4_textFault 22 = .ok (.ireturn, 1) := by decide +kernel
set_option maxRecDepth 20000 in
theorem ggX4_load_X0_copyFrom : GoodIn wsX4_load wsX0_copyFrom := goodIn_r _ [11, 12, 13, 14, 15, 16, 17, 18, 19, 20, 21, 189, 190, 191, 192, 193, 194, 195, 196, 197, 198] (by decide +kernel) (by decide +kernel)
set_option maxRecDepth 20000 in
theorem gX4_load_X0_copyFrom : GoodIn wsX4_load (wsV RX4 189 RX0 yX0_copyFrom wsX0_copyFrom) := goodIn_app (goodIn_of _ (by decide +kernel)) ggX4_load_X0_copyFrom
set_option maxRecDepth 20000 in
theorem ggX4_load_X3_readInto : GoodIn wsX4_load wsX3_readInto := goodIn_r _ [26, 27, 28, 29, 30, 31, 32, 25, 33, 34, 35, 36, 37, 38, 39, 40, 41, 42, 43, 44, 45, 46, 47, 48, 49, 10, 50, 12, 51, 52, 53, 54, 13, 55, 56, 57, 58, 59, 60, 61, 62, 63, 64, 65, 66, 67, 68, 69, 70, 71, 72, 73, 16, 17, 18, 19, 74, 75, 76, 77, 78, 79, 80, 81, 82, 83, 84, 85, 86, 20, 21, 87, 88, 89, 90, 91, 92, 93, 94, 95, 96, 184, 185, 186, 187, 188, 189, 190, 191, 192, 193, 194, 195, 196, 197, 198] (by decide +kernel) (by decide +kernel)
set_option maxRecDepth 20000 in
theorem gX4_load_X3_readInto : GoodIn wsX4_load (wsV RX4 209 RX3 yX3_readInto wsX3_readInto) := goodIn_app (goodIn_of _ (by decide +kernel)) ggX4_load_X3_readInto
set_option maxRecDepth 20000 in
theorem ggX4_load_X2_keep : GoodIn wsX4_load wsX2_keep := goodIn_r _ [101, 102, 103, 104, 105, 106, 100, 107, 108, 109, 110, 111, 112, 8, 9, 10, 11, 12, 13, 14, 15, 16, 17, 18, 19, 20, 21, 199, 200, 189, 190, 191, 192, 193, 194, 195, 196, 197, 198] (by decide +kernel) (by decide +kernel)
set_option maxRecDepth 20000 in
theorem gX4_load_X2_keep : GoodIn wsX4_load (wsV RX4 51 RX2 yX2_keep wsX2_keep) := goodIn_app (goodIn_of _ (by decide +kernel)) ggX4_load_X2_keep
set_option maxRecDepth 20000 in
theorem ggX4_load_X1_follow : GoodIn wsX4_load wsX1_follow := goodIn_r _ [117, 118, 119, 120, 121, 122, 123, 124, 125, 126, 127, 128, 10, 129, 16, 12, 17, 18, 87, 64, 88, 130, 131, 132, 133, 134, 135, 136, 137, 138, 116, 139, 140, 141, 142, 143, 144, 145, 146, 147, 148, 149, 150, 151, 152, 153, 154, 155, 156, 14, 157, 158, 159, 160, 161, 162, 163, 164, 165, 166, 167, 168, 169, 15, 170, 171, 172, 173, 19, 174, 175, 176, 177, 189, 190, 191, 192, 193, 194, 195, 196, 197, 198, 201, 202, 203, 204, 205, 206, 207] (by decide +kernel) (by decide +kernel)
set_option maxRecDepth 20000 in
theorem gX4_load_X1_follow : GoodIn wsX4_load (wsV RX4 59 RX1 yX1_follow wsX1_follow) := goodIn_app (goodIn_of _ (by decide +kernel)) ggX4_load_X1_follow
theorem dX4_load_0 : decode cX4_load 0 = .ok (.aload_n 0, 1) := by decide +kernel
theorem dX4_load_1 : decode cX4_load 1 = .ok (.getfield 37, 3) := by decide +kernel
theorem dX4_load_4 : decode cX4_load 4 = .ok (.aload_n 0, 1) := by decide +kernel
theorem dX4_load_5 : decode cX4_load 5 = .ok (.getfield 10, 3) := by decide +kernel
theorem dX4_load_8 : decode cX4_load 8 = .ok (.invokevirtual 189, 3) := by decide +kernel
theorem dX4_load_11 : decode cX4_load 11 = .ok (.aload_n 0, 1) := by decide +kernel
theorem dX4_load_12 : decode cX4_load 12 = .ok (.getfield 33, 3) := by decide +kernel
theorem dX4_load_15 : decode cX4_load 15 = .ok (.aload_n 0, 1) := by decide +kernel
theorem dX4_load_16 : decode cX4_load 16 = .ok (.getfield 37, 3) := by decide +kernel
theorem dX4_load_19 : decode cX4_load 19 = .ok (.invokevirtual 209, 3) := by decide +kernel
theorem dX4_load_22 : decode cX4_load 22 = .ok (.iconst (-1), 1) := by decide +kernel
theorem dX4_load_23 : decode cX4_load 23 = .ok (.if_icmp .eq 6, 3) := by decide +kernel
theorem dX4_load_26 : decode cX4_load 26 = .ok (.bipush (-4), 2) := by decide +kernel
theorem dX4_load_28 : decode cX4_load 28 = .ok (.ireturn, 1) := by decide +kernel
theorem dX4_load_29 : decode cX4_load 29 = .ok (.aload_n 0, 1) := by decide +kernel
theorem dX4_load_30 : decode cX4_load 30 = .ok (.getfield 26, 3) := by decide +kernel
theorem dX4_load_33 : decode cX4_load 33 = .ok (.aload_n 0, 1) := by decide +kernel
theorem dX4_load_34 : decode cX4_load 34 = .ok (.getfield 10, 3) := by decide +kernel
theorem dX4_load_37 : decode cX4_load 37 = .ok (.invokevirtual 51, 3) := by decide +kernel
theorem dX4_load_40 : decode cX4_load 40 = .ok (.aload_n 0, 1) := by decide +kernel
theorem dX4_load_41 : decode cX4_load 41 = .ok (.getfield 10, 3) := by decide +kernel
theorem dX4_load_44 : decode cX4_load 44 = .ok (.aload_n 0, 1) := by decide +kernel
theorem dX4_load_45 : decode cX4_load 45 = .ok (.getfield 37, 3) := by decide +kernel
theorem dX4_load_48 : decode cX4_load 48 = .ok (.invokevirtual 189, 3) := by decide +kernel
theorem dX4_load_51 : decode cX4_load 51 = .ok (.aload_n 0, 1) := by decide +kernel
theorem dX4_load_52 : decode cX4_load 52 = .ok (.getfield 19, 3) := by decide +kernel
theorem dX4_load_55 : decode cX4_load 55 = .ok (.aload_n 0, 1) := by decide +kernel
theorem dX4_load_56 : decode cX4_load 56 = .ok (.getfield 10, 3) := by decide +kernel
theorem dX4_load_59 : decode cX4_load 59 = .ok (.invokevirtual 59, 3) := by decide +kernel
theorem dX4_load_62 : decode cX4_load 62 = .ok (.aload_n 0, 1) := by decide +kernel
theorem dX4_load_63 : decode cX4_load 63 = .ok (.getfield 33, 3) := by decide +kernel
theorem dX4_load_66 : decode cX4_load 66 = .ok (.getfield 213, 3) := by decide +kernel
theorem dX4_load_69 : decode cX4_load 69 = .ok (.ireturn, 1) := by decide +kernel
set_option maxRecDepth 20000 in
theorem ggX4_digest_X4_count : GoodIn wsX4_digest wsX4_count := goodIn_r _ [10, 3, 4, 5, 11, 12, 13, 14, 15, 16, 17, 18, 19, 20, 21, 22, 23, 24, 25, 26, 27, 28, 29, 30, 31, 32, 33, 34, 35, 36, 37, 38, 9, 39, 40, 41, 42, 43, 44, 45, 46, 47, 48, 49, 50, 51, 52, 53, 54, 55, 56, 95, 96, 97, 98, 99, 100, 101, 102, 103, 104, 105, 106, 107, 108, 109, 110, 111, 112, 113, 114, 115, 116, 117] (by decide +kernel) (by decide +kernel)
set_option maxRecDepth 20000 in
theorem gX4_digest_X4_count : GoodIn wsX4_digest (wsV RX4 220 RX4 yX4_count wsX4_count) := goodIn_app (goodIn_of _ (by decide +kernel)) ggX4_digest_X4_count
set_option maxRecDepth 20000 in
theorem ggX4_digest_X4_section : GoodIn wsX4_digest wsX4_section := goodIn_r _ [60, 3, 61, 62, 63, 13, 64, 65, 14, 66, 67, 68, 27, 28, 18, 29, 20, 69, 50, 9, 51, 70, 22, 23, 24, 25, 26, 30, 31, 32, 33, 34, 35, 36, 71, 72, 73, 74, 75, 76, 77, 78, 79, 80, 81, 95, 96, 97, 98, 99, 100, 101, 102, 103, 104, 105, 106, 107, 108, 109, 110, 111, 112, 113, 114, 115, 116, 117] (by decide +kernel) (by decide +kernel)
set_option maxRecDepth 20000 in
theorem gX4_digest_X4_section : GoodIn wsX4_digest (wsV RX4 223 RX4 yX4_section wsX4_section) := goodIn_app (goodIn_of _ (by decide +kernel)) ggX4_digest_X4_section
set_option maxRecDepth 20000 in
theorem ggX4_digest_X4_joint : GoodIn wsX4_digest wsX4_joint := goodIn_r _ [85, 3, 86, 87, 88, 89, 90, 18, 91, 75, 92, 93, 9, 94, 69, 50, 51, 95, 96, 97, 98, 99, 100, 101, 102, 103, 104, 105, 106, 107, 108, 109, 110] (by decide +kernel) (by decide +kernel)
set_option maxRecDepth 20000 in
theorem gX4_digest_X4_joint : GoodIn wsX4_digest (wsV RX4 226 RX4 yX4_joint wsX4_joint) := goodIn_app (goodIn_of _ (by decide +kernel)) ggX4_digest_X4_joint
theorem dX4_digest_0 : decode cX4_digest 0 = .ok (.ldc2_w 216, 3) := by decide +kernel
theorem dX4_digest_3 : decode cX4_digest 3 = .ok (.lstore_n 1, 1) := by decide +kernel
theorem dX4_digest_4 : decode cX4_digest 4 = .ok (.iconst 0, 1) := by decide +kernel
theorem dX4_digest_5 : decode cX4_digest 5 = .ok (.istore_n 3, 1) := by decide +kernel
theorem dX4_digest_6 : decode cX4_digest 6 = .ok (.iload_n 3, 1) := by decide +kernel
theorem dX4_digest_7 : decode cX4_digest 7 = .ok (.bipush 10, 2) := by decide +kernel
theorem dX4_digest_9 : decode cX4_digest 9 = .ok (.if_icmp .ge 22, 3) := by decide +kernel
theorem dX4_digest_12 : decode cX4_digest 12 = .ok (.ldc2_w 218, 3) := by decide +kernel
theorem dX4_digest_15 : decode cX4_digest 15 = .ok (.lload_n 1, 1) := by decide +kernel
theorem dX4_digest_16 : decode cX4_digest 16 = .ok (.lmul, 1) := by decide +kernel
theorem dX4_digest_17 : decode cX4_digest 17 = .ok (.aload_n 0, 1) := by decide +kernel
theorem dX4_digest_18 : decode cX4_digest 18 = .ok (.iload_n 3, 1) := by decide +kernel
theorem dX4_digest_19 : decode cX4_digest 19 = .ok (.invokevirtual 220, 3) := by decide +kernel
theorem dX4_digest_22 : decode cX4_digest 22 = .ok (.i2l, 1) := by decide +kernel
theorem dX4_digest_23 : decode cX4_digest 23 = .ok (.ladd, 1) := by decide +kernel
theorem dX4_digest_24 : decode cX4_digest 24 = .ok (.lstore_n 1, 1) := by decide +kernel
theorem dX4_digest_25 : decode cX4_digest 25 = .ok (.iinc 3 1, 3) := by decide +kernel
theorem dX4_digest_28 : decode cX4_digest 28 = .ok (.goto (-22), 3) := by decide +kernel
theorem dX4_digest_31 : decode cX4_digest 31 = .ok (.iconst 0, 1) := by decide +kernel
theorem dX4_digest_32 : decode cX4_digest 32 = .ok (.istore_n 3, 1) := by decide +kernel
theorem dX4_digest_33 : decode cX4_digest 33 = .ok (.iload_n 3, 1) := by decide +kernel
theorem dX4_digest_34 : decode cX4_digest 34 = .ok (.aload_n 0, 1) := by decide +kernel
theorem dX4_digest_35 : decode cX4_digest 35 = .ok (.getfield 10, 3) := by decide +kernel
theorem dX4_digest_38 : decode cX4_digest 38 = .ok (.getfield 91, 3) := by decide +kernel
theorem dX4_digest_41 : decode cX4_digest 41 = .ok (.if_icmp .ge 40, 3) := by decide +kernel
theorem dX4_digest_44 : decode cX4_digest 44 = .ok (.iconst 0, 1) := by decide +kernel
theorem dX4_digest_45 : decode cX4_digest 45 = .ok (.istore 4, 2) := by decide +kernel
theorem dX4_digest_47 : decode cX4_digest 47 = .ok (.iload 4, 2) := by decide +kernel
theorem dX4_digest_49 : decode cX4_digest 49 = .ok (.bipush 11, 2) := by decide +kernel
theorem dX4_digest_51 : decode cX4_digest 51 = .ok (.if_icmp .ge 24, 3) := by decide +kernel
theorem dX4_digest_54 : decode cX4_digest 54 = .ok (.ldc2_w 218, 3) := by decide +kernel
theorem dX4_digest_57 : decode cX4_digest 57 = .ok (.lload_n 1, 1) := by decide +kernel
theorem dX4_digest_58 : decode cX4_digest 58 = .ok (.lmul, 1) := by decide +kernel
theorem dX4_digest_59 : decode cX4_digest 59 = .ok (.aload_n 0, 1) := by decide +kernel
theorem dX4_digest_60 : decode cX4_digest 60 = .ok (.iload_n 3, 1) := by decide +kernel
theorem dX4_digest_61 : decode cX4_digest 61 = .ok (.iload 4, 2) := by decide +kernel
theorem dX4_digest_63 : decode cX4_digest 63 = .ok (.invokevirtual 223, 3) := by decide +kernel
theorem dX4_digest_66 : decode cX4_digest 66 = .ok (.i2l, 1) := by decide +kernel
theorem dX4_digest_67 : decode cX4_digest 67 = .ok (.ladd, 1) := by decide +kernel
theorem dX4_digest_68 : decode cX4_digest 68 = .ok (.lstore_n 1, 1) := by decide +kernel
theorem dX4_digest_69 : decode cX4_digest 69 = .ok (.iinc 4 1, 3) := by decide +kernel
theorem dX4_digest_72 : decode cX4_digest 72 = .ok (.goto (-25), 3) := by decide +kernel
theorem dX4_digest_75 : decode cX4_digest 75 = .ok (.iinc 3 1, 3) := by decide +kernel
theorem dX4_digest_78 : decode cX4_digest 78 = .ok (.goto (-45), 3) := by decide +kernel
theorem dX4_digest_81 : decode cX4_digest 81 = .ok (.iconst 0, 1) := by decide +kernel
theorem dX4_digest_82 : decode cX4_digest 82 = .ok (.istore_n 3, 1) := by decide +kernel
theorem dX4_digest_83 : decode cX4_digest 83 = .ok (.iload_n 3, 1) := by decide +kernel
theorem dX4_digest_84 : decode cX4_digest 84 = .ok (.aload_n 0, 1) := by decide +kernel
theorem dX4_digest_85 : decode cX4_digest 85 = .ok (.getfield 10, 3) := by decide +kernel
theorem dX4_digest_88 : decode cX4_digest 88 = .ok (.getfield 112, 3) := by decide +kernel
theorem dX4_digest_91 : decode cX4_digest 91 = .ok (.if_icmp .ge 37, 3) := by decide +kernel
theorem dX4_digest_94 : decode cX4_digest 94 = .ok (.ldc2_w 218, 3) := by decide +kernel
theorem dX4_digest_97 : decode cX4_digest 97 = .ok (.lload_n 1, 1) := by decide +kernel
theorem dX4_digest_98 : decode cX4_digest 98 = .ok (.lmul, 1) := by decide +kernel
theorem dX4_digest_99 : decode cX4_digest 99 = .ok (.aload_n 0, 1) := by decide +kernel
theorem dX4_digest_100 : decode cX4_digest 100 = .ok (.iload_n 3, 1) := by decide +kernel
theorem dX4_digest_101 : decode cX4_digest 101 = .ok (.iconst 0, 1) := by decide +kernel
theorem dX4_digest_102 : decode cX4_digest 102 = .ok (.invokevirtual 226, 3) := by decide +kernel
theorem dX4_digest_105 : decode cX4_digest 105 = .ok (.i2l, 1) := by decide +kernel
theorem dX4_digest_106 : decode cX4_digest 106 = .ok (.ladd, 1) := by decide +kernel
theorem dX4_digest_107 : decode cX4_digest 107 = .ok (.lstore_n 1, 1) := by decide +kernel
theorem dX4_digest_108 : decode cX4_digest 108 = .ok (.ldc2_w 218, 3) := by decide +kernel
theorem dX4_digest_111 : decode cX4_digest 111 = .ok (.lload_n 1, 1) := by decide +kernel
theorem dX4_digest_112 : decode cX4_digest 112 = .ok (.lmul, 1) := by decide +kernel
theorem dX4_digest_113 : decode cX4_digest 113 = .ok (.aload_n 0, 1) := by decide +kernel
theorem dX4_digest_114 : decode cX4_digest 114 = .ok (.iload_n 3, 1) := by decide +kernel
theorem dX4_digest_115 : decode cX4_digest 115 = .ok (.iconst 1, 1) := by decide +kernel
theorem dX4_digest_116 : decode cX4_digest 116 = .ok (.invokevirtual 226, 3) := by decide +kernel
theorem dX4_digest_119 : decode cX4_digest 119 = .ok (.i2l, 1) := by decide +kernel
theorem dX4_digest_120 : decode cX4_digest 120 = .ok (.ladd, 1) := by decide +kernel
theorem dX4_digest_121 : decode cX4_digest 121 = .ok (.lstore_n 1, 1) := by decide +kernel
theorem dX4_digest_122 : decode cX4_digest 122 = .ok (.iinc 3 1, 3) := by decide +kernel
theorem dX4_digest_125 : decode cX4_digest 125 = .ok (.goto (-42), 3) := by decide +kernel
theorem dX4_digest_128 : decode cX4_digest 128 = .ok (.lload_n 1, 1) := by decide +kernel
theorem dX4_digest_129 : decode cX4_digest 129 = .ok (.lreturn, 1) := by decide +kernel
theorem dX4_isWithin_0 : decode cX4_isWithin 0 = .ok (.iload_n 0, 1) := by decide +kernel
theorem dX4_isWithin_1 : decode cX4_isWithin 1 = .ok (.iload_n 1, 1) := by decide +kernel
theorem dX4_isWithin_2 : decode cX4_isWithin 2 = .ok (.if_icmp .lt 12, 3) := by decide +kernel
theorem dX4_isWithin_5 : decode cX4_isWithin 5 = .ok (.iload_n 0, 1) := by decide +kernel
theorem dX4_isWithin_6 : decode cX4_isWithin 6 = .ok (.iload_n 2, 1) := by decide +kernel
theorem dX4_isWithin_7 : decode cX4_isWithin 7 = .ok (.if_icmp .gt 7, 3) := by decide +kernel
theorem dX4_isWithin_10 : decode cX4_isWithin 10 = .ok (.iconst 1, 1) := by decide +kernel
theorem dX4_isWithin_11 : decode cX4_isWithin 11 = .ok (.goto 4, 3) := by decide +kernel
theorem dX4_isWithin_14 : decode cX4_isWithin 14 = .ok (.iconst 0, 1) := by decide +kernel
theorem dX4_isWithin_15 : decode cX4_isWithin 15 = .ok (.ireturn, 1) := by decide +kernel
set_option maxRecDepth 20000 in
theorem ggX4_isSize_X4_isWithin : GoodIn wsX4_isSize wsX4_isWithin := goodIn_r _ [4] (by decide +kernel) (by decide +kernel)
set_option maxRecDepth 20000 in
theorem gX4_isSize_X4_isWithin : GoodIn wsX4_isSize (va_wsS RX4 80 yX4_isWithin wsX4_isWithin) := goodIn_app (goodIn_of _ (by decide +kernel)) ggX4_isSize_X4_isWithin
theorem dX4_isSize_0 : decode cX4_isSize 0 = .ok (.iload_n 0, 1) := by decide +kernel
theorem dX4_isSize_1 : decode cX4_isSize 1 = .ok (.iconst 1, 1) := by decide +kernel
theorem dX4_isSize_2 : decode cX4_isSize 2 = .ok (.sipush 5000, 3) := by decide +kernel
theorem dX4_isSize_5 : decode cX4_isSize 5 = .ok (.invokestatic 80, 3) := by decide +kernel
theorem dX4_isSize_8 : decode cX4_isSize 8 = .ok (.ireturn, 1) := by decide +kernel
theorem dX4_at_0 : decode cX4_at 0 = .ok (.iload_n 1, 1) := by decide +kernel
theorem dX4_at_1 : decode cX4_at 1 = .ok (.ifCond .lt 15, 3) := by decide +kernel
theorem dX4_at_4 : decode cX4_at 4 = .ok (.iload_n 1, 1) := by decide +kernel
theorem dX4_at_5 : decode cX4_at 5 = .ok (.aload_n 0, 1) := by decide +kernel
theorem dX4_at_6 : decode cX4_at 6 = .ok (.arraylength, 1) := by decide +kernel
theorem dX4_at_7 : decode cX4_at 7 = .ok (.if_icmp .ge 9, 3) := by decide +kernel
theorem dX4_at_10 : decode cX4_at 10 = .ok (.aload_n 0, 1) := by decide +kernel
theorem dX4_at_11 : decode cX4_at 11 = .ok (.iload_n 1, 1) := by decide +kernel
theorem dX4_at_12 : decode cX4_at 12 = .ok (.iaload, 1) := by decide +kernel
theorem dX4_at_13 : decode cX4_at 13 = .ok (.goto 4, 3) := by decide +kernel
theorem dX4_at_16 : decode cX4_at 16 = .ok (.iconst (-1), 1) := by decide +kernel
theorem dX4_at_17 : decode cX4_at 17 = .ok (.ireturn, 1) := by decide +kernel
theorem dX4_put_0 : decode cX4_put 0 = .ok (.iload_n 1, 1) := by decide +kernel
theorem dX4_put_1 : decode cX4_put 1 = .ok (.ifCond .lt 13, 3) := by decide +kernel
theorem dX4_put_4 : decode cX4_put 4 = .ok (.iload_n 1, 1) := by decide +kernel
theorem dX4_put_5 : decode cX4_put 5 = .ok (.aload_n 0, 1) := by decide +kernel
theorem dX4_put_6 : decode cX4_put 6 = .ok (.arraylength, 1) := by decide +kernel
theorem dX4_put_7 : decode cX4_put 7 = .ok (.if_icmp .ge 7, 3) := by decide +kernel
theorem dX4_put_10 : decode cX4_put 10 = .ok (.aload_n 0, 1) := by decide +kernel
theorem dX4_put_11 : decode cX4_put 11 = .ok (.iload_n 1, 1) := by decide +kernel
theorem dX4_put_12 : decode cX4_put 12 = .ok (.iload_n 2, 1) := by decide +kernel
theorem dX4_put_13 : decode cX4_put 13 = .ok (.iastore, 1) := by decide +kernel
theorem dX4_put_14 : decode cX4_put 14 = .ok (.return_, 1) := by decide +kernel
theorem dX4_sum_0 : decode cX4_sum 0 = .ok (.iconst 0, 1) := by decide +kernel
theorem dX4_sum_1 : decode cX4_sum 1 = .ok (.istore_n 2, 1) := by decide +kernel
theorem dX4_sum_2 : decode cX4_sum 2 = .ok (.iconst 0, 1) := by decide +kernel
theorem dX4_sum_3 : decode cX4_sum 3 = .ok (.istore_n 3, 1) := by decide +kernel
theorem dX4_sum_4 : decode cX4_sum 4 = .ok (.iload_n 3, 1) := by decide +kernel
theorem dX4_sum_5 : decode cX4_sum 5 = .ok (.iload_n 1, 1) := by decide +kernel
theorem dX4_sum_6 : decode cX4_sum 6 = .ok (.if_icmp .ge 21, 3) := by decide +kernel
theorem dX4_sum_9 : decode cX4_sum 9 = .ok (.iload_n 3, 1) := by decide +kernel
theorem dX4_sum_10 : decode cX4_sum 10 = .ok (.aload_n 0, 1) := by decide +kernel
theorem dX4_sum_11 : decode cX4_sum 11 = .ok (.arraylength, 1) := by decide +kernel
theorem dX4_sum_12 : decode cX4_sum 12 = .ok (.if_icmp .ge 15, 3) := by decide +kernel
theorem dX4_sum_15 : decode cX4_sum 15 = .ok (.iload_n 2, 1) := by decide +kernel
theorem dX4_sum_16 : decode cX4_sum 16 = .ok (.aload_n 0, 1) := by decide +kernel
theorem dX4_sum_17 : decode cX4_sum 17 = .ok (.iload_n 3, 1) := by decide +kernel
theorem dX4_sum_18 : decode cX4_sum 18 = .ok (.iaload, 1) := by decide +kernel
theorem dX4_sum_19 : decode cX4_sum 19 = .ok (.iadd, 1) := by decide +kernel
theorem dX4_sum_20 : decode cX4_sum 20 = .ok (.istore_n 2, 1) := by decide +kernel
theorem dX4_sum_21 : decode cX4_sum 21 = .ok (.iinc 3 1, 3) := by decide +kernel
theorem dX4_sum_24 : decode cX4_sum 24 = .ok (.goto (-20), 3) := by decide +kernel
theorem dX4_sum_27 : decode cX4_sum 27 = .ok (.iload_n 2, 1) := by decide +kernel
theorem dX4_sum_28 : decode cX4_sum 28 = .ok (.ireturn, 1) := by decide +kernel
theorem dX4_commonDivisor_0 : decode cX4_commonDivisor 0 = .ok (.iload_n 0, 1) := by decide +kernel
theorem dX4_commonDivisor_1 : decode cX4_commonDivisor 1 = .ok (.istore_n 2, 1) := by decide +kernel
theorem dX4_commonDivisor_2 : decode cX4_commonDivisor 2 = .ok (.iload_n 1, 1) := by decide +kernel
theorem dX4_commonDivisor_3 : decode cX4_commonDivisor 3 = .ok (.istore_n 3, 1) := by decide +kernel
theorem dX4_commonDivisor_4 : decode cX4_commonDivisor 4 = .ok (.iconst 0, 1) := by decide +kernel
theorem dX4_commonDivisor_5 : decode cX4_commonDivisor 5 = .ok (.istore 4, 2) := by decide +kernel
theorem dX4_commonDivisor_7 : decode cX4_commonDivisor 7 = .ok (.iload 4, 2) := by decide +kernel
theorem dX4_commonDivisor_9 : decode cX4_commonDivisor 9 = .ok (.sipush 1000, 3) := by decide +kernel
theorem dX4_commonDivisor_12 : decode cX4_commonDivisor 12 = .ok (.if_icmp .ge 23, 3) := by decide +kernel
theorem dX4_commonDivisor_15 : decode cX4_commonDivisor 15 = .ok (.iload_n 3, 1) := by decide +kernel
theorem dX4_commonDivisor_16 : decode cX4_commonDivisor 16 = .ok (.ifCond .eq 19, 3) := by decide +kernel
theorem dX4_commonDivisor_19 : decode cX4_commonDivisor 19 = .ok (.iload_n 2, 1) := by decide +kernel
theorem dX4_commonDivisor_20 : decode cX4_commonDivisor 20 = .ok (.iload_n 3, 1) := by decide +kernel
theorem dX4_commonDivisor_21 : decode cX4_commonDivisor 21 = .ok (.irem, 1) := by decide +kernel
theorem dX4_commonDivisor_22 : decode cX4_commonDivisor 22 = .ok (.istore 5, 2) := by decide +kernel
theorem dX4_commonDivisor_24 : decode cX4_commonDivisor 24 = .ok (.iload_n 3, 1) := by decide +kernel
theorem dX4_commonDivisor_25 : decode cX4_commonDivisor 25 = .ok (.istore_n 2, 1) := by decide +kernel
theorem dX4_commonDivisor_26 : decode cX4_commonDivisor 26 = .ok (.iload 5, 2) := by decide +kernel
theorem dX4_commonDivisor_28 : decode cX4_commonDivisor 28 = .ok (.istore_n 3, 1) := by decide +kernel
theorem dX4_commonDivisor_29 : decode cX4_commonDivisor 29 = .ok (.iinc 4 1, 3) := by decide +kernel
theorem dX4_commonDivisor_32 : decode cX4_commonDivisor 32 = .ok (.goto (-25), 3) := by decide +kernel
theorem dX4_commonDivisor_35 : decode cX4_commonDivisor 35 = .ok (.iload_n 2, 1) := by decide +kernel
theorem dX4_commonDivisor_36 : decode cX4_commonDivisor 36 = .ok (.ireturn, 1) := by decide +kernel
end
section
theorem dX1_init_0 : decode cX1_init 0 = .ok (.aload_n 0, 1) := by decide +kernel
theorem dX1_init_1 : decode cX1_init 1 = .ok (.invokespecial 3, 3) := by decide +kernel
theorem dX1_init_4 : decode cX1_init 4 = .ok (.aload_n 0, 1) := by decide +kernel
theorem dX1_init_5 : decode cX1_init 5 = .ok (.iconst 0, 1) := by decide +kernel
theorem dX1_init_6 : decode cX1_init 6 = .ok (.putfield 9, 3) := by decide +kernel
theorem dX1_init_9 : decode cX1_init 9 = .ok (.aload_n 0, 1) := by decide +kernel
theorem dX1_init_10 : decode cX1_init 10 = .ok (.bipush 12, 2) := by decide +kernel
theorem dX1_init_12 : decode cX1_init 12 = .ok (.newarray .int, 2) := by decide +kernel
theorem dX1_init_14 : decode cX1_init 14 = .ok (.putfield 15, 3) := by decide +kernel
theorem dX1_init_17 : decode cX1_init 17 = .ok (.aload_n 0, 1) := by decide +kernel
theorem dX1_init_18 : decode cX1_init 18 = .ok (.bipush 12, 2) := by decide +kernel
theorem dX1_init_20 : decode cX1_init 20 = .ok (.newarray .int, 2) := by decide +kernel
theorem dX1_init_22 : decode cX1_init 22 = .ok (.putfield 19, 3) := by decide +kernel
theorem dX1_init_25 : decode cX1_init 25 = .ok (.aload_n 0, 1) := by decide +kernel
theorem dX1_init_26 : decode cX1_init 26 = .ok (.bipush 12, 2) := by decide +kernel
theorem dX1_init_28 : decode cX1_init 28 = .ok (.newarray .int, 2) := by decide +kernel
theorem dX1_init_30 : decode cX1_init 30 = .ok (.putfield 22, 3) := by decide +kernel
theorem dX1_init_33 : decode cX1_init 33 = .ok (.aload_n 0, 1) := by decide +kernel
theorem dX1_init_34 : decode cX1_init 34 = .ok (.bipush 12, 2) := by decide +kernel
theorem dX1_init_36 : decode cX1_init 36 = .ok (.newarray .int, 2) := by decide +kernel
theorem dX1_init_38 : decode cX1_init 38 = .ok (.putfield 25, 3) := by decide +kernel
theorem dX1_init_41 : decode cX1_init 41 = .ok (.aload_n 0, 1) := by decide +kernel
theorem dX1_init_42 : decode cX1_init 42 = .ok (.bipush 12, 2) := by decide +kernel
theorem dX1_init_44 : decode cX1_init 44 = .ok (.newarray .int, 2) := by decide +kernel
theorem dX1_init_46 : decode cX1_init 46 = .ok (.putfield 28, 3) := by decide +kernel
theorem dX1_init_49 : decode cX1_init 49 = .ok (.aload_n 0, 1) := by decide +kernel
theorem dX1_init_50 : decode cX1_init 50 = .ok (.bipush 12, 2) := by decide +kernel
theorem dX1_init_52 : decode cX1_init 52 = .ok (.newarray .int, 2) := by decide +kernel
theorem dX1_init_54 : decode cX1_init 54 = .ok (.putfield 31, 3) := by decide +kernel
theorem dX1_init_57 : decode cX1_init 57 = .ok (.return_, 1) := by decide +kernel
set_option maxRecDepth 20000 in
theorem ggX1_follow_X0_stepOf : GoodIn wsX1_follow wsX0_stepOf := goodIn_r _ [13, 14, 15, 16, 17, 18, 19, 20, 21, 22, 23, 12, 24, 73, 74, 75, 76, 77, 78, 79, 80, 81, 82] (by decide +kernel) (by decide +kernel)
set_option maxRecDepth 20000 in
theorem gX1_follow_X0_stepOf : GoodIn wsX1_follow (wsV RX1 43 RX0 yX0_stepOf wsX0_stepOf) := goodIn_app (goodIn_of _ (by decide +kernel)) ggX1_follow_X0_stepOf
set_option maxRecDepth 20000 in
theorem ggX1_follow_X4_put : GoodIn wsX1_follow wsX4_put := goodIn_r _ [26] (by decide +kernel) (by decide +kernel)
set_option maxRecDepth 20000 in
theorem gX1_follow_X4_put_n47 : GoodIn wsX1_follow (wsX4_put) := ggX1_follow_X4_put
set_option maxRecDepth 20000 in
theorem ggX1_follow_X1_findSources : GoodIn wsX1_follow wsX1_findSources := goodIn_r _ [31, 6, 32, 33, 34, 35, 18, 19, 20, 36, 37, 38, 30, 39, 7, 25, 26, 83, 84, 85, 86, 87, 88, 89, 73, 74, 75, 76, 77, 78, 79, 80, 81, 82] (by decide +kernel) (by decide +kernel)
set_option maxRecDepth 20000 in
theorem gX1_follow_X1_findSources : GoodIn wsX1_follow (wsV RX1 51 RX1 yX1_findSources wsX1_findSources) := goodIn_app (goodIn_of _ (by decide +kernel)) ggX1_follow_X1_findSources
set_option maxRecDepth 20000 in
theorem ggX1_follow_X1_drawNeeds : GoodIn wsX1_follow wsX1_drawNeeds := goodIn_r _ [43, 6, 44, 8, 32, 45, 46, 47, 12, 48, 14, 49, 18, 19, 20, 25, 26, 83, 84, 85, 86, 87, 88, 89, 73, 74, 75, 76, 77, 78, 79, 80, 81, 82] (by decide +kernel) (by decide +kernel)
set_option maxRecDepth 20000 in
theorem gX1_follow_X1_drawNeeds : GoodIn wsX1_follow (wsV RX1 55 RX1 yX1_drawNeeds wsX1_drawNeeds) := goodIn_app (goodIn_of _ (by decide +kernel)) ggX1_follow_X1_drawNeeds
set_option maxRecDepth 20000 in
theorem ggX1_follow_X1_findPores : GoodIn wsX1_follow wsX1_findPores := goodIn_r _ [53, 6, 54, 32, 44, 55, 56, 57, 4, 58, 59, 60, 61, 12, 62, 14, 63, 64, 65, 66, 67, 68, 69, 70, 71, 72, 15, 18, 19, 20, 83, 84, 85, 86, 87, 88, 89, 73, 74, 75, 76, 77, 78, 79, 80, 81, 82] (by decide +kernel) (by decide +kernel)
set_option maxRecDepth 20000 in
theorem gX1_follow_X1_findPores : GoodIn wsX1_follow (wsV RX1 58 RX1 yX1_findPores wsX1_findPores) := goodIn_app (goodIn_of _ (by decide +kernel)) ggX1_follow_X1_findPores
theorem dX1_follow_0 : decode cX1_follow 0 = .ok (.aload_n 0, 1) := by decide +kernel
theorem dX1_follow_1 : decode cX1_follow 1 = .ok (.aload_n 1, 1) := by decide +kernel
theorem dX1_follow_2 : decode cX1_follow 2 = .ok (.getfield 34, 3) := by decide +kernel
theorem dX1_follow_5 : decode cX1_follow 5 = .ok (.bipush 12, 2) := by decide +kernel
theorem dX1_follow_7 : decode cX1_follow 7 = .ok (.invokestatic 37, 3) := by decide +kernel
theorem dX1_follow_10 : decode cX1_follow 10 = .ok (.putfield 9, 3) := by decide +kernel
theorem dX1_follow_13 : decode cX1_follow 13 = .ok (.iconst 0, 1) := by decide +kernel
theorem dX1_follow_14 : decode cX1_follow 14 = .ok (.istore_n 2, 1) := by decide +kernel
theorem dX1_follow_15 : decode cX1_follow 15 = .ok (.iload_n 2, 1) := by decide +kernel
theorem dX1_follow_16 : decode cX1_follow 16 = .ok (.aload_n 0, 1) := by decide +kernel
theorem dX1_follow_17 : decode cX1_follow 17 = .ok (.getfield 9, 3) := by decide +kernel
theorem dX1_follow_20 : decode cX1_follow 20 = .ok (.if_icmp .ge 34, 3) := by decide +kernel
theorem dX1_follow_23 : decode cX1_follow 23 = .ok (.aload_n 0, 1) := by decide +kernel
theorem dX1_follow_24 : decode cX1_follow 24 = .ok (.getfield 15, 3) := by decide +kernel
theorem dX1_follow_27 : decode cX1_follow 27 = .ok (.iload_n 2, 1) := by decide +kernel
theorem dX1_follow_28 : decode cX1_follow 28 = .ok (.aload_n 1, 1) := by decide +kernel
theorem dX1_follow_29 : decode cX1_follow 29 = .ok (.iload_n 2, 1) := by decide +kernel
theorem dX1_follow_30 : decode cX1_follow 30 = .ok (.invokevirtual 43, 3) := by decide +kernel
theorem dX1_follow_33 : decode cX1_follow 33 = .ok (.iastore, 1) := by decide +kernel
theorem dX1_follow_34 : decode cX1_follow 34 = .ok (.aload_n 0, 1) := by decide +kernel
theorem dX1_follow_35 : decode cX1_follow 35 = .ok (.getfield 19, 3) := by decide +kernel
theorem dX1_follow_38 : decode cX1_follow 38 = .ok (.aload_n 0, 1) := by decide +kernel
theorem dX1_follow_39 : decode cX1_follow 39 = .ok (.getfield 15, 3) := by decide +kernel
theorem dX1_follow_42 : decode cX1_follow 42 = .ok (.iload_n 2, 1) := by decide +kernel
theorem dX1_follow_43 : decode cX1_follow 43 = .ok (.iaload, 1) := by decide +kernel
theorem dX1_follow_44 : decode cX1_follow 44 = .ok (.iload_n 2, 1) := by decide +kernel
theorem dX1_follow_45 : decode cX1_follow 45 = .ok (.invokestatic 47, 3) := by decide +kernel
theorem dX1_follow_48 : decode cX1_follow 48 = .ok (.iinc 2 1, 3) := by decide +kernel
theorem dX1_follow_51 : decode cX1_follow 51 = .ok (.goto (-36), 3) := by decide +kernel
theorem dX1_follow_54 : decode cX1_follow 54 = .ok (.aload_n 0, 1) := by decide +kernel
theorem dX1_follow_55 : decode cX1_follow 55 = .ok (.aload_n 1, 1) := by decide +kernel
theorem dX1_follow_56 : decode cX1_follow 56 = .ok (.invokevirtual 51, 3) := by decide +kernel
theorem dX1_follow_59 : decode cX1_follow 59 = .ok (.aload_n 0, 1) := by decide +kernel
theorem dX1_follow_60 : decode cX1_follow 60 = .ok (.aload_n 1, 1) := by decide +kernel
theorem dX1_follow_61 : decode cX1_follow 61 = .ok (.invokevirtual 55, 3) := by decide +kernel
theorem dX1_follow_64 : decode cX1_follow 64 = .ok (.aload_n 0, 1) := by decide +kernel
theorem dX1_follow_65 : decode cX1_follow 65 = .ok (.aload_n 1, 1) := by decide +kernel
theorem dX1_follow_66 : decode cX1_follow 66 = .ok (.invokevirtual 58, 3) := by decide +kernel
theorem dX1_follow_69 : decode cX1_follow 69 = .ok (.return_, 1) := by decide +kernel
set_option maxRecDepth 20000 in
theorem ggX1_findSources_X4_at : GoodIn wsX1_findSources wsX4_at := goodIn_r _ [8] (by decide +kernel) (by decide +kernel)
set_option maxRecDepth 20000 in
theorem gX1_findSources_X4_at_n67 : GoodIn wsX1_findSources (wsX4_at) := ggX1_findSources_X4_at
set_option maxRecDepth 20000 in
theorem ggX1_findSources_X1_offer : GoodIn wsX1_findSources wsX1_offer := goodIn_r _ [13, 14, 2, 6, 7, 8, 15, 16, 17, 18, 19, 20, 21, 22, 23] (by decide +kernel) (by decide +kernel)
set_option maxRecDepth 20000 in
theorem gX1_findSources_X1_offer : GoodIn wsX1_findSources (wsV RX1 74 RX1 yX1_offer wsX1_offer) := goodIn_app (goodIn_of _ (by decide +kernel)) ggX1_findSources_X1_offer
theorem dX1_findSources_0 : decode cX1_findSources 0 = .ok (.iconst 0, 1) := by decide +kernel
theorem dX1_findSources_1 : decode cX1_findSources 1 = .ok (.istore_n 2, 1) := by decide +kernel
theorem dX1_findSources_2 : decode cX1_findSources 2 = .ok (.iload_n 2, 1) := by decide +kernel
theorem dX1_findSources_3 : decode cX1_findSources 3 = .ok (.aload_n 0, 1) := by decide +kernel
theorem dX1_findSources_4 : decode cX1_findSources 4 = .ok (.getfield 9, 3) := by decide +kernel
theorem dX1_findSources_7 : decode cX1_findSources 7 = .ok (.if_icmp .ge 16, 3) := by decide +kernel
theorem dX1_findSources_10 : decode cX1_findSources 10 = .ok (.aload_n 0, 1) := by decide +kernel
theorem dX1_findSources_11 : decode cX1_findSources 11 = .ok (.getfield 22, 3) := by decide +kernel
theorem dX1_findSources_14 : decode cX1_findSources 14 = .ok (.iload_n 2, 1) := by decide +kernel
theorem dX1_findSources_15 : decode cX1_findSources 15 = .ok (.iconst (-1), 1) := by decide +kernel
theorem dX1_findSources_16 : decode cX1_findSources 16 = .ok (.iastore, 1) := by decide +kernel
theorem dX1_findSources_17 : decode cX1_findSources 17 = .ok (.iinc 2 1, 3) := by decide +kernel
theorem dX1_findSources_20 : decode cX1_findSources 20 = .ok (.goto (-18), 3) := by decide +kernel
theorem dX1_findSources_23 : decode cX1_findSources 23 = .ok (.iconst 0, 1) := by decide +kernel
theorem dX1_findSources_24 : decode cX1_findSources 24 = .ok (.istore_n 2, 1) := by decide +kernel
theorem dX1_findSources_25 : decode cX1_findSources 25 = .ok (.iload_n 2, 1) := by decide +kernel
theorem dX1_findSources_26 : decode cX1_findSources 26 = .ok (.aload_n 1, 1) := by decide +kernel
theorem dX1_findSources_27 : decode cX1_findSources 27 = .ok (.getfield 61, 3) := by decide +kernel
theorem dX1_findSources_30 : decode cX1_findSources 30 = .ok (.if_icmp .ge 42, 3) := by decide +kernel
theorem dX1_findSources_33 : decode cX1_findSources 33 = .ok (.aload_n 1, 1) := by decide +kernel
theorem dX1_findSources_34 : decode cX1_findSources 34 = .ok (.getfield 64, 3) := by decide +kernel
theorem dX1_findSources_37 : decode cX1_findSources 37 = .ok (.iload_n 2, 1) := by decide +kernel
theorem dX1_findSources_38 : decode cX1_findSources 38 = .ok (.invokestatic 67, 3) := by decide +kernel
theorem dX1_findSources_41 : decode cX1_findSources 41 = .ok (.istore_n 3, 1) := by decide +kernel
theorem dX1_findSources_42 : decode cX1_findSources 42 = .ok (.aload_n 1, 1) := by decide +kernel
theorem dX1_findSources_43 : decode cX1_findSources 43 = .ok (.getfield 71, 3) := by decide +kernel
theorem dX1_findSources_46 : decode cX1_findSources 46 = .ok (.iload_n 2, 1) := by decide +kernel
theorem dX1_findSources_47 : decode cX1_findSources 47 = .ok (.invokestatic 67, 3) := by decide +kernel
theorem dX1_findSources_50 : decode cX1_findSources 50 = .ok (.istore 4, 2) := by decide +kernel
theorem dX1_findSources_52 : decode cX1_findSources 52 = .ok (.aload_n 0, 1) := by decide +kernel
theorem dX1_findSources_53 : decode cX1_findSources 53 = .ok (.iload_n 3, 1) := by decide +kernel
theorem dX1_findSources_54 : decode cX1_findSources 54 = .ok (.iload 4, 2) := by decide +kernel
theorem dX1_findSources_56 : decode cX1_findSources 56 = .ok (.invokevirtual 74, 3) := by decide +kernel
theorem dX1_findSources_59 : decode cX1_findSources 59 = .ok (.aload_n 0, 1) := by decide +kernel
theorem dX1_findSources_60 : decode cX1_findSources 60 = .ok (.iload 4, 2) := by decide +kernel
theorem dX1_findSources_62 : decode cX1_findSources 62 = .ok (.iload_n 3, 1) := by decide +kernel
theorem dX1_findSources_63 : decode cX1_findSources 63 = .ok (.invokevirtual 74, 3) := by decide +kernel
theorem dX1_findSources_66 : decode cX1_findSources 66 = .ok (.iinc 2 1, 3) := by decide +kernel
theorem dX1_findSources_69 : decode cX1_findSources 69 = .ok (.goto (-44), 3) := by decide +kernel
theorem dX1_findSources_72 : decode cX1_findSources 72 = .ok (.return_, 1) := by decide +kernel
set_option maxRecDepth 20000 in
theorem ggX1_offer_X4_at : GoodIn wsX1_offer wsX4_at := goodIn_r _ [5] (by decide +kernel) (by decide +kernel)
set_option maxRecDepth 20000 in
theorem gX1_offer_X4_at_n67 : GoodIn wsX1_offer (wsX4_at) := ggX1_offer_X4_at
set_option maxRecDepth 20000 in
theorem ggX1_offer_X4_put : GoodIn wsX1_offer wsX4_put := goodIn_r _ [7] (by decide +kernel) (by decide +kernel)
set_option maxRecDepth 20000 in
theorem gX1_offer_X4_put_n47 : GoodIn wsX1_offer (wsX4_put) := ggX1_offer_X4_put
theorem dX1_offer_0 : decode cX1_offer 0 = .ok (.aload_n 0, 1) := by decide +kernel
theorem dX1_offer_1 : decode cX1_offer 1 = .ok (.getfield 15, 3) := by decide +kernel
theorem dX1_offer_4 : decode cX1_offer 4 = .ok (.iload_n 2, 1) := by decide +kernel
theorem dX1_offer_5 : decode cX1_offer 5 = .ok (.invokestatic 67, 3) := by decide +kernel
theorem dX1_offer_8 : decode cX1_offer 8 = .ok (.istore_n 3, 1) := by decide +kernel
theorem dX1_offer_9 : decode cX1_offer 9 = .ok (.iload_n 3, 1) := by decide +kernel
theorem dX1_offer_10 : decode cX1_offer 10 = .ok (.aload_n 0, 1) := by decide +kernel
theorem dX1_offer_11 : decode cX1_offer 11 = .ok (.getfield 15, 3) := by decide +kernel
theorem dX1_offer_14 : decode cX1_offer 14 = .ok (.iload_n 1, 1) := by decide +kernel
theorem dX1_offer_15 : decode cX1_offer 15 = .ok (.invokestatic 67, 3) := by decide +kernel
theorem dX1_offer_18 : decode cX1_offer 18 = .ok (.if_icmp .le 31, 3) := by decide +kernel
theorem dX1_offer_21 : decode cX1_offer 21 = .ok (.iload_n 3, 1) := by decide +kernel
theorem dX1_offer_22 : decode cX1_offer 22 = .ok (.aload_n 0, 1) := by decide +kernel
theorem dX1_offer_23 : decode cX1_offer 23 = .ok (.getfield 15, 3) := by decide +kernel
theorem dX1_offer_26 : decode cX1_offer 26 = .ok (.aload_n 0, 1) := by decide +kernel
theorem dX1_offer_27 : decode cX1_offer 27 = .ok (.getfield 22, 3) := by decide +kernel
theorem dX1_offer_30 : decode cX1_offer 30 = .ok (.iload_n 1, 1) := by decide +kernel
theorem dX1_offer_31 : decode cX1_offer 31 = .ok (.invokestatic 67, 3) := by decide +kernel
theorem dX1_offer_34 : decode cX1_offer 34 = .ok (.invokestatic 67, 3) := by decide +kernel
theorem dX1_offer_37 : decode cX1_offer 37 = .ok (.if_icmp .le 12, 3) := by decide +kernel
theorem dX1_offer_40 : decode cX1_offer 40 = .ok (.aload_n 0, 1) := by decide +kernel
theorem dX1_offer_41 : decode cX1_offer 41 = .ok (.getfield 22, 3) := by decide +kernel
theorem dX1_offer_44 : decode cX1_offer 44 = .ok (.iload_n 1, 1) := by decide +kernel
theorem dX1_offer_45 : decode cX1_offer 45 = .ok (.iload_n 2, 1) := by decide +kernel
theorem dX1_offer_46 : decode cX1_offer 46 = .ok (.invokestatic 47, 3) := by decide +kernel
theorem dX1_offer_49 : decode cX1_offer 49 = .ok (.return_, 1) := by decide +kernel
set_option maxRecDepth 20000 in
theorem ggX1_drawNeeds_X0_firstNeed : GoodIn wsX1_drawNeeds wsX0_firstNeed := goodIn_r _ [9, 10, 11, 12, 13, 14, 24, 25, 26, 27, 28, 29, 30, 31, 32, 33] (by decide +kernel) (by decide +kernel)
set_option maxRecDepth 20000 in
theorem gX1_drawNeeds_X0_firstNeed : GoodIn wsX1_drawNeeds (wsV RX1 78 RX0 yX0_firstNeed wsX0_firstNeed) := goodIn_app (goodIn_of _ (by decide +kernel)) ggX1_drawNeeds_X0_firstNeed
set_option maxRecDepth 20000 in
theorem ggX1_drawNeeds_X4_at : GoodIn wsX1_drawNeeds wsX4_at := goodIn_r _ [14] (by decide +kernel) (by decide +kernel)
set_option maxRecDepth 20000 in
theorem gX1_drawNeeds_X4_at_n67 : GoodIn wsX1_drawNeeds (wsX4_at) := ggX1_drawNeeds_X4_at
set_option maxRecDepth 20000 in
theorem ggX1_drawNeeds_X4_put : GoodIn wsX1_drawNeeds wsX4_put := goodIn_r _ [16] (by decide +kernel) (by decide +kernel)
set_option maxRecDepth 20000 in
theorem gX1_drawNeeds_X4_put_n47 : GoodIn wsX1_drawNeeds (wsX4_put) := ggX1_drawNeeds_X4_put
theorem dX1_drawNeeds_0 : decode cX1_drawNeeds 0 = .ok (.iconst 0, 1) := by decide +kernel
theorem dX1_drawNeeds_1 : decode cX1_drawNeeds 1 = .ok (.istore_n 2, 1) := by decide +kernel
theorem dX1_drawNeeds_2 : decode cX1_drawNeeds 2 = .ok (.iload_n 2, 1) := by decide +kernel
theorem dX1_drawNeeds_3 : decode cX1_drawNeeds 3 = .ok (.aload_n 0, 1) := by decide +kernel
theorem dX1_drawNeeds_4 : decode cX1_drawNeeds 4 = .ok (.getfield 9, 3) := by decide +kernel
theorem dX1_drawNeeds_7 : decode cX1_drawNeeds 7 = .ok (.if_icmp .ge 20, 3) := by decide +kernel
theorem dX1_drawNeeds_10 : decode cX1_drawNeeds 10 = .ok (.aload_n 0, 1) := by decide +kernel
theorem dX1_drawNeeds_11 : decode cX1_drawNeeds 11 = .ok (.getfield 25, 3) := by decide +kernel
theorem dX1_drawNeeds_14 : decode cX1_drawNeeds 14 = .ok (.iload_n 2, 1) := by decide +kernel
theorem dX1_drawNeeds_15 : decode cX1_drawNeeds 15 = .ok (.aload_n 1, 1) := by decide +kernel
theorem dX1_drawNeeds_16 : decode cX1_drawNeeds 16 = .ok (.iload_n 2, 1) := by decide +kernel
theorem dX1_drawNeeds_17 : decode cX1_drawNeeds 17 = .ok (.invokevirtual 78, 3) := by decide +kernel
theorem dX1_drawNeeds_20 : decode cX1_drawNeeds 20 = .ok (.iastore, 1) := by decide +kernel
theorem dX1_drawNeeds_21 : decode cX1_drawNeeds 21 = .ok (.iinc 2 1, 3) := by decide +kernel
theorem dX1_drawNeeds_24 : decode cX1_drawNeeds 24 = .ok (.goto (-22), 3) := by decide +kernel
theorem dX1_drawNeeds_27 : decode cX1_drawNeeds 27 = .ok (.iconst 0, 1) := by decide +kernel
theorem dX1_drawNeeds_28 : decode cX1_drawNeeds 28 = .ok (.istore_n 2, 1) := by decide +kernel
theorem dX1_drawNeeds_29 : decode cX1_drawNeeds 29 = .ok (.iload_n 2, 1) := by decide +kernel
theorem dX1_drawNeeds_30 : decode cX1_drawNeeds 30 = .ok (.aload_n 0, 1) := by decide +kernel
theorem dX1_drawNeeds_31 : decode cX1_drawNeeds 31 = .ok (.getfield 9, 3) := by decide +kernel
theorem dX1_drawNeeds_34 : decode cX1_drawNeeds 34 = .ok (.if_icmp .ge 53, 3) := by decide +kernel
theorem dX1_drawNeeds_37 : decode cX1_drawNeeds 37 = .ok (.aload_n 0, 1) := by decide +kernel
theorem dX1_drawNeeds_38 : decode cX1_drawNeeds 38 = .ok (.getfield 19, 3) := by decide +kernel
theorem dX1_drawNeeds_41 : decode cX1_drawNeeds 41 = .ok (.iload_n 2, 1) := by decide +kernel
theorem dX1_drawNeeds_42 : decode cX1_drawNeeds 42 = .ok (.iaload, 1) := by decide +kernel
theorem dX1_drawNeeds_43 : decode cX1_drawNeeds 43 = .ok (.istore_n 3, 1) := by decide +kernel
theorem dX1_drawNeeds_44 : decode cX1_drawNeeds 44 = .ok (.aload_n 0, 1) := by decide +kernel
theorem dX1_drawNeeds_45 : decode cX1_drawNeeds 45 = .ok (.getfield 22, 3) := by decide +kernel
theorem dX1_drawNeeds_48 : decode cX1_drawNeeds 48 = .ok (.iload_n 3, 1) := by decide +kernel
theorem dX1_drawNeeds_49 : decode cX1_drawNeeds 49 = .ok (.invokestatic 67, 3) := by decide +kernel
theorem dX1_drawNeeds_52 : decode cX1_drawNeeds 52 = .ok (.istore 4, 2) := by decide +kernel
theorem dX1_drawNeeds_54 : decode cX1_drawNeeds 54 = .ok (.aload_n 0, 1) := by decide +kernel
theorem dX1_drawNeeds_55 : decode cX1_drawNeeds 55 = .ok (.getfield 25, 3) := by decide +kernel
theorem dX1_drawNeeds_58 : decode cX1_drawNeeds 58 = .ok (.iload 4, 2) := by decide +kernel
theorem dX1_drawNeeds_60 : decode cX1_drawNeeds 60 = .ok (.aload_n 0, 1) := by decide +kernel
theorem dX1_drawNeeds_61 : decode cX1_drawNeeds 61 = .ok (.getfield 25, 3) := by decide +kernel
theorem dX1_drawNeeds_64 : decode cX1_drawNeeds 64 = .ok (.iload 4, 2) := by decide +kernel
theorem dX1_drawNeeds_66 : decode cX1_drawNeeds 66 = .ok (.invokestatic 67, 3) := by decide +kernel
theorem dX1_drawNeeds_69 : decode cX1_drawNeeds 69 = .ok (.aload_n 0, 1) := by decide +kernel
theorem dX1_drawNeeds_70 : decode cX1_drawNeeds 70 = .ok (.getfield 25, 3) := by decide +kernel
theorem dX1_drawNeeds_73 : decode cX1_drawNeeds 73 = .ok (.iload_n 3, 1) := by decide +kernel
theorem dX1_drawNeeds_74 : decode cX1_drawNeeds 74 = .ok (.invokestatic 67, 3) := by decide +kernel
theorem dX1_drawNeeds_77 : decode cX1_drawNeeds 77 = .ok (.iadd, 1) := by decide +kernel
theorem dX1_drawNeeds_78 : decode cX1_drawNeeds 78 = .ok (.invokestatic 47, 3) := by decide +kernel
theorem dX1_drawNeeds_81 : decode cX1_drawNeeds 81 = .ok (.iinc 2 1, 3) := by decide +kernel
theorem dX1_drawNeeds_84 : decode cX1_drawNeeds 84 = .ok (.goto (-55), 3) := by decide +kernel
theorem dX1_drawNeeds_87 : decode cX1_drawNeeds 87 = .ok (.return_, 1) := by decide +kernel
set_option maxRecDepth 20000 in
theorem ggX1_findPores_X0_bearablePores : GoodIn wsX1_findPores wsX0_bearablePores := goodIn_r _ [14, 15, 16, 17, 18, 19, 13, 20, 21, 22, 23, 24, 25, 26, 27, 28, 29, 37, 38, 39, 40, 41, 42, 43, 44, 45, 46] (by decide +kernel) (by decide +kernel)
set_option maxRecDepth 20000 in
theorem gX1_findPores_X0_bearablePores : GoodIn wsX1_findPores (wsV RX1 81 RX0 yX0_bearablePores wsX0_bearablePores) := goodIn_app (goodIn_of _ (by decide +kernel)) ggX1_findPores_X0_bearablePores
theorem dX1_findPores_0 : decode cX1_findPores 0 = .ok (.iconst 0, 1) := by decide +kernel
theorem dX1_findPores_1 : decode cX1_findPores 1 = .ok (.istore_n 2, 1) := by decide +kernel
theorem dX1_findPores_2 : decode cX1_findPores 2 = .ok (.iload_n 2, 1) := by decide +kernel
theorem dX1_findPores_3 : decode cX1_findPores 3 = .ok (.aload_n 0, 1) := by decide +kernel
theorem dX1_findPores_4 : decode cX1_findPores 4 = .ok (.getfield 9, 3) := by decide +kernel
theorem dX1_findPores_7 : decode cX1_findPores 7 = .ok (.if_icmp .ge 57, 3) := by decide +kernel
theorem dX1_findPores_10 : decode cX1_findPores 10 = .ok (.aload_n 0, 1) := by decide +kernel
theorem dX1_findPores_11 : decode cX1_findPores 11 = .ok (.getfield 28, 3) := by decide +kernel
theorem dX1_findPores_14 : decode cX1_findPores 14 = .ok (.iload_n 2, 1) := by decide +kernel
theorem dX1_findPores_15 : decode cX1_findPores 15 = .ok (.aload_n 0, 1) := by decide +kernel
theorem dX1_findPores_16 : decode cX1_findPores 16 = .ok (.getfield 22, 3) := by decide +kernel
theorem dX1_findPores_19 : decode cX1_findPores 19 = .ok (.iload_n 2, 1) := by decide +kernel
theorem dX1_findPores_20 : decode cX1_findPores 20 = .ok (.iaload, 1) := by decide +kernel
theorem dX1_findPores_21 : decode cX1_findPores 21 = .ok (.iconst (-1), 1) := by decide +kernel
theorem dX1_findPores_22 : decode cX1_findPores 22 = .ok (.if_icmp .ne 12, 3) := by decide +kernel
theorem dX1_findPores_25 : decode cX1_findPores 25 = .ok (.aload_n 0, 1) := by decide +kernel
theorem dX1_findPores_26 : decode cX1_findPores 26 = .ok (.getfield 25, 3) := by decide +kernel
theorem dX1_findPores_29 : decode cX1_findPores 29 = .ok (.iload_n 2, 1) := by decide +kernel
theorem dX1_findPores_30 : decode cX1_findPores 30 = .ok (.iaload, 1) := by decide +kernel
theorem dX1_findPores_31 : decode cX1_findPores 31 = .ok (.goto 4, 3) := by decide +kernel
theorem dX1_findPores_34 : decode cX1_findPores 34 = .ok (.iconst 0, 1) := by decide +kernel
theorem dX1_findPores_35 : decode cX1_findPores 35 = .ok (.iastore, 1) := by decide +kernel
theorem dX1_findPores_36 : decode cX1_findPores 36 = .ok (.aload_n 0, 1) := by decide +kernel
theorem dX1_findPores_37 : decode cX1_findPores 37 = .ok (.getfield 31, 3) := by decide +kernel
theorem dX1_findPores_40 : decode cX1_findPores 40 = .ok (.iload_n 2, 1) := by decide +kernel
theorem dX1_findPores_41 : decode cX1_findPores 41 = .ok (.iconst 0, 1) := by decide +kernel
theorem dX1_findPores_42 : decode cX1_findPores 42 = .ok (.aload_n 0, 1) := by decide +kernel
theorem dX1_findPores_43 : decode cX1_findPores 43 = .ok (.getfield 28, 3) := by decide +kernel
theorem dX1_findPores_46 : decode cX1_findPores 46 = .ok (.iload_n 2, 1) := by decide +kernel
theorem dX1_findPores_47 : decode cX1_findPores 47 = .ok (.iaload, 1) := by decide +kernel
theorem dX1_findPores_48 : decode cX1_findPores 48 = .ok (.aload_n 1, 1) := by decide +kernel
theorem dX1_findPores_49 : decode cX1_findPores 49 = .ok (.iload_n 2, 1) := by decide +kernel
theorem dX1_findPores_50 : decode cX1_findPores 50 = .ok (.invokevirtual 81, 3) := by decide +kernel
theorem dX1_findPores_53 : decode cX1_findPores 53 = .ok (.isub, 1) := by decide +kernel
theorem dX1_findPores_54 : decode cX1_findPores 54 = .ok (.invokestatic 84, 3) := by decide +kernel
theorem dX1_findPores_57 : decode cX1_findPores 57 = .ok (.iastore, 1) := by decide +kernel
theorem dX1_findPores_58 : decode cX1_findPores 58 = .ok (.iinc 2 1, 3) := by decide +kernel
theorem dX1_findPores_61 : decode cX1_findPores 61 = .ok (.goto (-59), 3) := by decide +kernel
theorem dX1_findPores_64 : decode cX1_findPores 64 = .ok (.return_, 1) := by decide +kernel
set_option maxRecDepth 20000 in
theorem ggX1_excessOfAll_X4_sum : GoodIn wsX1_excessOfAll wsX4_sum := goodIn_r _ [5] (by decide +kernel) (by decide +kernel)
set_option maxRecDepth 20000 in
theorem gX1_excessOfAll_X4_sum_n87 : GoodIn wsX1_excessOfAll (wsX4_sum) := ggX1_excessOfAll_X4_sum
theorem dX1_excessOfAll_0 : decode cX1_excessOfAll 0 = .ok (.aload_n 0, 1) := by decide +kernel
theorem dX1_excessOfAll_1 : decode cX1_excessOfAll 1 = .ok (.getfield 31, 3) := by decide +kernel
theorem dX1_excessOfAll_4 : decode cX1_excessOfAll 4 = .ok (.aload_n 0, 1) := by decide +kernel
theorem dX1_excessOfAll_5 : decode cX1_excessOfAll 5 = .ok (.getfield 9, 3) := by decide +kernel
theorem dX1_excessOfAll_8 : decode cX1_excessOfAll 8 = .ok (.invokestatic 87, 3) := by decide +kernel
theorem dX1_excessOfAll_11 : decode cX1_excessOfAll 11 = .ok (.ireturn, 1) := by decide +kernel
set_option maxRecDepth 20000 in
theorem ggX1_isSound_X1_excessOfAll : GoodIn wsX1_isSound wsX1_excessOfAll := goodIn_r _ [5, 6, 7, 8, 9, 10, 11, 12, 13, 14, 15, 16, 17] (by decide +kernel) (by decide +kernel)
set_option maxRecDepth 20000 in
theorem gX1_isSound_X1_excessOfAll : GoodIn wsX1_isSound (wsV RX1 90 RX1 yX1_excessOfAll wsX1_excessOfAll) := goodIn_app (goodIn_of _ (by decide +kernel)) ggX1_isSound_X1_excessOfAll
theorem dX1_isSound_0 : decode cX1_isSound 0 = .ok (.aload_n 0, 1) := by decide +kernel
theorem dX1_isSound_1 : decode cX1_isSound 1 = .ok (.invokevirtual 90, 3) := by decide +kernel
theorem dX1_isSound_4 : decode cX1_isSound 4 = .ok (.ifCond .ne 7, 3) := by decide +kernel
theorem dX1_isSound_7 : decode cX1_isSound 7 = .ok (.iconst 1, 1) := by decide +kernel
theorem dX1_isSound_8 : decode cX1_isSound 8 = .ok (.goto 4, 3) := by decide +kernel
theorem dX1_isSound_11 : decode cX1_isSound 11 = .ok (.iconst 0, 1) := by decide +kernel
theorem dX1_isSound_12 : decode cX1_isSound 12 = .ok (.ireturn, 1) := by decide +kernel
theorem dX1_fedBy_0 : decode cX1_fedBy 0 = .ok (.iconst 0, 1) := by decide +kernel
theorem dX1_fedBy_1 : decode cX1_fedBy 1 = .ok (.istore_n 2, 1) := by decide +kernel
theorem dX1_fedBy_2 : decode cX1_fedBy 2 = .ok (.iconst 0, 1) := by decide +kernel
theorem dX1_fedBy_3 : decode cX1_fedBy 3 = .ok (.istore_n 3, 1) := by decide +kernel
theorem dX1_fedBy_4 : decode cX1_fedBy 4 = .ok (.iload_n 3, 1) := by decide +kernel
theorem dX1_fedBy_5 : decode cX1_fedBy 5 = .ok (.aload_n 0, 1) := by decide +kernel
theorem dX1_fedBy_6 : decode cX1_fedBy 6 = .ok (.getfield 9, 3) := by decide +kernel
theorem dX1_fedBy_9 : decode cX1_fedBy 9 = .ok (.if_icmp .ge 22, 3) := by decide +kernel
theorem dX1_fedBy_12 : decode cX1_fedBy 12 = .ok (.aload_n 0, 1) := by decide +kernel
theorem dX1_fedBy_13 : decode cX1_fedBy 13 = .ok (.getfield 22, 3) := by decide +kernel
theorem dX1_fedBy_16 : decode cX1_fedBy 16 = .ok (.iload_n 3, 1) := by decide +kernel
theorem dX1_fedBy_17 : decode cX1_fedBy 17 = .ok (.iaload, 1) := by decide +kernel
theorem dX1_fedBy_18 : decode cX1_fedBy 18 = .ok (.iload_n 1, 1) := by decide +kernel
theorem dX1_fedBy_19 : decode cX1_fedBy 19 = .ok (.if_icmp .ne 6, 3) := by decide +kernel
theorem dX1_fedBy_22 : decode cX1_fedBy 22 = .ok (.iinc 2 1, 3) := by decide +kernel
theorem dX1_fedBy_25 : decode cX1_fedBy 25 = .ok (.iinc 3 1, 3) := by decide +kernel
theorem dX1_fedBy_28 : decode cX1_fedBy 28 = .ok (.goto (-24), 3) := by decide +kernel
theorem dX1_fedBy_31 : decode cX1_fedBy 31 = .ok (.iload_n 2, 1) := by decide +kernel
theorem dX1_fedBy_32 : decode cX1_fedBy 32 = .ok (.ireturn, 1) := by decide +kernel
set_option maxRecDepth 20000 in
theorem ggX1_hotSpotOf_X4_at : GoodIn wsX1_hotSpotOf wsX4_at := goodIn_r _ [5] (by decide +kernel) (by decide +kernel)
set_option maxRecDepth 20000 in
theorem gX1_hotSpotOf_X4_at_n67 : GoodIn wsX1_hotSpotOf (wsX4_at) := ggX1_hotSpotOf_X4_at
theorem dX1_hotSpotOf_0 : decode cX1_hotSpotOf 0 = .ok (.iload_n 1, 1) := by decide +kernel
theorem dX1_hotSpotOf_1 : decode cX1_hotSpotOf 1 = .ok (.istore_n 2, 1) := by decide +kernel
theorem dX1_hotSpotOf_2 : decode cX1_hotSpotOf 2 = .ok (.iconst 0, 1) := by decide +kernel
theorem dX1_hotSpotOf_3 : decode cX1_hotSpotOf 3 = .ok (.istore_n 3, 1) := by decide +kernel
theorem dX1_hotSpotOf_4 : decode cX1_hotSpotOf 4 = .ok (.iload_n 3, 1) := by decide +kernel
theorem dX1_hotSpotOf_5 : decode cX1_hotSpotOf 5 = .ok (.aload_n 0, 1) := by decide +kernel
theorem dX1_hotSpotOf_6 : decode cX1_hotSpotOf 6 = .ok (.getfield 9, 3) := by decide +kernel
theorem dX1_hotSpotOf_9 : decode cX1_hotSpotOf 9 = .ok (.if_icmp .ge 30, 3) := by decide +kernel
theorem dX1_hotSpotOf_12 : decode cX1_hotSpotOf 12 = .ok (.aload_n 0, 1) := by decide +kernel
theorem dX1_hotSpotOf_13 : decode cX1_hotSpotOf 13 = .ok (.getfield 22, 3) := by decide +kernel
theorem dX1_hotSpotOf_16 : decode cX1_hotSpotOf 16 = .ok (.iload_n 2, 1) := by decide +kernel
theorem dX1_hotSpotOf_17 : decode cX1_hotSpotOf 17 = .ok (.invokestatic 67, 3) := by decide +kernel
theorem dX1_hotSpotOf_20 : decode cX1_hotSpotOf 20 = .ok (.iconst (-1), 1) := by decide +kernel
theorem dX1_hotSpotOf_21 : decode cX1_hotSpotOf 21 = .ok (.if_icmp .eq 18, 3) := by decide +kernel
theorem dX1_hotSpotOf_24 : decode cX1_hotSpotOf 24 = .ok (.aload_n 0, 1) := by decide +kernel
theorem dX1_hotSpotOf_25 : decode cX1_hotSpotOf 25 = .ok (.getfield 22, 3) := by decide +kernel
theorem dX1_hotSpotOf_28 : decode cX1_hotSpotOf 28 = .ok (.iload_n 2, 1) := by decide +kernel
theorem dX1_hotSpotOf_29 : decode cX1_hotSpotOf 29 = .ok (.invokestatic 67, 3) := by decide +kernel
theorem dX1_hotSpotOf_32 : decode cX1_hotSpotOf 32 = .ok (.istore_n 2, 1) := by decide +kernel
theorem dX1_hotSpotOf_33 : decode cX1_hotSpotOf 33 = .ok (.iinc 3 1, 3) := by decide +kernel
theorem dX1_hotSpotOf_36 : decode cX1_hotSpotOf 36 = .ok (.goto (-32), 3) := by decide +kernel
theorem dX1_hotSpotOf_39 : decode cX1_hotSpotOf 39 = .ok (.iload_n 2, 1) := by decide +kernel
theorem dX1_hotSpotOf_40 : decode cX1_hotSpotOf 40 = .ok (.ireturn, 1) := by decide +kernel
end
section
theorem dX3_init_0 : decode cX3_init 0 = .ok (.aload_n 0, 1) := by decide +kernel
theorem dX3_init_1 : decode cX3_init 1 = .ok (.invokespecial 3, 3) := by decide +kernel
theorem dX3_init_4 : decode cX3_init 4 = .ok (.aload_n 0, 1) := by decide +kernel
theorem dX3_init_5 : decode cX3_init 5 = .ok (.bipush 120, 2) := by decide +kernel
theorem dX3_init_7 : decode cX3_init 7 = .ok (.newarray .int, 2) := by decide +kernel
theorem dX3_init_9 : decode cX3_init 9 = .ok (.putfield 9, 3) := by decide +kernel
theorem dX3_init_12 : decode cX3_init 12 = .ok (.aload_n 0, 1) := by decide +kernel
theorem dX3_init_13 : decode cX3_init 13 = .ok (.iconst 0, 1) := by decide +kernel
theorem dX3_init_14 : decode cX3_init 14 = .ok (.putfield 15, 3) := by decide +kernel
theorem dX3_init_17 : decode cX3_init 17 = .ok (.aload_n 0, 1) := by decide +kernel
theorem dX3_init_18 : decode cX3_init 18 = .ok (.iconst 0, 1) := by decide +kernel
theorem dX3_init_19 : decode cX3_init 19 = .ok (.putfield 19, 3) := by decide +kernel
theorem dX3_init_22 : decode cX3_init 22 = .ok (.aload_n 0, 1) := by decide +kernel
theorem dX3_init_23 : decode cX3_init 23 = .ok (.iconst 0, 1) := by decide +kernel
theorem dX3_init_24 : decode cX3_init 24 = .ok (.putfield 22, 3) := by decide +kernel
theorem dX3_init_27 : decode cX3_init 27 = .ok (.aload_n 0, 1) := by decide +kernel
theorem dX3_init_28 : decode cX3_init 28 = .ok (.iconst (-1), 1) := by decide +kernel
theorem dX3_init_29 : decode cX3_init 29 = .ok (.putfield 25, 3) := by decide +kernel
theorem dX3_init_32 : decode cX3_init 32 = .ok (.return_, 1) := by decide +kernel
theorem dX3_append_0 : decode cX3_append 0 = .ok (.aload_n 0, 1) := by decide +kernel
theorem dX3_append_1 : decode cX3_append 1 = .ok (.getfield 15, 3) := by decide +kernel
theorem dX3_append_4 : decode cX3_append 4 = .ok (.ifCond .lt 12, 3) := by decide +kernel
theorem dX3_append_7 : decode cX3_append 7 = .ok (.aload_n 0, 1) := by decide +kernel
theorem dX3_append_8 : decode cX3_append 8 = .ok (.getfield 15, 3) := by decide +kernel
theorem dX3_append_11 : decode cX3_append 11 = .ok (.bipush 120, 2) := by decide +kernel
theorem dX3_append_13 : decode cX3_append 13 = .ok (.if_icmp .lt 5, 3) := by decide +kernel
theorem dX3_append_16 : decode cX3_append 16 = .ok (.iconst 0, 1) := by decide +kernel
theorem dX3_append_17 : decode cX3_append 17 = .ok (.ireturn, 1) := by decide +kernel
theorem dX3_append_18 : decode cX3_append 18 = .ok (.aload_n 0, 1) := by decide +kernel
theorem dX3_append_19 : decode cX3_append 19 = .ok (.getfield 9, 3) := by decide +kernel
theorem dX3_append_22 : decode cX3_append 22 = .ok (.aload_n 0, 1) := by decide +kernel
theorem dX3_append_23 : decode cX3_append 23 = .ok (.getfield 15, 3) := by decide +kernel
theorem dX3_append_26 : decode cX3_append 26 = .ok (.iload_n 1, 1) := by decide +kernel
theorem dX3_append_27 : decode cX3_append 27 = .ok (.iastore, 1) := by decide +kernel
theorem dX3_append_28 : decode cX3_append 28 = .ok (.aload_n 0, 1) := by decide +kernel
theorem dX3_append_29 : decode cX3_append 29 = .ok (.dup, 1) := by decide +kernel
theorem dX3_append_30 : decode cX3_append 30 = .ok (.getfield 15, 3) := by decide +kernel
theorem dX3_append_33 : decode cX3_append 33 = .ok (.iconst 1, 1) := by decide +kernel
theorem dX3_append_34 : decode cX3_append 34 = .ok (.iadd, 1) := by decide +kernel
theorem dX3_append_35 : decode cX3_append 35 = .ok (.putfield 15, 3) := by decide +kernel
theorem dX3_append_38 : decode cX3_append 38 = .ok (.iconst 1, 1) := by decide +kernel
theorem dX3_append_39 : decode cX3_append 39 = .ok (.ireturn, 1) := by decide +kernel
set_option maxRecDepth 20000 in
theorem ggX3_readInto_X3_readItem : GoodIn wsX3_readInto wsX3_readItem := goodIn_r _ [8, 1, 2, 3, 9, 10, 11, 7, 12, 13, 14, 15, 16, 17, 18, 19, 20, 21, 22, 23, 24, 25, 26, 27, 28, 29, 30, 31, 32, 33, 34, 35, 36, 37, 38, 39, 40, 41, 42, 43, 44, 45, 46, 47, 48, 49, 50, 51, 52, 53, 54, 55, 56, 57, 58, 59, 60, 61, 62, 63, 64, 65, 66, 67, 68, 69, 70, 71, 72, 73, 74, 75, 76, 81, 82, 83, 84, 85, 86, 87, 88, 89, 90, 91, 92, 93, 94, 95] (by decide +kernel) (by decide +kernel)
set_option maxRecDepth 20000 in
theorem gX3_readInto_X3_readItem : GoodIn wsX3_readInto (wsV RX3 28 RX3 yX3_readItem wsX3_readItem) := goodIn_app (goodIn_of _ (by decide +kernel)) ggX3_readInto_X3_readItem
set_option maxRecDepth 20000 in
theorem ggX3_readInto_X3_isAtEnd : GoodIn wsX3_readInto wsX3_isAtEnd := goodIn_r _ [80, 9, 10, 11, 7, 12, 1, 13, 14, 15, 16, 17, 18, 81, 82, 83, 84, 85] (by decide +kernel) (by decide +kernel)
set_option maxRecDepth 20000 in
theorem gX3_readInto_X3_isAtEnd : GoodIn wsX3_readInto (wsV RX3 32 RX3 yX3_isAtEnd wsX3_isAtEnd) := goodIn_app (goodIn_of _ (by decide +kernel)) ggX3_readInto_X3_isAtEnd
set_option maxRecDepth 20000 in
theorem ggX3_readInto_X3_expect : GoodIn wsX3_readInto wsX3_expect := goodIn_r _ [47, 2, 1, 9, 10, 11, 7, 12, 13, 14, 15, 16, 17, 18, 81, 82, 83, 84, 85] (by decide +kernel) (by decide +kernel)
set_option maxRecDepth 20000 in
theorem gX3_readInto_X3_expect : GoodIn wsX3_readInto (wsV RX3 36 RX3 yX3_expect wsX3_expect) := goodIn_app (goodIn_of _ (by decide +kernel)) ggX3_readInto_X3_expect
theorem dX3_readInto_0 : decode cX3_readInto 0 = .ok (.aload_n 0, 1) := by decide +kernel
theorem dX3_readInto_1 : decode cX3_readInto 1 = .ok (.iconst 0, 1) := by decide +kernel
theorem dX3_readInto_2 : decode cX3_readInto 2 = .ok (.putfield 22, 3) := by decide +kernel
theorem dX3_readInto_5 : decode cX3_readInto 5 = .ok (.aload_n 0, 1) := by decide +kernel
theorem dX3_readInto_6 : decode cX3_readInto 6 = .ok (.iconst (-1), 1) := by decide +kernel
theorem dX3_readInto_7 : decode cX3_readInto 7 = .ok (.putfield 25, 3) := by decide +kernel
theorem dX3_readInto_10 : decode cX3_readInto 10 = .ok (.aload_n 0, 1) := by decide +kernel
theorem dX3_readInto_11 : decode cX3_readInto 11 = .ok (.iconst 0, 1) := by decide +kernel
theorem dX3_readInto_12 : decode cX3_readInto 12 = .ok (.putfield 19, 3) := by decide +kernel
theorem dX3_readInto_15 : decode cX3_readInto 15 = .ok (.iconst 1, 1) := by decide +kernel
theorem dX3_readInto_16 : decode cX3_readInto 16 = .ok (.istore_n 2, 1) := by decide +kernel
theorem dX3_readInto_17 : decode cX3_readInto 17 = .ok (.iconst 0, 1) := by decide +kernel
theorem dX3_readInto_18 : decode cX3_readInto 18 = .ok (.istore_n 3, 1) := by decide +kernel
theorem dX3_readInto_19 : decode cX3_readInto 19 = .ok (.iload_n 3, 1) := by decide +kernel
theorem dX3_readInto_20 : decode cX3_readInto 20 = .ok (.bipush 120, 2) := by decide +kernel
theorem dX3_readInto_22 : decode cX3_readInto 22 = .ok (.if_icmp .gt 63, 3) := by decide +kernel
theorem dX3_readInto_25 : decode cX3_readInto 25 = .ok (.iload_n 2, 1) := by decide +kernel
theorem dX3_readInto_26 : decode cX3_readInto 26 = .ok (.ifCond .eq 59, 3) := by decide +kernel
theorem dX3_readInto_29 : decode cX3_readInto 29 = .ok (.aload_n 0, 1) := by decide +kernel
theorem dX3_readInto_30 : decode cX3_readInto 30 = .ok (.aload_n 1, 1) := by decide +kernel
theorem dX3_readInto_31 : decode cX3_readInto 31 = .ok (.invokevirtual 28, 3) := by decide +kernel
theorem dX3_readInto_34 : decode cX3_readInto 34 = .ok (.aload_n 0, 1) := by decide +kernel
theorem dX3_readInto_35 : decode cX3_readInto 35 = .ok (.getfield 25, 3) := by decide +kernel
theorem dX3_readInto_38 : decode cX3_readInto 38 = .ok (.iconst (-1), 1) := by decide +kernel
theorem dX3_readInto_39 : decode cX3_readInto 39 = .ok (.if_icmp .ne 14, 3) := by decide +kernel
theorem dX3_readInto_42 : decode cX3_readInto 42 = .ok (.aload_n 0, 1) := by decide +kernel
theorem dX3_readInto_43 : decode cX3_readInto 43 = .ok (.invokevirtual 32, 3) := by decide +kernel
theorem dX3_readInto_46 : decode cX3_readInto 46 = .ok (.ifCond .ne 7, 3) := by decide +kernel
theorem dX3_readInto_49 : decode cX3_readInto 49 = .ok (.iconst 1, 1) := by decide +kernel
theorem dX3_readInto_50 : decode cX3_readInto 50 = .ok (.goto 4, 3) := by decide +kernel
theorem dX3_readInto_53 : decode cX3_readInto 53 = .ok (.iconst 0, 1) := by decide +kernel
theorem dX3_readInto_54 : decode cX3_readInto 54 = .ok (.istore_n 2, 1) := by decide +kernel
theorem dX3_readInto_55 : decode cX3_readInto 55 = .ok (.iload_n 2, 1) := by decide +kernel
theorem dX3_readInto_56 : decode cX3_readInto 56 = .ok (.ifCond .eq 23, 3) := by decide +kernel
theorem dX3_readInto_59 : decode cX3_readInto 59 = .ok (.aload_n 0, 1) := by decide +kernel
theorem dX3_readInto_60 : decode cX3_readInto 60 = .ok (.bipush 59, 2) := by decide +kernel
theorem dX3_readInto_62 : decode cX3_readInto 62 = .ok (.invokevirtual 36, 3) := by decide +kernel
theorem dX3_readInto_65 : decode cX3_readInto 65 = .ok (.aload_n 0, 1) := by decide +kernel
theorem dX3_readInto_66 : decode cX3_readInto 66 = .ok (.getfield 25, 3) := by decide +kernel
theorem dX3_readInto_69 : decode cX3_readInto 69 = .ok (.iconst (-1), 1) := by decide +kernel
theorem dX3_readInto_70 : decode cX3_readInto 70 = .ok (.if_icmp .ne 7, 3) := by decide +kernel
theorem dX3_readInto_73 : decode cX3_readInto 73 = .ok (.iconst 1, 1) := by decide +kernel
theorem dX3_readInto_74 : decode cX3_readInto 74 = .ok (.goto 4, 3) := by decide +kernel
theorem dX3_readInto_77 : decode cX3_readInto 77 = .ok (.iconst 0, 1) := by decide +kernel
theorem dX3_readInto_78 : decode cX3_readInto 78 = .ok (.istore_n 2, 1) := by decide +kernel
theorem dX3_readInto_79 : decode cX3_readInto 79 = .ok (.iinc 3 1, 3) := by decide +kernel
theorem dX3_readInto_82 : decode cX3_readInto 82 = .ok (.goto (-63), 3) := by decide +kernel
theorem dX3_readInto_85 : decode cX3_readInto 85 = .ok (.aload_n 0, 1) := by decide +kernel
theorem dX3_readInto_86 : decode cX3_readInto 86 = .ok (.getfield 25, 3) := by decide +kernel
theorem dX3_readInto_89 : decode cX3_readInto 89 = .ok (.ireturn, 1) := by decide +kernel
set_option maxRecDepth 20000 in
theorem ggX3_readItem_X3_next : GoodIn wsX3_readItem wsX3_next := goodIn_r _ [8, 1, 9, 10, 11, 7, 12, 13, 14, 73, 74, 75, 76, 77] (by decide +kernel) (by decide +kernel)
set_option maxRecDepth 20000 in
theorem gX3_readItem_X3_next : GoodIn wsX3_readItem (wsV RX3 40 RX3 yX3_next wsX3_next) := goodIn_app (goodIn_of _ (by decide +kernel)) ggX3_readItem_X3_next
set_option maxRecDepth 20000 in
theorem ggX3_readItem_X3_isDigit : GoodIn wsX3_readItem wsX3_isDigit := goodIn_r _ [17] (by decide +kernel) (by decide +kernel)
set_option maxRecDepth 20000 in
theorem gX3_readItem_X3_isDigit : GoodIn wsX3_readItem (va_wsS RX3 44 yX3_isDigit wsX3_isDigit) := goodIn_app (goodIn_of _ (by decide +kernel)) ggX3_readItem_X3_isDigit
set_option maxRecDepth 20000 in
theorem ggX3_readItem_X0_hasRoomForSection : GoodIn wsX3_readItem wsX0_hasRoomForSection := goodIn_r _ [22, 23, 78, 79, 80, 81, 82, 83, 84, 85, 86, 87] (by decide +kernel) (by decide +kernel)
set_option maxRecDepth 20000 in
theorem gX3_readItem_X0_hasRoomForSection : GoodIn wsX3_readItem (wsV RX3 48 RX0 yX0_hasRoomForSection wsX0_hasRoomForSection) := goodIn_app (goodIn_of _ (by decide +kernel)) ggX3_readItem_X0_hasRoomForSection
set_option maxRecDepth 20000 in
theorem ggX3_readItem_X0_hasRoomForJoint : GoodIn wsX3_readItem wsX0_hasRoomForJoint := goodIn_r _ [27, 28, 78, 79, 80, 81, 82, 83, 84, 85, 86, 87] (by decide +kernel) (by decide +kernel)
set_option maxRecDepth 20000 in
theorem gX3_readItem_X0_hasRoomForJoint : GoodIn wsX3_readItem (wsV RX3 53 RX0 yX0_hasRoomForJoint wsX0_hasRoomForJoint) := goodIn_app (goodIn_of _ (by decide +kernel)) ggX3_readItem_X0_hasRoomForJoint
set_option maxRecDepth 20000 in
theorem ggX3_readItem_X3_readSection : GoodIn wsX3_readItem wsX3_readSection := goodIn_r _ [32, 2, 1, 33, 34, 35, 7, 36, 4, 5, 6, 8, 9, 10, 11, 12, 13, 14, 15, 16, 17, 37, 38, 39, 40, 41, 42, 43, 44, 45, 46, 21, 47, 23, 48, 49, 50, 51, 73, 74, 75, 76, 77, 78, 79, 80, 81, 82, 83, 84, 85, 86, 87] (by decide +kernel) (by decide +kernel)
set_option maxRecDepth 20000 in
theorem gX3_readItem_X3_readSection : GoodIn wsX3_readItem (wsV RX3 56 RX3 yX3_readSection wsX3_readSection) := goodIn_app (goodIn_of _ (by decide +kernel)) ggX3_readItem_X3_readSection
set_option maxRecDepth 20000 in
theorem ggX3_readItem_X3_readJoint : GoodIn wsX3_readItem wsX3_readJoint := goodIn_r _ [55, 56, 1, 2, 33, 34, 35, 7, 36, 4, 5, 6, 8, 9, 10, 11, 12, 13, 14, 15, 16, 17, 37, 38, 39, 40, 41, 42, 43, 57, 58, 59, 21, 60, 28, 61, 62, 63, 64, 65, 66, 67, 68, 69, 70, 71, 72, 78, 79, 80, 81, 82, 83, 84, 85, 86, 87, 73, 74, 75, 76, 77] (by decide +kernel) (by decide +kernel)
set_option maxRecDepth 20000 in
theorem gX3_readItem_X3_readJoint : GoodIn wsX3_readItem (wsV RX3 60 RX3 yX3_readJoint wsX3_readJoint) := goodIn_app (goodIn_of _ (by decide +kernel)) ggX3_readItem_X3_readJoint
theorem dX3_readItem_0 : decode cX3_readItem 0 = .ok (.aload_n 0, 1) := by decide +kernel
theorem dX3_readItem_1 : decode cX3_readItem 1 = .ok (.invokevirtual 40, 3) := by decide +kernel
theorem dX3_readItem_4 : decode cX3_readItem 4 = .ok (.istore_n 2, 1) := by decide +kernel
theorem dX3_readItem_5 : decode cX3_readItem 5 = .ok (.iload_n 2, 1) := by decide +kernel
theorem dX3_readItem_6 : decode cX3_readItem 6 = .ok (.bipush 99, 2) := by decide +kernel
theorem dX3_readItem_8 : decode cX3_readItem 8 = .ok (.if_icmp .eq 9, 3) := by decide +kernel
theorem dX3_readItem_11 : decode cX3_readItem 11 = .ok (.iload_n 2, 1) := by decide +kernel
theorem dX3_readItem_12 : decode cX3_readItem 12 = .ok (.bipush 102, 2) := by decide +kernel
theorem dX3_readItem_14 : decode cX3_readItem 14 = .ok (.if_icmp .ne 7, 3) := by decide +kernel
theorem dX3_readItem_17 : decode cX3_readItem 17 = .ok (.iconst 1, 1) := by decide +kernel
theorem dX3_readItem_18 : decode cX3_readItem 18 = .ok (.goto 4, 3) := by decide +kernel
theorem dX3_readItem_21 : decode cX3_readItem 21 = .ok (.iconst 0, 1) := by decide +kernel
theorem dX3_readItem_22 : decode cX3_readItem 22 = .ok (.istore_n 3, 1) := by decide +kernel
theorem dX3_readItem_23 : decode cX3_readItem 23 = .ok (.iload_n 2, 1) := by decide +kernel
theorem dX3_readItem_24 : decode cX3_readItem 24 = .ok (.invokestatic 44, 3) := by decide +kernel
theorem dX3_readItem_27 : decode cX3_readItem 27 = .ok (.istore 4, 2) := by decide +kernel
theorem dX3_readItem_29 : decode cX3_readItem 29 = .ok (.iload_n 3, 1) := by decide +kernel
theorem dX3_readItem_30 : decode cX3_readItem 30 = .ok (.ifCond .eq 10, 3) := by decide +kernel
theorem dX3_readItem_33 : decode cX3_readItem 33 = .ok (.aload_n 1, 1) := by decide +kernel
theorem dX3_readItem_34 : decode cX3_readItem 34 = .ok (.invokevirtual 48, 3) := by decide +kernel
theorem dX3_readItem_37 : decode cX3_readItem 37 = .ok (.ifCond .ne 15, 3) := by decide +kernel
theorem dX3_readItem_40 : decode cX3_readItem 40 = .ok (.iload 4, 2) := by decide +kernel
theorem dX3_readItem_42 : decode cX3_readItem 42 = .ok (.ifCond .eq 14, 3) := by decide +kernel
theorem dX3_readItem_45 : decode cX3_readItem 45 = .ok (.aload_n 1, 1) := by decide +kernel
theorem dX3_readItem_46 : decode cX3_readItem 46 = .ok (.invokevirtual 53, 3) := by decide +kernel
theorem dX3_readItem_49 : decode cX3_readItem 49 = .ok (.ifCond .eq 7, 3) := by decide +kernel
theorem dX3_readItem_52 : decode cX3_readItem 52 = .ok (.iconst 1, 1) := by decide +kernel
theorem dX3_readItem_53 : decode cX3_readItem 53 = .ok (.goto 4, 3) := by decide +kernel
theorem dX3_readItem_56 : decode cX3_readItem 56 = .ok (.iconst 0, 1) := by decide +kernel
theorem dX3_readItem_57 : decode cX3_readItem 57 = .ok (.istore 5, 2) := by decide +kernel
theorem dX3_readItem_59 : decode cX3_readItem 59 = .ok (.iload 5, 2) := by decide +kernel
theorem dX3_readItem_61 : decode cX3_readItem 61 = .ok (.ifCond .ne 14, 3) := by decide +kernel
theorem dX3_readItem_64 : decode cX3_readItem 64 = .ok (.aload_n 0, 1) := by decide +kernel
theorem dX3_readItem_65 : decode cX3_readItem 65 = .ok (.aload_n 0, 1) := by decide +kernel
theorem dX3_readItem_66 : decode cX3_readItem 66 = .ok (.getfield 22, 3) := by decide +kernel
theorem dX3_readItem_69 : decode cX3_readItem 69 = .ok (.putfield 25, 3) := by decide +kernel
theorem dX3_readItem_72 : decode cX3_readItem 72 = .ok (.goto 41, 3) := by decide +kernel
theorem dX3_readItem_75 : decode cX3_readItem 75 = .ok (.iload_n 3, 1) := by decide +kernel
theorem dX3_readItem_76 : decode cX3_readItem 76 = .ok (.ifCond .eq 32, 3) := by decide +kernel
theorem dX3_readItem_79 : decode cX3_readItem 79 = .ok (.aload_n 0, 1) := by decide +kernel
theorem dX3_readItem_80 : decode cX3_readItem 80 = .ok (.dup, 1) := by decide +kernel
theorem dX3_readItem_81 : decode cX3_readItem 81 = .ok (.getfield 22, 3) := by decide +kernel
theorem dX3_readItem_84 : decode cX3_readItem 84 = .ok (.iconst 1, 1) := by decide +kernel
theorem dX3_readItem_85 : decode cX3_readItem 85 = .ok (.iadd, 1) := by decide +kernel
theorem dX3_readItem_86 : decode cX3_readItem 86 = .ok (.putfield 22, 3) := by decide +kernel
theorem dX3_readItem_89 : decode cX3_readItem 89 = .ok (.aload_n 0, 1) := by decide +kernel
theorem dX3_readItem_90 : decode cX3_readItem 90 = .ok (.aload_n 1, 1) := by decide +kernel
theorem dX3_readItem_91 : decode cX3_readItem 91 = .ok (.iload_n 2, 1) := by decide +kernel
theorem dX3_readItem_92 : decode cX3_readItem 92 = .ok (.bipush 102, 2) := by decide +kernel
theorem dX3_readItem_94 : decode cX3_readItem 94 = .ok (.if_icmp .ne 7, 3) := by decide +kernel
theorem dX3_readItem_97 : decode cX3_readItem 97 = .ok (.iconst 1, 1) := by decide +kernel
theorem dX3_readItem_98 : decode cX3_readItem 98 = .ok (.goto 4, 3) := by decide +kernel
theorem dX3_readItem_101 : decode cX3_readItem 101 = .ok (.iconst 0, 1) := by decide +kernel
theorem dX3_readItem_102 : decode cX3_readItem 102 = .ok (.invokevirtual 56, 3) := by decide +kernel
theorem dX3_readItem_105 : decode cX3_readItem 105 = .ok (.goto 8, 3) := by decide +kernel
theorem dX3_readItem_108 : decode cX3_readItem 108 = .ok (.aload_n 0, 1) := by decide +kernel
theorem dX3_readItem_109 : decode cX3_readItem 109 = .ok (.aload_n 1, 1) := by decide +kernel
theorem dX3_readItem_110 : decode cX3_readItem 110 = .ok (.invokevirtual 60, 3) := by decide +kernel
theorem dX3_readItem_113 : decode cX3_readItem 113 = .ok (.aload_n 0, 1) := by decide +kernel
theorem dX3_readItem_114 : decode cX3_readItem 114 = .ok (.getfield 25, 3) := by decide +kernel
theorem dX3_readItem_117 : decode cX3_readItem 117 = .ok (.iconst (-1), 1) := by decide +kernel
theorem dX3_readItem_118 : decode cX3_readItem 118 = .ok (.if_icmp .ne 13, 3) := by decide +kernel
theorem dX3_readItem_121 : decode cX3_readItem 121 = .ok (.aload_n 0, 1) := by decide +kernel
theorem dX3_readItem_122 : decode cX3_readItem 122 = .ok (.dup, 1) := by decide +kernel
theorem dX3_readItem_123 : decode cX3_readItem 123 = .ok (.getfield 19, 3) := by decide +kernel
theorem dX3_readItem_126 : decode cX3_readItem 126 = .ok (.iconst 1, 1) := by decide +kernel
theorem dX3_readItem_127 : decode cX3_readItem 127 = .ok (.iadd, 1) := by decide +kernel
theorem dX3_readItem_128 : decode cX3_readItem 128 = .ok (.putfield 19, 3) := by decide +kernel
theorem dX3_readItem_131 : decode cX3_readItem 131 = .ok (.return_, 1) := by decide +kernel
set_option maxRecDepth 20000 in
theorem ggX3_readSection_X3_readNumber : GoodIn wsX3_readSection wsX3_readNumber := goodIn_r _ [7, 1, 2, 8, 9, 10, 6, 11, 12, 13, 14, 15, 16, 17, 18, 19, 20, 21, 22, 23, 38, 39, 40, 41, 42] (by decide +kernel) (by decide +kernel)
set_option maxRecDepth 20000 in
theorem gX3_readSection_X3_readNumber : GoodIn wsX3_readSection (wsV RX3 63 RX3 yX3_readNumber wsX3_readNumber) := goodIn_app (goodIn_of _ (by decide +kernel)) ggX3_readSection_X3_readNumber
set_option maxRecDepth 20000 in
theorem ggX3_readSection_X3_expect : GoodIn wsX3_readSection wsX3_expect := goodIn_r _ [27, 1, 2, 8, 9, 10, 6, 11, 12, 13, 14, 15, 16, 17, 38, 39, 40, 41, 42] (by decide +kernel) (by decide +kernel)
set_option maxRecDepth 20000 in
theorem gX3_readSection_X3_expect : GoodIn wsX3_readSection (wsV RX3 36 RX3 yX3_expect wsX3_expect) := goodIn_app (goodIn_of _ (by decide +kernel)) ggX3_readSection_X3_expect
set_option maxRecDepth 20000 in
theorem ggX3_readSection_X3_next : GoodIn wsX3_readSection wsX3_next := goodIn_r _ [11, 2, 12, 13, 14, 6, 15, 16, 17, 38, 39, 40, 41, 42] (by decide +kernel) (by decide +kernel)
set_option maxRecDepth 20000 in
theorem gX3_readSection_X3_next : GoodIn wsX3_readSection (wsV RX3 40 RX3 yX3_next wsX3_next) := goodIn_app (goodIn_of _ (by decide +kernel)) ggX3_readSection_X3_next
set_option maxRecDepth 20000 in
theorem ggX3_readSection_X0_append : GoodIn wsX3_readSection wsX0_append := goodIn_r _ [32, 33, 34, 35, 36, 37, 43, 44, 45, 46, 47, 48, 49, 50, 51, 52] (by decide +kernel) (by decide +kernel)
set_option maxRecDepth 20000 in
theorem gX3_readSection_X0_append : GoodIn wsX3_readSection (wsV RX3 67 RX0 yX0_append wsX0_append) := goodIn_app (goodIn_of _ (by decide +kernel)) ggX3_readSection_X0_append
theorem dX3_readSection_0 : decode cX3_readSection 0 = .ok (.aload_n 0, 1) := by decide +kernel
theorem dX3_readSection_1 : decode cX3_readSection 1 = .ok (.iconst 1, 1) := by decide +kernel
theorem dX3_readSection_2 : decode cX3_readSection 2 = .ok (.sipush 5000, 3) := by decide +kernel
theorem dX3_readSection_5 : decode cX3_readSection 5 = .ok (.invokevirtual 63, 3) := by decide +kernel
theorem dX3_readSection_8 : decode cX3_readSection 8 = .ok (.istore_n 3, 1) := by decide +kernel
theorem dX3_readSection_9 : decode cX3_readSection 9 = .ok (.aload_n 0, 1) := by decide +kernel
theorem dX3_readSection_10 : decode cX3_readSection 10 = .ok (.bipush 47, 2) := by decide +kernel
theorem dX3_readSection_12 : decode cX3_readSection 12 = .ok (.invokevirtual 36, 3) := by decide +kernel
theorem dX3_readSection_15 : decode cX3_readSection 15 = .ok (.aload_n 0, 1) := by decide +kernel
theorem dX3_readSection_16 : decode cX3_readSection 16 = .ok (.iconst 1, 1) := by decide +kernel
theorem dX3_readSection_17 : decode cX3_readSection 17 = .ok (.sipush 5000, 3) := by decide +kernel
theorem dX3_readSection_20 : decode cX3_readSection 20 = .ok (.invokevirtual 63, 3) := by decide +kernel
theorem dX3_readSection_23 : decode cX3_readSection 23 = .ok (.istore 4, 2) := by decide +kernel
theorem dX3_readSection_25 : decode cX3_readSection 25 = .ok (.iconst 0, 1) := by decide +kernel
theorem dX3_readSection_26 : decode cX3_readSection 26 = .ok (.istore 5, 2) := by decide +kernel
theorem dX3_readSection_28 : decode cX3_readSection 28 = .ok (.aload_n 0, 1) := by decide +kernel
theorem dX3_readSection_29 : decode cX3_readSection 29 = .ok (.getfield 25, 3) := by decide +kernel
theorem dX3_readSection_32 : decode cX3_readSection 32 = .ok (.iconst (-1), 1) := by decide +kernel
theorem dX3_readSection_33 : decode cX3_readSection 33 = .ok (.if_icmp .ne 32, 3) := by decide +kernel
theorem dX3_readSection_36 : decode cX3_readSection 36 = .ok (.aload_n 0, 1) := by decide +kernel
theorem dX3_readSection_37 : decode cX3_readSection 37 = .ok (.invokevirtual 40, 3) := by decide +kernel
theorem dX3_readSection_40 : decode cX3_readSection 40 = .ok (.bipush 45, 2) := by decide +kernel
theorem dX3_readSection_42 : decode cX3_readSection 42 = .ok (.if_icmp .ne 23, 3) := by decide +kernel
theorem dX3_readSection_45 : decode cX3_readSection 45 = .ok (.aload_n 0, 1) := by decide +kernel
theorem dX3_readSection_46 : decode cX3_readSection 46 = .ok (.dup, 1) := by decide +kernel
theorem dX3_readSection_47 : decode cX3_readSection 47 = .ok (.getfield 22, 3) := by decide +kernel
theorem dX3_readSection_50 : decode cX3_readSection 50 = .ok (.iconst 1, 1) := by decide +kernel
theorem dX3_readSection_51 : decode cX3_readSection 51 = .ok (.iadd, 1) := by decide +kernel
theorem dX3_readSection_52 : decode cX3_readSection 52 = .ok (.putfield 22, 3) := by decide +kernel
theorem dX3_readSection_55 : decode cX3_readSection 55 = .ok (.aload_n 0, 1) := by decide +kernel
theorem dX3_readSection_56 : decode cX3_readSection 56 = .ok (.iconst 0, 1) := by decide +kernel
theorem dX3_readSection_57 : decode cX3_readSection 57 = .ok (.sipush 500, 3) := by decide +kernel
theorem dX3_readSection_60 : decode cX3_readSection 60 = .ok (.invokevirtual 63, 3) := by decide +kernel
theorem dX3_readSection_63 : decode cX3_readSection 63 = .ok (.istore 5, 2) := by decide +kernel
theorem dX3_readSection_65 : decode cX3_readSection 65 = .ok (.aload_n 0, 1) := by decide +kernel
theorem dX3_readSection_66 : decode cX3_readSection 66 = .ok (.getfield 25, 3) := by decide +kernel
theorem dX3_readSection_69 : decode cX3_readSection 69 = .ok (.iconst (-1), 1) := by decide +kernel
theorem dX3_readSection_70 : decode cX3_readSection 70 = .ok (.if_icmp .ne 14, 3) := by decide +kernel
theorem dX3_readSection_73 : decode cX3_readSection 73 = .ok (.aload_n 1, 1) := by decide +kernel
theorem dX3_readSection_74 : decode cX3_readSection 74 = .ok (.iload_n 3, 1) := by decide +kernel
theorem dX3_readSection_75 : decode cX3_readSection 75 = .ok (.iload 4, 2) := by decide +kernel
theorem dX3_readSection_77 : decode cX3_readSection 77 = .ok (.iload 5, 2) := by decide +kernel
theorem dX3_readSection_79 : decode cX3_readSection 79 = .ok (.iload_n 2, 1) := by decide +kernel
theorem dX3_readSection_80 : decode cX3_readSection 80 = .ok (.invokevirtual 67, 3) := by decide +kernel
theorem dX3_readSection_83 : decode cX3_readSection 83 = .ok (.pop, 1) := by decide +kernel
theorem dX3_readSection_84 : decode cX3_readSection 84 = .ok (.return_, 1) := by decide +kernel
set_option maxRecDepth 20000 in
theorem ggX3_readJoint_X3_readNumber : GoodIn wsX3_readJoint wsX3_readNumber := goodIn_r _ [8, 3, 2, 9, 10, 11, 7, 12, 13, 14, 15, 16, 17, 18, 19, 20, 21, 22, 23, 24, 57, 58, 59, 60, 61] (by decide +kernel) (by decide +kernel)
set_option maxRecDepth 20000 in
theorem gX3_readJoint_X3_readNumber : GoodIn wsX3_readJoint (wsV RX3 63 RX3 yX3_readNumber wsX3_readNumber) := goodIn_app (goodIn_of _ (by decide +kernel)) ggX3_readJoint_X3_readNumber
set_option maxRecDepth 20000 in
theorem ggX3_readJoint_X3_expect : GoodIn wsX3_readJoint wsX3_expect := goodIn_r _ [28, 3, 2, 9, 10, 11, 7, 12, 13, 14, 15, 16, 17, 18, 57, 58, 59, 60, 61] (by decide +kernel) (by decide +kernel)
set_option maxRecDepth 20000 in
theorem gX3_readJoint_X3_expect : GoodIn wsX3_readJoint (wsV RX3 36 RX3 yX3_expect wsX3_expect) := goodIn_app (goodIn_of _ (by decide +kernel)) ggX3_readJoint_X3_expect
set_option maxRecDepth 20000 in
theorem ggX3_readJoint_X3_next : GoodIn wsX3_readJoint wsX3_next := goodIn_r _ [12, 2, 13, 14, 15, 7, 16, 17, 18, 57, 58, 59, 60, 61] (by decide +kernel) (by decide +kernel)
set_option maxRecDepth 20000 in
theorem gX3_readJoint_X3_next : GoodIn wsX3_readJoint (wsV RX3 40 RX3 yX3_next wsX3_next) := goodIn_app (goodIn_of _ (by decide +kernel)) ggX3_readJoint_X3_next
set_option maxRecDepth 20000 in
theorem ggX3_readJoint_X0_canLink : GoodIn wsX3_readJoint wsX0_canLink := goodIn_r _ [33, 34, 35, 36, 37, 32, 38, 39, 40, 41, 23, 42, 47, 48, 49, 50, 51, 52, 53, 54, 55, 56] (by decide +kernel) (by decide +kernel)
set_option maxRecDepth 20000 in
theorem gX3_readJoint_X0_canLink : GoodIn wsX3_readJoint (wsV RX3 74 RX0 yX0_canLink wsX0_canLink) := goodIn_app (goodIn_of _ (by decide +kernel)) ggX3_readJoint_X0_canLink
set_option maxRecDepth 20000 in
theorem ggX3_readJoint_X0_link : GoodIn wsX3_readJoint wsX0_link := goodIn_r _ [46, 34, 39, 40, 47, 48, 49, 50, 51, 52, 53, 54, 55, 56] (by decide +kernel) (by decide +kernel)
set_option maxRecDepth 20000 in
theorem gX3_readJoint_X0_link : GoodIn wsX3_readJoint (wsV RX3 78 RX0 yX0_link wsX0_link) := goodIn_app (goodIn_of _ (by decide +kernel)) ggX3_readJoint_X0_link
theorem dX3_readJoint_0 : decode cX3_readJoint 0 = .ok (.aload_n 0, 1) := by decide +kernel
theorem dX3_readJoint_1 : decode cX3_readJoint 1 = .ok (.iconst 0, 1) := by decide +kernel
theorem dX3_readJoint_2 : decode cX3_readJoint 2 = .ok (.aload_n 1, 1) := by decide +kernel
theorem dX3_readJoint_3 : decode cX3_readJoint 3 = .ok (.getfield 71, 3) := by decide +kernel
theorem dX3_readJoint_6 : decode cX3_readJoint 6 = .ok (.iconst 1, 1) := by decide +kernel
theorem dX3_readJoint_7 : decode cX3_readJoint 7 = .ok (.isub, 1) := by decide +kernel
theorem dX3_readJoint_8 : decode cX3_readJoint 8 = .ok (.invokevirtual 63, 3) := by decide +kernel
theorem dX3_readJoint_11 : decode cX3_readJoint 11 = .ok (.istore_n 2, 1) := by decide +kernel
theorem dX3_readJoint_12 : decode cX3_readJoint 12 = .ok (.aload_n 0, 1) := by decide +kernel
theorem dX3_readJoint_13 : decode cX3_readJoint 13 = .ok (.bipush 61, 2) := by decide +kernel
theorem dX3_readJoint_15 : decode cX3_readJoint 15 = .ok (.invokevirtual 36, 3) := by decide +kernel
theorem dX3_readJoint_18 : decode cX3_readJoint 18 = .ok (.aload_n 0, 1) := by decide +kernel
theorem dX3_readJoint_19 : decode cX3_readJoint 19 = .ok (.invokevirtual 40, 3) := by decide +kernel
theorem dX3_readJoint_22 : decode cX3_readJoint 22 = .ok (.pop, 1) := by decide +kernel
theorem dX3_readJoint_23 : decode cX3_readJoint 23 = .ok (.aload_n 0, 1) := by decide +kernel
theorem dX3_readJoint_24 : decode cX3_readJoint 24 = .ok (.getfield 22, 3) := by decide +kernel
theorem dX3_readJoint_27 : decode cX3_readJoint 27 = .ok (.istore_n 3, 1) := by decide +kernel
theorem dX3_readJoint_28 : decode cX3_readJoint 28 = .ok (.aload_n 0, 1) := by decide +kernel
theorem dX3_readJoint_29 : decode cX3_readJoint 29 = .ok (.iconst 0, 1) := by decide +kernel
theorem dX3_readJoint_30 : decode cX3_readJoint 30 = .ok (.aload_n 1, 1) := by decide +kernel
theorem dX3_readJoint_31 : decode cX3_readJoint 31 = .ok (.getfield 71, 3) := by decide +kernel
theorem dX3_readJoint_34 : decode cX3_readJoint 34 = .ok (.iconst 1, 1) := by decide +kernel
theorem dX3_readJoint_35 : decode cX3_readJoint 35 = .ok (.isub, 1) := by decide +kernel
theorem dX3_readJoint_36 : decode cX3_readJoint 36 = .ok (.invokevirtual 63, 3) := by decide +kernel
theorem dX3_readJoint_39 : decode cX3_readJoint 39 = .ok (.istore 4, 2) := by decide +kernel
theorem dX3_readJoint_41 : decode cX3_readJoint 41 = .ok (.aload_n 0, 1) := by decide +kernel
theorem dX3_readJoint_42 : decode cX3_readJoint 42 = .ok (.getfield 25, 3) := by decide +kernel
theorem dX3_readJoint_45 : decode cX3_readJoint 45 = .ok (.iconst (-1), 1) := by decide +kernel
theorem dX3_readJoint_46 : decode cX3_readJoint 46 = .ok (.if_icmp .eq 4, 3) := by decide +kernel
theorem dX3_readJoint_49 : decode cX3_readJoint 49 = .ok (.return_, 1) := by decide +kernel
theorem dX3_readJoint_50 : decode cX3_readJoint 50 = .ok (.aload_n 1, 1) := by decide +kernel
theorem dX3_readJoint_51 : decode cX3_readJoint 51 = .ok (.iload_n 2, 1) := by decide +kernel
theorem dX3_readJoint_52 : decode cX3_readJoint 52 = .ok (.iload 4, 2) := by decide +kernel
theorem dX3_readJoint_54 : decode cX3_readJoint 54 = .ok (.invokevirtual 74, 3) := by decide +kernel
theorem dX3_readJoint_57 : decode cX3_readJoint 57 = .ok (.ifCond .eq 14, 3) := by decide +kernel
theorem dX3_readJoint_60 : decode cX3_readJoint 60 = .ok (.aload_n 1, 1) := by decide +kernel
theorem dX3_readJoint_61 : decode cX3_readJoint 61 = .ok (.iload_n 2, 1) := by decide +kernel
theorem dX3_readJoint_62 : decode cX3_readJoint 62 = .ok (.iload 4, 2) := by decide +kernel
theorem dX3_readJoint_64 : decode cX3_readJoint 64 = .ok (.invokevirtual 78, 3) := by decide +kernel
theorem dX3_readJoint_67 : decode cX3_readJoint 67 = .ok (.pop, 1) := by decide +kernel
theorem dX3_readJoint_68 : decode cX3_readJoint 68 = .ok (.goto 8, 3) := by decide +kernel
theorem dX3_readJoint_71 : decode cX3_readJoint 71 = .ok (.aload_n 0, 1) := by decide +kernel
theorem dX3_readJoint_72 : decode cX3_readJoint 72 = .ok (.iload_n 3, 1) := by decide +kernel
theorem dX3_readJoint_73 : decode cX3_readJoint 73 = .ok (.putfield 25, 3) := by decide +kernel
theorem dX3_readJoint_76 : decode cX3_readJoint 76 = .ok (.return_, 1) := by decide +kernel
set_option maxRecDepth 20000 in
theorem ggX3_readNumber_X3_next : GoodIn wsX3_readNumber wsX3_next := goodIn_r _ [7, 2, 8, 9, 10, 6, 11, 12, 13, 20, 21, 22, 23, 24] (by decide +kernel) (by decide +kernel)
set_option maxRecDepth 20000 in
theorem gX3_readNumber_X3_next : GoodIn wsX3_readNumber (wsV RX3 40 RX3 yX3_next wsX3_next) := goodIn_app (goodIn_of _ (by decide +kernel)) ggX3_readNumber_X3_next
set_option maxRecDepth 20000 in
theorem ggX3_readNumber_X3_isDigit : GoodIn wsX3_readNumber wsX3_isDigit := goodIn_r _ [16] (by decide +kernel) (by decide +kernel)
set_option maxRecDepth 20000 in
theorem gX3_readNumber_X3_isDigit : GoodIn wsX3_readNumber (va_wsS RX3 44 yX3_isDigit wsX3_isDigit) := goodIn_app (goodIn_of _ (by decide +kernel)) ggX3_readNumber_X3_isDigit
set_option maxRecDepth 20000 in
theorem ggX3_readNumber_X3_codeAt : GoodIn wsX3_readNumber wsX3_codeAt := goodIn_r _ [11, 12, 13, 20, 21, 22, 23, 24] (by decide +kernel) (by decide +kernel)
set_option maxRecDepth 20000 in
theorem gX3_readNumber_X3_codeAt : GoodIn wsX3_readNumber (wsV RX3 81 RX3 yX3_codeAt wsX3_codeAt) := goodIn_app (goodIn_of _ (by decide +kernel)) ggX3_readNumber_X3_codeAt
set_option maxRecDepth 20000 in
theorem ggX3_readNumber_X4_isWithin : GoodIn wsX3_readNumber wsX4_isWithin := goodIn_r _ [19] (by decide +kernel) (by decide +kernel)
set_option maxRecDepth 20000 in
theorem gX3_readNumber_X4_isWithin_n85 : GoodIn wsX3_readNumber (wsX4_isWithin) := ggX3_readNumber_X4_isWithin
theorem dX3_readNumber_0 : decode cX3_readNumber 0 = .ok (.aload_n 0, 1) := by decide +kernel
theorem dX3_readNumber_1 : decode cX3_readNumber 1 = .ok (.getfield 25, 3) := by decide +kernel
theorem dX3_readNumber_4 : decode cX3_readNumber 4 = .ok (.iconst (-1), 1) := by decide +kernel
theorem dX3_readNumber_5 : decode cX3_readNumber 5 = .ok (.if_icmp .eq 5, 3) := by decide +kernel
theorem dX3_readNumber_8 : decode cX3_readNumber 8 = .ok (.iconst 0, 1) := by decide +kernel
theorem dX3_readNumber_9 : decode cX3_readNumber 9 = .ok (.ireturn, 1) := by decide +kernel
theorem dX3_readNumber_10 : decode cX3_readNumber 10 = .ok (.iconst 0, 1) := by decide +kernel
theorem dX3_readNumber_11 : decode cX3_readNumber 11 = .ok (.istore_n 3, 1) := by decide +kernel
theorem dX3_readNumber_12 : decode cX3_readNumber 12 = .ok (.iconst 0, 1) := by decide +kernel
theorem dX3_readNumber_13 : decode cX3_readNumber 13 = .ok (.istore 4, 2) := by decide +kernel
theorem dX3_readNumber_15 : decode cX3_readNumber 15 = .ok (.aload_n 0, 1) := by decide +kernel
theorem dX3_readNumber_16 : decode cX3_readNumber 16 = .ok (.invokevirtual 40, 3) := by decide +kernel
theorem dX3_readNumber_19 : decode cX3_readNumber 19 = .ok (.istore 5, 2) := by decide +kernel
theorem dX3_readNumber_21 : decode cX3_readNumber 21 = .ok (.aload_n 0, 1) := by decide +kernel
theorem dX3_readNumber_22 : decode cX3_readNumber 22 = .ok (.getfield 22, 3) := by decide +kernel
theorem dX3_readNumber_25 : decode cX3_readNumber 25 = .ok (.istore 6, 2) := by decide +kernel
theorem dX3_readNumber_27 : decode cX3_readNumber 27 = .ok (.iconst 0, 1) := by decide +kernel
theorem dX3_readNumber_28 : decode cX3_readNumber 28 = .ok (.istore 7, 2) := by decide +kernel
theorem dX3_readNumber_30 : decode cX3_readNumber 30 = .ok (.iload 7, 2) := by decide +kernel
theorem dX3_readNumber_32 : decode cX3_readNumber 32 = .ok (.bipush 120, 2) := by decide +kernel
theorem dX3_readNumber_34 : decode cX3_readNumber 34 = .ok (.if_icmp .ge 61, 3) := by decide +kernel
theorem dX3_readNumber_37 : decode cX3_readNumber 37 = .ok (.iload 5, 2) := by decide +kernel
theorem dX3_readNumber_39 : decode cX3_readNumber 39 = .ok (.invokestatic 44, 3) := by decide +kernel
theorem dX3_readNumber_42 : decode cX3_readNumber 42 = .ok (.ifCond .eq 53, 3) := by decide +kernel
theorem dX3_readNumber_45 : decode cX3_readNumber 45 = .ok (.iload 4, 2) := by decide +kernel
theorem dX3_readNumber_47 : decode cX3_readNumber 47 = .ok (.iconst 4, 1) := by decide +kernel
theorem dX3_readNumber_48 : decode cX3_readNumber 48 = .ok (.if_icmp .ge 16, 3) := by decide +kernel
theorem dX3_readNumber_51 : decode cX3_readNumber 51 = .ok (.bipush 10, 2) := by decide +kernel
theorem dX3_readNumber_53 : decode cX3_readNumber 53 = .ok (.iload_n 3, 1) := by decide +kernel
theorem dX3_readNumber_54 : decode cX3_readNumber 54 = .ok (.imul, 1) := by decide +kernel
theorem dX3_readNumber_55 : decode cX3_readNumber 55 = .ok (.iload 5, 2) := by decide +kernel
theorem dX3_readNumber_57 : decode cX3_readNumber 57 = .ok (.iadd, 1) := by decide +kernel
theorem dX3_readNumber_58 : decode cX3_readNumber 58 = .ok (.bipush 48, 2) := by decide +kernel
theorem dX3_readNumber_60 : decode cX3_readNumber 60 = .ok (.isub, 1) := by decide +kernel
theorem dX3_readNumber_61 : decode cX3_readNumber 61 = .ok (.goto 4, 3) := by decide +kernel
theorem dX3_readNumber_64 : decode cX3_readNumber 64 = .ok (.iload_n 3, 1) := by decide +kernel
theorem dX3_readNumber_65 : decode cX3_readNumber 65 = .ok (.istore_n 3, 1) := by decide +kernel
theorem dX3_readNumber_66 : decode cX3_readNumber 66 = .ok (.iinc 4 1, 3) := by decide +kernel
theorem dX3_readNumber_69 : decode cX3_readNumber 69 = .ok (.aload_n 0, 1) := by decide +kernel
theorem dX3_readNumber_70 : decode cX3_readNumber 70 = .ok (.dup, 1) := by decide +kernel
theorem dX3_readNumber_71 : decode cX3_readNumber 71 = .ok (.getfield 22, 3) := by decide +kernel
theorem dX3_readNumber_74 : decode cX3_readNumber 74 = .ok (.iconst 1, 1) := by decide +kernel
theorem dX3_readNumber_75 : decode cX3_readNumber 75 = .ok (.iadd, 1) := by decide +kernel
theorem dX3_readNumber_76 : decode cX3_readNumber 76 = .ok (.putfield 22, 3) := by decide +kernel
theorem dX3_readNumber_79 : decode cX3_readNumber 79 = .ok (.aload_n 0, 1) := by decide +kernel
theorem dX3_readNumber_80 : decode cX3_readNumber 80 = .ok (.aload_n 0, 1) := by decide +kernel
theorem dX3_readNumber_81 : decode cX3_readNumber 81 = .ok (.getfield 22, 3) := by decide +kernel
theorem dX3_readNumber_84 : decode cX3_readNumber 84 = .ok (.invokevirtual 81, 3) := by decide +kernel
theorem dX3_readNumber_87 : decode cX3_readNumber 87 = .ok (.istore 5, 2) := by decide +kernel
theorem dX3_readNumber_89 : decode cX3_readNumber 89 = .ok (.iinc 7 1, 3) := by decide +kernel
theorem dX3_readNumber_92 : decode cX3_readNumber 92 = .ok (.goto (-62), 3) := by decide +kernel
theorem dX3_readNumber_95 : decode cX3_readNumber 95 = .ok (.iload 4, 2) := by decide +kernel
theorem dX3_readNumber_97 : decode cX3_readNumber 97 = .ok (.ifCond .eq 18, 3) := by decide +kernel
theorem dX3_readNumber_100 : decode cX3_readNumber 100 = .ok (.iload 4, 2) := by decide +kernel
theorem dX3_readNumber_102 : decode cX3_readNumber 102 = .ok (.iconst 4, 1) := by decide +kernel
theorem dX3_readNumber_103 : decode cX3_readNumber 103 = .ok (.if_icmp .gt 12, 3) := by decide +kernel
theorem dX3_readNumber_106 : decode cX3_readNumber 106 = .ok (.iload_n 3, 1) := by decide +kernel
theorem dX3_readNumber_107 : decode cX3_readNumber 107 = .ok (.iload_n 1, 1) := by decide +kernel
theorem dX3_readNumber_108 : decode cX3_readNumber 108 = .ok (.iload_n 2, 1) := by decide +kernel
theorem dX3_readNumber_109 : decode cX3_readNumber 109 = .ok (.invokestatic 85, 3) := by decide +kernel
theorem dX3_readNumber_112 : decode cX3_readNumber 112 = .ok (.ifCond .ne 9, 3) := by decide +kernel
theorem dX3_readNumber_115 : decode cX3_readNumber 115 = .ok (.aload_n 0, 1) := by decide +kernel
theorem dX3_readNumber_116 : decode cX3_readNumber 116 = .ok (.iload 6, 2) := by decide +kernel
theorem dX3_readNumber_118 : decode cX3_readNumber 118 = .ok (.putfield 25, 3) := by decide +kernel
theorem dX3_readNumber_121 : decode cX3_readNumber 121 = .ok (.iload_n 3, 1) := by decide +kernel
theorem dX3_readNumber_122 : decode cX3_readNumber 122 = .ok (.ireturn, 1) := by decide +kernel
set_option maxRecDepth 20000 in
theorem ggX3_expect_X3_next : GoodIn wsX3_expect wsX3_next := goodIn_r _ [7, 2, 8, 9, 10, 6, 11, 12, 13, 14, 15, 16, 17, 18] (by decide +kernel) (by decide +kernel)
set_option maxRecDepth 20000 in
theorem gX3_expect_X3_next : GoodIn wsX3_expect (wsV RX3 40 RX3 yX3_next wsX3_next) := goodIn_app (goodIn_of _ (by decide +kernel)) ggX3_expect_X3_next
theorem dX3_expect_0 : decode cX3_expect 0 = .ok (.aload_n 0, 1) := by decide +kernel
theorem dX3_expect_1 : decode cX3_expect 1 = .ok (.getfield 25, 3) := by decide +kernel
theorem dX3_expect_4 : decode cX3_expect 4 = .ok (.iconst (-1), 1) := by decide +kernel
theorem dX3_expect_5 : decode cX3_expect 5 = .ok (.if_icmp .eq 4, 3) := by decide +kernel
theorem dX3_expect_8 : decode cX3_expect 8 = .ok (.return_, 1) := by decide +kernel
theorem dX3_expect_9 : decode cX3_expect 9 = .ok (.aload_n 0, 1) := by decide +kernel
theorem dX3_expect_10 : decode cX3_expect 10 = .ok (.invokevirtual 40, 3) := by decide +kernel
theorem dX3_expect_13 : decode cX3_expect 13 = .ok (.iload_n 1, 1) := by decide +kernel
theorem dX3_expect_14 : decode cX3_expect 14 = .ok (.if_icmp .ne 16, 3) := by decide +kernel
theorem dX3_expect_17 : decode cX3_expect 17 = .ok (.aload_n 0, 1) := by decide +kernel
theorem dX3_expect_18 : decode cX3_expect 18 = .ok (.dup, 1) := by decide +kernel
theorem dX3_expect_19 : decode cX3_expect 19 = .ok (.getfield 22, 3) := by decide +kernel
theorem dX3_expect_22 : decode cX3_expect 22 = .ok (.iconst 1, 1) := by decide +kernel
theorem dX3_expect_23 : decode cX3_expect 23 = .ok (.iadd, 1) := by decide +kernel
theorem dX3_expect_24 : decode cX3_expect 24 = .ok (.putfield 22, 3) := by decide +kernel
theorem dX3_expect_27 : decode cX3_expect 27 = .ok (.goto 11, 3) := by decide +kernel
theorem dX3_expect_30 : decode cX3_expect 30 = .ok (.aload_n 0, 1) := by decide +kernel
theorem dX3_expect_31 : decode cX3_expect 31 = .ok (.aload_n 0, 1) := by decide +kernel
theorem dX3_expect_32 : decode cX3_expect 32 = .ok (.getfield 22, 3) := by decide +kernel
theorem dX3_expect_35 : decode cX3_expect 35 = .ok (.putfield 25, 3) := by decide +kernel
theorem dX3_expect_38 : decode cX3_expect 38 = .ok (.return_, 1) := by decide +kernel
set_option maxRecDepth 20000 in
theorem ggX3_next_X3_codeAt : GoodIn wsX3_next wsX3_codeAt := goodIn_r _ [6, 7, 8, 9, 10, 11, 12, 13] (by decide +kernel) (by decide +kernel)
set_option maxRecDepth 20000 in
theorem gX3_next_X3_codeAt : GoodIn wsX3_next (wsV RX3 81 RX3 yX3_codeAt wsX3_codeAt) := goodIn_app (goodIn_of _ (by decide +kernel)) ggX3_next_X3_codeAt
theorem dX3_next_0 : decode cX3_next 0 = .ok (.iconst 0, 1) := by decide +kernel
theorem dX3_next_1 : decode cX3_next 1 = .ok (.istore_n 1, 1) := by decide +kernel
theorem dX3_next_2 : decode cX3_next 2 = .ok (.iload_n 1, 1) := by decide +kernel
theorem dX3_next_3 : decode cX3_next 3 = .ok (.bipush 120, 2) := by decide +kernel
theorem dX3_next_5 : decode cX3_next 5 = .ok (.if_icmp .ge 32, 3) := by decide +kernel
theorem dX3_next_8 : decode cX3_next 8 = .ok (.aload_n 0, 1) := by decide +kernel
theorem dX3_next_9 : decode cX3_next 9 = .ok (.aload_n 0, 1) := by decide +kernel
theorem dX3_next_10 : decode cX3_next 10 = .ok (.getfield 22, 3) := by decide +kernel
theorem dX3_next_13 : decode cX3_next 13 = .ok (.invokevirtual 81, 3) := by decide +kernel
theorem dX3_next_16 : decode cX3_next 16 = .ok (.bipush 32, 2) := by decide +kernel
theorem dX3_next_18 : decode cX3_next 18 = .ok (.if_icmp .ne 19, 3) := by decide +kernel
theorem dX3_next_21 : decode cX3_next 21 = .ok (.aload_n 0, 1) := by decide +kernel
theorem dX3_next_22 : decode cX3_next 22 = .ok (.dup, 1) := by decide +kernel
theorem dX3_next_23 : decode cX3_next 23 = .ok (.getfield 22, 3) := by decide +kernel
theorem dX3_next_26 : decode cX3_next 26 = .ok (.iconst 1, 1) := by decide +kernel
theorem dX3_next_27 : decode cX3_next 27 = .ok (.iadd, 1) := by decide +kernel
theorem dX3_next_28 : decode cX3_next 28 = .ok (.putfield 22, 3) := by decide +kernel
theorem dX3_next_31 : decode cX3_next 31 = .ok (.iinc 1 1, 3) := by decide +kernel
theorem dX3_next_34 : decode cX3_next 34 = .ok (.goto (-32), 3) := by decide +kernel
theorem dX3_next_37 : decode cX3_next 37 = .ok (.aload_n 0, 1) := by decide +kernel
theorem dX3_next_38 : decode cX3_next 38 = .ok (.aload_n 0, 1) := by decide +kernel
theorem dX3_next_39 : decode cX3_next 39 = .ok (.getfield 22, 3) := by decide +kernel
theorem dX3_next_42 : decode cX3_next 42 = .ok (.invokevirtual 81, 3) := by decide +kernel
theorem dX3_next_45 : decode cX3_next 45 = .ok (.ireturn, 1) := by decide +kernel
set_option maxRecDepth 20000 in
theorem ggX3_isAtEnd_X3_next : GoodIn wsX3_isAtEnd wsX3_next := goodIn_r _ [5, 6, 7, 8, 9, 4, 10, 11, 12, 13, 14, 15, 16, 17] (by decide +kernel) (by decide +kernel)
set_option maxRecDepth 20000 in
theorem gX3_isAtEnd_X3_next : GoodIn wsX3_isAtEnd (wsV RX3 40 RX3 yX3_next wsX3_next) := goodIn_app (goodIn_of _ (by decide +kernel)) ggX3_isAtEnd_X3_next
theorem dX3_isAtEnd_0 : decode cX3_isAtEnd 0 = .ok (.aload_n 0, 1) := by decide +kernel
theorem dX3_isAtEnd_1 : decode cX3_isAtEnd 1 = .ok (.invokevirtual 40, 3) := by decide +kernel
theorem dX3_isAtEnd_4 : decode cX3_isAtEnd 4 = .ok (.iconst (-1), 1) := by decide +kernel
theorem dX3_isAtEnd_5 : decode cX3_isAtEnd 5 = .ok (.if_icmp .ne 7, 3) := by decide +kernel
theorem dX3_isAtEnd_8 : decode cX3_isAtEnd 8 = .ok (.iconst 1, 1) := by decide +kernel
theorem dX3_isAtEnd_9 : decode cX3_isAtEnd 9 = .ok (.goto 4, 3) := by decide +kernel
theorem dX3_isAtEnd_12 : decode cX3_isAtEnd 12 = .ok (.iconst 0, 1) := by decide +kernel
theorem dX3_isAtEnd_13 : decode cX3_isAtEnd 13 = .ok (.ireturn, 1) := by decide +kernel
theorem dX3_codeAt_0 : decode cX3_codeAt 0 = .ok (.iload_n 1, 1) := by decide +kernel
theorem dX3_codeAt_1 : decode cX3_codeAt 1 = .ok (.ifCond .lt 26, 3) := by decide +kernel
theorem dX3_codeAt_4 : decode cX3_codeAt 4 = .ok (.iload_n 1, 1) := by decide +kernel
theorem dX3_codeAt_5 : decode cX3_codeAt 5 = .ok (.aload_n 0, 1) := by decide +kernel
theorem dX3_codeAt_6 : decode cX3_codeAt 6 = .ok (.getfield 15, 3) := by decide +kernel
theorem dX3_codeAt_9 : decode cX3_codeAt 9 = .ok (.if_icmp .ge 18, 3) := by decide +kernel
theorem dX3_codeAt_12 : decode cX3_codeAt 12 = .ok (.iload_n 1, 1) := by decide +kernel
theorem dX3_codeAt_13 : decode cX3_codeAt 13 = .ok (.bipush 120, 2) := by decide +kernel
theorem dX3_codeAt_15 : decode cX3_codeAt 15 = .ok (.if_icmp .ge 12, 3) := by decide +kernel
theorem dX3_codeAt_18 : decode cX3_codeAt 18 = .ok (.aload_n 0, 1) := by decide +kernel
theorem dX3_codeAt_19 : decode cX3_codeAt 19 = .ok (.getfield 9, 3) := by decide +kernel
theorem dX3_codeAt_22 : decode cX3_codeAt 22 = .ok (.iload_n 1, 1) := by decide +kernel
theorem dX3_codeAt_23 : decode cX3_codeAt 23 = .ok (.iaload, 1) := by decide +kernel
theorem dX3_codeAt_24 : decode cX3_codeAt 24 = .ok (.goto 4, 3) := by decide +kernel
theorem dX3_codeAt_27 : decode cX3_codeAt 27 = .ok (.iconst (-1), 1) := by decide +kernel
theorem dX3_codeAt_28 : decode cX3_codeAt 28 = .ok (.ireturn, 1) := by decide +kernel
theorem dX3_isDigit_0 : decode cX3_isDigit 0 = .ok (.iload_n 0, 1) := by decide +kernel
theorem dX3_isDigit_1 : decode cX3_isDigit 1 = .ok (.bipush 48, 2) := by decide +kernel
theorem dX3_isDigit_3 : decode cX3_isDigit 3 = .ok (.if_icmp .lt 13, 3) := by decide +kernel
theorem dX3_isDigit_6 : decode cX3_isDigit 6 = .ok (.iload_n 0, 1) := by decide +kernel
theorem dX3_isDigit_7 : decode cX3_isDigit 7 = .ok (.bipush 57, 2) := by decide +kernel
theorem dX3_isDigit_9 : decode cX3_isDigit 9 = .ok (.if_icmp .gt 7, 3) := by decide +kernel
theorem dX3_isDigit_12 : decode cX3_isDigit 12 = .ok (.iconst 1, 1) := by decide +kernel
theorem dX3_isDigit_13 : decode cX3_isDigit 13 = .ok (.goto 4, 3) := by decide +kernel
theorem dX3_isDigit_16 : decode cX3_isDigit 16 = .ok (.iconst 0, 1) := by decide +kernel
theorem dX3_isDigit_17 : decode cX3_isDigit 17 = .ok (.ireturn, 1) := by decide +kernel
end
section
set_option maxRecDepth 20000 in
theorem ggX2_init_X0_init : GoodIn wsX2_init wsX0_init := goodIn_r _ [10, 11, 2, 3, 12, 13, 14, 15, 16, 17, 18, 19, 20, 21, 22, 23, 26, 27, 28, 29, 30, 31, 32, 33, 34, 35] (by decide +kernel) (by decide +kernel)
set_option maxRecDepth 20000 in
theorem gX2_init_X0_init_n21 : GoodIn wsX2_init (wsX0_init) := ggX2_init_X0_init
theorem dX2_init_0 : decode cX2_init 0 = .ok (.aload_n 0, 1) := by decide +kernel
theorem dX2_init_1 : decode cX2_init 1 = .ok (.invokespecial 3, 3) := by decide +kernel
theorem dX2_init_4 : decode cX2_init 4 = .ok (.aload_n 0, 1) := by decide +kernel
theorem dX2_init_5 : decode cX2_init 5 = .ok (.iconst 5, 1) := by decide +kernel
theorem dX2_init_6 : decode cX2_init 6 = .ok (.anewarray 9, 3) := by decide +kernel
theorem dX2_init_9 : decode cX2_init 9 = .ok (.putfield 11, 3) := by decide +kernel
theorem dX2_init_12 : decode cX2_init 12 = .ok (.aload_n 0, 1) := by decide +kernel
theorem dX2_init_13 : decode cX2_init 13 = .ok (.iconst 0, 1) := by decide +kernel
theorem dX2_init_14 : decode cX2_init 14 = .ok (.putfield 17, 3) := by decide +kernel
theorem dX2_init_17 : decode cX2_init 17 = .ok (.iconst 0, 1) := by decide +kernel
theorem dX2_init_18 : decode cX2_init 18 = .ok (.istore_n 1, 1) := by decide +kernel
theorem dX2_init_19 : decode cX2_init 19 = .ok (.iload_n 1, 1) := by decide +kernel
theorem dX2_init_20 : decode cX2_init 20 = .ok (.aload_n 0, 1) := by decide +kernel
theorem dX2_init_21 : decode cX2_init 21 = .ok (.getfield 11, 3) := by decide +kernel
theorem dX2_init_24 : decode cX2_init 24 = .ok (.arraylength, 1) := by decide +kernel
theorem dX2_init_25 : decode cX2_init 25 = .ok (.if_icmp .ge 22, 3) := by decide +kernel
theorem dX2_init_28 : decode cX2_init 28 = .ok (.aload_n 0, 1) := by decide +kernel
theorem dX2_init_29 : decode cX2_init 29 = .ok (.getfield 11, 3) := by decide +kernel
theorem dX2_init_32 : decode cX2_init 32 = .ok (.iload_n 1, 1) := by decide +kernel
theorem dX2_init_33 : decode cX2_init 33 = .ok (.new 9, 3) := by decide +kernel
theorem dX2_init_36 : decode cX2_init 36 = .ok (.dup, 1) := by decide +kernel
theorem dX2_init_37 : decode cX2_init 37 = .ok (.invokespecial 21, 3) := by decide +kernel
theorem dX2_init_40 : decode cX2_init 40 = .ok (.aastore, 1) := by decide +kernel
theorem dX2_init_41 : decode cX2_init 41 = .ok (.iinc 1 1, 3) := by decide +kernel
theorem dX2_init_44 : decode cX2_init 44 = .ok (.goto (-25), 3) := by decide +kernel
theorem dX2_init_47 : decode cX2_init 47 = .ok (.return_, 1) := by decide +kernel
theorem dX2_isEmpty_0 : decode cX2_isEmpty 0 = .ok (.aload_n 0, 1) := by decide +kernel
theorem dX2_isEmpty_1 : decode cX2_isEmpty 1 = .ok (.getfield 17, 3) := by decide +kernel
theorem dX2_isEmpty_4 : decode cX2_isEmpty 4 = .ok (.ifCond .gt 7, 3) := by decide +kernel
theorem dX2_isEmpty_7 : decode cX2_isEmpty 7 = .ok (.iconst 1, 1) := by decide +kernel
theorem dX2_isEmpty_8 : decode cX2_isEmpty 8 = .ok (.goto 4, 3) := by decide +kernel
theorem dX2_isEmpty_11 : decode cX2_isEmpty 11 = .ok (.iconst 0, 1) := by decide +kernel
theorem dX2_isEmpty_12 : decode cX2_isEmpty 12 = .ok (.ireturn, 1) := by decide +kernel
set_option maxRecDepth 20000 in
theorem ggX2_keep_X2_dropOldest : GoodIn wsX2_keep wsX2_dropOldest := goodIn_r _ [7, 2, 1, 27, 28] (by decide +kernel) (by decide +kernel)
set_option maxRecDepth 20000 in
theorem gX2_keep_X2_dropOldest : GoodIn wsX2_keep (wsV RX2 22 RX2 yX2_dropOldest wsX2_dropOldest) := goodIn_app (goodIn_of _ (by decide +kernel)) ggX2_keep_X2_dropOldest
set_option maxRecDepth 20000 in
theorem ggX2_keep_X2_stateAt : GoodIn wsX2_keep wsX2_stateAt := goodIn_r _ [11, 2, 27, 28] (by decide +kernel) (by decide +kernel)
set_option maxRecDepth 20000 in
theorem gX2_keep_X2_stateAt : GoodIn wsX2_keep (wsV RX2 25 RX2 yX2_stateAt wsX2_stateAt) := goodIn_app (goodIn_of _ (by decide +kernel)) ggX2_keep_X2_stateAt
set_option maxRecDepth 20000 in
theorem ggX2_keep_X0_copyFrom : GoodIn wsX2_keep wsX0_copyFrom := goodIn_r _ [16, 17, 18, 19, 20, 21, 22, 23, 24, 25, 26, 29, 30, 31, 32, 33, 34, 35, 36, 37, 38] (by decide +kernel) (by decide +kernel)
set_option maxRecDepth 20000 in
theorem gX2_keep_X0_copyFrom : GoodIn wsX2_keep (wsV RX2 29 RX0 yX0_copyFrom wsX0_copyFrom) := goodIn_app (goodIn_of _ (by decide +kernel)) ggX2_keep_X0_copyFrom
theorem dX2_keep_0 : decode cX2_keep 0 = .ok (.aload_n 0, 1) := by decide +kernel
theorem dX2_keep_1 : decode cX2_keep 1 = .ok (.getfield 17, 3) := by decide +kernel
theorem dX2_keep_4 : decode cX2_keep 4 = .ok (.aload_n 0, 1) := by decide +kernel
theorem dX2_keep_5 : decode cX2_keep 5 = .ok (.getfield 11, 3) := by decide +kernel
theorem dX2_keep_8 : decode cX2_keep 8 = .ok (.arraylength, 1) := by decide +kernel
theorem dX2_keep_9 : decode cX2_keep 9 = .ok (.if_icmp .lt 7, 3) := by decide +kernel
theorem dX2_keep_12 : decode cX2_keep 12 = .ok (.aload_n 0, 1) := by decide +kernel
theorem dX2_keep_13 : decode cX2_keep 13 = .ok (.invokevirtual 22, 3) := by decide +kernel
theorem dX2_keep_16 : decode cX2_keep 16 = .ok (.aload_n 0, 1) := by decide +kernel
theorem dX2_keep_17 : decode cX2_keep 17 = .ok (.aload_n 0, 1) := by decide +kernel
theorem dX2_keep_18 : decode cX2_keep 18 = .ok (.getfield 17, 3) := by decide +kernel
theorem dX2_keep_21 : decode cX2_keep 21 = .ok (.invokevirtual 25, 3) := by decide +kernel
theorem dX2_keep_24 : decode cX2_keep 24 = .ok (.astore_n 2, 1) := by decide +kernel
theorem dX2_keep_25 : decode cX2_keep 25 = .ok (.aload_n 2, 1) := by decide +kernel
theorem dX2_keep_26 : decode cX2_keep 26 = .ok (.ifnull 18, 3) := by decide +kernel
theorem dX2_keep_29 : decode cX2_keep 29 = .ok (.aload_n 2, 1) := by decide +kernel
theorem dX2_keep_30 : decode cX2_keep 30 = .ok (.aload_n 1, 1) := by decide +kernel
theorem dX2_keep_31 : decode cX2_keep 31 = .ok (.invokevirtual 29, 3) := by decide +kernel
theorem dX2_keep_34 : decode cX2_keep 34 = .ok (.aload_n 0, 1) := by decide +kernel
theorem dX2_keep_35 : decode cX2_keep 35 = .ok (.dup, 1) := by decide +kernel
theorem dX2_keep_36 : decode cX2_keep 36 = .ok (.getfield 17, 3) := by decide +kernel
theorem dX2_keep_39 : decode cX2_keep 39 = .ok (.iconst 1, 1) := by decide +kernel
theorem dX2_keep_40 : decode cX2_keep 40 = .ok (.iadd, 1) := by decide +kernel
theorem dX2_keep_41 : decode cX2_keep 41 = .ok (.putfield 17, 3) := by decide +kernel
theorem dX2_keep_44 : decode cX2_keep 44 = .ok (.return_, 1) := by decide +kernel
set_option maxRecDepth 20000 in
theorem ggX2_restore_X2_stateAt : GoodIn wsX2_restore wsX2_stateAt := goodIn_r _ [6, 7, 23, 24] (by decide +kernel) (by decide +kernel)
set_option maxRecDepth 20000 in
theorem gX2_restore_X2_stateAt : GoodIn wsX2_restore (wsV RX2 25 RX2 yX2_stateAt wsX2_stateAt) := goodIn_app (goodIn_of _ (by decide +kernel)) ggX2_restore_X2_stateAt
set_option maxRecDepth 20000 in
theorem ggX2_restore_X0_copyFrom : GoodIn wsX2_restore wsX0_copyFrom := goodIn_r _ [12, 13, 14, 15, 16, 17, 18, 19, 20, 21, 22, 25, 26, 27, 28, 29, 30, 31, 32, 33, 34] (by decide +kernel) (by decide +kernel)
set_option maxRecDepth 20000 in
theorem gX2_restore_X0_copyFrom : GoodIn wsX2_restore (wsV RX2 29 RX0 yX0_copyFrom wsX0_copyFrom) := goodIn_app (goodIn_of _ (by decide +kernel)) ggX2_restore_X0_copyFrom
theorem dX2_restore_0 : decode cX2_restore 0 = .ok (.aload_n 0, 1) := by decide +kernel
theorem dX2_restore_1 : decode cX2_restore 1 = .ok (.aload_n 0, 1) := by decide +kernel
theorem dX2_restore_2 : decode cX2_restore 2 = .ok (.getfield 17, 3) := by decide +kernel
theorem dX2_restore_5 : decode cX2_restore 5 = .ok (.iconst 1, 1) := by decide +kernel
theorem dX2_restore_6 : decode cX2_restore 6 = .ok (.isub, 1) := by decide +kernel
theorem dX2_restore_7 : decode cX2_restore 7 = .ok (.invokevirtual 25, 3) := by decide +kernel
theorem dX2_restore_10 : decode cX2_restore 10 = .ok (.astore_n 2, 1) := by decide +kernel
theorem dX2_restore_11 : decode cX2_restore 11 = .ok (.aload_n 2, 1) := by decide +kernel
theorem dX2_restore_12 : decode cX2_restore 12 = .ok (.ifnull 18, 3) := by decide +kernel
theorem dX2_restore_15 : decode cX2_restore 15 = .ok (.aload_n 1, 1) := by decide +kernel
theorem dX2_restore_16 : decode cX2_restore 16 = .ok (.aload_n 2, 1) := by decide +kernel
theorem dX2_restore_17 : decode cX2_restore 17 = .ok (.invokevirtual 29, 3) := by decide +kernel
theorem dX2_restore_20 : decode cX2_restore 20 = .ok (.aload_n 0, 1) := by decide +kernel
theorem dX2_restore_21 : decode cX2_restore 21 = .ok (.dup, 1) := by decide +kernel
theorem dX2_restore_22 : decode cX2_restore 22 = .ok (.getfield 17, 3) := by decide +kernel
theorem dX2_restore_25 : decode cX2_restore 25 = .ok (.iconst 1, 1) := by decide +kernel
theorem dX2_restore_26 : decode cX2_restore 26 = .ok (.isub, 1) := by decide +kernel
theorem dX2_restore_27 : decode cX2_restore 27 = .ok (.putfield 17, 3) := by decide +kernel
theorem dX2_restore_30 : decode cX2_restore 30 = .ok (.return_, 1) := by decide +kernel
theorem dX2_stateAt_0 : decode cX2_stateAt 0 = .ok (.iload_n 1, 1) := by decide +kernel
theorem dX2_stateAt_1 : decode cX2_stateAt 1 = .ok (.ifCond .lt 21, 3) := by decide +kernel
theorem dX2_stateAt_4 : decode cX2_stateAt 4 = .ok (.iload_n 1, 1) := by decide +kernel
theorem dX2_stateAt_5 : decode cX2_stateAt 5 = .ok (.aload_n 0, 1) := by decide +kernel
theorem dX2_stateAt_6 : decode cX2_stateAt 6 = .ok (.getfield 11, 3) := by decide +kernel
theorem dX2_stateAt_9 : decode cX2_stateAt 9 = .ok (.arraylength, 1) := by decide +kernel
theorem dX2_stateAt_10 : decode cX2_stateAt 10 = .ok (.if_icmp .ge 12, 3) := by decide +kernel
theorem dX2_stateAt_13 : decode cX2_stateAt 13 = .ok (.aload_n 0, 1) := by decide +kernel
theorem dX2_stateAt_14 : decode cX2_stateAt 14 = .ok (.getfield 11, 3) := by decide +kernel
theorem dX2_stateAt_17 : decode cX2_stateAt 17 = .ok (.iload_n 1, 1) := by decide +kernel
theorem dX2_stateAt_18 : decode cX2_stateAt 18 = .ok (.aaload, 1) := by decide +kernel
theorem dX2_stateAt_19 : decode cX2_stateAt 19 = .ok (.goto 4, 3) := by decide +kernel
theorem dX2_stateAt_22 : decode cX2_stateAt 22 = .ok (.aconst_null, 1) := by decide +kernel
theorem dX2_stateAt_23 : decode cX2_stateAt 23 = .ok (.areturn, 1) := by decide +kernel
theorem dX2_dropOldest_0 : decode cX2_dropOldest 0 = .ok (.aload_n 0, 1) := by decide +kernel
theorem dX2_dropOldest_1 : decode cX2_dropOldest 1 = .ok (.getfield 11, 3) := by decide +kernel
theorem dX2_dropOldest_4 : decode cX2_dropOldest 4 = .ok (.iconst 0, 1) := by decide +kernel
theorem dX2_dropOldest_5 : decode cX2_dropOldest 5 = .ok (.aaload, 1) := by decide +kernel
theorem dX2_dropOldest_6 : decode cX2_dropOldest 6 = .ok (.astore_n 1, 1) := by decide +kernel
theorem dX2_dropOldest_7 : decode cX2_dropOldest 7 = .ok (.iconst 0, 1) := by decide +kernel
theorem dX2_dropOldest_8 : decode cX2_dropOldest 8 = .ok (.istore_n 2, 1) := by decide +kernel
theorem dX2_dropOldest_9 : decode cX2_dropOldest 9 = .ok (.iload_n 2, 1) := by decide +kernel
theorem dX2_dropOldest_10 : decode cX2_dropOldest 10 = .ok (.iconst 1, 1) := by decide +kernel
theorem dX2_dropOldest_11 : decode cX2_dropOldest 11 = .ok (.iadd, 1) := by decide +kernel
theorem dX2_dropOldest_12 : decode cX2_dropOldest 12 = .ok (.aload_n 0, 1) := by decide +kernel
theorem dX2_dropOldest_13 : decode cX2_dropOldest 13 = .ok (.getfield 11, 3) := by decide +kernel
theorem dX2_dropOldest_16 : decode cX2_dropOldest 16 = .ok (.arraylength, 1) := by decide +kernel
theorem dX2_dropOldest_17 : decode cX2_dropOldest 17 = .ok (.if_icmp .ge 23, 3) := by decide +kernel
theorem dX2_dropOldest_20 : decode cX2_dropOldest 20 = .ok (.aload_n 0, 1) := by decide +kernel
theorem dX2_dropOldest_21 : decode cX2_dropOldest 21 = .ok (.getfield 11, 3) := by decide +kernel
theorem dX2_dropOldest_24 : decode cX2_dropOldest 24 = .ok (.iload_n 2, 1) := by decide +kernel
theorem dX2_dropOldest_25 : decode cX2_dropOldest 25 = .ok (.aload_n 0, 1) := by decide +kernel
theorem dX2_dropOldest_26 : decode cX2_dropOldest 26 = .ok (.getfield 11, 3) := by decide +kernel
theorem dX2_dropOldest_29 : decode cX2_dropOldest 29 = .ok (.iload_n 2, 1) := by decide +kernel
theorem dX2_dropOldest_30 : decode cX2_dropOldest 30 = .ok (.iconst 1, 1) := by decide +kernel
theorem dX2_dropOldest_31 : decode cX2_dropOldest 31 = .ok (.iadd, 1) := by decide +kernel
theorem dX2_dropOldest_32 : decode cX2_dropOldest 32 = .ok (.aaload, 1) := by decide +kernel
theorem dX2_dropOldest_33 : decode cX2_dropOldest 33 = .ok (.aastore, 1) := by decide +kernel
theorem dX2_dropOldest_34 : decode cX2_dropOldest 34 = .ok (.iinc 2 1, 3) := by decide +kernel
theorem dX2_dropOldest_37 : decode cX2_dropOldest 37 = .ok (.goto (-28), 3) := by decide +kernel
theorem dX2_dropOldest_40 : decode cX2_dropOldest 40 = .ok (.aload_n 0, 1) := by decide +kernel
theorem dX2_dropOldest_41 : decode cX2_dropOldest 41 = .ok (.getfield 11, 3) := by decide +kernel
theorem dX2_dropOldest_44 : decode cX2_dropOldest 44 = .ok (.aload_n 0, 1) := by decide +kernel
theorem dX2_dropOldest_45 : decode cX2_dropOldest 45 = .ok (.getfield 11, 3) := by decide +kernel
theorem dX2_dropOldest_48 : decode cX2_dropOldest 48 = .ok (.arraylength, 1) := by decide +kernel
theorem dX2_dropOldest_49 : decode cX2_dropOldest 49 = .ok (.iconst 1, 1) := by decide +kernel
theorem dX2_dropOldest_50 : decode cX2_dropOldest 50 = .ok (.isub, 1) := by decide +kernel
theorem dX2_dropOldest_51 : decode cX2_dropOldest 51 = .ok (.aload_n 1, 1) := by decide +kernel
theorem dX2_dropOldest_52 : decode cX2_dropOldest 52 = .ok (.aastore, 1) := by decide +kernel
theorem dX2_dropOldest_53 : decode cX2_dropOldest 53 = .ok (.aload_n 0, 1) := by decide +kernel
theorem dX2_dropOldest_54 : decode cX2_dropOldest 54 = .ok (.dup, 1) := by decide +kernel
theorem dX2_dropOldest_55 : decode cX2_dropOldest 55 = .ok (.getfield 17, 3) := by decide +kernel
theorem dX2_dropOldest_58 : decode cX2_dropOldest 58 = .ok (.iconst 1, 1) := by decide +kernel
theorem dX2_dropOldest_59 : decode cX2_dropOldest 59 = .ok (.isub, 1) := by decide +kernel
theorem dX2_dropOldest_60 : decode cX2_dropOldest 60 = .ok (.putfield 17, 3) := by decide +kernel
theorem dX2_dropOldest_63 : decode cX2_dropOldest 63 = .ok (.return_, 1) := by decide +kernel
end
section
/-! ===== 02.base: worlds by blocks; contracts; the rules that the walks use ===== -/
/-- the classes' numbers; the array classes of int, boolean, Casting -/
abbrev GG : Type := va_G × ClassId × ClassId × ClassId
def g_ty (G : GG) : List (ClassId × FieldType) := [(G.2.1, .int), (G.2.2.1, .boolean), (G.2.2.2, .object "CastingFeeder$Casting")]
/-- links to private members of a nest mate -/
def g_nw : List (String × Nat × MethodName) := [(RX4, 18, yX1_init), (RX4, 32, yX3_init), (RX4, 9, yX0_init), (RX0, 48, yX4_at), (RX0, 69, yX4_put), (RX1, 47, yX4_put), (RX1, 67, yX4_at), (RX1, 87, yX4_sum), (RX2, 21, yX0_init), (RX3, 85, yX4_isWithin)]
abbrev g_nc (q : String × Nat × MethodName) : Cond := .methodLinkNest q.1 q.2.1 q.2.2 "CastingFeeder"
def KK (G : GG) (U : State) : Prop := va_K G.1 vwCl (g_ty G) U ∧ ∀ q ∈ g_nw, va_Nw (g_nc q) U
theorem KK.warm {G : GG} {s U : State} (hW : s.WarmedH U.vm) (h : KK G s) : KK G U := ⟨va_K.moved hW.alike h.1, fun q hq => va_Nw.warmM hW (h.2 q hq)⟩
theorem KK.calling {G : GG} {U : State} {g : JFrame} {mk : MethodId} {a : Array Value} (h : KK G U) : KK G (U.calling g mk a) := ⟨va_K.moved (u := U) (U := U.calling g mk a) (Vm.Alike.refl U.vm) h.1, fun q hq => va_Nw.same (u := U) (U := U.calling g mk a) rfl rfl (h.2 q hq)⟩
/-- what a walk holds of the heap -/
def Wd (G : GG) (A : Nat → Prop) (s : State) (H : Heap) (locs : List Loc) (ws : va_W) : Prop := va_P G.1 vwCl ws H ∧ va_D A ws ∧ va_S A s.heap H locs
/-- what a walk holds of its method -/
def Cx (p : Program) (s : State) (m : MethodId) (args : Array Value) (meth : Method) (c : Code) (cc : ByteArray) (nL : Nat) (ret : Option FieldType) (Ts : List Cond) (own : String) (G : GG) (A : Nat → Prop) : Prop :=
  CallFix p m c cc nL s args Ts own ∧ KK G s ∧ meth.sig.returnType = ret ∧ meth.locks = false ∧ ∀ q : Nat, s.heap.size ≤ q → A q
abbrev Qi (G : GG) (A : Nat → Prop) (r : Int32) (w1 : va_W) : Array Value → State → Outcome → State → Prop := va_Qi (fun (r' : Int32) (_ : Unit) => r' = r) (fun _ t => va_P G.1 vwCl w1 t.heap ∧ va_D A w1) A
abbrev Ql (G : GG) (A : Nat → Prop) (r : Int64) (w1 : va_W) : Array Value → State → Outcome → State → Prop := va_Ql (fun (r' : Int64) (_ : Unit) => r' = r) (fun _ t => va_P G.1 vwCl w1 t.heap ∧ va_D A w1) A
abbrev Qv (G : GG) (A : Nat → Prop) (w1 : va_W) : Array Value → State → Outcome → State → Prop := va_Qv (fun (_ : Unit) => True) (fun _ t => va_P G.1 vwCl w1 t.heap ∧ va_D A w1) A
abbrev Pg (G : GG) (av : List Value) (w0 : va_W) (sz : Nat) : Array Value → State → Prop := va_Pc av (fun U => U.heap.size = sz ∧ va_P G.1 vwCl w0 U.heap ∧ KK G U ∧ va_D (fun _ => True) w0)
def Ci (G : GG) (l : Launch) (y : MethodName) (ws : List Cond) (rm : Room) (av : List Value) (w0 : va_W) (r : Int32) (w1 : va_W) : Prop := ∀ sz : Nat, Met l y ws rm (Pg G av w0 sz) (Qi G (va_A w0 sz) r w1) 0 0 (va_A w0 sz)
def Cl (G : GG) (l : Launch) (y : MethodName) (ws : List Cond) (rm : Room) (av : List Value) (w0 : va_W) (r : Int64) (w1 : va_W) : Prop := ∀ sz : Nat, Met l y ws rm (Pg G av w0 sz) (Ql G (va_A w0 sz) r w1) 0 0 (va_A w0 sz)
def Cv (G : GG) (l : Launch) (y : MethodName) (ws : List Cond) (rm : Room) (av : List Value) (w0 : va_W) (w1 : va_W) : Prop := ∀ sz : Nat, Met l y ws rm (Pg G av w0 sz) (Qv G (va_A w0 sz) w1) 0 0 (va_A w0 sz)
theorem Pg.blind {G : GG} {av : List Value} {w0 : va_W} {sz : Nat} : FrameBlind (Pg G av w0 sz) := fun a U g mk q => by
  obtain ⟨q0, q1, qP, qK, qD⟩ := q
  exact ⟨q0, q1, qP, qK.calling, qD⟩
/-! the lists -/
theorem P_iff {D : va_G} {cl : List vw_C} {ws : va_W} {H : Heap} : va_P D cl ws H ↔ ∀ q ∈ ws, va_at D cl q H := ⟨fun h q hq => by
  obtain ⟨k, hk⟩ := List.getElem?_of_mem hq
  exact h k q hk, fun h k q hk => h q (List.mem_of_getElem? hk)⟩
theorem D_iff {A : Nat → Prop} {ws : va_W} : va_D A ws ↔ ws.Pairwise (fun p q => p.1 ≠ q.1) ∧ ∀ q ∈ ws, A q.1 := by
  constructor
  · intro h
    refine ⟨List.pairwise_iff_getElem.mpr fun i j hi hj hij e => ?_, fun q hq => ?_⟩
    · have := h.1 i j _ _ (List.getElem?_eq_getElem hi) (List.getElem?_eq_getElem hj) e
      omega
    · obtain ⟨k, hk⟩ := List.getElem?_of_mem hq
      exact h.2 k q hk
  · intro h
    have h1 := List.pairwise_iff_getElem.mp h.1
    refine ⟨fun i j x y hx hy e => ?_, fun k q hk => h.2 q (List.mem_of_getElem? hk)⟩
    obtain ⟨hi, ei⟩ := List.getElem?_eq_some_iff.mp hx
    obtain ⟨hj, ej⟩ := List.getElem?_eq_some_iff.mp hy
    rcases Nat.lt_trichotomy i j with q | q | q
    · exact absurd (by rw [ei, ej]; exact e) (h1 i j hi hj q)
    · exact q
    · exact absurd (by rw [ei, ej]; exact e.symm) (h1 j i hj hi q)
theorem P_perm {D : va_G} {cl : List vw_C} {ws ws' : va_W} {H : Heap} (h : List.Perm ws ws') (hP : va_P D cl ws H) : va_P D cl ws' H := P_iff.mpr fun q hq => P_iff.mp hP q (h.mem_iff.mpr hq)
theorem D_perm {A : Nat → Prop} {ws ws' : va_W} (h : List.Perm ws ws') (hD : va_D A ws) : va_D A ws' := by
  obtain ⟨h1, h2⟩ := D_iff.mp hD
  exact D_iff.mpr ⟨(h.pairwise_iff (fun h => Ne.symm h)).mp h1, fun q hq => h2 q (h.mem_iff.mpr hq)⟩
theorem D_app {A : Nat → Prop} {a b : va_W} : va_D A (a ++ b) ↔ va_D A a ∧ va_D A b ∧ ∀ p ∈ a, ∀ q ∈ b, p.1 ≠ q.1 := by
  rw [D_iff, D_iff, D_iff, List.pairwise_append]
  constructor
  · rintro ⟨⟨h1, h2, h3⟩, h4⟩
    exact ⟨⟨h1, fun q hq => h4 q (List.mem_append_left _ hq)⟩, ⟨h2, fun q hq => h4 q (List.mem_append_right _ hq)⟩, h3⟩
  · rintro ⟨⟨h1, h2⟩, ⟨h3, h4⟩, h5⟩
    exact ⟨⟨h1, h3, h5⟩, fun q hq => (List.mem_append.mp hq).elim (h2 q) (h4 q)⟩
theorem P_app {D : va_G} {cl : List vw_C} {a b : va_W} {H : Heap} : va_P D cl (a ++ b) H ↔ va_P D cl a H ∧ va_P D cl b H := by
  rw [P_iff, P_iff, P_iff]
  exact ⟨fun h => ⟨fun q hq => h q (List.mem_append_left _ hq), fun q hq => h q (List.mem_append_right _ hq)⟩, fun h q hq => (List.mem_append.mp hq).elim (h.1 q) (h.2 q)⟩
abbrev fl (bs : List va_W) : va_W := bs.flatten
def pk_ (bs : List va_W) (is : List Nat) : List va_W := is.filterMap (fun i => bs[i]?)
theorem range_pick {α : Type} (l : List α) : (List.range l.length).filterMap (fun i => l[i]?) = l := by
  induction l with
  | nil => rfl
  | cons a l ih =>
    rw [List.length_cons, List.range_succ_eq_map, List.filterMap_cons]
    simp only [List.getElem?_cons_zero, List.filterMap_map]
    congr 1
theorem perm_pick {bs : List va_W} {is : List Nat} {n : Nat} (hn : bs.length = n) (h : List.isPerm is (List.range n) = true) : List.Perm (fl bs) (fl (pk_ bs is)) := by
  subst hn
  have h1 : List.Perm is (List.range bs.length) := List.isPerm_iff.mp h
  have h2 := (h1.symm.filterMap (fun i => bs[i]?))
  rw [range_pick] at h2
  exact h2.flatten
/-- the world's blocks in another order -/
theorem Wd.to {G : GG} {A : Nat → Prop} {s : State} {H : Heap} {locs : List Loc} {bs : List va_W} {w : va_W} (h : Wd G A s H locs (fl bs)) (is : List Nat) {n : Nat} (hn : bs.length = n) (hp : List.isPerm is (List.range n) = true) (hw : fl (pk_ bs is) = w) : Wd G A s H locs w := by
  subst hw
  exact ⟨P_perm (perm_pick hn hp) h.1, D_perm (perm_pick hn hp) h.2.1, h.2.2⟩
/-- the frame: what is not the callee's stays -/
theorem frame_join {A0 : Nat → Prop} {D : va_G} {cl : List vw_C} {w0 wr w1 : va_W} {H H1 : Heap} (hP : va_P D cl (w0 ++ wr) H) (hD : va_D A0 (w0 ++ wr)) (hk : ∀ q : Nat, q < H.size → ¬ va_A w0 H.size q → H1[q]? = H[q]?) (hF : ∀ q, va_A w0 H.size q → A0 q) (hP1 : va_P D cl w1 H1) (hD1 : va_D (va_A w0 H.size) w1) : va_P D cl (w1 ++ wr) H1 ∧ va_D A0 (w1 ++ wr) := by
  obtain ⟨hP0, hPr⟩ := P_app.mp hP
  obtain ⟨hD0, hDr, hx⟩ := D_app.mp hD
  have out : ∀ q ∈ wr, q.1 < H.size ∧ ¬ va_A w0 H.size q.1 := fun q hq => by
    have hl := (P_iff.mp hPr q hq).lt
    refine ⟨hl, fun h => ?_⟩
    rcases h with ⟨k, e, h⟩ | h
    · exact hx _ (List.mem_of_getElem? h) q hq rfl
    · omega
  refine ⟨P_app.mpr ⟨hP1, P_iff.mpr fun q hq => (P_iff.mp hPr q hq).kept (hk q.1 (out q hq).1 (out q hq).2)⟩, D_app.mpr ⟨hD1.weaken (fun _ q _ h => hF q.1 h), hDr, fun p hp q hq e => ?_⟩⟩
  exact (out q hq).2 (e ▸ (D_iff.mp hD1).2 p hp)
/-- a callee's part w0 of the world w; what comes back is w1, the world then w' -/
def Cut (w w0 w1 w' : va_W) : Prop := ∃ wr : va_W, List.Perm w (w0 ++ wr) ∧ List.Perm (w1 ++ wr) w'
theorem Cut.all {w w1 : va_W} : Cut w w w1 w1 := ⟨[], by rw [List.append_nil], by rw [List.append_nil]⟩
theorem Cut.nil {w : va_W} : Cut w [] [] w := ⟨w, List.Perm.refl _, List.Perm.refl _⟩
/-- by the places of its blocks, and of the rest -/
theorem Cut.blocks {bs : List va_W} {w0 w1 : va_W} {bs' : List va_W} (is js ks : List Nat) (cs' : List va_W) (h1 : List.isPerm (is ++ js) (List.range bs.length) = true) (h2 : fl (pk_ bs is) = w0) (h3 : fl cs' = w1) (h4 : List.isPerm ks (List.range (cs' ++ pk_ bs js).length) = true) (h5 : pk_ (cs' ++ pk_ bs js) ks = bs') : Cut (fl bs) w0 w1 (fl bs') := by
  subst h2; subst h3; subst h5
  refine ⟨fl (pk_ bs js), ?_, ?_⟩
  · have := perm_pick rfl h1
    have e : fl (pk_ bs (is ++ js)) = fl (pk_ bs is) ++ fl (pk_ bs js) := by simp [fl, pk_, List.filterMap_append]
    rw [e] at this
    exact this
  · have := perm_pick rfl h4
    have e : fl (cs' ++ pk_ bs js) = fl cs' ++ fl (pk_ bs js) := by simp [fl]
    rw [e] at this
    exact this
theorem perm_at {α : Type} : ∀ {l : List α} {k : Nat} {q q' : α}, l[k]? = some q → List.Perm l (q :: l.eraseIdx k) ∧ List.Perm (q' :: l.eraseIdx k) (l.set k q')
  | [], k, q, q', h => by simp at h
  | a :: l, 0, q, q', h => by
    simp only [List.getElem?_cons_zero, Option.some.injEq] at h
    subst h
    exact ⟨List.Perm.refl _, List.Perm.refl _⟩
  | a :: l, k + 1, q, q', h => by
    rw [List.getElem?_cons_succ] at h
    obtain ⟨h1, h2⟩ := perm_at (q' := q') h
    simp only [List.eraseIdx_cons_succ, List.set_cons_succ]
    exact ⟨(h1.cons a).trans (List.Perm.swap _ _ _), (List.Perm.swap _ _ _).trans (h2.cons a)⟩
/-- one cell of one block -/
theorem fl_at : ∀ {bs : List va_W} {j : Nat} {blk : va_W} {i : Nat} {q q' : Nat × va_E}, bs[j]? = some blk → blk[i]? = some q → ∃ k, (fl bs)[k]? = some q ∧ (fl bs).set k q' = fl (bs.set j (blk.set i q'))
  | [], j, blk, i, q, q', h, _ => by simp at h
  | b :: bs, 0, blk, i, q, q', h, hi => by
    simp only [List.getElem?_cons_zero, Option.some.injEq] at h
    subst h
    have hl := (List.getElem?_eq_some_iff.mp hi).1
    refine ⟨i, ?_, ?_⟩
    · show (b ++ fl bs)[i]? = _
      rw [List.getElem?_append_left hl]
      exact hi
    · show (b ++ fl bs).set i q' = b.set i q' ++ fl bs
      rw [List.set_append_left _ _ hl]
  | b :: bs, j + 1, blk, i, q, q', h, hi => by
    rw [List.getElem?_cons_succ] at h
    obtain ⟨k, h1, h2⟩ := fl_at (q' := q') h hi
    refine ⟨b.length + k, ?_, ?_⟩
    · show (b ++ fl bs)[b.length + k]? = _
      rw [List.getElem?_append_right (by omega), Nat.add_sub_cancel_left]
      exact h1
    · show (b ++ fl bs).set (b.length + k) q' = b ++ fl (bs.set j (blk.set i q'))
      rw [List.set_append_right _ _ (by omega), Nat.add_sub_cancel_left, h2]
theorem Cut.cell {bs bs' : List va_W} {blk : va_W} {q0 q1 : Nat × va_E} (j i : Nat) (hj : bs[j]? = some blk) (hi : blk[i]? = some q0) (h : bs.set j (blk.set i q1) = bs') : Cut (fl bs) [q0] [q1] (fl bs') := by
  obtain ⟨k, h1, h2⟩ := fl_at (q' := q1) hj hi
  obtain ⟨h3, h4⟩ := perm_at (q' := q1) h1
  subst h
  rw [← h2]
  exact ⟨(fl bs).eraseIdx k, h3, h4⟩
theorem Cut.cellr {bs : List va_W} {blk : va_W} {q0 : Nat × va_E} (j i : Nat) (hj : bs[j]? = some blk) (hi : blk[i]? = some q0) : Cut (fl bs) [q0] [q0] (fl bs) := by
  obtain ⟨k, h1, -⟩ := fl_at (q' := q0) hj hi
  obtain ⟨h3, -⟩ := perm_at (q' := q0) h1
  exact ⟨(fl bs).eraseIdx k, h3, h3.symm⟩
section CR
variable {p : Program} {l : Launch} {e : Env} {R : Room} {s : State} {m : MethodId} {args : Array Value} {below : List Frame} {meth : Method} {c : Code} {H : Heap} {locs : List Loc} {cells slots : Nat} {Q : State → Prop}
variable {cc : ByteArray} {nL : Nat} {ret : Option FieldType} {Ts : List Cond} {own : String} {G : GG} {A : Nat → Prop} {pc : Nat} {ls : Array Slot} {st0 rest : List Value} {mc ms : Nat}
theorem free_of {w w0 w1 w' : va_W} (X : Cx p s m args meth c cc nL ret Ts own G A) (hw : Wd G A s H locs w) (h : Cut w w0 w1 w') : ∀ q, va_A w0 H.size q → A q := by
  intro q hq
  rcases hq with ⟨k, e, hq⟩ | hq
  · exact (D_iff.mp hw.2.1).2 _ (h.choose_spec.1.mem_iff.mpr (List.mem_append_left _ (List.mem_of_getElem? hq)))
  · exact X.2.2.2.2 q (Nat.le_trans hw.2.2.1 hq)
theorem pre_of {w w0 w1 w' : va_W} {av : List Value} (X : Cx p s m args meth c cc nL ret Ts own G A) (hw : Wd G A s H locs w) (h : Cut w w0 w1 w') : ∀ U : State, U.heap = H → s.WarmedH U.vm → Pg G av w0 H.size av.toArray U := by
  intro U hU hW
  refine ⟨rfl, by rw [hU], by rw [hU]; exact (P_app.mp (P_perm h.choose_spec.1 hw.1)).1, X.2.1.warm hW, (D_app.mp (D_perm h.choose_spec.1 hw.2.1)).1.weaken (fun _ _ _ _ => trivial)⟩
theorem back_w {w w0 w1 w' : va_W} {H1 : Heap} {locs1 : List Loc} (X : Cx p s m args meth c cc nL ret Ts own G A) (hw : Wd G A s H locs w) (h : Cut w w0 w1 w') (hP1 : va_P G.1 vwCl w1 H1) (hD1 : va_D (va_A w0 H.size) w1) (hk : ∀ q : Nat, q < H.size → ¬ va_A w0 H.size q → H1[q]? = H[q]?) (hS1 : va_S A s.heap H1 locs1) : Wd G A s H1 locs1 w' := by
  obtain ⟨a, b⟩ := frame_join (P_perm h.choose_spec.1 hw.1) (D_perm h.choose_spec.1 hw.2.1) hk (free_of X hw h) hP1 hD1
  exact ⟨P_perm h.choose_spec.2 a, D_perm h.choose_spec.2 b, hS1⟩
/-- behind a run of a callee -/
theorem after_i {w w0 w1 w' : va_W} {a : Array Value} {r : Int32} (X : Cx p s m args meth c cc nL ret Ts own G A) (hw : Wd G A s H locs w) (h : Cut w w0 w1 w')
    (hr : va_Run p l e R s m args below meth c H locs cells slots 0 0 (F0 m pc ls st0) rest (Qi G (va_A w0 H.size) r w1 a) (va_A w0 H.size))
    (kk : ∀ (H : Heap) (locs : List Loc), Wd G A s H locs w' → W p l e R s m args below meth c H locs cells slots Q (F0 m (pc + 3) ls (.int r :: rest))) : W p l e R s m args below meth c H locs cells slots Q (F0 m pc ls st0) :=
  va_calli hr hw.2.2 (fun q _ hq => free_of X hw h q hq) (free_of X hw h) (fun r' u t H1 locs1 ht hvm hp hb hz1 hk1 hS1 => by
    subst hp; subst ht
    exact kk _ _ (back_w X hw h hb.1 hb.2 hk1 hS1))
theorem after_l {w w0 w1 w' : va_W} {a : Array Value} {r : Int64} (X : Cx p s m args meth c cc nL ret Ts own G A) (hw : Wd G A s H locs w) (h : Cut w w0 w1 w')
    (hr : va_Run p l e R s m args below meth c H locs cells slots 0 0 (F0 m pc ls st0) rest (Ql G (va_A w0 H.size) r w1 a) (va_A w0 H.size))
    (kk : ∀ (H : Heap) (locs : List Loc), Wd G A s H locs w' → W p l e R s m args below meth c H locs cells slots Q (F0 m (pc + 3) ls (.long r :: rest))) : W p l e R s m args below meth c H locs cells slots Q (F0 m pc ls st0) :=
  va_calll hr hw.2.2 (fun q _ hq => free_of X hw h q hq) (free_of X hw h) (fun r' u t H1 locs1 ht hvm hp hb hz1 hk1 hS1 => by
    subst hp; subst ht
    exact kk _ _ (back_w X hw h hb.1 hb.2 hk1 hS1))
theorem after_v {w w0 w1 w' : va_W} {a : Array Value} (X : Cx p s m args meth c cc nL ret Ts own G A) (hw : Wd G A s H locs w) (h : Cut w w0 w1 w')
    (hr : va_Run p l e R s m args below meth c H locs cells slots 0 0 (F0 m pc ls st0) rest (Qv G (va_A w0 H.size) w1 a) (va_A w0 H.size))
    (kk : ∀ (H : Heap) (locs : List Loc), Wd G A s H locs w' → W p l e R s m args below meth c H locs cells slots Q (F0 m (pc + 3) ls rest)) : W p l e R s m args below meth c H locs cells slots Q (F0 m pc ls st0) :=
  va_callv hr hw.2.2 (fun q _ hq => free_of X hw h q hq) (free_of X hw h) (fun u t H1 locs1 ht hvm hp hb hz1 hk1 hS1 => by
    subst ht
    exact kk _ _ (back_w X hw h hb.1 hb.2 hk1 hS1))
variable {y : MethodName} {bytes : ByteArray} {maxL n index : Nat} {ry : Option FieldType} {ws : List Cond} {rm : Room} {C : String} {b : Addr} {As : List Value} {w w0 w1 w' : va_W}
theorem recvW {bs : List va_W} {blk : va_W} {ci : Nat} {q : vw_C} {fs : List Value} (j i : Nat) (X : Cx p s m args meth c cc nL ret Ts own G A) (hw : Wd G A s H locs (fl bs)) (hj : bs[j]? = some blk) (he : blk[i]? = some (b, .inr (ci, fs))) (hc : vwCl[ci]? = some q) : ∃ cellB : Cell, H[b]? = some cellB ∧ cellB.vm.isStatics = false ∧ s.vm.findClass q.1 = some cellB.cls := by
  obtain ⟨k, h1, -⟩ := fl_at (q' := (b, .inr (ci, fs))) hj he
  exact va_recv X.2.1.1 hw.1 hc h1
theorem x_Vi {bs : List va_W} {blk : va_W} {ci : Nat} {q : vw_C} {fs : List Value} {r : Int32} (X : Cx p s m args meth c cc nL ret Ts own G A) (hw : Wd G A s H locs (fl bs)) (hC : Ci G l y ws rm (.ref b :: As) w0 r w1) (h : Cut (fl bs) w0 w1 w') (j i : Nat) (hj : bs[j]? = some blk) (he : blk[i]? = some (b, .inr (ci, fs))) (hc : vwCl[ci]? = some q)
    (cw : CallW R s args own q.1 index y bytes maxL ry ws rm 0 0 n) (hn : As.length = n) (hl : ls.size = nL) (hst : (As.reverse ++ .ref b :: rest) = st0) (hW : (rest.map fun v => v.category).sum ≤ 8) (hdg : decode cc pc = .ok (.invokevirtual index, 3)) (hf : cells ≤ R.cells ∧ slots ≤ R.slots)
    (kk : ∀ (H : Heap) (locs : List Loc), Wd G A s H locs w' → W p l e R s m args below meth c H locs cells slots Q (F0 m (pc + 3) ls (.int r :: rest))) : W p l e R s m args below meth c H locs cells slots Q (F0 m pc ls st0) := by
  subst hst
  exact after_i X hw h (va_runV (As := As) (rest := rest) X.1 (hC H.size) cw ⟨Pg.blind, recvW j i X hw hj he hc, pre_of X hw h⟩ rfl hn hl rfl (lv_room hW) hdg ⟨hf.1, hf.2⟩) kk
theorem x_Vl {bs : List va_W} {blk : va_W} {ci : Nat} {q : vw_C} {fs : List Value} {r : Int64} (X : Cx p s m args meth c cc nL ret Ts own G A) (hw : Wd G A s H locs (fl bs)) (hC : Cl G l y ws rm (.ref b :: As) w0 r w1) (h : Cut (fl bs) w0 w1 w') (j i : Nat) (hj : bs[j]? = some blk) (he : blk[i]? = some (b, .inr (ci, fs))) (hc : vwCl[ci]? = some q)
    (cw : CallW R s args own q.1 index y bytes maxL ry ws rm 0 0 n) (hn : As.length = n) (hl : ls.size = nL) (hst : (As.reverse ++ .ref b :: rest) = st0) (hW : (rest.map fun v => v.category).sum ≤ 8) (hdg : decode cc pc = .ok (.invokevirtual index, 3)) (hf : cells ≤ R.cells ∧ slots ≤ R.slots)
    (kk : ∀ (H : Heap) (locs : List Loc), Wd G A s H locs w' → W p l e R s m args below meth c H locs cells slots Q (F0 m (pc + 3) ls (.long r :: rest))) : W p l e R s m args below meth c H locs cells slots Q (F0 m pc ls st0) := by
  subst hst
  exact after_l X hw h (va_runV (As := As) (rest := rest) X.1 (hC H.size) cw ⟨Pg.blind, recvW j i X hw hj he hc, pre_of X hw h⟩ rfl hn hl rfl (lv_room hW) hdg ⟨hf.1, hf.2⟩) kk
theorem x_Vv {bs : List va_W} {blk : va_W} {ci : Nat} {q : vw_C} {fs : List Value} (X : Cx p s m args meth c cc nL ret Ts own G A) (hw : Wd G A s H locs (fl bs)) (hC : Cv G l y ws rm (.ref b :: As) w0 w1) (h : Cut (fl bs) w0 w1 w') (j i : Nat) (hj : bs[j]? = some blk) (he : blk[i]? = some (b, .inr (ci, fs))) (hc : vwCl[ci]? = some q)
    (cw : CallW R s args own q.1 index y bytes maxL ry ws rm 0 0 n) (hn : As.length = n) (hl : ls.size = nL) (hst : (As.reverse ++ .ref b :: rest) = st0) (hW : (rest.map fun v => v.category).sum ≤ 8) (hdg : decode cc pc = .ok (.invokevirtual index, 3)) (hf : cells ≤ R.cells ∧ slots ≤ R.slots)
    (kk : ∀ (H : Heap) (locs : List Loc), Wd G A s H locs w' → W p l e R s m args below meth c H locs cells slots Q (F0 m (pc + 3) ls rest)) : W p l e R s m args below meth c H locs cells slots Q (F0 m pc ls st0) := by
  subst hst
  exact after_v X hw h (va_runV (As := As) (rest := rest) X.1 (hC H.size) cw ⟨Pg.blind, recvW j i X hw hj he hc, pre_of X hw h⟩ rfl hn hl rfl (lv_room hW) hdg ⟨hf.1, hf.2⟩) kk
theorem x_Si {r : Int32} (X : Cx p s m args meth c cc nL ret Ts own G A) (hw : Wd G A s H locs w) (hC : Ci G l y ws rm As w0 r w1) (h : Cut w w0 w1 w')
    (cw : CallB R s args own index y bytes maxL ry ws rm 0 0 n ∧ (Cond.static y).before args s = true) (hn : As.length = n) (hl : ls.size = nL) (hst : (As.reverse ++ rest) = st0) (hW : (rest.map fun v => v.category).sum ≤ 8) (hdg : decode cc pc = .ok (.invokestatic index, 3)) (hf : cells ≤ R.cells ∧ slots ≤ R.slots)
    (kk : ∀ (H : Heap) (locs : List Loc), Wd G A s H locs w' → W p l e R s m args below meth c H locs cells slots Q (F0 m (pc + 3) ls (.int r :: rest))) : W p l e R s m args below meth c H locs cells slots Q (F0 m pc ls st0) := by
  subst hst
  exact after_i X hw h (va_runS (As := As) (rest := rest) X.1 (hC H.size) cw ⟨Pg.blind, pre_of X hw h⟩ rfl hn hl rfl (lv_room hW) hdg ⟨hf.1, hf.2⟩) kk
theorem x_Sv (X : Cx p s m args meth c cc nL ret Ts own G A) (hw : Wd G A s H locs w) (hC : Cv G l y ws rm As w0 w1) (h : Cut w w0 w1 w')
    (cw : CallB R s args own index y bytes maxL ry ws rm 0 0 n ∧ (Cond.static y).before args s = true) (hn : As.length = n) (hl : ls.size = nL) (hst : (As.reverse ++ rest) = st0) (hW : (rest.map fun v => v.category).sum ≤ 8) (hdg : decode cc pc = .ok (.invokestatic index, 3)) (hf : cells ≤ R.cells ∧ slots ≤ R.slots)
    (kk : ∀ (H : Heap) (locs : List Loc), Wd G A s H locs w' → W p l e R s m args below meth c H locs cells slots Q (F0 m (pc + 3) ls rest)) : W p l e R s m args below meth c H locs cells slots Q (F0 m pc ls st0) := by
  subst hst
  exact after_v X hw h (va_runS (As := As) (rest := rest) X.1 (hC H.size) cw ⟨Pg.blind, pre_of X hw h⟩ rfl hn hl rfl (lv_room hW) hdg ⟨hf.1, hf.2⟩) kk
theorem x_Ni {r : Int32} {host : String} (X : Cx p s m args meth c cc nL ret Ts own G A) (hw : Wd G A s H locs w) (hC : Ci G l y ws rm As w0 r w1) (h : Cut w w0 w1 w')
    (cw : va_CN R s args own index y host bytes maxL ry ws rm 0 0 n ∧ (Cond.static y).before args s = true ∧ True) (hn : As.length = n) (hl : ls.size = nL) (hst : (As.reverse ++ rest) = st0) (hW : (rest.map fun v => v.category).sum ≤ 8) (hdg : decode cc pc = .ok (.invokestatic index, 3)) (hf : cells ≤ R.cells ∧ slots ≤ R.slots)
    (kk : ∀ (H : Heap) (locs : List Loc), Wd G A s H locs w' → W p l e R s m args below meth c H locs cells slots Q (F0 m (pc + 3) ls (.int r :: rest))) : W p l e R s m args below meth c H locs cells slots Q (F0 m pc ls st0) := by
  subst hst
  exact after_i X hw h (va_runSN (As := As) (rest := rest) X.1 (hC H.size) cw ⟨Pg.blind, pre_of X hw h⟩ rfl hn hl rfl (lv_room hW) hdg ⟨hf.1, hf.2⟩) kk
theorem x_Nv {host : String} (X : Cx p s m args meth c cc nL ret Ts own G A) (hw : Wd G A s H locs w) (hC : Cv G l y ws rm As w0 w1) (h : Cut w w0 w1 w')
    (cw : va_CN R s args own index y host bytes maxL ry ws rm 0 0 n ∧ (Cond.static y).before args s = true ∧ True) (hn : As.length = n) (hl : ls.size = nL) (hst : (As.reverse ++ rest) = st0) (hW : (rest.map fun v => v.category).sum ≤ 8) (hdg : decode cc pc = .ok (.invokestatic index, 3)) (hf : cells ≤ R.cells ∧ slots ≤ R.slots)
    (kk : ∀ (H : Heap) (locs : List Loc), Wd G A s H locs w' → W p l e R s m args below meth c H locs cells slots Q (F0 m (pc + 3) ls rest)) : W p l e R s m args below meth c H locs cells slots Q (F0 m pc ls st0) := by
  subst hst
  exact after_v X hw h (va_runSN (As := As) (rest := rest) X.1 (hC H.size) cw ⟨Pg.blind, pre_of X hw h⟩ rfl hn hl rfl (lv_room hW) hdg ⟨hf.1, hf.2⟩) kk
/-! ends -/
theorem x_iret {v r : Int32} {w w1 : va_W} {rt : FieldType} (X : Cx p s m args meth c cc nL (some rt) Ts own G A) (hn : narrow rt (.int v) = .int v) (hw : Wd G A s H locs w) (he : w = w1) (hv : v = r) (hdg : decode cc pc = .ok (.ireturn, 1)) : W p l e R s m args below meth c H locs 0 0 (MQ below (Qi G A r w1) args s 0 0 A) (F0 m pc ls [.int v]) := by
  subst hv; subst he
  have hlk := X.2.2.2.1
  exact W.zret X.1.1 X.1.2.1 X.2.2.1 hn (fun t ht hW => ⟨⟨v, (), rfl, rfl, by rw [ht]; exact hw.1, hw.2.1⟩, hw.2.2.F ht⟩) hw.2.2.2.2 hdg
theorem x_lret {v r : Int64} {w w1 : va_W} (X : Cx p s m args meth c cc nL (some .long) Ts own G A) (hw : Wd G A s H locs w) (he : w = w1) (hv : v = r) (hdg : decode cc pc = .ok (.lreturn, 1)) : W p l e R s m args below meth c H locs 0 0 (MQ below (Ql G A r w1) args s 0 0 A) (F0 m pc ls [.long v]) := by
  subst hv; subst he
  have hlk := X.2.2.2.1
  exact W.lret X.1.1 X.1.2.1 X.2.2.1 (fun t ht hW => ⟨⟨v, (), rfl, rfl, by rw [ht]; exact hw.1, hw.2.1⟩, hw.2.2.F ht⟩) hw.2.2.2.2 hdg
theorem x_vret {w w1 : va_W} (X : Cx p s m args meth c cc nL none Ts own G A) (hw : Wd G A s H locs w) (he : w = w1) (hdg : decode cc pc = .ok (.return_, 1)) : W p l e R s m args below meth c H locs 0 0 (MQ below (Qv G A w1) args s 0 0 A) (F0 m pc ls []) := by
  subst he
  have hlk := X.2.2.2.1
  exact W.vret X.1.1 X.1.2.1 X.2.2.1 (fun t ht hW => ⟨⟨(), rfl, trivial, by rw [ht]; exact hw.1, hw.2.1⟩, hw.2.2.F ht⟩) hw.2.2.2.2 hdg
/-! fields and arrays -/
theorem x_get {Cn ref : String} {T : u_T} {N ci index : Nat} {a : Nat} {bs : List va_W} {blk : va_W} (j i : Nat) (X : Cx p s m args meth c cc nL ret Ts own G A) (hw : Wd G A s H locs (fl bs)) (hin : ∀ w ∈ u_ws Cn T N, w ∈ Ts) {fs : List Value} (hj : bs[j]? = some blk) (he : blk[i]? = some (a, .inr (ci, fs))) (hc : vwCl[ci]? = some (Cn, T, N)) (k : Nat) (hk : k < N) (hlink : Cond.fieldLink own index ref (T k).2.1 (T k).2.2.1 ∈ Ts) (href : (T k).1 = ref) {v : Value} (hv : fs[k]? = some v) (hdg : decode cc pc = .ok (.getfield index, 3))
    (kk : W p l e R s m args below meth c H locs cells slots Q (F0 m (pc + 3) ls (v :: rest))) : W p l e R s m args below meth c H locs cells slots Q (F0 m pc ls (.ref a :: rest)) := by
  obtain ⟨q0, h1, -⟩ := fl_at (q' := (a, .inr (ci, fs))) hj he
  exact va_get X.1.1 X.1.2.1 X.1.2.2.2.2 hin X.1.2.2.2.1 X.2.1.1 hw.1 q0 h1 hc k hk (X.1.2.2.2.2 _ hlink) (fun x h => by rw [← href]; exact h) hv hdg kk
theorem x_put {Cn ref : String} {T : u_T} {N ci index : Nat} {a : Nat} {bs bs' : List va_W} {blk : va_W} (j i : Nat) (X : Cx p s m args meth c cc nL ret Ts own G A) (hw : Wd G A s H locs (fl bs)) (hin : ∀ w ∈ u_ws Cn T N, w ∈ Ts) (ty0 : Nat → FieldType) (hty : ∀ k, k < N → parseFieldDescriptor (T k).2.2.1 = some (ty0 k)) (hnm : ∀ a, a < N → ∀ b, b < N → a ≠ b → (T a).2.1 ≠ (T b).2.1) {fs : List Value} (hj : bs[j]? = some blk) (he : blk[i]? = some (a, .inr (ci, fs))) (hc : vwCl[ci]? = some (Cn, T, N)) (k : Nat) (hk : k < N) (hlink : Cond.fieldLink own index ref (T k).2.1 (T k).2.2.1 ∈ Ts) (href : (T k).1 = ref) (hfin : (T k).2.2.2 = false) {v : Value} (hn : narrow (ty0 k) v = v) (hfit : fits (ty0 k) v = true) (hl : k < fs.length) (hdg : decode cc pc = .ok (.putfield index, 3)) (hw' : bs.set j (blk.set i (a, .inr (ci, fs.set k v))) = bs')
    (kk : ∀ (H : Heap) (locs : List Loc), Wd G A s H locs (fl bs') → W p l e R s m args below meth c H locs cells slots Q (F0 m (pc + 3) ls rest)) : W p l e R s m args below meth c H locs cells slots Q (F0 m pc ls (v :: .ref a :: rest)) := by
  subst hw'
  obtain ⟨q0, h1, h2⟩ := fl_at (q' := (a, .inr (ci, fs.set k v))) hj he
  rw [← h2] at kk
  exact va_put X.1.1 X.1.2.1 X.1.2.2.2.2 hin ty0 hty hnm X.1.2.2.2.1 X.2.1.1 hw.1 hw.2.1 hw.2.2 q0 h1 hc k hk (X.1.2.2.2.2 _ hlink) (fun x h => by rw [← href]; exact h) hfin (hty k hk) hn hfit hl hdg (fun H1 locs1 a b c => kk H1 locs1 ⟨a, b, c⟩)
theorem x_iald {a nA : Nat} {f : Nat → Int32} {x : Int32} {bs : List va_W} {blk : va_W} (j i : Nat) (X : Cx p s m args meth c cc nL ret Ts own G A) (hw : Wd G A s H locs (fl bs)) (hj : bs[j]? = some blk) (ha : blk[i]? = some (a, .inl (G.2.1, nA, .inl f))) (hin : vp_in x nA) (hdg : decode cc pc = .ok (.iaload, 1))
    (kk : W p l e R s m args below meth c H locs cells slots Q (F0 m (pc + 1) ls (.int (f x.toNatClampNeg) :: rest))) : W p l e R s m args below meth c H locs cells slots Q (F0 m pc ls (.int x :: .ref a :: rest)) := by
  obtain ⟨q0, h1, -⟩ := fl_at (q' := (a, .inl (G.2.1, nA, .inl f))) hj ha
  exact va_iald X.1.1 X.1.2.1 X.2.1.1 hw.1 q0 0 h1 rfl hin hdg kk
theorem x_zald {a nA : Nat} {f : Nat → Int32} {x : Int32} {bs : List va_W} {blk : va_W} (j i : Nat) (X : Cx p s m args meth c cc nL ret Ts own G A) (hw : Wd G A s H locs (fl bs)) (hj : bs[j]? = some blk) (ha : blk[i]? = some (a, .inl (G.2.2.1, nA, .inl f))) (hin : vp_in x nA) (hdg : decode cc pc = .ok (.baload, 1))
    (kk : W p l e R s m args below meth c H locs cells slots Q (F0 m (pc + 1) ls (.int (f x.toNatClampNeg) :: rest))) : W p l e R s m args below meth c H locs cells slots Q (F0 m pc ls (.int x :: .ref a :: rest)) := by
  obtain ⟨q0, h1, -⟩ := fl_at (q' := (a, .inl (G.2.2.1, nA, .inl f))) hj ha
  exact va_zald X.1.1 X.1.2.1 X.2.1.1 hw.1 q0 1 h1 rfl hin hdg kk
theorem x_iast {a nA : Nat} {f : Nat → Int32} {x v : Int32} {bs bs' : List va_W} {blk : va_W} (j i : Nat) (X : Cx p s m args meth c cc nL ret Ts own G A) (hw : Wd G A s H locs (fl bs)) (hj : bs[j]? = some blk) (ha : blk[i]? = some (a, .inl (G.2.1, nA, .inl f))) (hin : vp_in x nA) (hdg : decode cc pc = .ok (.iastore, 1)) (hw' : bs.set j (blk.set i (a, .inl (G.2.1, nA, .inl (upd f x.toNatClampNeg v)))) = bs')
    (kk : ∀ (H : Heap) (locs : List Loc), Wd G A s H locs (fl bs') → W p l e R s m args below meth c H locs cells slots Q (F0 m (pc + 1) ls rest)) : W p l e R s m args below meth c H locs cells slots Q (F0 m pc ls (.int v :: .int x :: .ref a :: rest)) := by
  subst hw'
  obtain ⟨q0, h1, h2⟩ := fl_at (q' := (a, .inl (G.2.1, nA, .inl (upd f x.toNatClampNeg v)))) hj ha
  rw [← h2] at kk
  exact va_iast X.1.1 X.1.2.1 X.2.1.1 hw.1 hw.2.1 hw.2.2 q0 0 h1 rfl hin hdg (fun H1 locs1 a b c => kk H1 locs1 ⟨a, b, c⟩)
theorem nar_z {x : Int32} (h : x = 0 ∨ x = 1) : vp_nar .boolean x = x := by rcases h with rfl | rfl <;> decide
theorem narz {x : Int32} (h : x = 0 ∨ x = 1) : narrow .boolean (.int x) = .int x := by rcases h with rfl | rfl <;> rfl
theorem x_zast {a nA : Nat} {f : Nat → Int32} {x v : Int32} {bs bs' : List va_W} {blk : va_W} (j i : Nat) (X : Cx p s m args meth c cc nL ret Ts own G A) (hw : Wd G A s H locs (fl bs)) (hj : bs[j]? = some blk) (ha : blk[i]? = some (a, .inl (G.2.2.1, nA, .inl f))) (hz : v = 0 ∨ v = 1) (hin : vp_in x nA) (hdg : decode cc pc = .ok (.bastore, 1)) (hw' : bs.set j (blk.set i (a, .inl (G.2.2.1, nA, .inl (upd f x.toNatClampNeg v)))) = bs')
    (kk : ∀ (H : Heap) (locs : List Loc), Wd G A s H locs (fl bs') → W p l e R s m args below meth c H locs cells slots Q (F0 m (pc + 1) ls rest)) : W p l e R s m args below meth c H locs cells slots Q (F0 m pc ls (.int v :: .int x :: .ref a :: rest)) := by
  subst hw'
  obtain ⟨q0, h1, h2⟩ := fl_at (q' := (a, .inl (G.2.2.1, nA, .inl (upd f x.toNatClampNeg v)))) hj ha
  rw [← h2] at kk
  refine va_zast X.1.1 X.1.2.1 X.2.1.1 hw.1 hw.2.1 hw.2.2 q0 1 h1 rfl hin hdg (fun H1 locs1 a b c => kk H1 locs1 ?_)
  rw [nar_z hz] at a b
  exact ⟨a, b, c⟩
theorem x_alen {a : Nat} {cA : ClassId} {x : vp_A} {n : Nat} {t0 : Nat} {ty : FieldType} {bs : List va_W} {blk : va_W} (j i : Nat) (X : Cx p s m args meth c cc nL ret Ts own G A) (hw : Wd G A s H locs (fl bs)) (hj : bs[j]? = some blk) (ha : blk[i]? = some (a, .inl (cA, x))) (ht : (g_ty G)[t0]? = some (cA, ty)) (hx : x.1 = n) (hdg : decode cc pc = .ok (.arraylength, 1))
    (kk : W p l e R s m args below meth c H locs cells slots Q (F0 m (pc + 1) ls (.int (nI n) :: rest))) : W p l e R s m args below meth c H locs cells slots Q (F0 m pc ls (.ref a :: rest)) := by
  subst hx
  obtain ⟨q0, h1, -⟩ := fl_at (q' := (a, .inl (cA, x))) hj ha
  exact va_alen X.1.1 X.1.2.1 X.2.1.1 hw.1 q0 t0 h1 ht rfl hdg kk
end CR
/-! heads -/
theorem Ci.intro {G : GG} {l : Launch} {y : MethodName} {ws : List Cond} {rm : Room} {av : List Value} {w0 : va_W} {r : Int32} {w1 : va_W} (cc : ByteArray) (maxL : Nat) (ret : Option FieldType) (own : String) {ws' : List Cond} (hy : plainName y.cls = true) (hw : ws = Cond.code y cc maxL ret :: ws') (hown : y.cls = own) (hlen : (lg_sl av).length ≤ maxL)
    (body : ∀ (p : Program) (e : Env) (s : State) (m : MethodId) (below : List Frame) (meth : Method) (c : Code) (A : Nat → Prop) (ls : Array Slot), Cx p s m av.toArray meth c cc maxL ret ws own G A → Wd G A s s.heap [] w0 → lv_has ls maxL (lv_args 0 av) → W p l e rm s m av.toArray below meth c s.heap [] 0 0 (MQ below (Qi G A r w1) av.toArray s 0 0 A) (F0 m 0 ls [])) : Ci G l y ws rm av w0 r w1 := by
  intro sz
  refine Met.ofW (cc := cc) (maxL := maxL) (ret := ret) hy hw ?_
  intro p e s m args below meth c s₁ B hml hv
  obtain ⟨rfl, hsz, hP, hK, hD0⟩ := hv
  subst hsz
  have hts := atoms_spec (ws := ws) B.pre
  have hl := lv_entry av (n := maxL) hlen
  rw [lg_entry_eq]
  exact body p e s m below meth c (va_A w0 s.heap.size) _ ⟨⟨B.exec, B.bytes, hml, hown ▸ findClass_of_methodNamed B.named, hts⟩, hK, B.returns, B.notSynchronized, fun q h => Or.inr h⟩ ⟨hP, hD0.self, va_S.rf⟩ hl
theorem Cl.intro {G : GG} {l : Launch} {y : MethodName} {ws : List Cond} {rm : Room} {av : List Value} {w0 : va_W} {r : Int64} {w1 : va_W} (cc : ByteArray) (maxL : Nat) (ret : Option FieldType) (own : String) {ws' : List Cond} (hy : plainName y.cls = true) (hw : ws = Cond.code y cc maxL ret :: ws') (hown : y.cls = own) (hlen : (lg_sl av).length ≤ maxL)
    (body : ∀ (p : Program) (e : Env) (s : State) (m : MethodId) (below : List Frame) (meth : Method) (c : Code) (A : Nat → Prop) (ls : Array Slot), Cx p s m av.toArray meth c cc maxL ret ws own G A → Wd G A s s.heap [] w0 → lv_has ls maxL (lv_args 0 av) → W p l e rm s m av.toArray below meth c s.heap [] 0 0 (MQ below (Ql G A r w1) av.toArray s 0 0 A) (F0 m 0 ls [])) : Cl G l y ws rm av w0 r w1 := by
  intro sz
  refine Met.ofW (cc := cc) (maxL := maxL) (ret := ret) hy hw ?_
  intro p e s m args below meth c s₁ B hml hv
  obtain ⟨rfl, hsz, hP, hK, hD0⟩ := hv
  subst hsz
  have hts := atoms_spec (ws := ws) B.pre
  have hl := lv_entry av (n := maxL) hlen
  rw [lg_entry_eq]
  exact body p e s m below meth c (va_A w0 s.heap.size) _ ⟨⟨B.exec, B.bytes, hml, hown ▸ findClass_of_methodNamed B.named, hts⟩, hK, B.returns, B.notSynchronized, fun q h => Or.inr h⟩ ⟨hP, hD0.self, va_S.rf⟩ hl
theorem Cv.intro {G : GG} {l : Launch} {y : MethodName} {ws : List Cond} {rm : Room} {av : List Value} {w0 : va_W} {w1 : va_W} (cc : ByteArray) (maxL : Nat) (ret : Option FieldType) (own : String) {ws' : List Cond} (hy : plainName y.cls = true) (hw : ws = Cond.code y cc maxL ret :: ws') (hown : y.cls = own) (hlen : (lg_sl av).length ≤ maxL)
    (body : ∀ (p : Program) (e : Env) (s : State) (m : MethodId) (below : List Frame) (meth : Method) (c : Code) (A : Nat → Prop) (ls : Array Slot), Cx p s m av.toArray meth c cc maxL ret ws own G A → Wd G A s s.heap [] w0 → lv_has ls maxL (lv_args 0 av) → W p l e rm s m av.toArray below meth c s.heap [] 0 0 (MQ below (Qv G A w1) av.toArray s 0 0 A) (F0 m 0 ls [])) : Cv G l y ws rm av w0 w1 := by
  intro sz
  refine Met.ofW (cc := cc) (maxL := maxL) (ret := ret) hy hw ?_
  intro p e s m args below meth c s₁ B hml hv
  obtain ⟨rfl, hsz, hP, hK, hD0⟩ := hv
  subst hsz
  have hts := atoms_spec (ws := ws) B.pre
  have hl := lv_entry av (n := maxL) hlen
  rw [lg_entry_eq]
  exact body p e s m below meth c (va_A w0 s.heap.size) _ ⟨⟨B.exec, B.bytes, hml, hown ▸ findClass_of_methodNamed B.named, hts⟩, hK, B.returns, B.notSynchronized, fun q h => Or.inr h⟩ ⟨hP, hD0.self, va_S.rf⟩ hl
/-! pure programs -/
noncomputable def ck {α : Type} (c : Prop) (k : Option α) : Option α := @ite _ c (Classical.propDecidable c) k none
noncomputable def br {α : Type} (c : Prop) (a b : Option α) : Option α := @ite _ c (Classical.propDecidable c) a b
def nm {α β : Type} (v : β) (k : β → Option α) : Option α := k v
def bd {α β : Type} (x : Option β) (k : β → Option α) : Option α := x.bind k
def bd2 {α β1 β2 : Type} (x : Option (β1 × β2)) (k : β1 → β2 → Option α) : Option α := x.bind fun q => k q.1 q.2
def bd3 {α β1 β2 β3 : Type} (x : Option (β1 × β2 × β3)) (k : β1 → β2 → β3 → Option α) : Option α := x.bind fun q => k q.1 q.2.1 q.2.2
def bd4 {α β1 β2 β3 β4 : Type} (x : Option (β1 × β2 × β3 × β4)) (k : β1 → β2 → β3 → β4 → Option α) : Option α := x.bind fun q => k q.1 q.2.1 q.2.2.1 q.2.2.2
theorem ck_ok {α : Type} {c : Prop} {k : Option α} {r : α} (h : ck c k = some r) : c ∧ k = some r := by
  unfold ck at h
  by_cases hc : c
  · rw [if_pos hc] at h; exact ⟨hc, h⟩
  · rw [if_neg hc] at h; cases h
theorem ck_t {α : Type} {c : Prop} {k : Option α} (h : c) : ck c k = k := by unfold ck; rw [if_pos h]
theorem br_T {α : Type} {c : Prop} {a b : Option α} (h : c) : br c a b = a := by unfold br; rw [if_pos h]
theorem br_F {α : Type} {c : Prop} {a b : Option α} (h : ¬ c) : br c a b = b := by unfold br; rw [if_neg h]
theorem br_yes {α : Type} {c : Prop} {a b : Option α} {r : Option α} (h : br c a b = r) (hc : c) : a = r := by rw [br_T hc] at h; exact h
theorem br_no {α : Type} {c : Prop} {a b : Option α} {r : Option α} (h : br c a b = r) (hc : ¬ c) : b = r := by rw [br_F hc] at h; exact h
theorem nm_ok {α β : Type} {v : β} {k : β → Option α} {r : Option α} (h : nm v k = r) : ∃ x, x = v ∧ k x = r := ⟨v, rfl, h⟩
theorem bd_ok {α β : Type} {x : Option β} {k : β → Option α} {r : α} (h : bd x k = some r) : ∃ y, x = some y ∧ k y = some r := by
  cases x with
  | none => cases h
  | some y => exact ⟨y, rfl, h⟩
theorem bd2_ok {α β1 β2 : Type} {x : Option (β1 × β2)} {k : β1 → β2 → Option α} {r : α} (h : bd2 x k = some r) : ∃ y1 y2, x = some (y1, y2) ∧ k y1 y2 = some r := by
  cases x with
  | none => cases h
  | some y => exact ⟨y.1, y.2, rfl, h⟩
theorem bd3_ok {α β1 β2 β3 : Type} {x : Option (β1 × β2 × β3)} {k : β1 → β2 → β3 → Option α} {r : α} (h : bd3 x k = some r) : ∃ y1 y2 y3, x = some (y1, y2, y3) ∧ k y1 y2 y3 = some r := by
  cases x with
  | none => cases h
  | some y => exact ⟨y.1, y.2.1, y.2.2, rfl, h⟩
theorem bd4_ok {α β1 β2 β3 β4 : Type} {x : Option (β1 × β2 × β3 × β4)} {k : β1 → β2 → β3 → β4 → Option α} {r : α} (h : bd4 x k = some r) : ∃ y1 y2 y3 y4, x = some (y1, y2, y3, y4) ∧ k y1 y2 y3 y4 = some r := by
  cases x with
  | none => cases h
  | some y => exact ⟨y.1, y.2.1, y.2.2.1, y.2.2.2, rfl, h⟩
/-- the fuel of a loop -/
def FU : Nat := 1000000
/-! what the objects hold -/
abbrev AF : Type := Nat → Int32
abbrev CV : Type := Int32 × Int32 × Int32 × Int32 × AF × AF × AF × AF × AF × AF
def C_se (v : CV) : Int32 := v.1
def C_jo (v : CV) : Int32 := v.2.1
def C_sh (v : CV) : Int32 := v.2.2.1
def C_pi (v : CV) : Int32 := v.2.2.2.1
def C_vo (v : CV) : AF := v.2.2.2.2.1
def C_ar (v : CV) : AF := v.2.2.2.2.2.1
def C_ch (v : CV) : AF := v.2.2.2.2.2.2.1
def C_fe (v : CV) : AF := v.2.2.2.2.2.2.2.1
def C_fi (v : CV) : AF := v.2.2.2.2.2.2.2.2.1
def C_sd (v : CV) : AF := v.2.2.2.2.2.2.2.2.2
def cB (G : GG) (a : Nat → Nat) (v : CV) : va_W := [(a 0, .inr (0, [.int (C_se v), .int (C_jo v), .int (C_sh v), .int (C_pi v), .ref (a 1), .ref (a 2), .ref (a 3), .ref (a 4), .ref (a 5), .ref (a 6)])), (a 1, .inl (G.2.1, 12, .inl (C_vo v))), (a 2, .inl (G.2.1, 12, .inl (C_ar v))), (a 3, .inl (G.2.1, 12, .inl (C_ch v))), (a 4, .inl (G.2.2.1, 12, .inl (C_fe v))), (a 5, .inl (G.2.1, 20, .inl (C_fi v))), (a 6, .inl (G.2.1, 20, .inl (C_sd v)))]
abbrev FV : Type := Int32 × AF × AF × AF × AF × AF × AF
def F_se (v : FV) : Int32 := v.1
def F_st (v : FV) : AF := v.2.1
def F_od (v : FV) : AF := v.2.2.1
def F_so (v : FV) : AF := v.2.2.2.1
def F_ne (v : FV) : AF := v.2.2.2.2.1
def F_po (v : FV) : AF := v.2.2.2.2.2.1
def F_ex (v : FV) : AF := v.2.2.2.2.2.2
def fB (G : GG) (a : Nat → Nat) (v : FV) : va_W := [(a 0, .inr (1, [.int (F_se v), .ref (a 1), .ref (a 2), .ref (a 3), .ref (a 4), .ref (a 5), .ref (a 6)])), (a 1, .inl (G.2.1, 12, .inl (F_st v))), (a 2, .inl (G.2.1, 12, .inl (F_od v))), (a 3, .inl (G.2.1, 12, .inl (F_so v))), (a 4, .inl (G.2.1, 12, .inl (F_ne v))), (a 5, .inl (G.2.1, 12, .inl (F_po v))), (a 6, .inl (G.2.1, 12, .inl (F_ex v)))]
abbrev TV : Type := AF × Int32 × Int32 × Int32 × Int32
def T_co (v : TV) : AF := v.1
def T_le (v : TV) : Int32 := v.2.1
def T_it (v : TV) : Int32 := v.2.2.1
def T_pl (v : TV) : Int32 := v.2.2.2.1
def T_fa (v : TV) : Int32 := v.2.2.2.2
def tB (G : GG) (a : Nat → Nat) (v : TV) : va_W := [(a 0, .inr (3, [.ref (a 1), .int (T_le v), .int (T_it v), .int (T_pl v), .int (T_fa v)])), (a 1, .inl (G.2.1, 120, .inl (T_co v)))]
abbrev MV : Type := AF × Int32 × AF × AF × AF × AF × AF × Int32 × Int32 × Int32 × Int32 × Int64
def M_ro (v : MV) : AF := v.1
def M_sa (v : MV) : Int32 := v.2.1
def M_od (v : MV) : AF := v.2.2.1
def M_st (v : MV) : AF := v.2.2.2.1
def M_ne (v : MV) : AF := v.2.2.2.2.1
def M_fd (v : MV) : AF := v.2.2.2.2.2.1
def M_tx (v : MV) : AF := v.2.2.2.2.2.2.1
def M_le (v : MV) : Int32 := v.2.2.2.2.2.2.2.1
def M_at (v : MV) : Int32 := v.2.2.2.2.2.2.2.2.1
def M_nu (v : MV) : Int32 := v.2.2.2.2.2.2.2.2.2.1
def M_it (v : MV) : Int32 := v.2.2.2.2.2.2.2.2.2.2.1
def M_h (v : MV) : Int64 := v.2.2.2.2.2.2.2.2.2.2.2
def mB (G : GG) (a : Nat → Nat) (v : MV) : va_W := [(a 0, .inr (5, [.ref (a 1), .int (M_sa v), .ref (a 2), .ref (a 3), .ref (a 4), .ref (a 5), .ref (a 6), .int (M_le v), .int (M_at v), .int (M_nu v), .int (M_it v), .long (M_h v)])), (a 1, .inl (G.2.1, 644, .inl (M_ro v))), (a 2, .inl (G.2.1, 12, .inl (M_od v))), (a 3, .inl (G.2.1, 12, .inl (M_st v))), (a 4, .inl (G.2.1, 12, .inl (M_ne v))), (a 5, .inl (G.2.1, 12, .inl (M_fd v))), (a 6, .inl (G.2.1, 120, .inl (M_tx v)))]
/-- the history: its size, its states, their addresses -/
abbrev HV : Type := Int32 × (Nat → CV) × (Nat → Nat → Nat)
def H_si (v : HV) : Int32 := v.1
def H_st (v : HV) : Nat → CV := v.2.1
def H_ad (v : HV) : Nat → Nat → Nat := v.2.2
def hB (G : GG) (a : Nat → Nat) (v : HV) : va_W := [(a 0, .inr (2, [.ref (a 1), .int (H_si v)])), (a 1, .inl (G.2.2.2, 5, .inr (.inr (.inr (.inr (fun k => some (H_ad v k 0)))))))] ++ (cB G (H_ad v 0) (H_st v 0) ++ (cB G (H_ad v 1) (H_st v 1) ++ (cB G (H_ad v 2) (H_st v 2) ++ (cB G (H_ad v 3) (H_st v 3) ++ cB G (H_ad v 4) (H_st v 4)))))
/-- the object of the class: it never changes -/
def xB (ax : Nat) (ac af ah at_ ar ad : Nat → Nat) : va_W := [(ax, .inr (4, [.ref (ac 0), .ref (af 0), .ref (ah 0), .ref (at_ 0), .ref (ar 0), .ref (ad 0)]))]
/-- a row by itself -/
abbrev rB (G : GG) (a n : Nat) (f : AF) : va_W := [(a, .inl (G.2.1, n, .inl f))]
end
section
def rX4_isWithin : Room := { frames := 0, cells := 0, slots := 0, locals := 0 }
theorem hd_X4_isWithin : yX4_isWithin.cls = RX4 ∧ yX4_isWithin.cls ≠ "java/lang/invoke/MethodHandle" ∧ yX4_isWithin.cls ≠ "java/lang/invoke/VarHandle" ∧ (parseMethodDescriptor yX4_isWithin.desc).map (fun d => d.parameters.length) = some 3 := by decide +kernel
noncomputable def f_X4_isWithin   (x0 : Int32) (x1 : Int32) (x2 : Int32) : Option (Int32) :=
  br (x0 < x1)
    (some (0))
    (br (x2 < x0)
       (some (0))
       (some (1)))
set_option maxHeartbeats 4000000 in
set_option maxRecDepth 100000 in
theorem m_X4_isWithin {G : GG} {l : Launch}   {x0 : Int32} {x1 : Int32} {x2 : Int32} {r : Int32}  (h : f_X4_isWithin x0 x1 x2 = some (r)) : Ci G l yX4_isWithin wsX4_isWithin rX4_isWithin [.int x0, .int x1, .int x2] (fl []) r (fl []) := by
  refine Ci.intro cX4_isWithin 3 (some .boolean) RX4 (by decide) rfl rfl (Nat.le_of_ble_eq_true rfl) ?_
  intro p e s m below meth c A ls X hw hl
  obtain ⟨⟨hx, hb, hml, hown, hts⟩, hK, hr, hlk, hA⟩ := id X
  unfold f_X4_isWithin at h
  have hl : lv_has ls 3 [(0, .int x0), (1, .int x1), (2, .int x2)] := hl
  refine lv_iload_n hx hb dX4_isWithin_0 rfl (lv_at hl 0 rfl) ?_
  refine lv_iload_n hx hb dX4_isWithin_1 rfl (lv_at hl 1 rfl) ?_
  refine lv_icmp_lt (tgt := 14) hx hb dX4_isWithin_2 (by decide) (fun k_1 => ?_) (fun k_1 => ?_)
  · have h := br_yes h k_1
    refine lv_iconst (v := 0) hx hb dX4_isWithin_14 (by decide) ?_
    cases h
    exact x_iret X (narz (Or.inl rfl)) hw rfl rfl dX4_isWithin_15
  · have h := br_no h k_1
    refine lv_iload_n hx hb dX4_isWithin_5 rfl (lv_at hl 0 rfl) ?_
    refine lv_iload_n hx hb dX4_isWithin_6 rfl (lv_at hl 2 rfl) ?_
    refine lv_icmp_gt (tgt := 14) hx hb dX4_isWithin_7 (by decide) (fun k_2 => ?_) (fun k_2 => ?_)
    · have h := br_yes h k_2
      refine lv_iconst (v := 0) hx hb dX4_isWithin_14 (by decide) ?_
      cases h
      exact x_iret X (narz (Or.inl rfl)) hw rfl rfl dX4_isWithin_15
    · have h := br_no h k_2
      refine lv_iconst (v := 1) hx hb dX4_isWithin_10 (by decide) ?_
      refine lv_goto (tgt := 15) hx hb dX4_isWithin_11 (by decide) ?_
      cases h
      exact x_iret X (narz (Or.inr rfl)) hw rfl rfl dX4_isWithin_15

def rX4_isSize : Room := { frames := 1, cells := 0, slots := 0, locals := 22 }
theorem hd_X4_isSize : yX4_isSize.cls = RX4 ∧ yX4_isSize.cls ≠ "java/lang/invoke/MethodHandle" ∧ yX4_isSize.cls ≠ "java/lang/invoke/VarHandle" ∧ (parseMethodDescriptor yX4_isSize.desc).map (fun d => d.parameters.length) = some 1 := by decide +kernel
noncomputable def f_X4_isSize   (x0 : Int32) : Option (Int32) :=
  bd (f_X4_isWithin x0 1 5000) fun r_1 =>
  ck (r_1 = 0 ∨ r_1 = 1) <|
  some (r_1)
set_option maxHeartbeats 4000000 in
set_option maxRecDepth 100000 in
theorem m_X4_isSize {G : GG} {l : Launch}   {x0 : Int32} {r : Int32}  (h : f_X4_isSize x0 = some (r)) : Ci G l yX4_isSize wsX4_isSize rX4_isSize [.int x0] (fl []) r (fl []) := by
  refine Ci.intro cX4_isSize 1 (some .boolean) RX4 (by decide) rfl rfl (Nat.le_of_ble_eq_true rfl) ?_
  intro p e s m below meth c A ls X hw hl
  obtain ⟨⟨hx, hb, hml, hown, hts⟩, hK, hr, hlk, hA⟩ := id X
  unfold f_X4_isSize at h
  have hl : lv_has ls 1 [(0, .int x0)] := hl
  refine lv_iload_n hx hb dX4_isSize_0 rfl (lv_at hl 0 rfl) ?_
  refine lv_iconst (v := 1) hx hb dX4_isSize_1 (by decide) ?_
  refine lv_sipush (v := 5000) hx hb dX4_isSize_2 (by decide) ?_
  obtain ⟨r_1, c_2, h⟩ := bd_ok h
  refine x_Si (As := [.int x0, .int 1, .int 5000]) (w' := fl []) X hw (m_X4_isWithin (G := G) (l := l) c_2) Cut.nil (va_cwS 3 hts gX4_isSize_X4_isWithin rfl rfl rfl hd_X4_isWithin.2 ⟨Nat.le_of_ble_eq_true rfl, Nat.le_of_ble_eq_true rfl⟩) rfl hl.1 rfl (Nat.le_of_ble_eq_true rfl) dX4_isSize_5 ⟨Nat.le_of_ble_eq_true rfl, Nat.le_of_ble_eq_true rfl⟩ (fun H locs hw => ?_)
  obtain ⟨k_3, h⟩ := ck_ok h
  cases h
  exact x_iret X (narz k_3) hw rfl rfl dX4_isSize_8

def rX4_at : Room := { frames := 0, cells := 0, slots := 0, locals := 0 }
theorem hd_X4_at : yX4_at.cls = RX4 ∧ yX4_at.cls ≠ "java/lang/invoke/MethodHandle" ∧ yX4_at.cls ≠ "java/lang/invoke/VarHandle" ∧ (parseMethodDescriptor yX4_at.desc).map (fun d => d.parameters.length) = some 2 := by decide +kernel
noncomputable def f_X4_at (n_q : Nat) (y : AF) (x1 : Int32) : Option (Int32) :=
  br (x1 < 0)
    (some ((-1)))
    (br ((nI n_q) ≤ x1)
       (some ((-1)))
       (ck (vp_in x1 n_q) <|
        some ((y x1.toNatClampNeg))))
set_option maxHeartbeats 4000000 in
set_option maxRecDepth 100000 in
theorem m_X4_at {G : GG} {l : Launch} {q : Nat} {n_q : Nat} {y : AF} {x1 : Int32} {r : Int32}  (h : f_X4_at n_q y x1 = some (r)) : Ci G l yX4_at wsX4_at rX4_at [.ref q, .int x1] (fl [rB G q n_q y]) r (fl [rB G q n_q y]) := by
  refine Ci.intro cX4_at 2 (some .int) RX4 (by decide) rfl rfl (Nat.le_of_ble_eq_true rfl) ?_
  intro p e s m below meth c A ls X hw hl
  obtain ⟨⟨hx, hb, hml, hown, hts⟩, hK, hr, hlk, hA⟩ := id X
  unfold f_X4_at at h
  have hl : lv_has ls 2 [(0, .ref q), (1, .int x1)] := hl
  refine lv_iload_n hx hb dX4_at_0 rfl (lv_at hl 1 rfl) ?_
  refine lv_if_lt (tgt := 16) hx hb dX4_at_1 (by decide) (fun k_1 => ?_) (fun k_1 => ?_)
  · have h := br_yes h k_1
    refine lv_iconst (v := (-1)) hx hb dX4_at_16 (by decide) ?_
    cases h
    exact x_iret X (vp_nar_int _) hw rfl rfl dX4_at_17
  · have h := br_no h k_1
    refine lv_iload_n hx hb dX4_at_4 rfl (lv_at hl 1 rfl) ?_
    refine lv_aload_n hx hb dX4_at_5 rfl (lv_at hl 0 rfl) ?_
    refine x_alen (n := n_q) (t0 := 0) 0 0 X hw rfl rfl rfl rfl dX4_at_6 ?_
    refine lv_icmp_ge (tgt := 16) hx hb dX4_at_7 (by decide) (fun k_2 => ?_) (fun k_2 => ?_)
    · have h := br_yes h k_2
      refine lv_iconst (v := (-1)) hx hb dX4_at_16 (by decide) ?_
      cases h
      exact x_iret X (vp_nar_int _) hw rfl rfl dX4_at_17
    · have h := br_no h k_2
      refine lv_aload_n hx hb dX4_at_10 rfl (lv_at hl 0 rfl) ?_
      refine lv_iload_n hx hb dX4_at_11 rfl (lv_at hl 1 rfl) ?_
      obtain ⟨k_3, h⟩ := ck_ok h
      refine x_iald (f := y) 0 0 X hw rfl rfl k_3 dX4_at_12 ?_
      refine lv_goto (tgt := 17) hx hb dX4_at_13 (by decide) ?_
      cases h
      exact x_iret X (vp_nar_int _) hw rfl rfl dX4_at_17

def rX4_put : Room := { frames := 0, cells := 0, slots := 0, locals := 0 }
theorem hd_X4_put : yX4_put.cls = RX4 ∧ yX4_put.cls ≠ "java/lang/invoke/MethodHandle" ∧ yX4_put.cls ≠ "java/lang/invoke/VarHandle" ∧ (parseMethodDescriptor yX4_put.desc).map (fun d => d.parameters.length) = some 3 := by decide +kernel
noncomputable def f_X4_put (n_q : Nat) (y : AF) (x1 : Int32) (x2 : Int32) : Option (AF) :=
  br (x1 < 0)
    (some (y))
    (br ((nI n_q) ≤ x1)
       (some (y))
       (ck (vp_in x1 n_q) <|
        nm (upd y x1.toNatClampNeg x2) fun g_4 =>
        some (g_4)))
set_option maxHeartbeats 4000000 in
set_option maxRecDepth 100000 in
theorem m_X4_put {G : GG} {l : Launch} {q : Nat} {n_q : Nat} {y : AF} {x1 : Int32} {x2 : Int32} {zy : AF} (h : f_X4_put n_q y x1 x2 = some (zy)) : Cv G l yX4_put wsX4_put rX4_put [.ref q, .int x1, .int x2] (fl [rB G q n_q y]) (fl [rB G q n_q zy]) := by
  refine Cv.intro cX4_put 3 none RX4 (by decide) rfl rfl (Nat.le_of_ble_eq_true rfl) ?_
  intro p e s m below meth c A ls X hw hl
  obtain ⟨⟨hx, hb, hml, hown, hts⟩, hK, hr, hlk, hA⟩ := id X
  unfold f_X4_put at h
  have hl : lv_has ls 3 [(0, .ref q), (1, .int x1), (2, .int x2)] := hl
  refine lv_iload_n hx hb dX4_put_0 rfl (lv_at hl 1 rfl) ?_
  refine lv_if_lt (tgt := 14) hx hb dX4_put_1 (by decide) (fun k_1 => ?_) (fun k_1 => ?_)
  · have h := br_yes h k_1
    cases h
    exact x_vret X hw rfl dX4_put_14
  · have h := br_no h k_1
    refine lv_iload_n hx hb dX4_put_4 rfl (lv_at hl 1 rfl) ?_
    refine lv_aload_n hx hb dX4_put_5 rfl (lv_at hl 0 rfl) ?_
    refine x_alen (n := n_q) (t0 := 0) 0 0 X hw rfl rfl rfl rfl dX4_put_6 ?_
    refine lv_icmp_ge (tgt := 14) hx hb dX4_put_7 (by decide) (fun k_2 => ?_) (fun k_2 => ?_)
    · have h := br_yes h k_2
      cases h
      exact x_vret X hw rfl dX4_put_14
    · have h := br_no h k_2
      refine lv_aload_n hx hb dX4_put_10 rfl (lv_at hl 0 rfl) ?_
      refine lv_iload_n hx hb dX4_put_11 rfl (lv_at hl 1 rfl) ?_
      refine lv_iload_n hx hb dX4_put_12 rfl (lv_at hl 2 rfl) ?_
      obtain ⟨k_3, h⟩ := ck_ok h
      obtain ⟨g_4, eg_4, h⟩ := nm_ok h
      refine x_iast (f := y) (bs' := [rB G q n_q g_4]) 0 0 X hw rfl rfl k_3 dX4_put_13 (by rw [eg_4]; rfl) (fun H locs hw => ?_)
      cases h
      exact x_vret X hw rfl dX4_put_14

def rX4_sum : Room := { frames := 0, cells := 0, slots := 0, locals := 0 }
theorem hd_X4_sum : yX4_sum.cls = RX4 ∧ yX4_sum.cls ≠ "java/lang/invoke/MethodHandle" ∧ yX4_sum.cls ≠ "java/lang/invoke/VarHandle" ∧ (parseMethodDescriptor yX4_sum.desc).map (fun d => d.parameters.length) = some 2 := by decide +kernel
noncomputable def f_X4_sum_b4 (n_q : Nat) (y : AF) (x1 : Int32) : Nat → Int32 → Int32 → Option (Int32)
  | 0 => fun _ _ => none
  | n + 1 => fun x2 x3 =>
    br (x1 ≤ x3)
      (some (x2))
      (br ((nI n_q) ≤ x3)
         (some (x2))
         (ck (vp_in x3 n_q) <|
          nm ((x2 + (y x3.toNatClampNeg))) fun t_4 =>
          nm (x3 + 1) fun t_5 =>
          f_X4_sum_b4 n_q y x1 n t_4 t_5))
set_option maxHeartbeats 4000000 in
set_option maxRecDepth 100000 in
theorem w_X4_sum_b4 {G : GG} {l : Launch} {p : Program} {e : Env} {s : State} {m : MethodId} {args : Array Value} {below : List Frame} {meth : Method} {c : Code} {A : Nat → Prop} {q : Nat} {n_q : Nat} {y : AF} {x1 : Int32} {r : Int32}    (X : Cx p s m args meth c cX4_sum 4 (some .int) wsX4_sum RX4 G A)  :
    ∀ (n : Nat) (x2 : Int32) (x3 : Int32) (H : Heap) (locs : List Loc) (ls : Array Slot), f_X4_sum_b4 n_q y x1 n x2 x3 = some (r) → Wd G A s H locs (fl [rB G q n_q y]) → lv_has ls 4 [(0, .ref q), (1, .int x1), (2, .int x2), (3, .int x3)] → W p l e rX4_sum s m args below meth c H locs 0 0 (MQ below (Qi G A r (fl [rB G q n_q y])) args s 0 0 A) (F0 m 4 ls []) := by
  obtain ⟨⟨hx, hb, hml, hown, hts⟩, hK, hr, hlk, hA⟩ := id X
  intro n
  induction n with
  | zero =>
    intro x2 x3 H locs ls h
    rw [f_X4_sum_b4] at h
    cases h
  | succ n ih =>
    intro x2 x3 H locs ls h hw hl
    rw [f_X4_sum_b4] at h
    refine lv_iload_n hx hb dX4_sum_4 rfl (lv_at hl 3 rfl) ?_
    refine lv_iload_n hx hb dX4_sum_5 rfl (lv_at hl 1 rfl) ?_
    refine lv_icmp_ge (tgt := 27) hx hb dX4_sum_6 (by decide) (fun k_1 => ?_) (fun k_1 => ?_)
    · have h := br_yes h k_1
      refine lv_iload_n hx hb dX4_sum_27 rfl (lv_at hl 2 rfl) ?_
      cases h
      exact x_iret X (vp_nar_int _) hw rfl rfl dX4_sum_28
    · have h := br_no h k_1
      refine lv_iload_n hx hb dX4_sum_9 rfl (lv_at hl 3 rfl) ?_
      refine lv_aload_n hx hb dX4_sum_10 rfl (lv_at hl 0 rfl) ?_
      refine x_alen (n := n_q) (t0 := 0) 0 0 X hw rfl rfl rfl rfl dX4_sum_11 ?_
      refine lv_icmp_ge (tgt := 27) hx hb dX4_sum_12 (by decide) (fun k_2 => ?_) (fun k_2 => ?_)
      · have h := br_yes h k_2
        refine lv_iload_n hx hb dX4_sum_27 rfl (lv_at hl 2 rfl) ?_
        cases h
        exact x_iret X (vp_nar_int _) hw rfl rfl dX4_sum_28
      · have h := br_no h k_2
        refine lv_iload_n hx hb dX4_sum_15 rfl (lv_at hl 2 rfl) ?_
        refine lv_aload_n hx hb dX4_sum_16 rfl (lv_at hl 0 rfl) ?_
        refine lv_iload_n hx hb dX4_sum_17 rfl (lv_at hl 3 rfl) ?_
        obtain ⟨k_3, h⟩ := ck_ok h
        refine x_iald (f := y) 0 0 X hw rfl rfl k_3 dX4_sum_18 ?_
        refine lv_iadd hx hb dX4_sum_19 ?_
        obtain ⟨t_4, et_4, h⟩ := nm_ok h
        refine lv_istore_n (lv' := [(2, .int t_4), (0, .ref q), (1, .int x1), (3, .int x3)]) hx hb dX4_sum_20 rfl hl (by decide) (by rw [et_4]; rfl) (fun ls hl => ?_)
        obtain ⟨t_5, et_5, h⟩ := nm_ok h
        refine lv_iinc (v := t_5) (lv' := [(3, .int t_5), (2, .int t_4), (0, .ref q), (1, .int x1)]) hx hb dX4_sum_21 hl (k := 3) rfl (by rw [et_5]; rfl) (by decide) rfl (fun ls hl => ?_)
        refine lv_goto (tgt := 4) hx hb dX4_sum_24 (by decide) ?_
        exact ih t_4 t_5 _ _ _ h hw (lv_sub hl [2, 3, 1, 0] rfl)
noncomputable def f_X4_sum (n_q : Nat) (y : AF) (x1 : Int32) : Option (Int32) :=
  f_X4_sum_b4 n_q y x1 FU 0 0
set_option maxHeartbeats 4000000 in
set_option maxRecDepth 100000 in
theorem m_X4_sum {G : GG} {l : Launch} {q : Nat} {n_q : Nat} {y : AF} {x1 : Int32} {r : Int32}  (h : f_X4_sum n_q y x1 = some (r)) : Ci G l yX4_sum wsX4_sum rX4_sum [.ref q, .int x1] (fl [rB G q n_q y]) r (fl [rB G q n_q y]) := by
  refine Ci.intro cX4_sum 4 (some .int) RX4 (by decide) rfl rfl (Nat.le_of_ble_eq_true rfl) ?_
  intro p e s m below meth c A ls X hw hl
  obtain ⟨⟨hx, hb, hml, hown, hts⟩, hK, hr, hlk, hA⟩ := id X
  unfold f_X4_sum at h
  have hl : lv_has ls 4 [(0, .ref q), (1, .int x1)] := hl
  refine lv_iconst (v := 0) hx hb dX4_sum_0 (by decide) ?_
  refine lv_istore_n (lv' := [(2, .int 0), (0, .ref q), (1, .int x1)]) hx hb dX4_sum_1 rfl hl (by decide) rfl (fun ls hl => ?_)
  refine lv_iconst (v := 0) hx hb dX4_sum_2 (by decide) ?_
  refine lv_istore_n (lv' := [(3, .int 0), (2, .int 0), (0, .ref q), (1, .int x1)]) hx hb dX4_sum_3 rfl hl (by decide) rfl (fun ls hl => ?_)
  exact w_X4_sum_b4 X FU 0 0 _ _ _ h hw (lv_sub hl [2, 3, 1, 0] rfl)

def rX4_commonDivisor : Room := { frames := 0, cells := 0, slots := 0, locals := 0 }
theorem hd_X4_commonDivisor : yX4_commonDivisor.cls = RX4 ∧ yX4_commonDivisor.cls ≠ "java/lang/invoke/MethodHandle" ∧ yX4_commonDivisor.cls ≠ "java/lang/invoke/VarHandle" ∧ (parseMethodDescriptor yX4_commonDivisor.desc).map (fun d => d.parameters.length) = some 2 := by decide +kernel
noncomputable def f_X4_commonDivisor_b7   : Nat → Int32 → Int32 → Int32 → Option (Int32)
  | 0 => fun _ _ _ => none
  | n + 1 => fun x2 x3 x4 =>
    br (1000 ≤ x4)
      (some (x2))
      (br (x3 = 0)
         (some (x2))
         (ck (¬ x3 = 0) <|
          nm ((x2 - x2 / x3 * x3)) fun t_4 =>
          nm (x4 + 1) fun t_5 =>
          f_X4_commonDivisor_b7 n x3 t_4 t_5))
set_option maxHeartbeats 4000000 in
set_option maxRecDepth 100000 in
theorem w_X4_commonDivisor_b7 {G : GG} {l : Launch} {p : Program} {e : Env} {s : State} {m : MethodId} {args : Array Value} {below : List Frame} {meth : Method} {c : Code} {A : Nat → Prop}   {r : Int32}    (X : Cx p s m args meth c cX4_commonDivisor 6 (some .int) wsX4_commonDivisor RX4 G A)  :
    ∀ (n : Nat) (x2 : Int32) (x3 : Int32) (x4 : Int32) (H : Heap) (locs : List Loc) (ls : Array Slot), f_X4_commonDivisor_b7 n x2 x3 x4 = some (r) → Wd G A s H locs (fl []) → lv_has ls 6 [(2, .int x2), (3, .int x3), (4, .int x4)] → W p l e rX4_commonDivisor s m args below meth c H locs 0 0 (MQ below (Qi G A r (fl [])) args s 0 0 A) (F0 m 7 ls []) := by
  obtain ⟨⟨hx, hb, hml, hown, hts⟩, hK, hr, hlk, hA⟩ := id X
  intro n
  induction n with
  | zero =>
    intro x2 x3 x4 H locs ls h
    rw [f_X4_commonDivisor_b7] at h
    cases h
  | succ n ih =>
    intro x2 x3 x4 H locs ls h hw hl
    rw [f_X4_commonDivisor_b7] at h
    refine lv_iload hx hb dX4_commonDivisor_7 (lv_at hl 2 rfl) ?_
    refine lv_sipush (v := 1000) hx hb dX4_commonDivisor_9 (by decide) ?_
    refine lv_icmp_ge (tgt := 35) hx hb dX4_commonDivisor_12 (by decide) (fun k_1 => ?_) (fun k_1 => ?_)
    · have h := br_yes h k_1
      refine lv_iload_n hx hb dX4_commonDivisor_35 rfl (lv_at hl 0 rfl) ?_
      cases h
      exact x_iret X (vp_nar_int _) hw rfl rfl dX4_commonDivisor_36
    · have h := br_no h k_1
      refine lv_iload_n hx hb dX4_commonDivisor_15 rfl (lv_at hl 1 rfl) ?_
      refine lv_if_eq (tgt := 35) hx hb dX4_commonDivisor_16 (by decide) (fun k_2 => ?_) (fun k_2 => ?_)
      · have h := br_yes h k_2
        refine lv_iload_n hx hb dX4_commonDivisor_35 rfl (lv_at hl 0 rfl) ?_
        cases h
        exact x_iret X (vp_nar_int _) hw rfl rfl dX4_commonDivisor_36
      · have h := br_no h k_2
        refine lv_iload_n hx hb dX4_commonDivisor_19 rfl (lv_at hl 0 rfl) ?_
        refine lv_iload_n hx hb dX4_commonDivisor_20 rfl (lv_at hl 1 rfl) ?_
        obtain ⟨k_3, h⟩ := ck_ok h
        refine lv_irem hx hb dX4_commonDivisor_21 k_3 ?_
        obtain ⟨t_4, et_4, h⟩ := nm_ok h
        refine lv_istore (lv' := [(5, .int t_4), (2, .int x2), (3, .int x3), (4, .int x4)]) hx hb dX4_commonDivisor_22 hl (by decide) (by rw [et_4]; rfl) (fun ls hl => ?_)
        refine lv_iload_n hx hb dX4_commonDivisor_24 rfl (lv_at hl 2 rfl) ?_
        refine lv_istore_n (lv' := [(2, .int x3), (5, .int t_4), (3, .int x3), (4, .int x4)]) hx hb dX4_commonDivisor_25 rfl hl (by decide) rfl (fun ls hl => ?_)
        refine lv_iload hx hb dX4_commonDivisor_26 (lv_at hl 1 rfl) ?_
        refine lv_istore_n (lv' := [(3, .int t_4), (2, .int x3), (5, .int t_4), (4, .int x4)]) hx hb dX4_commonDivisor_28 rfl hl (by decide) rfl (fun ls hl => ?_)
        obtain ⟨t_5, et_5, h⟩ := nm_ok h
        refine lv_iinc (v := t_5) (lv' := [(4, .int t_5), (3, .int t_4), (2, .int x3), (5, .int t_4)]) hx hb dX4_commonDivisor_29 hl (k := 3) rfl (by rw [et_5]; rfl) (by decide) rfl (fun ls hl => ?_)
        refine lv_goto (tgt := 7) hx hb dX4_commonDivisor_32 (by decide) ?_
        exact ih x3 t_4 t_5 _ _ _ h hw (lv_sub hl [2, 1, 0] rfl)
noncomputable def f_X4_commonDivisor   (x0 : Int32) (x1 : Int32) : Option (Int32) :=
  f_X4_commonDivisor_b7 FU x0 x1 0
set_option maxHeartbeats 4000000 in
set_option maxRecDepth 100000 in
theorem m_X4_commonDivisor {G : GG} {l : Launch}   {x0 : Int32} {x1 : Int32} {r : Int32}  (h : f_X4_commonDivisor x0 x1 = some (r)) : Ci G l yX4_commonDivisor wsX4_commonDivisor rX4_commonDivisor [.int x0, .int x1] (fl []) r (fl []) := by
  refine Ci.intro cX4_commonDivisor 6 (some .int) RX4 (by decide) rfl rfl (Nat.le_of_ble_eq_true rfl) ?_
  intro p e s m below meth c A ls X hw hl
  obtain ⟨⟨hx, hb, hml, hown, hts⟩, hK, hr, hlk, hA⟩ := id X
  unfold f_X4_commonDivisor at h
  have hl : lv_has ls 6 [(0, .int x0), (1, .int x1)] := hl
  refine lv_iload_n hx hb dX4_commonDivisor_0 rfl (lv_at hl 0 rfl) ?_
  refine lv_istore_n (lv' := [(2, .int x0), (0, .int x0), (1, .int x1)]) hx hb dX4_commonDivisor_1 rfl hl (by decide) rfl (fun ls hl => ?_)
  refine lv_iload_n hx hb dX4_commonDivisor_2 rfl (lv_at hl 2 rfl) ?_
  refine lv_istore_n (lv' := [(3, .int x1), (2, .int x0), (0, .int x0), (1, .int x1)]) hx hb dX4_commonDivisor_3 rfl hl (by decide) rfl (fun ls hl => ?_)
  refine lv_iconst (v := 0) hx hb dX4_commonDivisor_4 (by decide) ?_
  refine lv_istore (lv' := [(4, .int 0), (3, .int x1), (2, .int x0), (0, .int x0), (1, .int x1)]) hx hb dX4_commonDivisor_5 hl (by decide) rfl (fun ls hl => ?_)
  exact w_X4_commonDivisor_b7 X FU x0 x1 0 _ _ _ h hw (lv_sub hl [2, 1, 0] rfl)
end
section
def rX0_hasRoomForSection : Room := { frames := 0, cells := 0, slots := 0, locals := 0 }
theorem hd_X0_hasRoomForSection : yX0_hasRoomForSection.cls = RX0 ∧ yX0_hasRoomForSection.cls ≠ "java/lang/invoke/MethodHandle" ∧ yX0_hasRoomForSection.cls ≠ "java/lang/invoke/VarHandle" ∧ (parseMethodDescriptor yX0_hasRoomForSection.desc).map (fun d => d.parameters.length) = some 0 := by decide +kernel
theorem in_X0_hasRoomForSection_0 : ∀ w ∈ u_ws RX0 TX0 10, w ∈ wsX0_hasRoomForSection := fun w h => (List.mem_cons_of_mem _ (List.mem_append_right _ h))
noncomputable def f_X0_hasRoomForSection  (v : CV)  : Option (Int32) :=
  br (12 ≤ (C_se v))
    (some (0))
    (some (1))
set_option maxHeartbeats 4000000 in
set_option maxRecDepth 100000 in
theorem m_X0_hasRoomForSection {G : GG} {l : Launch} {a : Nat → Nat} {v : CV}  {r : Int32}  (h : f_X0_hasRoomForSection v = some (r)) : Ci G l yX0_hasRoomForSection wsX0_hasRoomForSection rX0_hasRoomForSection [.ref (a 0)] (fl [cB G a v]) r (fl [cB G a v]) := by
  refine Ci.intro cX0_hasRoomForSection 1 (some .boolean) RX0 (by decide) rfl rfl (Nat.le_of_ble_eq_true rfl) ?_
  intro p e s m below meth c A ls X hw hl
  obtain ⟨⟨hx, hb, hml, hown, hts⟩, hK, hr, hlk, hA⟩ := id X
  unfold f_X0_hasRoomForSection at h
  have hl : lv_has ls 1 [(0, .ref (a 0))] := hl
  refine lv_aload_n hx hb dX0_hasRoomForSection_0 rfl (lv_at hl 0 rfl) ?_
  refine x_get (v := .int (C_se v)) 0 0 X hw in_X0_hasRoomForSection_0 rfl rfl rfl 0 (by decide) (List.mem_of_getElem? (i := 1) rfl) rfl rfl dX0_hasRoomForSection_1 ?_
  refine lv_bipush (v := 12) hx hb dX0_hasRoomForSection_4 (by decide) ?_
  refine lv_icmp_ge (tgt := 13) hx hb dX0_hasRoomForSection_6 (by decide) (fun k_1 => ?_) (fun k_1 => ?_)
  · have h := br_yes h k_1
    refine lv_iconst (v := 0) hx hb dX0_hasRoomForSection_13 (by decide) ?_
    cases h
    exact x_iret X (narz (Or.inl rfl)) hw rfl rfl dX0_hasRoomForSection_14
  · have h := br_no h k_1
    refine lv_iconst (v := 1) hx hb dX0_hasRoomForSection_9 (by decide) ?_
    refine lv_goto (tgt := 14) hx hb dX0_hasRoomForSection_10 (by decide) ?_
    cases h
    exact x_iret X (narz (Or.inr rfl)) hw rfl rfl dX0_hasRoomForSection_14

def rX0_copyFrom : Room := { frames := 0, cells := 0, slots := 0, locals := 0 }
theorem hd_X0_copyFrom : yX0_copyFrom.cls = RX0 ∧ yX0_copyFrom.cls ≠ "java/lang/invoke/MethodHandle" ∧ yX0_copyFrom.cls ≠ "java/lang/invoke/VarHandle" ∧ (parseMethodDescriptor yX0_copyFrom.desc).map (fun d => d.parameters.length) = some 1 := by decide +kernel
theorem in_X0_copyFrom_0 : ∀ w ∈ u_ws RX0 TX0 10, w ∈ wsX0_copyFrom := fun w h => (List.mem_cons_of_mem _ (List.mem_append_right _ h))
noncomputable def f_X0_copyFrom_b96  (v1 : CV) : Nat → CV → Int32 → Option (CV)
  | 0 => fun _ _ => none
  | n + 1 => fun v x2 =>
    br (20 ≤ x2)
      (some (v))
      (ck (vp_in x2 20) <|
       nm (((C_fi v1) x2.toNatClampNeg)) fun t_3 =>
       ck (vp_in x2 20) <|
       nm (upd (C_fi v) x2.toNatClampNeg t_3) fun g_5 =>
       ck (vp_in x2 20) <|
       nm (((C_sd v1) x2.toNatClampNeg)) fun t_7 =>
       ck (vp_in x2 20) <|
       nm (upd (C_sd v) x2.toNatClampNeg t_7) fun g_9 =>
       nm (x2 + 1) fun t_10 =>
       f_X0_copyFrom_b96 v1 n ((C_se v), (C_jo v), (C_sh v), (C_pi v), (C_vo v), (C_ar v), (C_ch v), (C_fe v), g_5, g_9) t_10)
set_option maxHeartbeats 4000000 in
set_option maxRecDepth 100000 in
theorem w_X0_copyFrom_b96 {G : GG} {l : Launch} {p : Program} {e : Env} {s : State} {m : MethodId} {args : Array Value} {below : List Frame} {meth : Method} {c : Code} {A : Nat → Prop} {a : Nat → Nat} {a1 : Nat → Nat} {v1 : CV} {zv : CV}   (X : Cx p s m args meth c cX0_copyFrom 3 none wsX0_copyFrom RX0 G A)  :
    ∀ (n : Nat) (v : CV) (x2 : Int32) (H : Heap) (locs : List Loc) (ls : Array Slot), f_X0_copyFrom_b96 v1 n v x2 = some (zv) → Wd G A s H locs (fl [cB G a v, cB G a1 v1]) → lv_has ls 3 [(0, .ref (a 0)), (1, .ref (a1 0)), (2, .int x2)] → W p l e rX0_copyFrom s m args below meth c H locs 0 0 (MQ below (Qv G A (fl [cB G a zv, cB G a1 v1])) args s 0 0 A) (F0 m 96 ls []) := by
  obtain ⟨⟨hx, hb, hml, hown, hts⟩, hK, hr, hlk, hA⟩ := id X
  intro n
  induction n with
  | zero =>
    intro v x2 H locs ls h
    rw [f_X0_copyFrom_b96] at h
    cases h
  | succ n ih =>
    intro v x2 H locs ls h hw hl
    rw [f_X0_copyFrom_b96] at h
    refine lv_iload_n hx hb dX0_copyFrom_96 rfl (lv_at hl 2 rfl) ?_
    refine lv_bipush (v := 20) hx hb dX0_copyFrom_97 (by decide) ?_
    refine lv_icmp_ge (tgt := 132) hx hb dX0_copyFrom_99 (by decide) (fun k_1 => ?_) (fun k_1 => ?_)
    · have h := br_yes h k_1
      cases h
      exact x_vret X hw rfl dX0_copyFrom_132
    · have h := br_no h k_1
      refine lv_aload_n hx hb dX0_copyFrom_102 rfl (lv_at hl 0 rfl) ?_
      refine x_get (v := .ref (a 5)) 0 0 X hw in_X0_copyFrom_0 rfl rfl rfl 8 (by decide) (List.mem_of_getElem? (i := 9) rfl) rfl rfl dX0_copyFrom_103 ?_
      refine lv_iload_n hx hb dX0_copyFrom_106 rfl (lv_at hl 2 rfl) ?_
      refine lv_aload_n hx hb dX0_copyFrom_107 rfl (lv_at hl 1 rfl) ?_
      refine x_get (v := .ref (a1 5)) 1 0 X hw in_X0_copyFrom_0 rfl rfl rfl 8 (by decide) (List.mem_of_getElem? (i := 9) rfl) rfl rfl dX0_copyFrom_108 ?_
      refine lv_iload_n hx hb dX0_copyFrom_111 rfl (lv_at hl 2 rfl) ?_
      obtain ⟨k_2, h⟩ := ck_ok h
      refine x_iald (f := (C_fi v1)) 1 5 X hw rfl rfl k_2 dX0_copyFrom_112 ?_
      obtain ⟨t_3, et_3, h⟩ := nm_ok h
      rw [← et_3]
      obtain ⟨k_4, h⟩ := ck_ok h
      obtain ⟨g_5, eg_5, h⟩ := nm_ok h
      refine x_iast (f := (C_fi v)) (bs' := [cB G a ((C_se v), (C_jo v), (C_sh v), (C_pi v), (C_vo v), (C_ar v), (C_ch v), (C_fe v), g_5, (C_sd v)), cB G a1 v1]) 0 5 X hw rfl rfl k_4 dX0_copyFrom_113 (by rw [eg_5]; rfl) (fun H locs hw => ?_)
      refine lv_aload_n hx hb dX0_copyFrom_114 rfl (lv_at hl 0 rfl) ?_
      refine x_get (v := .ref (a 6)) 0 0 X hw in_X0_copyFrom_0 rfl rfl rfl 9 (by decide) (List.mem_of_getElem? (i := 10) rfl) rfl rfl dX0_copyFrom_115 ?_
      refine lv_iload_n hx hb dX0_copyFrom_118 rfl (lv_at hl 2 rfl) ?_
      refine lv_aload_n hx hb dX0_copyFrom_119 rfl (lv_at hl 1 rfl) ?_
      refine x_get (v := .ref (a1 6)) 1 0 X hw in_X0_copyFrom_0 rfl rfl rfl 9 (by decide) (List.mem_of_getElem? (i := 10) rfl) rfl rfl dX0_copyFrom_120 ?_
      refine lv_iload_n hx hb dX0_copyFrom_123 rfl (lv_at hl 2 rfl) ?_
      obtain ⟨k_6, h⟩ := ck_ok h
      refine x_iald (f := (C_sd v1)) 1 6 X hw rfl rfl k_6 dX0_copyFrom_124 ?_
      obtain ⟨t_7, et_7, h⟩ := nm_ok h
      rw [← et_7]
      obtain ⟨k_8, h⟩ := ck_ok h
      obtain ⟨g_9, eg_9, h⟩ := nm_ok h
      refine x_iast (f := (C_sd v)) (bs' := [cB G a ((C_se v), (C_jo v), (C_sh v), (C_pi v), (C_vo v), (C_ar v), (C_ch v), (C_fe v), g_5, g_9), cB G a1 v1]) 0 6 X hw rfl rfl k_8 dX0_copyFrom_125 (by rw [eg_9]; rfl) (fun H locs hw => ?_)
      obtain ⟨t_10, et_10, h⟩ := nm_ok h
      refine lv_iinc (v := t_10) (lv' := [(2, .int t_10), (0, .ref (a 0)), (1, .ref (a1 0))]) hx hb dX0_copyFrom_126 hl (k := 2) rfl (by rw [et_10]; rfl) (by decide) rfl (fun ls hl => ?_)
      refine lv_goto (tgt := 96) hx hb dX0_copyFrom_129 (by decide) ?_
      exact ih ((C_se v), (C_jo v), (C_sh v), (C_pi v), (C_vo v), (C_ar v), (C_ch v), (C_fe v), g_5, g_9) t_10 _ _ _ h hw (lv_sub hl [1, 2, 0] rfl)
noncomputable def f_X0_copyFrom_b34  (v1 : CV) : Nat → CV → Int32 → Option (CV)
  | 0 => fun _ _ => none
  | n + 1 => fun v x2 =>
    br (12 ≤ x2)
      (f_X0_copyFrom_b96 v1 FU v 0)
      (ck (vp_in x2 12) <|
       nm (((C_vo v1) x2.toNatClampNeg)) fun t_3 =>
       ck (vp_in x2 12) <|
       nm (upd (C_vo v) x2.toNatClampNeg t_3) fun g_5 =>
       ck (vp_in x2 12) <|
       nm (((C_ar v1) x2.toNatClampNeg)) fun t_7 =>
       ck (vp_in x2 12) <|
       nm (upd (C_ar v) x2.toNatClampNeg t_7) fun g_9 =>
       ck (vp_in x2 12) <|
       nm (((C_ch v1) x2.toNatClampNeg)) fun t_11 =>
       ck (vp_in x2 12) <|
       nm (upd (C_ch v) x2.toNatClampNeg t_11) fun g_13 =>
       ck (vp_in x2 12) <|
       nm (((C_fe v1) x2.toNatClampNeg)) fun t_15 =>
       ck (vp_in x2 12) <|
       ck (t_15 = 0 ∨ t_15 = 1) <|
       nm (upd (C_fe v) x2.toNatClampNeg t_15) fun g_18 =>
       nm (x2 + 1) fun t_19 =>
       f_X0_copyFrom_b34 v1 n ((C_se v), (C_jo v), (C_sh v), (C_pi v), g_5, g_9, g_13, g_18, (C_fi v), (C_sd v)) t_19)
set_option maxHeartbeats 4000000 in
set_option maxRecDepth 100000 in
theorem w_X0_copyFrom_b34 {G : GG} {l : Launch} {p : Program} {e : Env} {s : State} {m : MethodId} {args : Array Value} {below : List Frame} {meth : Method} {c : Code} {A : Nat → Prop} {a : Nat → Nat} {a1 : Nat → Nat} {v1 : CV} {zv : CV}   (X : Cx p s m args meth c cX0_copyFrom 3 none wsX0_copyFrom RX0 G A)  :
    ∀ (n : Nat) (v : CV) (x2 : Int32) (H : Heap) (locs : List Loc) (ls : Array Slot), f_X0_copyFrom_b34 v1 n v x2 = some (zv) → Wd G A s H locs (fl [cB G a v, cB G a1 v1]) → lv_has ls 3 [(0, .ref (a 0)), (1, .ref (a1 0)), (2, .int x2)] → W p l e rX0_copyFrom s m args below meth c H locs 0 0 (MQ below (Qv G A (fl [cB G a zv, cB G a1 v1])) args s 0 0 A) (F0 m 34 ls []) := by
  obtain ⟨⟨hx, hb, hml, hown, hts⟩, hK, hr, hlk, hA⟩ := id X
  intro n
  induction n with
  | zero =>
    intro v x2 H locs ls h
    rw [f_X0_copyFrom_b34] at h
    cases h
  | succ n ih =>
    intro v x2 H locs ls h hw hl
    rw [f_X0_copyFrom_b34] at h
    refine lv_iload_n hx hb dX0_copyFrom_34 rfl (lv_at hl 2 rfl) ?_
    refine lv_bipush (v := 12) hx hb dX0_copyFrom_35 (by decide) ?_
    refine lv_icmp_ge (tgt := 94) hx hb dX0_copyFrom_37 (by decide) (fun k_1 => ?_) (fun k_1 => ?_)
    · have h := br_yes h k_1
      refine lv_iconst (v := 0) hx hb dX0_copyFrom_94 (by decide) ?_
      refine lv_istore_n (lv' := [(2, .int 0), (0, .ref (a 0)), (1, .ref (a1 0))]) hx hb dX0_copyFrom_95 rfl hl (by decide) rfl (fun ls hl => ?_)
      exact w_X0_copyFrom_b96 X FU v 0 _ _ _ h hw (lv_sub hl [1, 2, 0] rfl)
    · have h := br_no h k_1
      refine lv_aload_n hx hb dX0_copyFrom_40 rfl (lv_at hl 0 rfl) ?_
      refine x_get (v := .ref (a 1)) 0 0 X hw in_X0_copyFrom_0 rfl rfl rfl 4 (by decide) (List.mem_of_getElem? (i := 5) rfl) rfl rfl dX0_copyFrom_41 ?_
      refine lv_iload_n hx hb dX0_copyFrom_44 rfl (lv_at hl 2 rfl) ?_
      refine lv_aload_n hx hb dX0_copyFrom_45 rfl (lv_at hl 1 rfl) ?_
      refine x_get (v := .ref (a1 1)) 1 0 X hw in_X0_copyFrom_0 rfl rfl rfl 4 (by decide) (List.mem_of_getElem? (i := 5) rfl) rfl rfl dX0_copyFrom_46 ?_
      refine lv_iload_n hx hb dX0_copyFrom_49 rfl (lv_at hl 2 rfl) ?_
      obtain ⟨k_2, h⟩ := ck_ok h
      refine x_iald (f := (C_vo v1)) 1 1 X hw rfl rfl k_2 dX0_copyFrom_50 ?_
      obtain ⟨t_3, et_3, h⟩ := nm_ok h
      rw [← et_3]
      obtain ⟨k_4, h⟩ := ck_ok h
      obtain ⟨g_5, eg_5, h⟩ := nm_ok h
      refine x_iast (f := (C_vo v)) (bs' := [cB G a ((C_se v), (C_jo v), (C_sh v), (C_pi v), g_5, (C_ar v), (C_ch v), (C_fe v), (C_fi v), (C_sd v)), cB G a1 v1]) 0 1 X hw rfl rfl k_4 dX0_copyFrom_51 (by rw [eg_5]; rfl) (fun H locs hw => ?_)
      refine lv_aload_n hx hb dX0_copyFrom_52 rfl (lv_at hl 0 rfl) ?_
      refine x_get (v := .ref (a 2)) 0 0 X hw in_X0_copyFrom_0 rfl rfl rfl 5 (by decide) (List.mem_of_getElem? (i := 6) rfl) rfl rfl dX0_copyFrom_53 ?_
      refine lv_iload_n hx hb dX0_copyFrom_56 rfl (lv_at hl 2 rfl) ?_
      refine lv_aload_n hx hb dX0_copyFrom_57 rfl (lv_at hl 1 rfl) ?_
      refine x_get (v := .ref (a1 2)) 1 0 X hw in_X0_copyFrom_0 rfl rfl rfl 5 (by decide) (List.mem_of_getElem? (i := 6) rfl) rfl rfl dX0_copyFrom_58 ?_
      refine lv_iload_n hx hb dX0_copyFrom_61 rfl (lv_at hl 2 rfl) ?_
      obtain ⟨k_6, h⟩ := ck_ok h
      refine x_iald (f := (C_ar v1)) 1 2 X hw rfl rfl k_6 dX0_copyFrom_62 ?_
      obtain ⟨t_7, et_7, h⟩ := nm_ok h
      rw [← et_7]
      obtain ⟨k_8, h⟩ := ck_ok h
      obtain ⟨g_9, eg_9, h⟩ := nm_ok h
      refine x_iast (f := (C_ar v)) (bs' := [cB G a ((C_se v), (C_jo v), (C_sh v), (C_pi v), g_5, g_9, (C_ch v), (C_fe v), (C_fi v), (C_sd v)), cB G a1 v1]) 0 2 X hw rfl rfl k_8 dX0_copyFrom_63 (by rw [eg_9]; rfl) (fun H locs hw => ?_)
      refine lv_aload_n hx hb dX0_copyFrom_64 rfl (lv_at hl 0 rfl) ?_
      refine x_get (v := .ref (a 3)) 0 0 X hw in_X0_copyFrom_0 rfl rfl rfl 6 (by decide) (List.mem_of_getElem? (i := 7) rfl) rfl rfl dX0_copyFrom_65 ?_
      refine lv_iload_n hx hb dX0_copyFrom_68 rfl (lv_at hl 2 rfl) ?_
      refine lv_aload_n hx hb dX0_copyFrom_69 rfl (lv_at hl 1 rfl) ?_
      refine x_get (v := .ref (a1 3)) 1 0 X hw in_X0_copyFrom_0 rfl rfl rfl 6 (by decide) (List.mem_of_getElem? (i := 7) rfl) rfl rfl dX0_copyFrom_70 ?_
      refine lv_iload_n hx hb dX0_copyFrom_73 rfl (lv_at hl 2 rfl) ?_
      obtain ⟨k_10, h⟩ := ck_ok h
      refine x_iald (f := (C_ch v1)) 1 3 X hw rfl rfl k_10 dX0_copyFrom_74 ?_
      obtain ⟨t_11, et_11, h⟩ := nm_ok h
      rw [← et_11]
      obtain ⟨k_12, h⟩ := ck_ok h
      obtain ⟨g_13, eg_13, h⟩ := nm_ok h
      refine x_iast (f := (C_ch v)) (bs' := [cB G a ((C_se v), (C_jo v), (C_sh v), (C_pi v), g_5, g_9, g_13, (C_fe v), (C_fi v), (C_sd v)), cB G a1 v1]) 0 3 X hw rfl rfl k_12 dX0_copyFrom_75 (by rw [eg_13]; rfl) (fun H locs hw => ?_)
      refine lv_aload_n hx hb dX0_copyFrom_76 rfl (lv_at hl 0 rfl) ?_
      refine x_get (v := .ref (a 4)) 0 0 X hw in_X0_copyFrom_0 rfl rfl rfl 7 (by decide) (List.mem_of_getElem? (i := 8) rfl) rfl rfl dX0_copyFrom_77 ?_
      refine lv_iload_n hx hb dX0_copyFrom_80 rfl (lv_at hl 2 rfl) ?_
      refine lv_aload_n hx hb dX0_copyFrom_81 rfl (lv_at hl 1 rfl) ?_
      refine x_get (v := .ref (a1 4)) 1 0 X hw in_X0_copyFrom_0 rfl rfl rfl 7 (by decide) (List.mem_of_getElem? (i := 8) rfl) rfl rfl dX0_copyFrom_82 ?_
      refine lv_iload_n hx hb dX0_copyFrom_85 rfl (lv_at hl 2 rfl) ?_
      obtain ⟨k_14, h⟩ := ck_ok h
      refine x_zald (f := (C_fe v1)) 1 4 X hw rfl rfl k_14 dX0_copyFrom_86 ?_
      obtain ⟨t_15, et_15, h⟩ := nm_ok h
      rw [← et_15]
      obtain ⟨k_16, h⟩ := ck_ok h
      obtain ⟨k_17, h⟩ := ck_ok h
      obtain ⟨g_18, eg_18, h⟩ := nm_ok h
      refine x_zast (f := (C_fe v)) (bs' := [cB G a ((C_se v), (C_jo v), (C_sh v), (C_pi v), g_5, g_9, g_13, g_18, (C_fi v), (C_sd v)), cB G a1 v1]) 0 4 X hw rfl rfl k_17 k_16 dX0_copyFrom_87 (by rw [eg_18]; rfl) (fun H locs hw => ?_)
      obtain ⟨t_19, et_19, h⟩ := nm_ok h
      refine lv_iinc (v := t_19) (lv' := [(2, .int t_19), (0, .ref (a 0)), (1, .ref (a1 0))]) hx hb dX0_copyFrom_88 hl (k := 2) rfl (by rw [et_19]; rfl) (by decide) rfl (fun ls hl => ?_)
      refine lv_goto (tgt := 34) hx hb dX0_copyFrom_91 (by decide) ?_
      exact ih ((C_se v), (C_jo v), (C_sh v), (C_pi v), g_5, g_9, g_13, g_18, (C_fi v), (C_sd v)) t_19 _ _ _ h hw (lv_sub hl [1, 2, 0] rfl)
noncomputable def f_X0_copyFrom  (v : CV) (v1 : CV)  : Option (CV) :=
  f_X0_copyFrom_b34 v1 FU ((C_se v1), (C_jo v1), (C_sh v1), (C_pi v1), (C_vo v), (C_ar v), (C_ch v), (C_fe v), (C_fi v), (C_sd v)) 0
set_option maxHeartbeats 4000000 in
set_option maxRecDepth 100000 in
theorem m_X0_copyFrom {G : GG} {l : Launch} {a : Nat → Nat} {a1 : Nat → Nat} {v : CV} {v1 : CV}  {zv : CV} (h : f_X0_copyFrom v v1 = some (zv)) : Cv G l yX0_copyFrom wsX0_copyFrom rX0_copyFrom [.ref (a 0), .ref (a1 0)] (fl [cB G a v, cB G a1 v1]) (fl [cB G a zv, cB G a1 v1]) := by
  refine Cv.intro cX0_copyFrom 3 none RX0 (by decide) rfl rfl (Nat.le_of_ble_eq_true rfl) ?_
  intro p e s m below meth c A ls X hw hl
  obtain ⟨⟨hx, hb, hml, hown, hts⟩, hK, hr, hlk, hA⟩ := id X
  unfold f_X0_copyFrom at h
  have hl : lv_has ls 3 [(0, .ref (a 0)), (1, .ref (a1 0))] := hl
  refine lv_aload_n hx hb dX0_copyFrom_0 rfl (lv_at hl 0 rfl) ?_
  refine lv_aload_n hx hb dX0_copyFrom_1 rfl (lv_at hl 1 rfl) ?_
  refine x_get (v := .int (C_se v1)) 1 0 X hw in_X0_copyFrom_0 rfl rfl rfl 0 (by decide) (List.mem_of_getElem? (i := 1) rfl) rfl rfl dX0_copyFrom_2 ?_
  refine x_put (bs' := [cB G a ((C_se v1), (C_jo v), (C_sh v), (C_pi v), (C_vo v), (C_ar v), (C_ch v), (C_fe v), (C_fi v), (C_sd v)), cB G a1 v1]) 0 0 X hw in_X0_copyFrom_0 tyX0 tyX0_ok nmX0 rfl rfl rfl 0 (by decide) (List.mem_of_getElem? (i := 1) rfl) rfl rfl rfl rfl (Nat.le_of_ble_eq_true rfl) dX0_copyFrom_5 rfl (fun H locs hw => ?_)
  refine lv_aload_n hx hb dX0_copyFrom_8 rfl (lv_at hl 0 rfl) ?_
  refine lv_aload_n hx hb dX0_copyFrom_9 rfl (lv_at hl 1 rfl) ?_
  refine x_get (v := .int (C_jo v1)) 1 0 X hw in_X0_copyFrom_0 rfl rfl rfl 1 (by decide) (List.mem_of_getElem? (i := 2) rfl) rfl rfl dX0_copyFrom_10 ?_
  refine x_put (bs' := [cB G a ((C_se v1), (C_jo v1), (C_sh v), (C_pi v), (C_vo v), (C_ar v), (C_ch v), (C_fe v), (C_fi v), (C_sd v)), cB G a1 v1]) 0 0 X hw in_X0_copyFrom_0 tyX0 tyX0_ok nmX0 rfl rfl rfl 1 (by decide) (List.mem_of_getElem? (i := 2) rfl) rfl rfl rfl rfl (Nat.le_of_ble_eq_true rfl) dX0_copyFrom_13 rfl (fun H locs hw => ?_)
  refine lv_aload_n hx hb dX0_copyFrom_16 rfl (lv_at hl 0 rfl) ?_
  refine lv_aload_n hx hb dX0_copyFrom_17 rfl (lv_at hl 1 rfl) ?_
  refine x_get (v := .int (C_sh v1)) 1 0 X hw in_X0_copyFrom_0 rfl rfl rfl 2 (by decide) (List.mem_of_getElem? (i := 3) rfl) rfl rfl dX0_copyFrom_18 ?_
  refine x_put (bs' := [cB G a ((C_se v1), (C_jo v1), (C_sh v1), (C_pi v), (C_vo v), (C_ar v), (C_ch v), (C_fe v), (C_fi v), (C_sd v)), cB G a1 v1]) 0 0 X hw in_X0_copyFrom_0 tyX0 tyX0_ok nmX0 rfl rfl rfl 2 (by decide) (List.mem_of_getElem? (i := 3) rfl) rfl rfl rfl rfl (Nat.le_of_ble_eq_true rfl) dX0_copyFrom_21 rfl (fun H locs hw => ?_)
  refine lv_aload_n hx hb dX0_copyFrom_24 rfl (lv_at hl 0 rfl) ?_
  refine lv_aload_n hx hb dX0_copyFrom_25 rfl (lv_at hl 1 rfl) ?_
  refine x_get (v := .int (C_pi v1)) 1 0 X hw in_X0_copyFrom_0 rfl rfl rfl 3 (by decide) (List.mem_of_getElem? (i := 4) rfl) rfl rfl dX0_copyFrom_26 ?_
  refine x_put (bs' := [cB G a ((C_se v1), (C_jo v1), (C_sh v1), (C_pi v1), (C_vo v), (C_ar v), (C_ch v), (C_fe v), (C_fi v), (C_sd v)), cB G a1 v1]) 0 0 X hw in_X0_copyFrom_0 tyX0 tyX0_ok nmX0 rfl rfl rfl 3 (by decide) (List.mem_of_getElem? (i := 4) rfl) rfl rfl rfl rfl (Nat.le_of_ble_eq_true rfl) dX0_copyFrom_29 rfl (fun H locs hw => ?_)
  refine lv_iconst (v := 0) hx hb dX0_copyFrom_32 (by decide) ?_
  refine lv_istore_n (lv' := [(2, .int 0), (0, .ref (a 0)), (1, .ref (a1 0))]) hx hb dX0_copyFrom_33 rfl hl (by decide) rfl (fun ls hl => ?_)
  exact w_X0_copyFrom_b34 X FU ((C_se v1), (C_jo v1), (C_sh v1), (C_pi v1), (C_vo v), (C_ar v), (C_ch v), (C_fe v), (C_fi v), (C_sd v)) 0 _ _ _ h hw (lv_sub hl [1, 2, 0] rfl)

def rX0_append : Room := { frames := 0, cells := 0, slots := 0, locals := 0 }
theorem hd_X0_append : yX0_append.cls = RX0 ∧ yX0_append.cls ≠ "java/lang/invoke/MethodHandle" ∧ yX0_append.cls ≠ "java/lang/invoke/VarHandle" ∧ (parseMethodDescriptor yX0_append.desc).map (fun d => d.parameters.length) = some 4 := by decide +kernel
theorem in_X0_append_0 : ∀ w ∈ u_ws RX0 TX0 10, w ∈ wsX0_append := fun w h => (List.mem_cons_of_mem _ (List.mem_append_right _ h))
noncomputable def f_X0_append  (v : CV) (x1 : Int32) (x2 : Int32) (x3 : Int32) (x4 : Int32) : Option (Int32 × CV) :=
  br ((C_se v) < 0)
    (some ((-5), v))
    (br ((C_se v) < 12)
       (ck (vp_in (C_se v) 12) <|
        nm (upd (C_vo v) ((C_se v) : Int32).toNatClampNeg x1) fun g_4 =>
        ck (vp_in (C_se v) 12) <|
        nm (upd (C_ar v) ((C_se v) : Int32).toNatClampNeg x2) fun g_6 =>
        ck (vp_in (C_se v) 12) <|
        nm (upd (C_ch v) ((C_se v) : Int32).toNatClampNeg x3) fun g_8 =>
        ck (vp_in (C_se v) 12) <|
        ck (x4 = 0 ∨ x4 = 1) <|
        nm (upd (C_fe v) ((C_se v) : Int32).toNatClampNeg x4) fun g_11 =>
        nm (((C_se v) + 1)) fun t_12 =>
        some ((C_se v), (t_12, (C_jo v), (C_sh v), (C_pi v), g_4, g_6, g_8, g_11, (C_fi v), (C_sd v))))
       (some ((-5), v)))
set_option maxHeartbeats 4000000 in
set_option maxRecDepth 100000 in
theorem m_X0_append {G : GG} {l : Launch} {a : Nat → Nat} {v : CV} {x1 : Int32} {x2 : Int32} {x3 : Int32} {x4 : Int32} {r : Int32} {zv : CV} (h : f_X0_append v x1 x2 x3 x4 = some (r, zv)) : Ci G l yX0_append wsX0_append rX0_append [.ref (a 0), .int x1, .int x2, .int x3, .int x4] (fl [cB G a v]) r (fl [cB G a zv]) := by
  refine Ci.intro cX0_append 6 (some .int) RX0 (by decide) rfl rfl (Nat.le_of_ble_eq_true rfl) ?_
  intro p e s m below meth c A ls X hw hl
  obtain ⟨⟨hx, hb, hml, hown, hts⟩, hK, hr, hlk, hA⟩ := id X
  unfold f_X0_append at h
  have hl : lv_has ls 6 [(0, .ref (a 0)), (1, .int x1), (2, .int x2), (3, .int x3), (4, .int x4)] := hl
  refine lv_aload_n hx hb dX0_append_0 rfl (lv_at hl 0 rfl) ?_
  refine x_get (v := .int (C_se v)) 0 0 X hw in_X0_append_0 rfl rfl rfl 0 (by decide) (List.mem_of_getElem? (i := 1) rfl) rfl rfl dX0_append_1 ?_
  refine lv_istore (lv' := [(5, .int (C_se v)), (0, .ref (a 0)), (1, .int x1), (2, .int x2), (3, .int x3), (4, .int x4)]) hx hb dX0_append_4 hl (by decide) rfl (fun ls hl => ?_)
  refine lv_iload hx hb dX0_append_6 (lv_at hl 0 rfl) ?_
  refine lv_if_lt (tgt := 18) hx hb dX0_append_8 (by decide) (fun k_1 => ?_) (fun k_1 => ?_)
  · have h := br_yes h k_1
    refine lv_bipush (v := (-5)) hx hb dX0_append_18 (by decide) ?_
    cases h
    exact x_iret X (vp_nar_int _) hw rfl rfl dX0_append_20
  · have h := br_no h k_1
    refine lv_iload hx hb dX0_append_11 (lv_at hl 0 rfl) ?_
    refine lv_bipush (v := 12) hx hb dX0_append_13 (by decide) ?_
    refine lv_icmp_lt (tgt := 21) hx hb dX0_append_15 (by decide) (fun k_2 => ?_) (fun k_2 => ?_)
    · have h := br_yes h k_2
      refine lv_aload_n hx hb dX0_append_21 rfl (lv_at hl 1 rfl) ?_
      refine x_get (v := .ref (a 1)) 0 0 X hw in_X0_append_0 rfl rfl rfl 4 (by decide) (List.mem_of_getElem? (i := 2) rfl) rfl rfl dX0_append_22 ?_
      refine lv_iload hx hb dX0_append_25 (lv_at hl 0 rfl) ?_
      refine lv_iload_n hx hb dX0_append_27 rfl (lv_at hl 2 rfl) ?_
      obtain ⟨k_3, h⟩ := ck_ok h
      obtain ⟨g_4, eg_4, h⟩ := nm_ok h
      refine x_iast (f := (C_vo v)) (bs' := [cB G a ((C_se v), (C_jo v), (C_sh v), (C_pi v), g_4, (C_ar v), (C_ch v), (C_fe v), (C_fi v), (C_sd v))]) 0 1 X hw rfl rfl k_3 dX0_append_28 (by rw [eg_4]; rfl) (fun H locs hw => ?_)
      refine lv_aload_n hx hb dX0_append_29 rfl (lv_at hl 1 rfl) ?_
      refine x_get (v := .ref (a 2)) 0 0 X hw in_X0_append_0 rfl rfl rfl 5 (by decide) (List.mem_of_getElem? (i := 3) rfl) rfl rfl dX0_append_30 ?_
      refine lv_iload hx hb dX0_append_33 (lv_at hl 0 rfl) ?_
      refine lv_iload_n hx hb dX0_append_35 rfl (lv_at hl 3 rfl) ?_
      obtain ⟨k_5, h⟩ := ck_ok h
      obtain ⟨g_6, eg_6, h⟩ := nm_ok h
      refine x_iast (f := (C_ar v)) (bs' := [cB G a ((C_se v), (C_jo v), (C_sh v), (C_pi v), g_4, g_6, (C_ch v), (C_fe v), (C_fi v), (C_sd v))]) 0 2 X hw rfl rfl k_5 dX0_append_36 (by rw [eg_6]; rfl) (fun H locs hw => ?_)
      refine lv_aload_n hx hb dX0_append_37 rfl (lv_at hl 1 rfl) ?_
      refine x_get (v := .ref (a 3)) 0 0 X hw in_X0_append_0 rfl rfl rfl 6 (by decide) (List.mem_of_getElem? (i := 4) rfl) rfl rfl dX0_append_38 ?_
      refine lv_iload hx hb dX0_append_41 (lv_at hl 0 rfl) ?_
      refine lv_iload_n hx hb dX0_append_43 rfl (lv_at hl 4 rfl) ?_
      obtain ⟨k_7, h⟩ := ck_ok h
      obtain ⟨g_8, eg_8, h⟩ := nm_ok h
      refine x_iast (f := (C_ch v)) (bs' := [cB G a ((C_se v), (C_jo v), (C_sh v), (C_pi v), g_4, g_6, g_8, (C_fe v), (C_fi v), (C_sd v))]) 0 3 X hw rfl rfl k_7 dX0_append_44 (by rw [eg_8]; rfl) (fun H locs hw => ?_)
      refine lv_aload_n hx hb dX0_append_45 rfl (lv_at hl 1 rfl) ?_
      refine x_get (v := .ref (a 4)) 0 0 X hw in_X0_append_0 rfl rfl rfl 7 (by decide) (List.mem_of_getElem? (i := 5) rfl) rfl rfl dX0_append_46 ?_
      refine lv_iload hx hb dX0_append_49 (lv_at hl 0 rfl) ?_
      refine lv_iload hx hb dX0_append_51 (lv_at hl 5 rfl) ?_
      obtain ⟨k_9, h⟩ := ck_ok h
      obtain ⟨k_10, h⟩ := ck_ok h
      obtain ⟨g_11, eg_11, h⟩ := nm_ok h
      refine x_zast (f := (C_fe v)) (bs' := [cB G a ((C_se v), (C_jo v), (C_sh v), (C_pi v), g_4, g_6, g_8, g_11, (C_fi v), (C_sd v))]) 0 4 X hw rfl rfl k_10 k_9 dX0_append_53 (by rw [eg_11]; rfl) (fun H locs hw => ?_)
      refine lv_aload_n hx hb dX0_append_54 rfl (lv_at hl 1 rfl) ?_
      refine lv_iload hx hb dX0_append_55 (lv_at hl 0 rfl) ?_
      refine lv_iconst (v := 1) hx hb dX0_append_57 (by decide) ?_
      refine lv_iadd hx hb dX0_append_58 ?_
      obtain ⟨t_12, et_12, h⟩ := nm_ok h
      refine x_put (bs' := [cB G a (t_12, (C_jo v), (C_sh v), (C_pi v), g_4, g_6, g_8, g_11, (C_fi v), (C_sd v))]) 0 0 X hw in_X0_append_0 tyX0 tyX0_ok nmX0 rfl rfl rfl 0 (by decide) (List.mem_of_getElem? (i := 1) rfl) rfl rfl rfl rfl (Nat.le_of_ble_eq_true rfl) dX0_append_59 (by rw [et_12]; rfl) (fun H locs hw => ?_)
      refine lv_iload hx hb dX0_append_62 (lv_at hl 0 rfl) ?_
      cases h
      exact x_iret X (vp_nar_int _) hw rfl rfl dX0_append_64
    · have h := br_no h k_2
      refine lv_bipush (v := (-5)) hx hb dX0_append_18 (by decide) ?_
      cases h
      exact x_iret X (vp_nar_int _) hw rfl rfl dX0_append_20

def rX0_cooledArea : Room := { frames := 1, cells := 0, slots := 0, locals := 21 }
theorem hd_X0_cooledArea : yX0_cooledArea.cls = RX0 ∧ yX0_cooledArea.cls ≠ "java/lang/invoke/MethodHandle" ∧ yX0_cooledArea.cls ≠ "java/lang/invoke/VarHandle" ∧ (parseMethodDescriptor yX0_cooledArea.desc).map (fun d => d.parameters.length) = some 1 := by decide +kernel
theorem in_X0_cooledArea_0 : ∀ w ∈ u_ws RX0 TX0 10, w ∈ wsX0_cooledArea := fun w h => (List.mem_cons_of_mem _ (List.mem_append_right _ h))
noncomputable def f_X0_cooledArea  (v : CV) (x1 : Int32) : Option (Int32) :=
  bd (f_X4_at 12 (C_ar v) x1) fun r_1 =>
  bd (f_X4_at 12 (C_ch v) x1) fun r_3 =>
  some ((r_1 + r_3))
set_option maxHeartbeats 4000000 in
set_option maxRecDepth 100000 in
theorem m_X0_cooledArea {G : GG} {l : Launch} {a : Nat → Nat} {v : CV} {x1 : Int32} {r : Int32}  (h : f_X0_cooledArea v x1 = some (r)) : Ci G l yX0_cooledArea wsX0_cooledArea rX0_cooledArea [.ref (a 0), .int x1] (fl [cB G a v]) r (fl [cB G a v]) := by
  refine Ci.intro cX0_cooledArea 2 (some .int) RX0 (by decide) rfl rfl (Nat.le_of_ble_eq_true rfl) ?_
  intro p e s m below meth c A ls X hw hl
  obtain ⟨⟨hx, hb, hml, hown, hts⟩, hK, hr, hlk, hA⟩ := id X
  unfold f_X0_cooledArea at h
  have hl : lv_has ls 2 [(0, .ref (a 0)), (1, .int x1)] := hl
  refine lv_aload_n hx hb dX0_cooledArea_0 rfl (lv_at hl 0 rfl) ?_
  refine x_get (v := .ref (a 2)) 0 0 X hw in_X0_cooledArea_0 rfl rfl rfl 5 (by decide) (List.mem_of_getElem? (i := 1) rfl) rfl rfl dX0_cooledArea_1 ?_
  refine lv_iload_n hx hb dX0_cooledArea_4 rfl (lv_at hl 1 rfl) ?_
  obtain ⟨r_1, c_2, h⟩ := bd_ok h
  refine x_Ni (As := [.ref (a 2), .int x1]) (w' := fl [cB G a v]) X hw (m_X4_at (G := G) (l := l) (q := (a 2)) c_2) (Cut.cellr 0 2 rfl rfl) ⟨va_cnB 2 hts gX0_cooledArea_X4_at_n48 rfl rfl rfl (hK.2 _ (List.mem_of_getElem? (i := 3) rfl)) (hts _ (List.mem_of_getElem? (i := 4) rfl)) hd_X4_at.2 ⟨Nat.le_of_ble_eq_true rfl, Nat.le_of_ble_eq_true rfl⟩, hts _ (List.mem_of_getElem? (i := 3) rfl), trivial⟩ rfl hl.1 rfl (Nat.le_of_ble_eq_true rfl) dX0_cooledArea_5 ⟨Nat.le_of_ble_eq_true rfl, Nat.le_of_ble_eq_true rfl⟩ (fun H locs hw => ?_)
  refine lv_aload_n hx hb dX0_cooledArea_8 rfl (lv_at hl 0 rfl) ?_
  refine x_get (v := .ref (a 3)) 0 0 X hw in_X0_cooledArea_0 rfl rfl rfl 6 (by decide) (List.mem_of_getElem? (i := 2) rfl) rfl rfl dX0_cooledArea_9 ?_
  refine lv_iload_n hx hb dX0_cooledArea_12 rfl (lv_at hl 1 rfl) ?_
  obtain ⟨r_3, c_4, h⟩ := bd_ok h
  refine x_Ni (As := [.ref (a 3), .int x1]) (w' := fl [cB G a v]) X hw (m_X4_at (G := G) (l := l) (q := (a 3)) c_4) (Cut.cellr 0 3 rfl rfl) ⟨va_cnB 2 hts gX0_cooledArea_X4_at_n48 rfl rfl rfl (hK.2 _ (List.mem_of_getElem? (i := 3) rfl)) (hts _ (List.mem_of_getElem? (i := 4) rfl)) hd_X4_at.2 ⟨Nat.le_of_ble_eq_true rfl, Nat.le_of_ble_eq_true rfl⟩, hts _ (List.mem_of_getElem? (i := 3) rfl), trivial⟩ rfl hl.1 rfl (Nat.le_of_ble_eq_true rfl) dX0_cooledArea_13 ⟨Nat.le_of_ble_eq_true rfl, Nat.le_of_ble_eq_true rfl⟩ (fun H locs hw => ?_)
  refine lv_iadd hx hb dX0_cooledArea_16 ?_
  cases h
  exact x_iret X (vp_nar_int _) hw rfl rfl dX0_cooledArea_17

def rX0_stepOf : Room := { frames := 2, cells := 0, slots := 0, locals := 42 }
theorem hd_X0_stepOf : yX0_stepOf.cls = RX0 ∧ yX0_stepOf.cls ≠ "java/lang/invoke/MethodHandle" ∧ yX0_stepOf.cls ≠ "java/lang/invoke/VarHandle" ∧ (parseMethodDescriptor yX0_stepOf.desc).map (fun d => d.parameters.length) = some 1 := by decide +kernel
theorem in_X0_stepOf_0 : ∀ w ∈ u_ws RX0 TX0 10, w ∈ wsX0_stepOf := fun w h => (List.mem_cons_of_mem _ (List.mem_append_right _ h))
noncomputable def f_X0_stepOf_b21  (v : CV) (x1 : Int32) (x2 : Int32) (x3 : Int32) : Nat → Int32 → Int32 → Option (Int32)
  | 0 => fun _ _ => none
  | n + 1 => fun x4 x5 =>
    br ((C_se v) ≤ x5)
      (some (x4))
      (ck (vp_in x5 12) <|
       nm ((((C_vo v) x5.toNatClampNeg) * x3)) fun t_3 =>
       ck (vp_in x5 12) <|
       ck (vp_in x5 12) <|
       nm ((x2 * (((C_ar v) x5.toNatClampNeg) + ((C_ch v) x5.toNatClampNeg)))) fun t_6 =>
       br (t_3 < t_6)
         (nm (x4 + 1) fun t_8 =>
          nm (x5 + 1) fun t_9 =>
          f_X0_stepOf_b21 v x1 x2 x3 n t_8 t_9)
         (br (t_3 = t_6)
            (br (x1 ≤ x5)
               (nm (x5 + 1) fun t_13 =>
                f_X0_stepOf_b21 v x1 x2 x3 n x4 t_13)
               (nm (x4 + 1) fun t_14 =>
                nm (x5 + 1) fun t_15 =>
                f_X0_stepOf_b21 v x1 x2 x3 n t_14 t_15))
            (nm (x5 + 1) fun t_11 =>
             f_X0_stepOf_b21 v x1 x2 x3 n x4 t_11)))
set_option maxHeartbeats 4000000 in
set_option maxRecDepth 100000 in
theorem w_X0_stepOf_b21 {G : GG} {l : Launch} {p : Program} {e : Env} {s : State} {m : MethodId} {args : Array Value} {below : List Frame} {meth : Method} {c : Code} {A : Nat → Prop} {a : Nat → Nat} {v : CV} {x1 : Int32} {x2 : Int32} {x3 : Int32} {r : Int32}    (X : Cx p s m args meth c cX0_stepOf 8 (some .int) wsX0_stepOf RX0 G A)  :
    ∀ (n : Nat) (x4 : Int32) (x5 : Int32) (H : Heap) (locs : List Loc) (ls : Array Slot), f_X0_stepOf_b21 v x1 x2 x3 n x4 x5 = some (r) → Wd G A s H locs (fl [cB G a v]) → lv_has ls 8 [(0, .ref (a 0)), (1, .int x1), (2, .int x2), (3, .int x3), (4, .int x4), (5, .int x5)] → W p l e rX0_stepOf s m args below meth c H locs 0 0 (MQ below (Qi G A r (fl [cB G a v])) args s 0 0 A) (F0 m 21 ls []) := by
  obtain ⟨⟨hx, hb, hml, hown, hts⟩, hK, hr, hlk, hA⟩ := id X
  intro n
  induction n with
  | zero =>
    intro x4 x5 H locs ls h
    rw [f_X0_stepOf_b21] at h
    cases h
  | succ n ih =>
    intro x4 x5 H locs ls h hw hl
    rw [f_X0_stepOf_b21] at h
    refine lv_iload hx hb dX0_stepOf_21 (lv_at hl 5 rfl) ?_
    refine lv_aload_n hx hb dX0_stepOf_23 rfl (lv_at hl 0 rfl) ?_
    refine x_get (v := .int (C_se v)) 0 0 X hw in_X0_stepOf_0 rfl rfl rfl 0 (by decide) (List.mem_of_getElem? (i := 2) rfl) rfl rfl dX0_stepOf_24 ?_
    refine lv_icmp_ge (tgt := 89) hx hb dX0_stepOf_27 (by decide) (fun k_1 => ?_) (fun k_1 => ?_)
    · have h := br_yes h k_1
      refine lv_iload hx hb dX0_stepOf_89 (lv_at hl 4 rfl) ?_
      cases h
      exact x_iret X (vp_nar_int _) hw rfl rfl dX0_stepOf_91
    · have h := br_no h k_1
      refine lv_aload_n hx hb dX0_stepOf_30 rfl (lv_at hl 0 rfl) ?_
      refine x_get (v := .ref (a 1)) 0 0 X hw in_X0_stepOf_0 rfl rfl rfl 4 (by decide) (List.mem_of_getElem? (i := 1) rfl) rfl rfl dX0_stepOf_31 ?_
      refine lv_iload hx hb dX0_stepOf_34 (lv_at hl 5 rfl) ?_
      obtain ⟨k_2, h⟩ := ck_ok h
      refine x_iald (f := (C_vo v)) 0 1 X hw rfl rfl k_2 dX0_stepOf_36 ?_
      refine lv_iload_n hx hb dX0_stepOf_37 rfl (lv_at hl 3 rfl) ?_
      refine lv_imul hx hb dX0_stepOf_38 ?_
      obtain ⟨t_3, et_3, h⟩ := nm_ok h
      refine lv_istore (lv' := [(6, .int t_3), (0, .ref (a 0)), (1, .int x1), (2, .int x2), (3, .int x3), (4, .int x4), (5, .int x5)]) hx hb dX0_stepOf_39 hl (by decide) (by rw [et_3]; rfl) (fun ls hl => ?_)
      refine lv_iload_n hx hb dX0_stepOf_41 rfl (lv_at hl 3 rfl) ?_
      refine lv_aload_n hx hb dX0_stepOf_42 rfl (lv_at hl 1 rfl) ?_
      refine x_get (v := .ref (a 2)) 0 0 X hw in_X0_stepOf_0 rfl rfl rfl 5 (by decide) (List.mem_of_getElem? (i := 3) rfl) rfl rfl dX0_stepOf_43 ?_
      refine lv_iload hx hb dX0_stepOf_46 (lv_at hl 6 rfl) ?_
      obtain ⟨k_4, h⟩ := ck_ok h
      refine x_iald (f := (C_ar v)) 0 2 X hw rfl rfl k_4 dX0_stepOf_48 ?_
      refine lv_aload_n hx hb dX0_stepOf_49 rfl (lv_at hl 1 rfl) ?_
      refine x_get (v := .ref (a 3)) 0 0 X hw in_X0_stepOf_0 rfl rfl rfl 6 (by decide) (List.mem_of_getElem? (i := 4) rfl) rfl rfl dX0_stepOf_50 ?_
      refine lv_iload hx hb dX0_stepOf_53 (lv_at hl 6 rfl) ?_
      obtain ⟨k_5, h⟩ := ck_ok h
      refine x_iald (f := (C_ch v)) 0 3 X hw rfl rfl k_5 dX0_stepOf_55 ?_
      refine lv_iadd hx hb dX0_stepOf_56 ?_
      refine lv_imul hx hb dX0_stepOf_57 ?_
      obtain ⟨t_6, et_6, h⟩ := nm_ok h
      refine lv_istore (lv' := [(7, .int t_6), (6, .int t_3), (0, .ref (a 0)), (1, .int x1), (2, .int x2), (3, .int x3), (4, .int x4), (5, .int x5)]) hx hb dX0_stepOf_58 hl (by decide) (by rw [et_6]; rfl) (fun ls hl => ?_)
      refine lv_iload hx hb dX0_stepOf_60 (lv_at hl 1 rfl) ?_
      refine lv_iload hx hb dX0_stepOf_62 (lv_at hl 0 rfl) ?_
      refine lv_icmp_lt (tgt := 80) hx hb dX0_stepOf_64 (by decide) (fun k_7 => ?_) (fun k_7 => ?_)
      · have h := br_yes h k_7
        obtain ⟨t_8, et_8, h⟩ := nm_ok h
        refine lv_iinc (v := t_8) (lv' := [(4, .int t_8), (7, .int t_6), (6, .int t_3), (0, .ref (a 0)), (1, .int x1), (2, .int x2), (3, .int x3), (5, .int x5)]) hx hb dX0_stepOf_80 hl (k := 6) rfl (by rw [et_8]; rfl) (by decide) rfl (fun ls hl => ?_)
        obtain ⟨t_9, et_9, h⟩ := nm_ok h
        refine lv_iinc (v := t_9) (lv' := [(5, .int t_9), (4, .int t_8), (7, .int t_6), (6, .int t_3), (0, .ref (a 0)), (1, .int x1), (2, .int x2), (3, .int x3)]) hx hb dX0_stepOf_83 hl (k := 7) rfl (by rw [et_9]; rfl) (by decide) rfl (fun ls hl => ?_)
        refine lv_goto (tgt := 21) hx hb dX0_stepOf_86 (by decide) ?_
        exact ih t_8 t_9 _ _ _ h hw (lv_sub hl [4, 5, 6, 7, 1, 0] rfl)
      · have h := br_no h k_7
        refine lv_iload hx hb dX0_stepOf_67 (lv_at hl 1 rfl) ?_
        refine lv_iload hx hb dX0_stepOf_69 (lv_at hl 0 rfl) ?_
        refine lv_icmp_ne (tgt := 83) hx hb dX0_stepOf_71 (by decide) (fun k_10 => ?_) (fun k_10 => ?_)
        · have h := br_no h k_10
          obtain ⟨t_11, et_11, h⟩ := nm_ok h
          refine lv_iinc (v := t_11) (lv' := [(5, .int t_11), (7, .int t_6), (6, .int t_3), (0, .ref (a 0)), (1, .int x1), (2, .int x2), (3, .int x3), (4, .int x4)]) hx hb dX0_stepOf_83 hl (k := 7) rfl (by rw [et_11]; rfl) (by decide) rfl (fun ls hl => ?_)
          refine lv_goto (tgt := 21) hx hb dX0_stepOf_86 (by decide) ?_
          exact ih x4 t_11 _ _ _ h hw (lv_sub hl [3, 4, 5, 6, 7, 0] rfl)
        · have h := br_yes h k_10
          refine lv_iload hx hb dX0_stepOf_74 (lv_at hl 7 rfl) ?_
          refine lv_iload_n hx hb dX0_stepOf_76 rfl (lv_at hl 3 rfl) ?_
          refine lv_icmp_ge (tgt := 83) hx hb dX0_stepOf_77 (by decide) (fun k_12 => ?_) (fun k_12 => ?_)
          · have h := br_yes h k_12
            obtain ⟨t_13, et_13, h⟩ := nm_ok h
            refine lv_iinc (v := t_13) (lv' := [(5, .int t_13), (7, .int t_6), (6, .int t_3), (0, .ref (a 0)), (1, .int x1), (2, .int x2), (3, .int x3), (4, .int x4)]) hx hb dX0_stepOf_83 hl (k := 7) rfl (by rw [et_13]; rfl) (by decide) rfl (fun ls hl => ?_)
            refine lv_goto (tgt := 21) hx hb dX0_stepOf_86 (by decide) ?_
            exact ih x4 t_13 _ _ _ h hw (lv_sub hl [3, 4, 5, 6, 7, 0] rfl)
          · have h := br_no h k_12
            obtain ⟨t_14, et_14, h⟩ := nm_ok h
            refine lv_iinc (v := t_14) (lv' := [(4, .int t_14), (7, .int t_6), (6, .int t_3), (0, .ref (a 0)), (1, .int x1), (2, .int x2), (3, .int x3), (5, .int x5)]) hx hb dX0_stepOf_80 hl (k := 6) rfl (by rw [et_14]; rfl) (by decide) rfl (fun ls hl => ?_)
            obtain ⟨t_15, et_15, h⟩ := nm_ok h
            refine lv_iinc (v := t_15) (lv' := [(5, .int t_15), (4, .int t_14), (7, .int t_6), (6, .int t_3), (0, .ref (a 0)), (1, .int x1), (2, .int x2), (3, .int x3)]) hx hb dX0_stepOf_83 hl (k := 7) rfl (by rw [et_15]; rfl) (by decide) rfl (fun ls hl => ?_)
            refine lv_goto (tgt := 21) hx hb dX0_stepOf_86 (by decide) ?_
            exact ih t_14 t_15 _ _ _ h hw (lv_sub hl [4, 5, 6, 7, 1, 0] rfl)
noncomputable def f_X0_stepOf  (v : CV) (x1 : Int32) : Option (Int32) :=
  bd (f_X4_at 12 (C_vo v) x1) fun r_1 =>
  bd (f_X0_cooledArea v x1) fun r_3 =>
  f_X0_stepOf_b21 v x1 r_1 r_3 FU 0 0
set_option maxHeartbeats 4000000 in
set_option maxRecDepth 100000 in
theorem m_X0_stepOf {G : GG} {l : Launch} {a : Nat → Nat} {v : CV} {x1 : Int32} {r : Int32}  (h : f_X0_stepOf v x1 = some (r)) : Ci G l yX0_stepOf wsX0_stepOf rX0_stepOf [.ref (a 0), .int x1] (fl [cB G a v]) r (fl [cB G a v]) := by
  refine Ci.intro cX0_stepOf 8 (some .int) RX0 (by decide) rfl rfl (Nat.le_of_ble_eq_true rfl) ?_
  intro p e s m below meth c A ls X hw hl
  obtain ⟨⟨hx, hb, hml, hown, hts⟩, hK, hr, hlk, hA⟩ := id X
  unfold f_X0_stepOf at h
  have hl : lv_has ls 8 [(0, .ref (a 0)), (1, .int x1)] := hl
  refine lv_aload_n hx hb dX0_stepOf_0 rfl (lv_at hl 0 rfl) ?_
  refine x_get (v := .ref (a 1)) 0 0 X hw in_X0_stepOf_0 rfl rfl rfl 4 (by decide) (List.mem_of_getElem? (i := 1) rfl) rfl rfl dX0_stepOf_1 ?_
  refine lv_iload_n hx hb dX0_stepOf_4 rfl (lv_at hl 1 rfl) ?_
  obtain ⟨r_1, c_2, h⟩ := bd_ok h
  refine x_Ni (As := [.ref (a 1), .int x1]) (w' := fl [cB G a v]) X hw (m_X4_at (G := G) (l := l) (q := (a 1)) c_2) (Cut.cellr 0 1 rfl rfl) ⟨va_cnB 2 hts gX0_stepOf_X4_at_n48 rfl rfl rfl (hK.2 _ (List.mem_of_getElem? (i := 3) rfl)) (hts _ (List.mem_of_getElem? (i := 6) rfl)) hd_X4_at.2 ⟨Nat.le_of_ble_eq_true rfl, Nat.le_of_ble_eq_true rfl⟩, hts _ (List.mem_of_getElem? (i := 5) rfl), trivial⟩ rfl hl.1 rfl (Nat.le_of_ble_eq_true rfl) dX0_stepOf_5 ⟨Nat.le_of_ble_eq_true rfl, Nat.le_of_ble_eq_true rfl⟩ (fun H locs hw => ?_)
  refine lv_istore_n (lv' := [(2, .int r_1), (0, .ref (a 0)), (1, .int x1)]) hx hb dX0_stepOf_8 rfl hl (by decide) rfl (fun ls hl => ?_)
  refine lv_aload_n hx hb dX0_stepOf_9 rfl (lv_at hl 1 rfl) ?_
  refine lv_iload_n hx hb dX0_stepOf_10 rfl (lv_at hl 2 rfl) ?_
  obtain ⟨r_3, c_4, h⟩ := bd_ok h
  refine x_Vi (As := [.int x1]) (w' := fl [cB G a v]) X hw (m_X0_cooledArea (G := G) (l := l) (a := a) c_4) Cut.all 0 0 rfl rfl rfl (cwV 1 hts gX0_stepOf_X0_cooledArea rfl rfl rfl hd_X0_cooledArea ⟨Nat.le_of_ble_eq_true rfl, Nat.le_of_ble_eq_true rfl⟩) rfl hl.1 rfl (Nat.le_of_ble_eq_true rfl) dX0_stepOf_11 ⟨Nat.le_of_ble_eq_true rfl, Nat.le_of_ble_eq_true rfl⟩ (fun H locs hw => ?_)
  refine lv_istore_n (lv' := [(3, .int r_3), (2, .int r_1), (0, .ref (a 0)), (1, .int x1)]) hx hb dX0_stepOf_14 rfl hl (by decide) rfl (fun ls hl => ?_)
  refine lv_iconst (v := 0) hx hb dX0_stepOf_15 (by decide) ?_
  refine lv_istore (lv' := [(4, .int 0), (3, .int r_3), (2, .int r_1), (0, .ref (a 0)), (1, .int x1)]) hx hb dX0_stepOf_16 hl (by decide) rfl (fun ls hl => ?_)
  refine lv_iconst (v := 0) hx hb dX0_stepOf_18 (by decide) ?_
  refine lv_istore (lv' := [(5, .int 0), (4, .int 0), (3, .int r_3), (2, .int r_1), (0, .ref (a 0)), (1, .int x1)]) hx hb dX0_stepOf_19 hl (by decide) rfl (fun ls hl => ?_)
  exact w_X0_stepOf_b21 X FU 0 0 _ _ _ h hw (lv_sub hl [4, 5, 3, 2, 1, 0] rfl)

def rX0_firstNeed : Room := { frames := 1, cells := 0, slots := 0, locals := 21 }
theorem hd_X0_firstNeed : yX0_firstNeed.cls = RX0 ∧ yX0_firstNeed.cls ≠ "java/lang/invoke/MethodHandle" ∧ yX0_firstNeed.cls ≠ "java/lang/invoke/VarHandle" ∧ (parseMethodDescriptor yX0_firstNeed.desc).map (fun d => d.parameters.length) = some 1 := by decide +kernel
theorem in_X0_firstNeed_0 : ∀ w ∈ u_ws RX0 TX0 10, w ∈ wsX0_firstNeed := fun w h => (List.mem_cons_of_mem _ (List.mem_append_right _ h))
noncomputable def f_X0_firstNeed  (v : CV) (x1 : Int32) : Option (Int32) :=
  bd (f_X4_at 12 (C_vo v) x1) fun r_1 =>
  ck (¬ 1000 = 0) <|
  nm ((r_1 * (C_sh v))) fun t_4 =>
  some ((t_4 / 1000))
set_option maxHeartbeats 4000000 in
set_option maxRecDepth 100000 in
theorem m_X0_firstNeed {G : GG} {l : Launch} {a : Nat → Nat} {v : CV} {x1 : Int32} {r : Int32}  (h : f_X0_firstNeed v x1 = some (r)) : Ci G l yX0_firstNeed wsX0_firstNeed rX0_firstNeed [.ref (a 0), .int x1] (fl [cB G a v]) r (fl [cB G a v]) := by
  refine Ci.intro cX0_firstNeed 2 (some .int) RX0 (by decide) rfl rfl (Nat.le_of_ble_eq_true rfl) ?_
  intro p e s m below meth c A ls X hw hl
  obtain ⟨⟨hx, hb, hml, hown, hts⟩, hK, hr, hlk, hA⟩ := id X
  unfold f_X0_firstNeed at h
  have hl : lv_has ls 2 [(0, .ref (a 0)), (1, .int x1)] := hl
  refine lv_aload_n hx hb dX0_firstNeed_0 rfl (lv_at hl 0 rfl) ?_
  refine x_get (v := .ref (a 1)) 0 0 X hw in_X0_firstNeed_0 rfl rfl rfl 4 (by decide) (List.mem_of_getElem? (i := 1) rfl) rfl rfl dX0_firstNeed_1 ?_
  refine lv_iload_n hx hb dX0_firstNeed_4 rfl (lv_at hl 1 rfl) ?_
  obtain ⟨r_1, c_2, h⟩ := bd_ok h
  refine x_Ni (As := [.ref (a 1), .int x1]) (w' := fl [cB G a v]) X hw (m_X4_at (G := G) (l := l) (q := (a 1)) c_2) (Cut.cellr 0 1 rfl rfl) ⟨va_cnB 2 hts gX0_firstNeed_X4_at_n48 rfl rfl rfl (hK.2 _ (List.mem_of_getElem? (i := 3) rfl)) (hts _ (List.mem_of_getElem? (i := 4) rfl)) hd_X4_at.2 ⟨Nat.le_of_ble_eq_true rfl, Nat.le_of_ble_eq_true rfl⟩, hts _ (List.mem_of_getElem? (i := 3) rfl), trivial⟩ rfl hl.1 rfl (Nat.le_of_ble_eq_true rfl) dX0_firstNeed_5 ⟨Nat.le_of_ble_eq_true rfl, Nat.le_of_ble_eq_true rfl⟩ (fun H locs hw => ?_)
  refine lv_aload_n hx hb dX0_firstNeed_8 rfl (lv_at hl 0 rfl) ?_
  refine x_get (v := .int (C_sh v)) 0 0 X hw in_X0_firstNeed_0 rfl rfl rfl 2 (by decide) (List.mem_of_getElem? (i := 2) rfl) rfl rfl dX0_firstNeed_9 ?_
  refine lv_imul hx hb dX0_firstNeed_12 ?_
  refine lv_sipush (v := 1000) hx hb dX0_firstNeed_13 (by decide) ?_
  obtain ⟨k_3, h⟩ := ck_ok h
  obtain ⟨t_4, et_4, h⟩ := nm_ok h
  rw [← et_4]
  refine lv_idiv hx hb dX0_firstNeed_16 k_3 ?_
  cases h
  exact x_iret X (vp_nar_int _) hw rfl rfl dX0_firstNeed_17

def rX0_has : Room := { frames := 0, cells := 0, slots := 0, locals := 0 }
theorem hd_X0_has : yX0_has.cls = RX0 ∧ yX0_has.cls ≠ "java/lang/invoke/MethodHandle" ∧ yX0_has.cls ≠ "java/lang/invoke/VarHandle" ∧ (parseMethodDescriptor yX0_has.desc).map (fun d => d.parameters.length) = some 1 := by decide +kernel
theorem in_X0_has_0 : ∀ w ∈ u_ws RX0 TX0 10, w ∈ wsX0_has := fun w h => (List.mem_cons_of_mem _ (List.mem_append_right _ h))
noncomputable def f_X0_has  (v : CV) (x1 : Int32) : Option (Int32) :=
  br (x1 < 0)
    (some (0))
    (br ((C_se v) ≤ x1)
       (some (0))
       (some (1)))
set_option maxHeartbeats 4000000 in
set_option maxRecDepth 100000 in
theorem m_X0_has {G : GG} {l : Launch} {a : Nat → Nat} {v : CV} {x1 : Int32} {r : Int32}  (h : f_X0_has v x1 = some (r)) : Ci G l yX0_has wsX0_has rX0_has [.ref (a 0), .int x1] (fl [cB G a v]) r (fl [cB G a v]) := by
  refine Ci.intro cX0_has 2 (some .boolean) RX0 (by decide) rfl rfl (Nat.le_of_ble_eq_true rfl) ?_
  intro p e s m below meth c A ls X hw hl
  obtain ⟨⟨hx, hb, hml, hown, hts⟩, hK, hr, hlk, hA⟩ := id X
  unfold f_X0_has at h
  have hl : lv_has ls 2 [(0, .ref (a 0)), (1, .int x1)] := hl
  refine lv_iload_n hx hb dX0_has_0 rfl (lv_at hl 1 rfl) ?_
  refine lv_if_lt (tgt := 16) hx hb dX0_has_1 (by decide) (fun k_1 => ?_) (fun k_1 => ?_)
  · have h := br_yes h k_1
    refine lv_iconst (v := 0) hx hb dX0_has_16 (by decide) ?_
    cases h
    exact x_iret X (narz (Or.inl rfl)) hw rfl rfl dX0_has_17
  · have h := br_no h k_1
    refine lv_iload_n hx hb dX0_has_4 rfl (lv_at hl 1 rfl) ?_
    refine lv_aload_n hx hb dX0_has_5 rfl (lv_at hl 0 rfl) ?_
    refine x_get (v := .int (C_se v)) 0 0 X hw in_X0_has_0 rfl rfl rfl 0 (by decide) (List.mem_of_getElem? (i := 1) rfl) rfl rfl dX0_has_6 ?_
    refine lv_icmp_ge (tgt := 16) hx hb dX0_has_9 (by decide) (fun k_2 => ?_) (fun k_2 => ?_)
    · have h := br_yes h k_2
      refine lv_iconst (v := 0) hx hb dX0_has_16 (by decide) ?_
      cases h
      exact x_iret X (narz (Or.inl rfl)) hw rfl rfl dX0_has_17
    · have h := br_no h k_2
      refine lv_iconst (v := 1) hx hb dX0_has_12 (by decide) ?_
      refine lv_goto (tgt := 17) hx hb dX0_has_13 (by decide) ?_
      cases h
      exact x_iret X (narz (Or.inr rfl)) hw rfl rfl dX0_has_17

def rX0_isFeeder : Room := { frames := 1, cells := 0, slots := 0, locals := 21 }
theorem hd_X0_isFeeder : yX0_isFeeder.cls = RX0 ∧ yX0_isFeeder.cls ≠ "java/lang/invoke/MethodHandle" ∧ yX0_isFeeder.cls ≠ "java/lang/invoke/VarHandle" ∧ (parseMethodDescriptor yX0_isFeeder.desc).map (fun d => d.parameters.length) = some 1 := by decide +kernel
theorem in_X0_isFeeder_0 : ∀ w ∈ u_ws RX0 TX0 10, w ∈ wsX0_isFeeder := fun w h => (List.mem_cons_of_mem _ (List.mem_append_right _ h))
noncomputable def f_X0_isFeeder  (v : CV) (x1 : Int32) : Option (Int32) :=
  bd (f_X0_has v x1) fun r_1 =>
  br (r_1 = 0)
    (some (0))
    (ck (vp_in x1 12) <|
     br (((C_fe v) x1.toNatClampNeg) = 0)
       (some (0))
       (some (1)))
set_option maxHeartbeats 4000000 in
set_option maxRecDepth 100000 in
theorem m_X0_isFeeder {G : GG} {l : Launch} {a : Nat → Nat} {v : CV} {x1 : Int32} {r : Int32}  (h : f_X0_isFeeder v x1 = some (r)) : Ci G l yX0_isFeeder wsX0_isFeeder rX0_isFeeder [.ref (a 0), .int x1] (fl [cB G a v]) r (fl [cB G a v]) := by
  refine Ci.intro cX0_isFeeder 2 (some .boolean) RX0 (by decide) rfl rfl (Nat.le_of_ble_eq_true rfl) ?_
  intro p e s m below meth c A ls X hw hl
  obtain ⟨⟨hx, hb, hml, hown, hts⟩, hK, hr, hlk, hA⟩ := id X
  unfold f_X0_isFeeder at h
  have hl : lv_has ls 2 [(0, .ref (a 0)), (1, .int x1)] := hl
  refine lv_aload_n hx hb dX0_isFeeder_0 rfl (lv_at hl 0 rfl) ?_
  refine lv_iload_n hx hb dX0_isFeeder_1 rfl (lv_at hl 1 rfl) ?_
  obtain ⟨r_1, c_2, h⟩ := bd_ok h
  refine x_Vi (As := [.int x1]) (w' := fl [cB G a v]) X hw (m_X0_has (G := G) (l := l) (a := a) c_2) Cut.all 0 0 rfl rfl rfl (cwV 1 hts gX0_isFeeder_X0_has rfl rfl rfl hd_X0_has ⟨Nat.le_of_ble_eq_true rfl, Nat.le_of_ble_eq_true rfl⟩) rfl hl.1 rfl (Nat.le_of_ble_eq_true rfl) dX0_isFeeder_2 ⟨Nat.le_of_ble_eq_true rfl, Nat.le_of_ble_eq_true rfl⟩ (fun H locs hw => ?_)
  refine lv_if_eq (tgt := 21) hx hb dX0_isFeeder_5 (by decide) (fun k_3 => ?_) (fun k_3 => ?_)
  · have h := br_yes h k_3
    refine lv_iconst (v := 0) hx hb dX0_isFeeder_21 (by decide) ?_
    cases h
    exact x_iret X (narz (Or.inl rfl)) hw rfl rfl dX0_isFeeder_22
  · have h := br_no h k_3
    refine lv_aload_n hx hb dX0_isFeeder_8 rfl (lv_at hl 0 rfl) ?_
    refine x_get (v := .ref (a 4)) 0 0 X hw in_X0_isFeeder_0 rfl rfl rfl 7 (by decide) (List.mem_of_getElem? (i := 1) rfl) rfl rfl dX0_isFeeder_9 ?_
    refine lv_iload_n hx hb dX0_isFeeder_12 rfl (lv_at hl 1 rfl) ?_
    obtain ⟨k_4, h⟩ := ck_ok h
    refine x_zald (f := (C_fe v)) 0 4 X hw rfl rfl k_4 dX0_isFeeder_13 ?_
    refine lv_if_eq (tgt := 21) hx hb dX0_isFeeder_14 (by decide) (fun k_5 => ?_) (fun k_5 => ?_)
    · have h := br_yes h k_5
      refine lv_iconst (v := 0) hx hb dX0_isFeeder_21 (by decide) ?_
      cases h
      exact x_iret X (narz (Or.inl rfl)) hw rfl rfl dX0_isFeeder_22
    · have h := br_no h k_5
      refine lv_iconst (v := 1) hx hb dX0_isFeeder_17 (by decide) ?_
      refine lv_goto (tgt := 22) hx hb dX0_isFeeder_18 (by decide) ?_
      cases h
      exact x_iret X (narz (Or.inr rfl)) hw rfl rfl dX0_isFeeder_22

def rX0_bearablePores : Room := { frames := 2, cells := 0, slots := 0, locals := 42 }
theorem hd_X0_bearablePores : yX0_bearablePores.cls = RX0 ∧ yX0_bearablePores.cls ≠ "java/lang/invoke/MethodHandle" ∧ yX0_bearablePores.cls ≠ "java/lang/invoke/VarHandle" ∧ (parseMethodDescriptor yX0_bearablePores.desc).map (fun d => d.parameters.length) = some 1 := by decide +kernel
theorem in_X0_bearablePores_0 : ∀ w ∈ u_ws RX0 TX0 10, w ∈ wsX0_bearablePores := fun w h => (List.mem_cons_of_mem _ (List.mem_append_right _ h))
noncomputable def f_X0_bearablePores  (v : CV) (x1 : Int32) : Option (Int32) :=
  bd (f_X0_isFeeder v x1) fun r_1 =>
  br (r_1 = 0)
    (some (0))
    (bd (f_X4_at 12 (C_vo v) x1) fun r_4 =>
     ck (¬ 1000 = 0) <|
     nm ((r_4 * (C_pi v))) fun t_7 =>
     some ((t_7 / 1000)))
set_option maxHeartbeats 4000000 in
set_option maxRecDepth 100000 in
theorem m_X0_bearablePores {G : GG} {l : Launch} {a : Nat → Nat} {v : CV} {x1 : Int32} {r : Int32}  (h : f_X0_bearablePores v x1 = some (r)) : Ci G l yX0_bearablePores wsX0_bearablePores rX0_bearablePores [.ref (a 0), .int x1] (fl [cB G a v]) r (fl [cB G a v]) := by
  refine Ci.intro cX0_bearablePores 2 (some .int) RX0 (by decide) rfl rfl (Nat.le_of_ble_eq_true rfl) ?_
  intro p e s m below meth c A ls X hw hl
  obtain ⟨⟨hx, hb, hml, hown, hts⟩, hK, hr, hlk, hA⟩ := id X
  unfold f_X0_bearablePores at h
  have hl : lv_has ls 2 [(0, .ref (a 0)), (1, .int x1)] := hl
  refine lv_aload_n hx hb dX0_bearablePores_0 rfl (lv_at hl 0 rfl) ?_
  refine lv_iload_n hx hb dX0_bearablePores_1 rfl (lv_at hl 1 rfl) ?_
  obtain ⟨r_1, c_2, h⟩ := bd_ok h
  refine x_Vi (As := [.int x1]) (w' := fl [cB G a v]) X hw (m_X0_isFeeder (G := G) (l := l) (a := a) c_2) Cut.all 0 0 rfl rfl rfl (cwV 1 hts gX0_bearablePores_X0_isFeeder rfl rfl rfl hd_X0_isFeeder ⟨Nat.le_of_ble_eq_true rfl, Nat.le_of_ble_eq_true rfl⟩) rfl hl.1 rfl (Nat.le_of_ble_eq_true rfl) dX0_bearablePores_2 ⟨Nat.le_of_ble_eq_true rfl, Nat.le_of_ble_eq_true rfl⟩ (fun H locs hw => ?_)
  refine lv_if_eq (tgt := 28) hx hb dX0_bearablePores_5 (by decide) (fun k_3 => ?_) (fun k_3 => ?_)
  · have h := br_yes h k_3
    refine lv_iconst (v := 0) hx hb dX0_bearablePores_28 (by decide) ?_
    cases h
    exact x_iret X (vp_nar_int _) hw rfl rfl dX0_bearablePores_29
  · have h := br_no h k_3
    refine lv_aload_n hx hb dX0_bearablePores_8 rfl (lv_at hl 0 rfl) ?_
    refine x_get (v := .ref (a 1)) 0 0 X hw in_X0_bearablePores_0 rfl rfl rfl 4 (by decide) (List.mem_of_getElem? (i := 1) rfl) rfl rfl dX0_bearablePores_9 ?_
    refine lv_iload_n hx hb dX0_bearablePores_12 rfl (lv_at hl 1 rfl) ?_
    obtain ⟨r_4, c_5, h⟩ := bd_ok h
    refine x_Ni (As := [.ref (a 1), .int x1]) (w' := fl [cB G a v]) X hw (m_X4_at (G := G) (l := l) (q := (a 1)) c_5) (Cut.cellr 0 1 rfl rfl) ⟨va_cnB 2 hts gX0_bearablePores_X4_at_n48 rfl rfl rfl (hK.2 _ (List.mem_of_getElem? (i := 3) rfl)) (hts _ (List.mem_of_getElem? (i := 15) rfl)) hd_X4_at.2 ⟨Nat.le_of_ble_eq_true rfl, Nat.le_of_ble_eq_true rfl⟩, hts _ (List.mem_of_getElem? (i := 14) rfl), trivial⟩ rfl hl.1 rfl (Nat.le_of_ble_eq_true rfl) dX0_bearablePores_13 ⟨Nat.le_of_ble_eq_true rfl, Nat.le_of_ble_eq_true rfl⟩ (fun H locs hw => ?_)
    refine lv_aload_n hx hb dX0_bearablePores_16 rfl (lv_at hl 0 rfl) ?_
    refine x_get (v := .int (C_pi v)) 0 0 X hw in_X0_bearablePores_0 rfl rfl rfl 3 (by decide) (List.mem_of_getElem? (i := 2) rfl) rfl rfl dX0_bearablePores_17 ?_
    refine lv_imul hx hb dX0_bearablePores_20 ?_
    refine lv_sipush (v := 1000) hx hb dX0_bearablePores_21 (by decide) ?_
    obtain ⟨k_6, h⟩ := ck_ok h
    obtain ⟨t_7, et_7, h⟩ := nm_ok h
    rw [← et_7]
    refine lv_idiv hx hb dX0_bearablePores_24 k_6 ?_
    refine lv_goto (tgt := 29) hx hb dX0_bearablePores_25 (by decide) ?_
    cases h
    exact x_iret X (vp_nar_int _) hw rfl rfl dX0_bearablePores_29

def rX0_touches : Room := { frames := 1, cells := 0, slots := 0, locals := 21 }
theorem hd_X0_touches : yX0_touches.cls = RX0 ∧ yX0_touches.cls ≠ "java/lang/invoke/MethodHandle" ∧ yX0_touches.cls ≠ "java/lang/invoke/VarHandle" ∧ (parseMethodDescriptor yX0_touches.desc).map (fun d => d.parameters.length) = some 2 := by decide +kernel
theorem in_X0_touches_0 : ∀ w ∈ u_ws RX0 TX0 10, w ∈ wsX0_touches := fun w h => (List.mem_cons_of_mem _ (List.mem_append_right _ h))
noncomputable def f_X0_touches_b24  (v : CV) : Option (Int32) :=
  some (1)
set_option maxHeartbeats 4000000 in
set_option maxRecDepth 100000 in
theorem w_X0_touches_b24 {G : GG} {l : Launch} {p : Program} {e : Env} {s : State} {m : MethodId} {args : Array Value} {below : List Frame} {meth : Method} {c : Code} {A : Nat → Prop} {a : Nat → Nat} {v : CV} {r : Int32}    (X : Cx p s m args meth c cX0_touches 3 (some .boolean) wsX0_touches RX0 G A)  :
    ∀  (H : Heap) (locs : List Loc) (ls : Array Slot), f_X0_touches_b24 v = some (r) → Wd G A s H locs (fl [cB G a v]) → lv_has ls 3 [] → W p l e rX0_touches s m args below meth c H locs 0 0 (MQ below (Qi G A r (fl [cB G a v])) args s 0 0 A) (F0 m 24 ls []) := by
  obtain ⟨⟨hx, hb, hml, hown, hts⟩, hK, hr, hlk, hA⟩ := id X
  intro  H locs ls h hw hl
  unfold f_X0_touches_b24 at h
  refine lv_iconst (v := 1) hx hb dX0_touches_24 (by decide) ?_
  refine lv_goto (tgt := 29) hx hb dX0_touches_25 (by decide) ?_
  cases h
  exact x_iret X (narz (Or.inr rfl)) hw rfl rfl dX0_touches_29
noncomputable def f_X0_touches  (v : CV) (x1 : Int32) (x2 : Int32) : Option (Int32) :=
  bd (f_X4_at 20 (C_fi v) x1) fun r_1 =>
  br (r_1 = x2)
    (f_X0_touches_b24 v)
    (bd (f_X4_at 20 (C_sd v) x1) fun r_4 =>
     br (r_4 = x2)
       (f_X0_touches_b24 v)
       (some (0)))
set_option maxHeartbeats 4000000 in
set_option maxRecDepth 100000 in
theorem m_X0_touches {G : GG} {l : Launch} {a : Nat → Nat} {v : CV} {x1 : Int32} {x2 : Int32} {r : Int32}  (h : f_X0_touches v x1 x2 = some (r)) : Ci G l yX0_touches wsX0_touches rX0_touches [.ref (a 0), .int x1, .int x2] (fl [cB G a v]) r (fl [cB G a v]) := by
  refine Ci.intro cX0_touches 3 (some .boolean) RX0 (by decide) rfl rfl (Nat.le_of_ble_eq_true rfl) ?_
  intro p e s m below meth c A ls X hw hl
  obtain ⟨⟨hx, hb, hml, hown, hts⟩, hK, hr, hlk, hA⟩ := id X
  unfold f_X0_touches at h
  have hl : lv_has ls 3 [(0, .ref (a 0)), (1, .int x1), (2, .int x2)] := hl
  refine lv_aload_n hx hb dX0_touches_0 rfl (lv_at hl 0 rfl) ?_
  refine x_get (v := .ref (a 5)) 0 0 X hw in_X0_touches_0 rfl rfl rfl 8 (by decide) (List.mem_of_getElem? (i := 1) rfl) rfl rfl dX0_touches_1 ?_
  refine lv_iload_n hx hb dX0_touches_4 rfl (lv_at hl 1 rfl) ?_
  obtain ⟨r_1, c_2, h⟩ := bd_ok h
  refine x_Ni (As := [.ref (a 5), .int x1]) (w' := fl [cB G a v]) X hw (m_X4_at (G := G) (l := l) (q := (a 5)) c_2) (Cut.cellr 0 5 rfl rfl) ⟨va_cnB 2 hts gX0_touches_X4_at_n48 rfl rfl rfl (hK.2 _ (List.mem_of_getElem? (i := 3) rfl)) (hts _ (List.mem_of_getElem? (i := 4) rfl)) hd_X4_at.2 ⟨Nat.le_of_ble_eq_true rfl, Nat.le_of_ble_eq_true rfl⟩, hts _ (List.mem_of_getElem? (i := 3) rfl), trivial⟩ rfl hl.1 rfl (Nat.le_of_ble_eq_true rfl) dX0_touches_5 ⟨Nat.le_of_ble_eq_true rfl, Nat.le_of_ble_eq_true rfl⟩ (fun H locs hw => ?_)
  refine lv_iload_n hx hb dX0_touches_8 rfl (lv_at hl 2 rfl) ?_
  refine lv_icmp_eq (tgt := 24) hx hb dX0_touches_9 (by decide) (fun k_3 => ?_) (fun k_3 => ?_)
  · have h := br_yes h k_3
    exact w_X0_touches_b24 X _ _ _ h hw (lv_sub hl [] rfl)
  · have h := br_no h k_3
    refine lv_aload_n hx hb dX0_touches_12 rfl (lv_at hl 0 rfl) ?_
    refine x_get (v := .ref (a 6)) 0 0 X hw in_X0_touches_0 rfl rfl rfl 9 (by decide) (List.mem_of_getElem? (i := 2) rfl) rfl rfl dX0_touches_13 ?_
    refine lv_iload_n hx hb dX0_touches_16 rfl (lv_at hl 1 rfl) ?_
    obtain ⟨r_4, c_5, h⟩ := bd_ok h
    refine x_Ni (As := [.ref (a 6), .int x1]) (w' := fl [cB G a v]) X hw (m_X4_at (G := G) (l := l) (q := (a 6)) c_5) (Cut.cellr 0 6 rfl rfl) ⟨va_cnB 2 hts gX0_touches_X4_at_n48 rfl rfl rfl (hK.2 _ (List.mem_of_getElem? (i := 3) rfl)) (hts _ (List.mem_of_getElem? (i := 4) rfl)) hd_X4_at.2 ⟨Nat.le_of_ble_eq_true rfl, Nat.le_of_ble_eq_true rfl⟩, hts _ (List.mem_of_getElem? (i := 3) rfl), trivial⟩ rfl hl.1 rfl (Nat.le_of_ble_eq_true rfl) dX0_touches_17 ⟨Nat.le_of_ble_eq_true rfl, Nat.le_of_ble_eq_true rfl⟩ (fun H locs hw => ?_)
    refine lv_iload_n hx hb dX0_touches_20 rfl (lv_at hl 2 rfl) ?_
    refine lv_icmp_ne (tgt := 28) hx hb dX0_touches_21 (by decide) (fun k_6 => ?_) (fun k_6 => ?_)
    · have h := br_no h k_6
      refine lv_iconst (v := 0) hx hb dX0_touches_28 (by decide) ?_
      cases h
      exact x_iret X (narz (Or.inl rfl)) hw rfl rfl dX0_touches_29
    · have h := br_yes h k_6
      exact w_X0_touches_b24 X _ _ _ h hw (lv_sub hl [] rfl)

def rX0_unlink : Room := { frames := 1, cells := 0, slots := 0, locals := 22 }
theorem hd_X0_unlink : yX0_unlink.cls = RX0 ∧ yX0_unlink.cls ≠ "java/lang/invoke/MethodHandle" ∧ yX0_unlink.cls ≠ "java/lang/invoke/VarHandle" ∧ (parseMethodDescriptor yX0_unlink.desc).map (fun d => d.parameters.length) = some 1 := by decide +kernel
theorem in_X0_unlink_0 : ∀ w ∈ u_ws RX0 TX0 10, w ∈ wsX0_unlink := fun w h => (List.mem_cons_of_mem _ (List.mem_append_right _ h))
noncomputable def f_X0_unlink_b6   : Nat → CV → Int32 → Option (CV)
  | 0 => fun _ _ => none
  | n + 1 => fun v x2 =>
    br ((C_jo v) ≤ (x2 + 1))
      (nm (((C_jo v) - 1)) fun t_2 =>
       some (((C_se v), t_2, (C_sh v), (C_pi v), (C_vo v), (C_ar v), (C_ch v), (C_fe v), (C_fi v), (C_sd v))))
      (bd (f_X4_at 20 (C_fi v) (x2 + 1)) fun r_3 =>
       bd (f_X4_put 20 (C_fi v) x2 r_3) fun g_5 =>
       bd (f_X4_at 20 (C_sd v) (x2 + 1)) fun r_7 =>
       bd (f_X4_put 20 (C_sd v) x2 r_7) fun g_9 =>
       nm (x2 + 1) fun t_11 =>
       f_X0_unlink_b6 n ((C_se v), (C_jo v), (C_sh v), (C_pi v), (C_vo v), (C_ar v), (C_ch v), (C_fe v), g_5, g_9) t_11)
set_option maxHeartbeats 4000000 in
set_option maxRecDepth 100000 in
theorem w_X0_unlink_b6 {G : GG} {l : Launch} {p : Program} {e : Env} {s : State} {m : MethodId} {args : Array Value} {below : List Frame} {meth : Method} {c : Code} {A : Nat → Prop} {a : Nat → Nat}  {zv : CV}   (X : Cx p s m args meth c cX0_unlink 3 none wsX0_unlink RX0 G A)  :
    ∀ (n : Nat) (v : CV) (x2 : Int32) (H : Heap) (locs : List Loc) (ls : Array Slot), f_X0_unlink_b6 n v x2 = some (zv) → Wd G A s H locs (fl [cB G a v]) → lv_has ls 3 [(0, .ref (a 0)), (2, .int x2)] → W p l e rX0_unlink s m args below meth c H locs 0 0 (MQ below (Qv G A (fl [cB G a zv])) args s 0 0 A) (F0 m 6 ls []) := by
  obtain ⟨⟨hx, hb, hml, hown, hts⟩, hK, hr, hlk, hA⟩ := id X
  intro n
  induction n with
  | zero =>
    intro v x2 H locs ls h
    rw [f_X0_unlink_b6] at h
    cases h
  | succ n ih =>
    intro v x2 H locs ls h hw hl
    rw [f_X0_unlink_b6] at h
    refine lv_iload_n hx hb dX0_unlink_6 rfl (lv_at hl 1 rfl) ?_
    refine lv_iconst (v := 1) hx hb dX0_unlink_7 (by decide) ?_
    refine lv_iadd hx hb dX0_unlink_8 ?_
    refine lv_aload_n hx hb dX0_unlink_9 rfl (lv_at hl 0 rfl) ?_
    refine x_get (v := .int (C_jo v)) 0 0 X hw in_X0_unlink_0 rfl rfl rfl 1 (by decide) (List.mem_of_getElem? (i := 5) rfl) rfl rfl dX0_unlink_10 ?_
    refine lv_icmp_ge (tgt := 58) hx hb dX0_unlink_13 (by decide) (fun k_1 => ?_) (fun k_1 => ?_)
    · have h := br_yes h k_1
      refine lv_aload_n hx hb dX0_unlink_58 rfl (lv_at hl 0 rfl) ?_
      refine lv_dup hx hb dX0_unlink_59 rfl ?_
      refine x_get (v := .int (C_jo v)) 0 0 X hw in_X0_unlink_0 rfl rfl rfl 1 (by decide) (List.mem_of_getElem? (i := 5) rfl) rfl rfl dX0_unlink_60 ?_
      refine lv_iconst (v := 1) hx hb dX0_unlink_63 (by decide) ?_
      refine lv_isub hx hb dX0_unlink_64 ?_
      obtain ⟨t_2, et_2, h⟩ := nm_ok h
      refine x_put (bs' := [cB G a ((C_se v), t_2, (C_sh v), (C_pi v), (C_vo v), (C_ar v), (C_ch v), (C_fe v), (C_fi v), (C_sd v))]) 0 0 X hw in_X0_unlink_0 tyX0 tyX0_ok nmX0 rfl rfl rfl 1 (by decide) (List.mem_of_getElem? (i := 5) rfl) rfl rfl rfl rfl (Nat.le_of_ble_eq_true rfl) dX0_unlink_65 (by rw [et_2]; rfl) (fun H locs hw => ?_)
      cases h
      exact x_vret X hw rfl dX0_unlink_68
    · have h := br_no h k_1
      refine lv_aload_n hx hb dX0_unlink_16 rfl (lv_at hl 0 rfl) ?_
      refine x_get (v := .ref (a 5)) 0 0 X hw in_X0_unlink_0 rfl rfl rfl 8 (by decide) (List.mem_of_getElem? (i := 6) rfl) rfl rfl dX0_unlink_17 ?_
      refine lv_iload_n hx hb dX0_unlink_20 rfl (lv_at hl 1 rfl) ?_
      refine lv_aload_n hx hb dX0_unlink_21 rfl (lv_at hl 0 rfl) ?_
      refine x_get (v := .ref (a 5)) 0 0 X hw in_X0_unlink_0 rfl rfl rfl 8 (by decide) (List.mem_of_getElem? (i := 6) rfl) rfl rfl dX0_unlink_22 ?_
      refine lv_iload_n hx hb dX0_unlink_25 rfl (lv_at hl 1 rfl) ?_
      refine lv_iconst (v := 1) hx hb dX0_unlink_26 (by decide) ?_
      refine lv_iadd hx hb dX0_unlink_27 ?_
      obtain ⟨r_3, c_4, h⟩ := bd_ok h
      refine x_Ni (As := [.ref (a 5), .int (x2 + 1)]) (w' := fl [cB G a v]) X hw (m_X4_at (G := G) (l := l) (q := (a 5)) c_4) (Cut.cellr 0 5 rfl rfl) ⟨va_cnB 2 hts gX0_unlink_X4_at_n48 rfl rfl rfl (hK.2 _ (List.mem_of_getElem? (i := 3) rfl)) (hts _ (List.mem_of_getElem? (i := 9) rfl)) hd_X4_at.2 ⟨Nat.le_of_ble_eq_true rfl, Nat.le_of_ble_eq_true rfl⟩, hts _ (List.mem_of_getElem? (i := 8) rfl), trivial⟩ rfl hl.1 rfl (Nat.le_of_ble_eq_true rfl) dX0_unlink_28 ⟨Nat.le_of_ble_eq_true rfl, Nat.le_of_ble_eq_true rfl⟩ (fun H locs hw => ?_)
      obtain ⟨g_5, c_6, h⟩ := bd_ok h
      refine x_Nv (As := [.ref (a 5), .int x2, .int r_3]) (w' := fl [cB G a ((C_se v), (C_jo v), (C_sh v), (C_pi v), (C_vo v), (C_ar v), (C_ch v), (C_fe v), g_5, (C_sd v))]) X hw (m_X4_put (G := G) (l := l) (q := (a 5)) c_6) (Cut.cell (bs' := [cB G a ((C_se v), (C_jo v), (C_sh v), (C_pi v), (C_vo v), (C_ar v), (C_ch v), (C_fe v), g_5, (C_sd v))]) 0 5 rfl rfl rfl) ⟨va_cnB 3 hts gX0_unlink_X4_put_n69 rfl rfl rfl (hK.2 _ (List.mem_of_getElem? (i := 4) rfl)) (hts _ (List.mem_of_getElem? (i := 9) rfl)) hd_X4_put.2 ⟨Nat.le_of_ble_eq_true rfl, Nat.le_of_ble_eq_true rfl⟩, hts _ (List.mem_of_getElem? (i := 11) rfl), trivial⟩ rfl hl.1 rfl (Nat.le_of_ble_eq_true rfl) dX0_unlink_31 ⟨Nat.le_of_ble_eq_true rfl, Nat.le_of_ble_eq_true rfl⟩ (fun H locs hw => ?_)
      refine lv_aload_n hx hb dX0_unlink_34 rfl (lv_at hl 0 rfl) ?_
      refine x_get (v := .ref (a 6)) 0 0 X hw in_X0_unlink_0 rfl rfl rfl 9 (by decide) (List.mem_of_getElem? (i := 7) rfl) rfl rfl dX0_unlink_35 ?_
      refine lv_iload_n hx hb dX0_unlink_38 rfl (lv_at hl 1 rfl) ?_
      refine lv_aload_n hx hb dX0_unlink_39 rfl (lv_at hl 0 rfl) ?_
      refine x_get (v := .ref (a 6)) 0 0 X hw in_X0_unlink_0 rfl rfl rfl 9 (by decide) (List.mem_of_getElem? (i := 7) rfl) rfl rfl dX0_unlink_40 ?_
      refine lv_iload_n hx hb dX0_unlink_43 rfl (lv_at hl 1 rfl) ?_
      refine lv_iconst (v := 1) hx hb dX0_unlink_44 (by decide) ?_
      refine lv_iadd hx hb dX0_unlink_45 ?_
      obtain ⟨r_7, c_8, h⟩ := bd_ok h
      refine x_Ni (As := [.ref (a 6), .int (x2 + 1)]) (w' := fl [cB G a ((C_se v), (C_jo v), (C_sh v), (C_pi v), (C_vo v), (C_ar v), (C_ch v), (C_fe v), g_5, (C_sd v))]) X hw (m_X4_at (G := G) (l := l) (q := (a 6)) c_8) (Cut.cellr 0 6 rfl rfl) ⟨va_cnB 2 hts gX0_unlink_X4_at_n48 rfl rfl rfl (hK.2 _ (List.mem_of_getElem? (i := 3) rfl)) (hts _ (List.mem_of_getElem? (i := 9) rfl)) hd_X4_at.2 ⟨Nat.le_of_ble_eq_true rfl, Nat.le_of_ble_eq_true rfl⟩, hts _ (List.mem_of_getElem? (i := 8) rfl), trivial⟩ rfl hl.1 rfl (Nat.le_of_ble_eq_true rfl) dX0_unlink_46 ⟨Nat.le_of_ble_eq_true rfl, Nat.le_of_ble_eq_true rfl⟩ (fun H locs hw => ?_)
      obtain ⟨g_9, c_10, h⟩ := bd_ok h
      refine x_Nv (As := [.ref (a 6), .int x2, .int r_7]) (w' := fl [cB G a ((C_se v), (C_jo v), (C_sh v), (C_pi v), (C_vo v), (C_ar v), (C_ch v), (C_fe v), g_5, g_9)]) X hw (m_X4_put (G := G) (l := l) (q := (a 6)) c_10) (Cut.cell (bs' := [cB G a ((C_se v), (C_jo v), (C_sh v), (C_pi v), (C_vo v), (C_ar v), (C_ch v), (C_fe v), g_5, g_9)]) 0 6 rfl rfl rfl) ⟨va_cnB 3 hts gX0_unlink_X4_put_n69 rfl rfl rfl (hK.2 _ (List.mem_of_getElem? (i := 4) rfl)) (hts _ (List.mem_of_getElem? (i := 9) rfl)) hd_X4_put.2 ⟨Nat.le_of_ble_eq_true rfl, Nat.le_of_ble_eq_true rfl⟩, hts _ (List.mem_of_getElem? (i := 11) rfl), trivial⟩ rfl hl.1 rfl (Nat.le_of_ble_eq_true rfl) dX0_unlink_49 ⟨Nat.le_of_ble_eq_true rfl, Nat.le_of_ble_eq_true rfl⟩ (fun H locs hw => ?_)
      obtain ⟨t_11, et_11, h⟩ := nm_ok h
      refine lv_iinc (v := t_11) (lv' := [(2, .int t_11), (0, .ref (a 0))]) hx hb dX0_unlink_52 hl (k := 1) rfl (by rw [et_11]; rfl) (by decide) rfl (fun ls hl => ?_)
      refine lv_goto (tgt := 6) hx hb dX0_unlink_55 (by decide) ?_
      exact ih ((C_se v), (C_jo v), (C_sh v), (C_pi v), (C_vo v), (C_ar v), (C_ch v), (C_fe v), g_5, g_9) t_11 _ _ _ h hw (lv_sub hl [1, 0] rfl)
noncomputable def f_X0_unlink  (v : CV) (x1 : Int32) : Option (CV) :=
  nm ((if x1 < 0 then 0 else x1)) fun t_1 =>
  f_X0_unlink_b6 FU v t_1
set_option maxHeartbeats 4000000 in
set_option maxRecDepth 100000 in
theorem m_X0_unlink {G : GG} {l : Launch} {a : Nat → Nat} {v : CV} {x1 : Int32} {zv : CV} (h : f_X0_unlink v x1 = some (zv)) : Cv G l yX0_unlink wsX0_unlink rX0_unlink [.ref (a 0), .int x1] (fl [cB G a v]) (fl [cB G a zv]) := by
  refine Cv.intro cX0_unlink 3 none RX0 (by decide) rfl rfl (Nat.le_of_ble_eq_true rfl) ?_
  intro p e s m below meth c A ls X hw hl
  obtain ⟨⟨hx, hb, hml, hown, hts⟩, hK, hr, hlk, hA⟩ := id X
  unfold f_X0_unlink at h
  have hl : lv_has ls 3 [(0, .ref (a 0)), (1, .int x1)] := hl
  refine lv_iload_n hx hb dX0_unlink_0 rfl (lv_at hl 1 rfl) ?_
  refine lv_iconst (v := 0) hx hb dX0_unlink_1 (by decide) ?_
  refine va_mmax hx hb (hml.trans hl.1.symm) hown (hts _ (List.mem_of_getElem? (i := 1) rfl)) (hts _ (List.mem_of_getElem? (i := 2) rfl)) (hts _ (List.mem_of_getElem? (i := 3) rfl)) (hts _ (List.mem_of_getElem? (i := 4) rfl)) (Nat.le_of_ble_eq_true rfl) (Nat.le_of_ble_eq_true rfl) (Nat.le_of_ble_eq_true rfl) (Nat.le_of_ble_eq_true rfl) dX0_unlink_2 ?_
  obtain ⟨t_1, et_1, h⟩ := nm_ok h
  rw [← et_1]
  refine lv_istore_n (lv' := [(2, .int t_1), (0, .ref (a 0)), (1, .int x1)]) hx hb dX0_unlink_5 rfl hl (by decide) rfl (fun ls hl => ?_)
  exact w_X0_unlink_b6 X FU v t_1 _ _ _ h hw (lv_sub hl [1, 0] rfl)

def rX0_without : Room := { frames := 0, cells := 0, slots := 0, locals := 0 }
theorem hd_X0_without : yX0_without.cls = RX0 ∧ yX0_without.cls ≠ "java/lang/invoke/MethodHandle" ∧ yX0_without.cls ≠ "java/lang/invoke/VarHandle" ∧ (parseMethodDescriptor yX0_without.desc).map (fun d => d.parameters.length) = some 2 := by decide +kernel
noncomputable def f_X0_without   (x0 : Int32) (x1 : Int32) : Option (Int32) :=
  br (x1 ≤ x0)
    (some (x1))
    (some ((x1 - 1)))
set_option maxHeartbeats 4000000 in
set_option maxRecDepth 100000 in
theorem m_X0_without {G : GG} {l : Launch}   {x0 : Int32} {x1 : Int32} {r : Int32}  (h : f_X0_without x0 x1 = some (r)) : Ci G l yX0_without wsX0_without rX0_without [.int x0, .int x1] (fl []) r (fl []) := by
  refine Ci.intro cX0_without 2 (some .int) RX0 (by decide) rfl rfl (Nat.le_of_ble_eq_true rfl) ?_
  intro p e s m below meth c A ls X hw hl
  obtain ⟨⟨hx, hb, hml, hown, hts⟩, hK, hr, hlk, hA⟩ := id X
  unfold f_X0_without at h
  have hl : lv_has ls 2 [(0, .int x0), (1, .int x1)] := hl
  refine lv_iload_n hx hb dX0_without_0 rfl (lv_at hl 1 rfl) ?_
  refine lv_iload_n hx hb dX0_without_1 rfl (lv_at hl 0 rfl) ?_
  refine lv_icmp_le (tgt := 11) hx hb dX0_without_2 (by decide) (fun k_1 => ?_) (fun k_1 => ?_)
  · have h := br_yes h k_1
    refine lv_iload_n hx hb dX0_without_11 rfl (lv_at hl 1 rfl) ?_
    cases h
    exact x_iret X (vp_nar_int _) hw rfl rfl dX0_without_12
  · have h := br_no h k_1
    refine lv_iload_n hx hb dX0_without_5 rfl (lv_at hl 1 rfl) ?_
    refine lv_iconst (v := 1) hx hb dX0_without_6 (by decide) ?_
    refine lv_isub hx hb dX0_without_7 ?_
    refine lv_goto (tgt := 12) hx hb dX0_without_8 (by decide) ?_
    cases h
    exact x_iret X (vp_nar_int _) hw rfl rfl dX0_without_12

def rX0_drop : Room := { frames := 2, cells := 0, slots := 0, locals := 44 }
theorem hd_X0_drop : yX0_drop.cls = RX0 ∧ yX0_drop.cls ≠ "java/lang/invoke/MethodHandle" ∧ yX0_drop.cls ≠ "java/lang/invoke/VarHandle" ∧ (parseMethodDescriptor yX0_drop.desc).map (fun d => d.parameters.length) = some 1 := by decide +kernel
theorem in_X0_drop_0 : ∀ w ∈ u_ws RX0 TX0 10, w ∈ wsX0_drop := fun w h => (List.mem_cons_of_mem _ (List.mem_append_right _ h))
noncomputable def f_X0_drop_b93   : Nat → CV → Int32 → Option (CV)
  | 0 => fun _ _ => none
  | n + 1 => fun v x2 =>
    br (12 ≤ (x2 + 1))
      (nm (((C_se v) - 1)) fun t_2 =>
       some ((t_2, (C_jo v), (C_sh v), (C_pi v), (C_vo v), (C_ar v), (C_ch v), (C_fe v), (C_fi v), (C_sd v))))
      (nm ((x2 + 1)) fun t_3 =>
       ck (vp_in t_3 12) <|
       nm (((C_vo v) t_3.toNatClampNeg)) fun t_5 =>
       ck (vp_in x2 12) <|
       nm (upd (C_vo v) x2.toNatClampNeg t_5) fun g_7 =>
       nm ((x2 + 1)) fun t_8 =>
       ck (vp_in t_8 12) <|
       nm (((C_ar v) t_8.toNatClampNeg)) fun t_10 =>
       ck (vp_in x2 12) <|
       nm (upd (C_ar v) x2.toNatClampNeg t_10) fun g_12 =>
       nm ((x2 + 1)) fun t_13 =>
       ck (vp_in t_13 12) <|
       nm (((C_ch v) t_13.toNatClampNeg)) fun t_15 =>
       ck (vp_in x2 12) <|
       nm (upd (C_ch v) x2.toNatClampNeg t_15) fun g_17 =>
       nm ((x2 + 1)) fun t_18 =>
       ck (vp_in t_18 12) <|
       nm (((C_fe v) t_18.toNatClampNeg)) fun t_20 =>
       ck (vp_in x2 12) <|
       ck (t_20 = 0 ∨ t_20 = 1) <|
       nm (upd (C_fe v) x2.toNatClampNeg t_20) fun g_23 =>
       nm (x2 + 1) fun t_24 =>
       f_X0_drop_b93 n ((C_se v), (C_jo v), (C_sh v), (C_pi v), g_7, g_12, g_17, g_23, (C_fi v), (C_sd v)) t_24)
set_option maxHeartbeats 4000000 in
set_option maxRecDepth 100000 in
theorem w_X0_drop_b93 {G : GG} {l : Launch} {p : Program} {e : Env} {s : State} {m : MethodId} {args : Array Value} {below : List Frame} {meth : Method} {c : Code} {A : Nat → Prop} {a : Nat → Nat}  {zv : CV}   (X : Cx p s m args meth c cX0_drop 3 none wsX0_drop RX0 G A)  :
    ∀ (n : Nat) (v : CV) (x2 : Int32) (H : Heap) (locs : List Loc) (ls : Array Slot), f_X0_drop_b93 n v x2 = some (zv) → Wd G A s H locs (fl [cB G a v]) → lv_has ls 3 [(0, .ref (a 0)), (2, .int x2)] → W p l e rX0_drop s m args below meth c H locs 0 0 (MQ below (Qv G A (fl [cB G a zv])) args s 0 0 A) (F0 m 93 ls []) := by
  obtain ⟨⟨hx, hb, hml, hown, hts⟩, hK, hr, hlk, hA⟩ := id X
  intro n
  induction n with
  | zero =>
    intro v x2 H locs ls h
    rw [f_X0_drop_b93] at h
    cases h
  | succ n ih =>
    intro v x2 H locs ls h hw hl
    rw [f_X0_drop_b93] at h
    refine lv_iload_n hx hb dX0_drop_93 rfl (lv_at hl 1 rfl) ?_
    refine lv_iconst (v := 1) hx hb dX0_drop_94 (by decide) ?_
    refine lv_iadd hx hb dX0_drop_95 ?_
    refine lv_bipush (v := 12) hx hb dX0_drop_96 (by decide) ?_
    refine lv_icmp_ge (tgt := 163) hx hb dX0_drop_98 (by decide) (fun k_1 => ?_) (fun k_1 => ?_)
    · have h := br_yes h k_1
      refine lv_aload_n hx hb dX0_drop_163 rfl (lv_at hl 0 rfl) ?_
      refine lv_dup hx hb dX0_drop_164 rfl ?_
      refine x_get (v := .int (C_se v)) 0 0 X hw in_X0_drop_0 rfl rfl rfl 0 (by decide) (List.mem_of_getElem? (i := 12) rfl) rfl rfl dX0_drop_165 ?_
      refine lv_iconst (v := 1) hx hb dX0_drop_168 (by decide) ?_
      refine lv_isub hx hb dX0_drop_169 ?_
      obtain ⟨t_2, et_2, h⟩ := nm_ok h
      refine x_put (bs' := [cB G a (t_2, (C_jo v), (C_sh v), (C_pi v), (C_vo v), (C_ar v), (C_ch v), (C_fe v), (C_fi v), (C_sd v))]) 0 0 X hw in_X0_drop_0 tyX0 tyX0_ok nmX0 rfl rfl rfl 0 (by decide) (List.mem_of_getElem? (i := 12) rfl) rfl rfl rfl rfl (Nat.le_of_ble_eq_true rfl) dX0_drop_170 (by rw [et_2]; rfl) (fun H locs hw => ?_)
      cases h
      exact x_vret X hw rfl dX0_drop_173
    · have h := br_no h k_1
      refine lv_aload_n hx hb dX0_drop_101 rfl (lv_at hl 0 rfl) ?_
      refine x_get (v := .ref (a 1)) 0 0 X hw in_X0_drop_0 rfl rfl rfl 4 (by decide) (List.mem_of_getElem? (i := 8) rfl) rfl rfl dX0_drop_102 ?_
      refine lv_iload_n hx hb dX0_drop_105 rfl (lv_at hl 1 rfl) ?_
      refine lv_aload_n hx hb dX0_drop_106 rfl (lv_at hl 0 rfl) ?_
      refine x_get (v := .ref (a 1)) 0 0 X hw in_X0_drop_0 rfl rfl rfl 4 (by decide) (List.mem_of_getElem? (i := 8) rfl) rfl rfl dX0_drop_107 ?_
      refine lv_iload_n hx hb dX0_drop_110 rfl (lv_at hl 1 rfl) ?_
      refine lv_iconst (v := 1) hx hb dX0_drop_111 (by decide) ?_
      refine lv_iadd hx hb dX0_drop_112 ?_
      obtain ⟨t_3, et_3, h⟩ := nm_ok h
      rw [← et_3]
      obtain ⟨k_4, h⟩ := ck_ok h
      refine x_iald (f := (C_vo v)) 0 1 X hw rfl rfl k_4 dX0_drop_113 ?_
      obtain ⟨t_5, et_5, h⟩ := nm_ok h
      rw [← et_5]
      obtain ⟨k_6, h⟩ := ck_ok h
      obtain ⟨g_7, eg_7, h⟩ := nm_ok h
      refine x_iast (f := (C_vo v)) (bs' := [cB G a ((C_se v), (C_jo v), (C_sh v), (C_pi v), g_7, (C_ar v), (C_ch v), (C_fe v), (C_fi v), (C_sd v))]) 0 1 X hw rfl rfl k_6 dX0_drop_114 (by rw [eg_7]; rfl) (fun H locs hw => ?_)
      refine lv_aload_n hx hb dX0_drop_115 rfl (lv_at hl 0 rfl) ?_
      refine x_get (v := .ref (a 2)) 0 0 X hw in_X0_drop_0 rfl rfl rfl 5 (by decide) (List.mem_of_getElem? (i := 9) rfl) rfl rfl dX0_drop_116 ?_
      refine lv_iload_n hx hb dX0_drop_119 rfl (lv_at hl 1 rfl) ?_
      refine lv_aload_n hx hb dX0_drop_120 rfl (lv_at hl 0 rfl) ?_
      refine x_get (v := .ref (a 2)) 0 0 X hw in_X0_drop_0 rfl rfl rfl 5 (by decide) (List.mem_of_getElem? (i := 9) rfl) rfl rfl dX0_drop_121 ?_
      refine lv_iload_n hx hb dX0_drop_124 rfl (lv_at hl 1 rfl) ?_
      refine lv_iconst (v := 1) hx hb dX0_drop_125 (by decide) ?_
      refine lv_iadd hx hb dX0_drop_126 ?_
      obtain ⟨t_8, et_8, h⟩ := nm_ok h
      rw [← et_8]
      obtain ⟨k_9, h⟩ := ck_ok h
      refine x_iald (f := (C_ar v)) 0 2 X hw rfl rfl k_9 dX0_drop_127 ?_
      obtain ⟨t_10, et_10, h⟩ := nm_ok h
      rw [← et_10]
      obtain ⟨k_11, h⟩ := ck_ok h
      obtain ⟨g_12, eg_12, h⟩ := nm_ok h
      refine x_iast (f := (C_ar v)) (bs' := [cB G a ((C_se v), (C_jo v), (C_sh v), (C_pi v), g_7, g_12, (C_ch v), (C_fe v), (C_fi v), (C_sd v))]) 0 2 X hw rfl rfl k_11 dX0_drop_128 (by rw [eg_12]; rfl) (fun H locs hw => ?_)
      refine lv_aload_n hx hb dX0_drop_129 rfl (lv_at hl 0 rfl) ?_
      refine x_get (v := .ref (a 3)) 0 0 X hw in_X0_drop_0 rfl rfl rfl 6 (by decide) (List.mem_of_getElem? (i := 10) rfl) rfl rfl dX0_drop_130 ?_
      refine lv_iload_n hx hb dX0_drop_133 rfl (lv_at hl 1 rfl) ?_
      refine lv_aload_n hx hb dX0_drop_134 rfl (lv_at hl 0 rfl) ?_
      refine x_get (v := .ref (a 3)) 0 0 X hw in_X0_drop_0 rfl rfl rfl 6 (by decide) (List.mem_of_getElem? (i := 10) rfl) rfl rfl dX0_drop_135 ?_
      refine lv_iload_n hx hb dX0_drop_138 rfl (lv_at hl 1 rfl) ?_
      refine lv_iconst (v := 1) hx hb dX0_drop_139 (by decide) ?_
      refine lv_iadd hx hb dX0_drop_140 ?_
      obtain ⟨t_13, et_13, h⟩ := nm_ok h
      rw [← et_13]
      obtain ⟨k_14, h⟩ := ck_ok h
      refine x_iald (f := (C_ch v)) 0 3 X hw rfl rfl k_14 dX0_drop_141 ?_
      obtain ⟨t_15, et_15, h⟩ := nm_ok h
      rw [← et_15]
      obtain ⟨k_16, h⟩ := ck_ok h
      obtain ⟨g_17, eg_17, h⟩ := nm_ok h
      refine x_iast (f := (C_ch v)) (bs' := [cB G a ((C_se v), (C_jo v), (C_sh v), (C_pi v), g_7, g_12, g_17, (C_fe v), (C_fi v), (C_sd v))]) 0 3 X hw rfl rfl k_16 dX0_drop_142 (by rw [eg_17]; rfl) (fun H locs hw => ?_)
      refine lv_aload_n hx hb dX0_drop_143 rfl (lv_at hl 0 rfl) ?_
      refine x_get (v := .ref (a 4)) 0 0 X hw in_X0_drop_0 rfl rfl rfl 7 (by decide) (List.mem_of_getElem? (i := 11) rfl) rfl rfl dX0_drop_144 ?_
      refine lv_iload_n hx hb dX0_drop_147 rfl (lv_at hl 1 rfl) ?_
      refine lv_aload_n hx hb dX0_drop_148 rfl (lv_at hl 0 rfl) ?_
      refine x_get (v := .ref (a 4)) 0 0 X hw in_X0_drop_0 rfl rfl rfl 7 (by decide) (List.mem_of_getElem? (i := 11) rfl) rfl rfl dX0_drop_149 ?_
      refine lv_iload_n hx hb dX0_drop_152 rfl (lv_at hl 1 rfl) ?_
      refine lv_iconst (v := 1) hx hb dX0_drop_153 (by decide) ?_
      refine lv_iadd hx hb dX0_drop_154 ?_
      obtain ⟨t_18, et_18, h⟩ := nm_ok h
      rw [← et_18]
      obtain ⟨k_19, h⟩ := ck_ok h
      refine x_zald (f := (C_fe v)) 0 4 X hw rfl rfl k_19 dX0_drop_155 ?_
      obtain ⟨t_20, et_20, h⟩ := nm_ok h
      rw [← et_20]
      obtain ⟨k_21, h⟩ := ck_ok h
      obtain ⟨k_22, h⟩ := ck_ok h
      obtain ⟨g_23, eg_23, h⟩ := nm_ok h
      refine x_zast (f := (C_fe v)) (bs' := [cB G a ((C_se v), (C_jo v), (C_sh v), (C_pi v), g_7, g_12, g_17, g_23, (C_fi v), (C_sd v))]) 0 4 X hw rfl rfl k_22 k_21 dX0_drop_156 (by rw [eg_23]; rfl) (fun H locs hw => ?_)
      obtain ⟨t_24, et_24, h⟩ := nm_ok h
      refine lv_iinc (v := t_24) (lv' := [(2, .int t_24), (0, .ref (a 0))]) hx hb dX0_drop_157 hl (k := 1) rfl (by rw [et_24]; rfl) (by decide) rfl (fun ls hl => ?_)
      refine lv_goto (tgt := 93) hx hb dX0_drop_160 (by decide) ?_
      exact ih ((C_se v), (C_jo v), (C_sh v), (C_pi v), g_7, g_12, g_17, g_23, (C_fi v), (C_sd v)) t_24 _ _ _ h hw (lv_sub hl [1, 0] rfl)
noncomputable def f_X0_drop_b33  (x1 : Int32) : Nat → CV → Int32 → Option (CV)
  | 0 => fun _ _ => none
  | n + 1 => fun v x2 =>
    br ((C_jo v) ≤ x2)
      (nm ((if x1 < 0 then 0 else x1)) fun t_2 =>
       f_X0_drop_b93 FU v t_2)
      (bd (f_X4_at 20 (C_fi v) x2) fun r_3 =>
       bd (f_X0_without x1 r_3) fun r_5 =>
       bd (f_X4_put 20 (C_fi v) x2 r_5) fun g_7 =>
       bd (f_X4_at 20 (C_sd v) x2) fun r_9 =>
       bd (f_X0_without x1 r_9) fun r_11 =>
       bd (f_X4_put 20 (C_sd v) x2 r_11) fun g_13 =>
       nm (x2 + 1) fun t_15 =>
       f_X0_drop_b33 x1 n ((C_se v), (C_jo v), (C_sh v), (C_pi v), (C_vo v), (C_ar v), (C_ch v), (C_fe v), g_7, g_13) t_15)
set_option maxHeartbeats 4000000 in
set_option maxRecDepth 100000 in
theorem w_X0_drop_b33 {G : GG} {l : Launch} {p : Program} {e : Env} {s : State} {m : MethodId} {args : Array Value} {below : List Frame} {meth : Method} {c : Code} {A : Nat → Prop} {a : Nat → Nat} {x1 : Int32} {zv : CV}   (X : Cx p s m args meth c cX0_drop 3 none wsX0_drop RX0 G A)  :
    ∀ (n : Nat) (v : CV) (x2 : Int32) (H : Heap) (locs : List Loc) (ls : Array Slot), f_X0_drop_b33 x1 n v x2 = some (zv) → Wd G A s H locs (fl [cB G a v]) → lv_has ls 3 [(0, .ref (a 0)), (1, .int x1), (2, .int x2)] → W p l e rX0_drop s m args below meth c H locs 0 0 (MQ below (Qv G A (fl [cB G a zv])) args s 0 0 A) (F0 m 33 ls []) := by
  obtain ⟨⟨hx, hb, hml, hown, hts⟩, hK, hr, hlk, hA⟩ := id X
  intro n
  induction n with
  | zero =>
    intro v x2 H locs ls h
    rw [f_X0_drop_b33] at h
    cases h
  | succ n ih =>
    intro v x2 H locs ls h hw hl
    rw [f_X0_drop_b33] at h
    refine lv_iload_n hx hb dX0_drop_33 rfl (lv_at hl 2 rfl) ?_
    refine lv_aload_n hx hb dX0_drop_34 rfl (lv_at hl 0 rfl) ?_
    refine x_get (v := .int (C_jo v)) 0 0 X hw in_X0_drop_0 rfl rfl rfl 1 (by decide) (List.mem_of_getElem? (i := 1) rfl) rfl rfl dX0_drop_35 ?_
    refine lv_icmp_ge (tgt := 87) hx hb dX0_drop_38 (by decide) (fun k_1 => ?_) (fun k_1 => ?_)
    · have h := br_yes h k_1
      refine lv_iload_n hx hb dX0_drop_87 rfl (lv_at hl 1 rfl) ?_
      refine lv_iconst (v := 0) hx hb dX0_drop_88 (by decide) ?_
      refine va_mmax hx hb (hml.trans hl.1.symm) hown (hts _ (List.mem_of_getElem? (i := 4) rfl)) (hts _ (List.mem_of_getElem? (i := 5) rfl)) (hts _ (List.mem_of_getElem? (i := 6) rfl)) (hts _ (List.mem_of_getElem? (i := 7) rfl)) (Nat.le_of_ble_eq_true rfl) (Nat.le_of_ble_eq_true rfl) (Nat.le_of_ble_eq_true rfl) (Nat.le_of_ble_eq_true rfl) dX0_drop_89 ?_
      obtain ⟨t_2, et_2, h⟩ := nm_ok h
      rw [← et_2]
      refine lv_istore_n (lv' := [(2, .int t_2), (0, .ref (a 0)), (1, .int x1)]) hx hb dX0_drop_92 rfl hl (by decide) rfl (fun ls hl => ?_)
      exact w_X0_drop_b93 X FU v t_2 _ _ _ h hw (lv_sub hl [1, 0] rfl)
    · have h := br_no h k_1
      refine lv_aload_n hx hb dX0_drop_41 rfl (lv_at hl 0 rfl) ?_
      refine x_get (v := .ref (a 5)) 0 0 X hw in_X0_drop_0 rfl rfl rfl 8 (by decide) (List.mem_of_getElem? (i := 2) rfl) rfl rfl dX0_drop_42 ?_
      refine lv_iload_n hx hb dX0_drop_45 rfl (lv_at hl 2 rfl) ?_
      refine lv_iload_n hx hb dX0_drop_46 rfl (lv_at hl 1 rfl) ?_
      refine lv_aload_n hx hb dX0_drop_47 rfl (lv_at hl 0 rfl) ?_
      refine x_get (v := .ref (a 5)) 0 0 X hw in_X0_drop_0 rfl rfl rfl 8 (by decide) (List.mem_of_getElem? (i := 2) rfl) rfl rfl dX0_drop_48 ?_
      refine lv_iload_n hx hb dX0_drop_51 rfl (lv_at hl 2 rfl) ?_
      obtain ⟨r_3, c_4, h⟩ := bd_ok h
      refine x_Ni (As := [.ref (a 5), .int x2]) (w' := fl [cB G a v]) X hw (m_X4_at (G := G) (l := l) (q := (a 5)) c_4) (Cut.cellr 0 5 rfl rfl) ⟨va_cnB 2 hts gX0_drop_X4_at_n48 rfl rfl rfl (hK.2 _ (List.mem_of_getElem? (i := 3) rfl)) (hts _ (List.mem_of_getElem? (i := 19) rfl)) hd_X4_at.2 ⟨Nat.le_of_ble_eq_true rfl, Nat.le_of_ble_eq_true rfl⟩, hts _ (List.mem_of_getElem? (i := 18) rfl), trivial⟩ rfl hl.1 rfl (Nat.le_of_ble_eq_true rfl) dX0_drop_52 ⟨Nat.le_of_ble_eq_true rfl, Nat.le_of_ble_eq_true rfl⟩ (fun H locs hw => ?_)
      obtain ⟨r_5, c_6, h⟩ := bd_ok h
      refine x_Si (As := [.int x1, .int r_3]) (w' := fl [cB G a v]) X hw (m_X0_without (G := G) (l := l) c_6) Cut.nil (va_cwS 2 hts gX0_drop_X0_without rfl rfl rfl hd_X0_without.2 ⟨Nat.le_of_ble_eq_true rfl, Nat.le_of_ble_eq_true rfl⟩) rfl hl.1 rfl (Nat.le_of_ble_eq_true rfl) dX0_drop_55 ⟨Nat.le_of_ble_eq_true rfl, Nat.le_of_ble_eq_true rfl⟩ (fun H locs hw => ?_)
      obtain ⟨g_7, c_8, h⟩ := bd_ok h
      refine x_Nv (As := [.ref (a 5), .int x2, .int r_5]) (w' := fl [cB G a ((C_se v), (C_jo v), (C_sh v), (C_pi v), (C_vo v), (C_ar v), (C_ch v), (C_fe v), g_7, (C_sd v))]) X hw (m_X4_put (G := G) (l := l) (q := (a 5)) c_8) (Cut.cell (bs' := [cB G a ((C_se v), (C_jo v), (C_sh v), (C_pi v), (C_vo v), (C_ar v), (C_ch v), (C_fe v), g_7, (C_sd v))]) 0 5 rfl rfl rfl) ⟨va_cnB 3 hts gX0_drop_X4_put_n69 rfl rfl rfl (hK.2 _ (List.mem_of_getElem? (i := 4) rfl)) (hts _ (List.mem_of_getElem? (i := 19) rfl)) hd_X4_put.2 ⟨Nat.le_of_ble_eq_true rfl, Nat.le_of_ble_eq_true rfl⟩, hts _ (List.mem_of_getElem? (i := 25) rfl), trivial⟩ rfl hl.1 rfl (Nat.le_of_ble_eq_true rfl) dX0_drop_58 ⟨Nat.le_of_ble_eq_true rfl, Nat.le_of_ble_eq_true rfl⟩ (fun H locs hw => ?_)
      refine lv_aload_n hx hb dX0_drop_61 rfl (lv_at hl 0 rfl) ?_
      refine x_get (v := .ref (a 6)) 0 0 X hw in_X0_drop_0 rfl rfl rfl 9 (by decide) (List.mem_of_getElem? (i := 3) rfl) rfl rfl dX0_drop_62 ?_
      refine lv_iload_n hx hb dX0_drop_65 rfl (lv_at hl 2 rfl) ?_
      refine lv_iload_n hx hb dX0_drop_66 rfl (lv_at hl 1 rfl) ?_
      refine lv_aload_n hx hb dX0_drop_67 rfl (lv_at hl 0 rfl) ?_
      refine x_get (v := .ref (a 6)) 0 0 X hw in_X0_drop_0 rfl rfl rfl 9 (by decide) (List.mem_of_getElem? (i := 3) rfl) rfl rfl dX0_drop_68 ?_
      refine lv_iload_n hx hb dX0_drop_71 rfl (lv_at hl 2 rfl) ?_
      obtain ⟨r_9, c_10, h⟩ := bd_ok h
      refine x_Ni (As := [.ref (a 6), .int x2]) (w' := fl [cB G a ((C_se v), (C_jo v), (C_sh v), (C_pi v), (C_vo v), (C_ar v), (C_ch v), (C_fe v), g_7, (C_sd v))]) X hw (m_X4_at (G := G) (l := l) (q := (a 6)) c_10) (Cut.cellr 0 6 rfl rfl) ⟨va_cnB 2 hts gX0_drop_X4_at_n48 rfl rfl rfl (hK.2 _ (List.mem_of_getElem? (i := 3) rfl)) (hts _ (List.mem_of_getElem? (i := 19) rfl)) hd_X4_at.2 ⟨Nat.le_of_ble_eq_true rfl, Nat.le_of_ble_eq_true rfl⟩, hts _ (List.mem_of_getElem? (i := 18) rfl), trivial⟩ rfl hl.1 rfl (Nat.le_of_ble_eq_true rfl) dX0_drop_72 ⟨Nat.le_of_ble_eq_true rfl, Nat.le_of_ble_eq_true rfl⟩ (fun H locs hw => ?_)
      obtain ⟨r_11, c_12, h⟩ := bd_ok h
      refine x_Si (As := [.int x1, .int r_9]) (w' := fl [cB G a ((C_se v), (C_jo v), (C_sh v), (C_pi v), (C_vo v), (C_ar v), (C_ch v), (C_fe v), g_7, (C_sd v))]) X hw (m_X0_without (G := G) (l := l) c_12) Cut.nil (va_cwS 2 hts gX0_drop_X0_without rfl rfl rfl hd_X0_without.2 ⟨Nat.le_of_ble_eq_true rfl, Nat.le_of_ble_eq_true rfl⟩) rfl hl.1 rfl (Nat.le_of_ble_eq_true rfl) dX0_drop_75 ⟨Nat.le_of_ble_eq_true rfl, Nat.le_of_ble_eq_true rfl⟩ (fun H locs hw => ?_)
      obtain ⟨g_13, c_14, h⟩ := bd_ok h
      refine x_Nv (As := [.ref (a 6), .int x2, .int r_11]) (w' := fl [cB G a ((C_se v), (C_jo v), (C_sh v), (C_pi v), (C_vo v), (C_ar v), (C_ch v), (C_fe v), g_7, g_13)]) X hw (m_X4_put (G := G) (l := l) (q := (a 6)) c_14) (Cut.cell (bs' := [cB G a ((C_se v), (C_jo v), (C_sh v), (C_pi v), (C_vo v), (C_ar v), (C_ch v), (C_fe v), g_7, g_13)]) 0 6 rfl rfl rfl) ⟨va_cnB 3 hts gX0_drop_X4_put_n69 rfl rfl rfl (hK.2 _ (List.mem_of_getElem? (i := 4) rfl)) (hts _ (List.mem_of_getElem? (i := 19) rfl)) hd_X4_put.2 ⟨Nat.le_of_ble_eq_true rfl, Nat.le_of_ble_eq_true rfl⟩, hts _ (List.mem_of_getElem? (i := 25) rfl), trivial⟩ rfl hl.1 rfl (Nat.le_of_ble_eq_true rfl) dX0_drop_78 ⟨Nat.le_of_ble_eq_true rfl, Nat.le_of_ble_eq_true rfl⟩ (fun H locs hw => ?_)
      obtain ⟨t_15, et_15, h⟩ := nm_ok h
      refine lv_iinc (v := t_15) (lv' := [(2, .int t_15), (0, .ref (a 0)), (1, .int x1)]) hx hb dX0_drop_81 hl (k := 2) rfl (by rw [et_15]; rfl) (by decide) rfl (fun ls hl => ?_)
      refine lv_goto (tgt := 33) hx hb dX0_drop_84 (by decide) ?_
      exact ih ((C_se v), (C_jo v), (C_sh v), (C_pi v), (C_vo v), (C_ar v), (C_ch v), (C_fe v), g_7, g_13) t_15 _ _ _ h hw (lv_sub hl [1, 2, 0] rfl)
noncomputable def f_X0_drop_b7  (x1 : Int32) : Nat → CV → Int32 → Option (CV)
  | 0 => fun _ _ => none
  | n + 1 => fun v x2 =>
    br (x2 < 0)
      (f_X0_drop_b33 x1 FU v 0)
      (bd (f_X0_touches v x2 x1) fun r_2 =>
       br (r_2 = 0)
         (nm (x2 + (-1)) fun t_5 =>
          f_X0_drop_b7 x1 n v t_5)
         (bd (f_X0_unlink v x2) fun v_6 =>
          nm (x2 + (-1)) fun t_8 =>
          f_X0_drop_b7 x1 n v_6 t_8))
set_option maxHeartbeats 4000000 in
set_option maxRecDepth 100000 in
theorem w_X0_drop_b7 {G : GG} {l : Launch} {p : Program} {e : Env} {s : State} {m : MethodId} {args : Array Value} {below : List Frame} {meth : Method} {c : Code} {A : Nat → Prop} {a : Nat → Nat} {x1 : Int32} {zv : CV}   (X : Cx p s m args meth c cX0_drop 3 none wsX0_drop RX0 G A)  :
    ∀ (n : Nat) (v : CV) (x2 : Int32) (H : Heap) (locs : List Loc) (ls : Array Slot), f_X0_drop_b7 x1 n v x2 = some (zv) → Wd G A s H locs (fl [cB G a v]) → lv_has ls 3 [(0, .ref (a 0)), (1, .int x1), (2, .int x2)] → W p l e rX0_drop s m args below meth c H locs 0 0 (MQ below (Qv G A (fl [cB G a zv])) args s 0 0 A) (F0 m 7 ls []) := by
  obtain ⟨⟨hx, hb, hml, hown, hts⟩, hK, hr, hlk, hA⟩ := id X
  intro n
  induction n with
  | zero =>
    intro v x2 H locs ls h
    rw [f_X0_drop_b7] at h
    cases h
  | succ n ih =>
    intro v x2 H locs ls h hw hl
    rw [f_X0_drop_b7] at h
    refine lv_iload_n hx hb dX0_drop_7 rfl (lv_at hl 2 rfl) ?_
    refine lv_if_lt (tgt := 31) hx hb dX0_drop_8 (by decide) (fun k_1 => ?_) (fun k_1 => ?_)
    · have h := br_yes h k_1
      refine lv_iconst (v := 0) hx hb dX0_drop_31 (by decide) ?_
      refine lv_istore_n (lv' := [(2, .int 0), (0, .ref (a 0)), (1, .int x1)]) hx hb dX0_drop_32 rfl hl (by decide) rfl (fun ls hl => ?_)
      exact w_X0_drop_b33 X FU v 0 _ _ _ h hw (lv_sub hl [1, 2, 0] rfl)
    · have h := br_no h k_1
      refine lv_aload_n hx hb dX0_drop_11 rfl (lv_at hl 0 rfl) ?_
      refine lv_iload_n hx hb dX0_drop_12 rfl (lv_at hl 2 rfl) ?_
      refine lv_iload_n hx hb dX0_drop_13 rfl (lv_at hl 1 rfl) ?_
      obtain ⟨r_2, c_3, h⟩ := bd_ok h
      refine x_Vi (As := [.int x2, .int x1]) (w' := fl [cB G a v]) X hw (m_X0_touches (G := G) (l := l) (a := a) c_3) Cut.all 0 0 rfl rfl rfl (cwV 2 hts gX0_drop_X0_touches rfl rfl rfl hd_X0_touches ⟨Nat.le_of_ble_eq_true rfl, Nat.le_of_ble_eq_true rfl⟩) rfl hl.1 rfl (Nat.le_of_ble_eq_true rfl) dX0_drop_14 ⟨Nat.le_of_ble_eq_true rfl, Nat.le_of_ble_eq_true rfl⟩ (fun H locs hw => ?_)
      refine lv_if_eq (tgt := 25) hx hb dX0_drop_17 (by decide) (fun k_4 => ?_) (fun k_4 => ?_)
      · have h := br_yes h k_4
        obtain ⟨t_5, et_5, h⟩ := nm_ok h
        refine lv_iinc (v := t_5) (lv' := [(2, .int t_5), (0, .ref (a 0)), (1, .int x1)]) hx hb dX0_drop_25 hl (k := 2) rfl (by rw [et_5]; rfl) (by decide) rfl (fun ls hl => ?_)
        refine lv_goto (tgt := 7) hx hb dX0_drop_28 (by decide) ?_
        exact ih v t_5 _ _ _ h hw (lv_sub hl [1, 2, 0] rfl)
      · have h := br_no h k_4
        refine lv_aload_n hx hb dX0_drop_20 rfl (lv_at hl 0 rfl) ?_
        refine lv_iload_n hx hb dX0_drop_21 rfl (lv_at hl 2 rfl) ?_
        obtain ⟨v_6, c_7, h⟩ := bd_ok h
        refine x_Vv (As := [.int x2]) (w' := fl [cB G a v_6]) X hw (m_X0_unlink (G := G) (l := l) (a := a) c_7) Cut.all 0 0 rfl rfl rfl (cwV 1 hts gX0_drop_X0_unlink rfl rfl rfl hd_X0_unlink ⟨Nat.le_of_ble_eq_true rfl, Nat.le_of_ble_eq_true rfl⟩) rfl hl.1 rfl (Nat.le_of_ble_eq_true rfl) dX0_drop_22 ⟨Nat.le_of_ble_eq_true rfl, Nat.le_of_ble_eq_true rfl⟩ (fun H locs hw => ?_)
        obtain ⟨t_8, et_8, h⟩ := nm_ok h
        refine lv_iinc (v := t_8) (lv' := [(2, .int t_8), (0, .ref (a 0)), (1, .int x1)]) hx hb dX0_drop_25 hl (k := 2) rfl (by rw [et_8]; rfl) (by decide) rfl (fun ls hl => ?_)
        refine lv_goto (tgt := 7) hx hb dX0_drop_28 (by decide) ?_
        exact ih v_6 t_8 _ _ _ h hw (lv_sub hl [1, 2, 0] rfl)
noncomputable def f_X0_drop  (v : CV) (x1 : Int32) : Option (CV) :=
  nm (((C_jo v) - 1)) fun t_1 =>
  f_X0_drop_b7 x1 FU v t_1
set_option maxHeartbeats 4000000 in
set_option maxRecDepth 100000 in
theorem m_X0_drop {G : GG} {l : Launch} {a : Nat → Nat} {v : CV} {x1 : Int32} {zv : CV} (h : f_X0_drop v x1 = some (zv)) : Cv G l yX0_drop wsX0_drop rX0_drop [.ref (a 0), .int x1] (fl [cB G a v]) (fl [cB G a zv]) := by
  refine Cv.intro cX0_drop 3 none RX0 (by decide) rfl rfl (Nat.le_of_ble_eq_true rfl) ?_
  intro p e s m below meth c A ls X hw hl
  obtain ⟨⟨hx, hb, hml, hown, hts⟩, hK, hr, hlk, hA⟩ := id X
  unfold f_X0_drop at h
  have hl : lv_has ls 3 [(0, .ref (a 0)), (1, .int x1)] := hl
  refine lv_aload_n hx hb dX0_drop_0 rfl (lv_at hl 0 rfl) ?_
  refine x_get (v := .int (C_jo v)) 0 0 X hw in_X0_drop_0 rfl rfl rfl 1 (by decide) (List.mem_of_getElem? (i := 1) rfl) rfl rfl dX0_drop_1 ?_
  refine lv_iconst (v := 1) hx hb dX0_drop_4 (by decide) ?_
  refine lv_isub hx hb dX0_drop_5 ?_
  obtain ⟨t_1, et_1, h⟩ := nm_ok h
  refine lv_istore_n (lv' := [(2, .int t_1), (0, .ref (a 0)), (1, .int x1)]) hx hb dX0_drop_6 rfl hl (by decide) (by rw [et_1]; rfl) (fun ls hl => ?_)
  exact w_X0_drop_b7 X FU v t_1 _ _ _ h hw (lv_sub hl [1, 2, 0] rfl)

def rX0_canLink : Room := { frames := 2, cells := 0, slots := 0, locals := 43 }
theorem hd_X0_canLink : yX0_canLink.cls = RX0 ∧ yX0_canLink.cls ≠ "java/lang/invoke/MethodHandle" ∧ yX0_canLink.cls ≠ "java/lang/invoke/VarHandle" ∧ (parseMethodDescriptor yX0_canLink.desc).map (fun d => d.parameters.length) = some 2 := by decide +kernel
theorem in_X0_canLink_0 : ∀ w ∈ u_ws RX0 TX0 10, w ∈ wsX0_canLink := fun w h => (List.mem_cons_of_mem _ (List.mem_append_right _ h))
noncomputable def f_X0_canLink_b9  (v : CV) (x1 : Int32) (x2 : Int32) : Nat → Int32 → Option (Int32)
  | 0 => fun _ => none
  | n + 1 => fun x3 =>
    br ((C_jo v) ≤ x3)
      (some (1))
      (bd (f_X0_touches v x3 x1) fun r_2 =>
       br (r_2 = 0)
         (nm (x3 + 1) fun t_5 =>
          f_X0_canLink_b9 v x1 x2 n t_5)
         (bd (f_X0_touches v x3 x2) fun r_6 =>
          br (r_6 = 0)
            (nm (x3 + 1) fun t_9 =>
             f_X0_canLink_b9 v x1 x2 n t_9)
            (some (0))))
set_option maxHeartbeats 4000000 in
set_option maxRecDepth 100000 in
theorem w_X0_canLink_b9 {G : GG} {l : Launch} {p : Program} {e : Env} {s : State} {m : MethodId} {args : Array Value} {below : List Frame} {meth : Method} {c : Code} {A : Nat → Prop} {a : Nat → Nat} {v : CV} {x1 : Int32} {x2 : Int32} {r : Int32}    (X : Cx p s m args meth c cX0_canLink 4 (some .boolean) wsX0_canLink RX0 G A)  :
    ∀ (n : Nat) (x3 : Int32) (H : Heap) (locs : List Loc) (ls : Array Slot), f_X0_canLink_b9 v x1 x2 n x3 = some (r) → Wd G A s H locs (fl [cB G a v]) → lv_has ls 4 [(0, .ref (a 0)), (1, .int x1), (2, .int x2), (3, .int x3)] → W p l e rX0_canLink s m args below meth c H locs 0 0 (MQ below (Qi G A r (fl [cB G a v])) args s 0 0 A) (F0 m 9 ls []) := by
  obtain ⟨⟨hx, hb, hml, hown, hts⟩, hK, hr, hlk, hA⟩ := id X
  intro n
  induction n with
  | zero =>
    intro x3 H locs ls h
    rw [f_X0_canLink_b9] at h
    cases h
  | succ n ih =>
    intro x3 H locs ls h hw hl
    rw [f_X0_canLink_b9] at h
    refine lv_iload_n hx hb dX0_canLink_9 rfl (lv_at hl 3 rfl) ?_
    refine lv_aload_n hx hb dX0_canLink_10 rfl (lv_at hl 0 rfl) ?_
    refine x_get (v := .int (C_jo v)) 0 0 X hw in_X0_canLink_0 rfl rfl rfl 1 (by decide) (List.mem_of_getElem? (i := 1) rfl) rfl rfl dX0_canLink_11 ?_
    refine lv_icmp_ge (tgt := 43) hx hb dX0_canLink_14 (by decide) (fun k_1 => ?_) (fun k_1 => ?_)
    · have h := br_yes h k_1
      refine lv_iconst (v := 1) hx hb dX0_canLink_43 (by decide) ?_
      cases h
      exact x_iret X (narz (Or.inr rfl)) hw rfl rfl dX0_canLink_44
    · have h := br_no h k_1
      refine lv_aload_n hx hb dX0_canLink_17 rfl (lv_at hl 0 rfl) ?_
      refine lv_iload_n hx hb dX0_canLink_18 rfl (lv_at hl 3 rfl) ?_
      refine lv_iload_n hx hb dX0_canLink_19 rfl (lv_at hl 1 rfl) ?_
      obtain ⟨r_2, c_3, h⟩ := bd_ok h
      refine x_Vi (As := [.int x3, .int x1]) (w' := fl [cB G a v]) X hw (m_X0_touches (G := G) (l := l) (a := a) c_3) Cut.all 0 0 rfl rfl rfl (cwV 2 hts gX0_canLink_X0_touches rfl rfl rfl hd_X0_touches ⟨Nat.le_of_ble_eq_true rfl, Nat.le_of_ble_eq_true rfl⟩) rfl hl.1 rfl (Nat.le_of_ble_eq_true rfl) dX0_canLink_20 ⟨Nat.le_of_ble_eq_true rfl, Nat.le_of_ble_eq_true rfl⟩ (fun H locs hw => ?_)
      refine lv_if_eq (tgt := 37) hx hb dX0_canLink_23 (by decide) (fun k_4 => ?_) (fun k_4 => ?_)
      · have h := br_yes h k_4
        obtain ⟨t_5, et_5, h⟩ := nm_ok h
        refine lv_iinc (v := t_5) (lv' := [(3, .int t_5), (0, .ref (a 0)), (1, .int x1), (2, .int x2)]) hx hb dX0_canLink_37 hl (k := 3) rfl (by rw [et_5]; rfl) (by decide) rfl (fun ls hl => ?_)
        refine lv_goto (tgt := 9) hx hb dX0_canLink_40 (by decide) ?_
        exact ih t_5 _ _ _ h hw (lv_sub hl [1, 2, 3, 0] rfl)
      · have h := br_no h k_4
        refine lv_aload_n hx hb dX0_canLink_26 rfl (lv_at hl 0 rfl) ?_
        refine lv_iload_n hx hb dX0_canLink_27 rfl (lv_at hl 3 rfl) ?_
        refine lv_iload_n hx hb dX0_canLink_28 rfl (lv_at hl 2 rfl) ?_
        obtain ⟨r_6, c_7, h⟩ := bd_ok h
        refine x_Vi (As := [.int x3, .int x2]) (w' := fl [cB G a v]) X hw (m_X0_touches (G := G) (l := l) (a := a) c_7) Cut.all 0 0 rfl rfl rfl (cwV 2 hts gX0_canLink_X0_touches rfl rfl rfl hd_X0_touches ⟨Nat.le_of_ble_eq_true rfl, Nat.le_of_ble_eq_true rfl⟩) rfl hl.1 rfl (Nat.le_of_ble_eq_true rfl) dX0_canLink_29 ⟨Nat.le_of_ble_eq_true rfl, Nat.le_of_ble_eq_true rfl⟩ (fun H locs hw => ?_)
        refine lv_if_eq (tgt := 37) hx hb dX0_canLink_32 (by decide) (fun k_8 => ?_) (fun k_8 => ?_)
        · have h := br_yes h k_8
          obtain ⟨t_9, et_9, h⟩ := nm_ok h
          refine lv_iinc (v := t_9) (lv' := [(3, .int t_9), (0, .ref (a 0)), (1, .int x1), (2, .int x2)]) hx hb dX0_canLink_37 hl (k := 3) rfl (by rw [et_9]; rfl) (by decide) rfl (fun ls hl => ?_)
          refine lv_goto (tgt := 9) hx hb dX0_canLink_40 (by decide) ?_
          exact ih t_9 _ _ _ h hw (lv_sub hl [1, 2, 3, 0] rfl)
        · have h := br_no h k_8
          refine lv_iconst (v := 0) hx hb dX0_canLink_35 (by decide) ?_
          cases h
          exact x_iret X (narz (Or.inl rfl)) hw rfl rfl dX0_canLink_36
noncomputable def f_X0_canLink  (v : CV) (x1 : Int32) (x2 : Int32) : Option (Int32) :=
  br (x1 = x2)
    (some (0))
    (f_X0_canLink_b9 v x1 x2 FU 0)
set_option maxHeartbeats 4000000 in
set_option maxRecDepth 100000 in
theorem m_X0_canLink {G : GG} {l : Launch} {a : Nat → Nat} {v : CV} {x1 : Int32} {x2 : Int32} {r : Int32}  (h : f_X0_canLink v x1 x2 = some (r)) : Ci G l yX0_canLink wsX0_canLink rX0_canLink [.ref (a 0), .int x1, .int x2] (fl [cB G a v]) r (fl [cB G a v]) := by
  refine Ci.intro cX0_canLink 4 (some .boolean) RX0 (by decide) rfl rfl (Nat.le_of_ble_eq_true rfl) ?_
  intro p e s m below meth c A ls X hw hl
  obtain ⟨⟨hx, hb, hml, hown, hts⟩, hK, hr, hlk, hA⟩ := id X
  unfold f_X0_canLink at h
  have hl : lv_has ls 4 [(0, .ref (a 0)), (1, .int x1), (2, .int x2)] := hl
  refine lv_iload_n hx hb dX0_canLink_0 rfl (lv_at hl 1 rfl) ?_
  refine lv_iload_n hx hb dX0_canLink_1 rfl (lv_at hl 2 rfl) ?_
  refine lv_icmp_ne (tgt := 7) hx hb dX0_canLink_2 (by decide) (fun k_1 => ?_) (fun k_1 => ?_)
  · have h := br_no h k_1
    refine lv_iconst (v := 0) hx hb dX0_canLink_7 (by decide) ?_
    refine lv_istore_n (lv' := [(3, .int 0), (0, .ref (a 0)), (1, .int x1), (2, .int x2)]) hx hb dX0_canLink_8 rfl hl (by decide) rfl (fun ls hl => ?_)
    exact w_X0_canLink_b9 X FU 0 _ _ _ h hw (lv_sub hl [1, 2, 3, 0] rfl)
  · have h := br_yes h k_1
    refine lv_iconst (v := 0) hx hb dX0_canLink_5 (by decide) ?_
    cases h
    exact x_iret X (narz (Or.inl rfl)) hw rfl rfl dX0_canLink_6

def rX0_hasRoomForJoint : Room := { frames := 0, cells := 0, slots := 0, locals := 0 }
theorem hd_X0_hasRoomForJoint : yX0_hasRoomForJoint.cls = RX0 ∧ yX0_hasRoomForJoint.cls ≠ "java/lang/invoke/MethodHandle" ∧ yX0_hasRoomForJoint.cls ≠ "java/lang/invoke/VarHandle" ∧ (parseMethodDescriptor yX0_hasRoomForJoint.desc).map (fun d => d.parameters.length) = some 0 := by decide +kernel
theorem in_X0_hasRoomForJoint_0 : ∀ w ∈ u_ws RX0 TX0 10, w ∈ wsX0_hasRoomForJoint := fun w h => (List.mem_cons_of_mem _ (List.mem_append_right _ h))
noncomputable def f_X0_hasRoomForJoint  (v : CV)  : Option (Int32) :=
  br (20 ≤ (C_jo v))
    (some (0))
    (some (1))
set_option maxHeartbeats 4000000 in
set_option maxRecDepth 100000 in
theorem m_X0_hasRoomForJoint {G : GG} {l : Launch} {a : Nat → Nat} {v : CV}  {r : Int32}  (h : f_X0_hasRoomForJoint v = some (r)) : Ci G l yX0_hasRoomForJoint wsX0_hasRoomForJoint rX0_hasRoomForJoint [.ref (a 0)] (fl [cB G a v]) r (fl [cB G a v]) := by
  refine Ci.intro cX0_hasRoomForJoint 1 (some .boolean) RX0 (by decide) rfl rfl (Nat.le_of_ble_eq_true rfl) ?_
  intro p e s m below meth c A ls X hw hl
  obtain ⟨⟨hx, hb, hml, hown, hts⟩, hK, hr, hlk, hA⟩ := id X
  unfold f_X0_hasRoomForJoint at h
  have hl : lv_has ls 1 [(0, .ref (a 0))] := hl
  refine lv_aload_n hx hb dX0_hasRoomForJoint_0 rfl (lv_at hl 0 rfl) ?_
  refine x_get (v := .int (C_jo v)) 0 0 X hw in_X0_hasRoomForJoint_0 rfl rfl rfl 1 (by decide) (List.mem_of_getElem? (i := 1) rfl) rfl rfl dX0_hasRoomForJoint_1 ?_
  refine lv_bipush (v := 20) hx hb dX0_hasRoomForJoint_4 (by decide) ?_
  refine lv_icmp_ge (tgt := 13) hx hb dX0_hasRoomForJoint_6 (by decide) (fun k_1 => ?_) (fun k_1 => ?_)
  · have h := br_yes h k_1
    refine lv_iconst (v := 0) hx hb dX0_hasRoomForJoint_13 (by decide) ?_
    cases h
    exact x_iret X (narz (Or.inl rfl)) hw rfl rfl dX0_hasRoomForJoint_14
  · have h := br_no h k_1
    refine lv_iconst (v := 1) hx hb dX0_hasRoomForJoint_9 (by decide) ?_
    refine lv_goto (tgt := 14) hx hb dX0_hasRoomForJoint_10 (by decide) ?_
    cases h
    exact x_iret X (narz (Or.inr rfl)) hw rfl rfl dX0_hasRoomForJoint_14

def rX0_link : Room := { frames := 0, cells := 0, slots := 0, locals := 0 }
theorem hd_X0_link : yX0_link.cls = RX0 ∧ yX0_link.cls ≠ "java/lang/invoke/MethodHandle" ∧ yX0_link.cls ≠ "java/lang/invoke/VarHandle" ∧ (parseMethodDescriptor yX0_link.desc).map (fun d => d.parameters.length) = some 2 := by decide +kernel
theorem in_X0_link_0 : ∀ w ∈ u_ws RX0 TX0 10, w ∈ wsX0_link := fun w h => (List.mem_cons_of_mem _ (List.mem_append_right _ h))
noncomputable def f_X0_link  (v : CV) (x1 : Int32) (x2 : Int32) : Option (Int32 × CV) :=
  br ((C_jo v) < 0)
    (some ((-5), v))
    (br ((C_jo v) < 20)
       (ck (vp_in (C_jo v) 20) <|
        nm (upd (C_fi v) ((C_jo v) : Int32).toNatClampNeg x1) fun g_4 =>
        ck (vp_in (C_jo v) 20) <|
        nm (upd (C_sd v) ((C_jo v) : Int32).toNatClampNeg x2) fun g_6 =>
        nm (((C_jo v) + 1)) fun t_7 =>
        some ((C_jo v), ((C_se v), t_7, (C_sh v), (C_pi v), (C_vo v), (C_ar v), (C_ch v), (C_fe v), g_4, g_6)))
       (some ((-5), v)))
set_option maxHeartbeats 4000000 in
set_option maxRecDepth 100000 in
theorem m_X0_link {G : GG} {l : Launch} {a : Nat → Nat} {v : CV} {x1 : Int32} {x2 : Int32} {r : Int32} {zv : CV} (h : f_X0_link v x1 x2 = some (r, zv)) : Ci G l yX0_link wsX0_link rX0_link [.ref (a 0), .int x1, .int x2] (fl [cB G a v]) r (fl [cB G a zv]) := by
  refine Ci.intro cX0_link 4 (some .int) RX0 (by decide) rfl rfl (Nat.le_of_ble_eq_true rfl) ?_
  intro p e s m below meth c A ls X hw hl
  obtain ⟨⟨hx, hb, hml, hown, hts⟩, hK, hr, hlk, hA⟩ := id X
  unfold f_X0_link at h
  have hl : lv_has ls 4 [(0, .ref (a 0)), (1, .int x1), (2, .int x2)] := hl
  refine lv_aload_n hx hb dX0_link_0 rfl (lv_at hl 0 rfl) ?_
  refine x_get (v := .int (C_jo v)) 0 0 X hw in_X0_link_0 rfl rfl rfl 1 (by decide) (List.mem_of_getElem? (i := 1) rfl) rfl rfl dX0_link_1 ?_
  refine lv_istore_n (lv' := [(3, .int (C_jo v)), (0, .ref (a 0)), (1, .int x1), (2, .int x2)]) hx hb dX0_link_4 rfl hl (by decide) rfl (fun ls hl => ?_)
  refine lv_iload_n hx hb dX0_link_5 rfl (lv_at hl 0 rfl) ?_
  refine lv_if_lt (tgt := 15) hx hb dX0_link_6 (by decide) (fun k_1 => ?_) (fun k_1 => ?_)
  · have h := br_yes h k_1
    refine lv_bipush (v := (-5)) hx hb dX0_link_15 (by decide) ?_
    cases h
    exact x_iret X (vp_nar_int _) hw rfl rfl dX0_link_17
  · have h := br_no h k_1
    refine lv_iload_n hx hb dX0_link_9 rfl (lv_at hl 0 rfl) ?_
    refine lv_bipush (v := 20) hx hb dX0_link_10 (by decide) ?_
    refine lv_icmp_lt (tgt := 18) hx hb dX0_link_12 (by decide) (fun k_2 => ?_) (fun k_2 => ?_)
    · have h := br_yes h k_2
      refine lv_aload_n hx hb dX0_link_18 rfl (lv_at hl 1 rfl) ?_
      refine x_get (v := .ref (a 5)) 0 0 X hw in_X0_link_0 rfl rfl rfl 8 (by decide) (List.mem_of_getElem? (i := 2) rfl) rfl rfl dX0_link_19 ?_
      refine lv_iload_n hx hb dX0_link_22 rfl (lv_at hl 0 rfl) ?_
      refine lv_iload_n hx hb dX0_link_23 rfl (lv_at hl 2 rfl) ?_
      obtain ⟨k_3, h⟩ := ck_ok h
      obtain ⟨g_4, eg_4, h⟩ := nm_ok h
      refine x_iast (f := (C_fi v)) (bs' := [cB G a ((C_se v), (C_jo v), (C_sh v), (C_pi v), (C_vo v), (C_ar v), (C_ch v), (C_fe v), g_4, (C_sd v))]) 0 5 X hw rfl rfl k_3 dX0_link_24 (by rw [eg_4]; rfl) (fun H locs hw => ?_)
      refine lv_aload_n hx hb dX0_link_25 rfl (lv_at hl 1 rfl) ?_
      refine x_get (v := .ref (a 6)) 0 0 X hw in_X0_link_0 rfl rfl rfl 9 (by decide) (List.mem_of_getElem? (i := 3) rfl) rfl rfl dX0_link_26 ?_
      refine lv_iload_n hx hb dX0_link_29 rfl (lv_at hl 0 rfl) ?_
      refine lv_iload_n hx hb dX0_link_30 rfl (lv_at hl 3 rfl) ?_
      obtain ⟨k_5, h⟩ := ck_ok h
      obtain ⟨g_6, eg_6, h⟩ := nm_ok h
      refine x_iast (f := (C_sd v)) (bs' := [cB G a ((C_se v), (C_jo v), (C_sh v), (C_pi v), (C_vo v), (C_ar v), (C_ch v), (C_fe v), g_4, g_6)]) 0 6 X hw rfl rfl k_5 dX0_link_31 (by rw [eg_6]; rfl) (fun H locs hw => ?_)
      refine lv_aload_n hx hb dX0_link_32 rfl (lv_at hl 1 rfl) ?_
      refine lv_iload_n hx hb dX0_link_33 rfl (lv_at hl 0 rfl) ?_
      refine lv_iconst (v := 1) hx hb dX0_link_34 (by decide) ?_
      refine lv_iadd hx hb dX0_link_35 ?_
      obtain ⟨t_7, et_7, h⟩ := nm_ok h
      refine x_put (bs' := [cB G a ((C_se v), t_7, (C_sh v), (C_pi v), (C_vo v), (C_ar v), (C_ch v), (C_fe v), g_4, g_6)]) 0 0 X hw in_X0_link_0 tyX0 tyX0_ok nmX0 rfl rfl rfl 1 (by decide) (List.mem_of_getElem? (i := 1) rfl) rfl rfl rfl rfl (Nat.le_of_ble_eq_true rfl) dX0_link_36 (by rw [et_7]; rfl) (fun H locs hw => ?_)
      refine lv_iload_n hx hb dX0_link_39 rfl (lv_at hl 0 rfl) ?_
      cases h
      exact x_iret X (vp_nar_int _) hw rfl rfl dX0_link_40
    · have h := br_no h k_2
      refine lv_bipush (v := (-5)) hx hb dX0_link_15 (by decide) ?_
      cases h
      exact x_iret X (vp_nar_int _) hw rfl rfl dX0_link_17

def rX0_hasJoint : Room := { frames := 0, cells := 0, slots := 0, locals := 0 }
theorem hd_X0_hasJoint : yX0_hasJoint.cls = RX0 ∧ yX0_hasJoint.cls ≠ "java/lang/invoke/MethodHandle" ∧ yX0_hasJoint.cls ≠ "java/lang/invoke/VarHandle" ∧ (parseMethodDescriptor yX0_hasJoint.desc).map (fun d => d.parameters.length) = some 1 := by decide +kernel
theorem in_X0_hasJoint_0 : ∀ w ∈ u_ws RX0 TX0 10, w ∈ wsX0_hasJoint := fun w h => (List.mem_cons_of_mem _ (List.mem_append_right _ h))
noncomputable def f_X0_hasJoint  (v : CV) (x1 : Int32) : Option (Int32) :=
  br (x1 < 0)
    (some (0))
    (br ((C_jo v) ≤ x1)
       (some (0))
       (some (1)))
set_option maxHeartbeats 4000000 in
set_option maxRecDepth 100000 in
theorem m_X0_hasJoint {G : GG} {l : Launch} {a : Nat → Nat} {v : CV} {x1 : Int32} {r : Int32}  (h : f_X0_hasJoint v x1 = some (r)) : Ci G l yX0_hasJoint wsX0_hasJoint rX0_hasJoint [.ref (a 0), .int x1] (fl [cB G a v]) r (fl [cB G a v]) := by
  refine Ci.intro cX0_hasJoint 2 (some .boolean) RX0 (by decide) rfl rfl (Nat.le_of_ble_eq_true rfl) ?_
  intro p e s m below meth c A ls X hw hl
  obtain ⟨⟨hx, hb, hml, hown, hts⟩, hK, hr, hlk, hA⟩ := id X
  unfold f_X0_hasJoint at h
  have hl : lv_has ls 2 [(0, .ref (a 0)), (1, .int x1)] := hl
  refine lv_iload_n hx hb dX0_hasJoint_0 rfl (lv_at hl 1 rfl) ?_
  refine lv_if_lt (tgt := 16) hx hb dX0_hasJoint_1 (by decide) (fun k_1 => ?_) (fun k_1 => ?_)
  · have h := br_yes h k_1
    refine lv_iconst (v := 0) hx hb dX0_hasJoint_16 (by decide) ?_
    cases h
    exact x_iret X (narz (Or.inl rfl)) hw rfl rfl dX0_hasJoint_17
  · have h := br_no h k_1
    refine lv_iload_n hx hb dX0_hasJoint_4 rfl (lv_at hl 1 rfl) ?_
    refine lv_aload_n hx hb dX0_hasJoint_5 rfl (lv_at hl 0 rfl) ?_
    refine x_get (v := .int (C_jo v)) 0 0 X hw in_X0_hasJoint_0 rfl rfl rfl 1 (by decide) (List.mem_of_getElem? (i := 1) rfl) rfl rfl dX0_hasJoint_6 ?_
    refine lv_icmp_ge (tgt := 16) hx hb dX0_hasJoint_9 (by decide) (fun k_2 => ?_) (fun k_2 => ?_)
    · have h := br_yes h k_2
      refine lv_iconst (v := 0) hx hb dX0_hasJoint_16 (by decide) ?_
      cases h
      exact x_iret X (narz (Or.inl rfl)) hw rfl rfl dX0_hasJoint_17
    · have h := br_no h k_2
      refine lv_iconst (v := 1) hx hb dX0_hasJoint_12 (by decide) ?_
      refine lv_goto (tgt := 17) hx hb dX0_hasJoint_13 (by decide) ?_
      cases h
      exact x_iret X (narz (Or.inr rfl)) hw rfl rfl dX0_hasJoint_17

def rX0_feeders : Room := { frames := 2, cells := 0, slots := 0, locals := 42 }
theorem hd_X0_feeders : yX0_feeders.cls = RX0 ∧ yX0_feeders.cls ≠ "java/lang/invoke/MethodHandle" ∧ yX0_feeders.cls ≠ "java/lang/invoke/VarHandle" ∧ (parseMethodDescriptor yX0_feeders.desc).map (fun d => d.parameters.length) = some 0 := by decide +kernel
theorem in_X0_feeders_0 : ∀ w ∈ u_ws RX0 TX0 10, w ∈ wsX0_feeders := fun w h => (List.mem_cons_of_mem _ (List.mem_append_right _ h))
noncomputable def f_X0_feeders_b4  (v : CV) : Nat → Int32 → Int32 → Option (Int32)
  | 0 => fun _ _ => none
  | n + 1 => fun x1 x2 =>
    br ((C_se v) ≤ x2)
      (some (x1))
      (bd (f_X0_isFeeder v x2) fun r_2 =>
       br (r_2 = 0)
         (nm (x2 + 1) fun t_5 =>
          f_X0_feeders_b4 v n x1 t_5)
         (nm (x1 + 1) fun t_6 =>
          nm (x2 + 1) fun t_7 =>
          f_X0_feeders_b4 v n t_6 t_7))
set_option maxHeartbeats 4000000 in
set_option maxRecDepth 100000 in
theorem w_X0_feeders_b4 {G : GG} {l : Launch} {p : Program} {e : Env} {s : State} {m : MethodId} {args : Array Value} {below : List Frame} {meth : Method} {c : Code} {A : Nat → Prop} {a : Nat → Nat} {v : CV} {r : Int32}    (X : Cx p s m args meth c cX0_feeders 3 (some .int) wsX0_feeders RX0 G A)  :
    ∀ (n : Nat) (x1 : Int32) (x2 : Int32) (H : Heap) (locs : List Loc) (ls : Array Slot), f_X0_feeders_b4 v n x1 x2 = some (r) → Wd G A s H locs (fl [cB G a v]) → lv_has ls 3 [(0, .ref (a 0)), (1, .int x1), (2, .int x2)] → W p l e rX0_feeders s m args below meth c H locs 0 0 (MQ below (Qi G A r (fl [cB G a v])) args s 0 0 A) (F0 m 4 ls []) := by
  obtain ⟨⟨hx, hb, hml, hown, hts⟩, hK, hr, hlk, hA⟩ := id X
  intro n
  induction n with
  | zero =>
    intro x1 x2 H locs ls h
    rw [f_X0_feeders_b4] at h
    cases h
  | succ n ih =>
    intro x1 x2 H locs ls h hw hl
    rw [f_X0_feeders_b4] at h
    refine lv_iload_n hx hb dX0_feeders_4 rfl (lv_at hl 2 rfl) ?_
    refine lv_aload_n hx hb dX0_feeders_5 rfl (lv_at hl 0 rfl) ?_
    refine x_get (v := .int (C_se v)) 0 0 X hw in_X0_feeders_0 rfl rfl rfl 0 (by decide) (List.mem_of_getElem? (i := 1) rfl) rfl rfl dX0_feeders_6 ?_
    refine lv_icmp_ge (tgt := 29) hx hb dX0_feeders_9 (by decide) (fun k_1 => ?_) (fun k_1 => ?_)
    · have h := br_yes h k_1
      refine lv_iload_n hx hb dX0_feeders_29 rfl (lv_at hl 1 rfl) ?_
      cases h
      exact x_iret X (vp_nar_int _) hw rfl rfl dX0_feeders_30
    · have h := br_no h k_1
      refine lv_aload_n hx hb dX0_feeders_12 rfl (lv_at hl 0 rfl) ?_
      refine lv_iload_n hx hb dX0_feeders_13 rfl (lv_at hl 2 rfl) ?_
      obtain ⟨r_2, c_3, h⟩ := bd_ok h
      refine x_Vi (As := [.int x2]) (w' := fl [cB G a v]) X hw (m_X0_isFeeder (G := G) (l := l) (a := a) c_3) Cut.all 0 0 rfl rfl rfl (cwV 1 hts gX0_feeders_X0_isFeeder rfl rfl rfl hd_X0_isFeeder ⟨Nat.le_of_ble_eq_true rfl, Nat.le_of_ble_eq_true rfl⟩) rfl hl.1 rfl (Nat.le_of_ble_eq_true rfl) dX0_feeders_14 ⟨Nat.le_of_ble_eq_true rfl, Nat.le_of_ble_eq_true rfl⟩ (fun H locs hw => ?_)
      refine lv_if_eq (tgt := 23) hx hb dX0_feeders_17 (by decide) (fun k_4 => ?_) (fun k_4 => ?_)
      · have h := br_yes h k_4
        obtain ⟨t_5, et_5, h⟩ := nm_ok h
        refine lv_iinc (v := t_5) (lv' := [(2, .int t_5), (0, .ref (a 0)), (1, .int x1)]) hx hb dX0_feeders_23 hl (k := 2) rfl (by rw [et_5]; rfl) (by decide) rfl (fun ls hl => ?_)
        refine lv_goto (tgt := 4) hx hb dX0_feeders_26 (by decide) ?_
        exact ih x1 t_5 _ _ _ h hw (lv_sub hl [1, 2, 0] rfl)
      · have h := br_no h k_4
        obtain ⟨t_6, et_6, h⟩ := nm_ok h
        refine lv_iinc (v := t_6) (lv' := [(1, .int t_6), (0, .ref (a 0)), (2, .int x2)]) hx hb dX0_feeders_20 hl (k := 1) rfl (by rw [et_6]; rfl) (by decide) rfl (fun ls hl => ?_)
        obtain ⟨t_7, et_7, h⟩ := nm_ok h
        refine lv_iinc (v := t_7) (lv' := [(2, .int t_7), (1, .int t_6), (0, .ref (a 0))]) hx hb dX0_feeders_23 hl (k := 2) rfl (by rw [et_7]; rfl) (by decide) rfl (fun ls hl => ?_)
        refine lv_goto (tgt := 4) hx hb dX0_feeders_26 (by decide) ?_
        exact ih t_6 t_7 _ _ _ h hw (lv_sub hl [2, 1, 0] rfl)
noncomputable def f_X0_feeders  (v : CV)  : Option (Int32) :=
  f_X0_feeders_b4 v FU 0 0
set_option maxHeartbeats 4000000 in
set_option maxRecDepth 100000 in
theorem m_X0_feeders {G : GG} {l : Launch} {a : Nat → Nat} {v : CV}  {r : Int32}  (h : f_X0_feeders v = some (r)) : Ci G l yX0_feeders wsX0_feeders rX0_feeders [.ref (a 0)] (fl [cB G a v]) r (fl [cB G a v]) := by
  refine Ci.intro cX0_feeders 3 (some .int) RX0 (by decide) rfl rfl (Nat.le_of_ble_eq_true rfl) ?_
  intro p e s m below meth c A ls X hw hl
  obtain ⟨⟨hx, hb, hml, hown, hts⟩, hK, hr, hlk, hA⟩ := id X
  unfold f_X0_feeders at h
  have hl : lv_has ls 3 [(0, .ref (a 0))] := hl
  refine lv_iconst (v := 0) hx hb dX0_feeders_0 (by decide) ?_
  refine lv_istore_n (lv' := [(1, .int 0), (0, .ref (a 0))]) hx hb dX0_feeders_1 rfl hl (by decide) rfl (fun ls hl => ?_)
  refine lv_iconst (v := 0) hx hb dX0_feeders_2 (by decide) ?_
  refine lv_istore_n (lv' := [(2, .int 0), (1, .int 0), (0, .ref (a 0))]) hx hb dX0_feeders_3 rfl hl (by decide) rfl (fun ls hl => ?_)
  exact w_X0_feeders_b4 X FU 0 0 _ _ _ h hw (lv_sub hl [2, 1, 0] rfl)

def rX0_yieldPerMille : Room := { frames := 2, cells := 0, slots := 0, locals := 42 }
theorem hd_X0_yieldPerMille : yX0_yieldPerMille.cls = RX0 ∧ yX0_yieldPerMille.cls ≠ "java/lang/invoke/MethodHandle" ∧ yX0_yieldPerMille.cls ≠ "java/lang/invoke/VarHandle" ∧ (parseMethodDescriptor yX0_yieldPerMille.desc).map (fun d => d.parameters.length) = some 0 := by decide +kernel
theorem in_X0_yieldPerMille_0 : ∀ w ∈ u_ws RX0 TX0 10, w ∈ wsX0_yieldPerMille := fun w h => (List.mem_cons_of_mem _ (List.mem_append_right _ h))
noncomputable def f_X0_yieldPerMille_b6  (v : CV) : Nat → Int32 → Int32 → Int32 → Option (Int32)
  | 0 => fun _ _ _ => none
  | n + 1 => fun x1 x2 x3 =>
    br ((C_se v) ≤ x3)
      (br (x1 ≤ 0)
         (some (0))
         (ck (¬ x1 = 0) <|
          nm ((1000 * x2)) fun t_4 =>
          some ((t_4 / x1))))
      (bd (f_X4_at 12 (C_vo v) x3) fun r_5 =>
       nm ((x1 + r_5)) fun t_7 =>
       bd (f_X0_isFeeder v x3) fun r_8 =>
       br (r_8 = 0)
         (bd (f_X4_at 12 (C_vo v) x3) fun r_12 =>
          nm ((x2 + r_12)) fun t_14 =>
          nm (x3 + 1) fun t_15 =>
          f_X0_yieldPerMille_b6 v n t_7 t_14 t_15)
         (nm (x3 + 1) fun t_11 =>
          f_X0_yieldPerMille_b6 v n t_7 x2 t_11))
set_option maxHeartbeats 4000000 in
set_option maxRecDepth 100000 in
theorem w_X0_yieldPerMille_b6 {G : GG} {l : Launch} {p : Program} {e : Env} {s : State} {m : MethodId} {args : Array Value} {below : List Frame} {meth : Method} {c : Code} {A : Nat → Prop} {a : Nat → Nat} {v : CV} {r : Int32}    (X : Cx p s m args meth c cX0_yieldPerMille 4 (some .int) wsX0_yieldPerMille RX0 G A)  :
    ∀ (n : Nat) (x1 : Int32) (x2 : Int32) (x3 : Int32) (H : Heap) (locs : List Loc) (ls : Array Slot), f_X0_yieldPerMille_b6 v n x1 x2 x3 = some (r) → Wd G A s H locs (fl [cB G a v]) → lv_has ls 4 [(0, .ref (a 0)), (1, .int x1), (2, .int x2), (3, .int x3)] → W p l e rX0_yieldPerMille s m args below meth c H locs 0 0 (MQ below (Qi G A r (fl [cB G a v])) args s 0 0 A) (F0 m 6 ls []) := by
  obtain ⟨⟨hx, hb, hml, hown, hts⟩, hK, hr, hlk, hA⟩ := id X
  intro n
  induction n with
  | zero =>
    intro x1 x2 x3 H locs ls h
    rw [f_X0_yieldPerMille_b6] at h
    cases h
  | succ n ih =>
    intro x1 x2 x3 H locs ls h hw hl
    rw [f_X0_yieldPerMille_b6] at h
    refine lv_iload_n hx hb dX0_yieldPerMille_6 rfl (lv_at hl 3 rfl) ?_
    refine lv_aload_n hx hb dX0_yieldPerMille_7 rfl (lv_at hl 0 rfl) ?_
    refine x_get (v := .int (C_se v)) 0 0 X hw in_X0_yieldPerMille_0 rfl rfl rfl 0 (by decide) (List.mem_of_getElem? (i := 1) rfl) rfl rfl dX0_yieldPerMille_8 ?_
    refine lv_icmp_ge (tgt := 50) hx hb dX0_yieldPerMille_11 (by decide) (fun k_1 => ?_) (fun k_1 => ?_)
    · have h := br_yes h k_1
      refine lv_iload_n hx hb dX0_yieldPerMille_50 rfl (lv_at hl 1 rfl) ?_
      refine lv_if_le (tgt := 64) hx hb dX0_yieldPerMille_51 (by decide) (fun k_2 => ?_) (fun k_2 => ?_)
      · have h := br_yes h k_2
        refine lv_iconst (v := 0) hx hb dX0_yieldPerMille_64 (by decide) ?_
        cases h
        exact x_iret X (vp_nar_int _) hw rfl rfl dX0_yieldPerMille_65
      · have h := br_no h k_2
        refine lv_sipush (v := 1000) hx hb dX0_yieldPerMille_54 (by decide) ?_
        refine lv_iload_n hx hb dX0_yieldPerMille_57 rfl (lv_at hl 2 rfl) ?_
        refine lv_imul hx hb dX0_yieldPerMille_58 ?_
        refine lv_iload_n hx hb dX0_yieldPerMille_59 rfl (lv_at hl 1 rfl) ?_
        obtain ⟨k_3, h⟩ := ck_ok h
        obtain ⟨t_4, et_4, h⟩ := nm_ok h
        rw [← et_4]
        refine lv_idiv hx hb dX0_yieldPerMille_60 k_3 ?_
        refine lv_goto (tgt := 65) hx hb dX0_yieldPerMille_61 (by decide) ?_
        cases h
        exact x_iret X (vp_nar_int _) hw rfl rfl dX0_yieldPerMille_65
    · have h := br_no h k_1
      refine lv_iload_n hx hb dX0_yieldPerMille_14 rfl (lv_at hl 1 rfl) ?_
      refine lv_aload_n hx hb dX0_yieldPerMille_15 rfl (lv_at hl 0 rfl) ?_
      refine x_get (v := .ref (a 1)) 0 0 X hw in_X0_yieldPerMille_0 rfl rfl rfl 4 (by decide) (List.mem_of_getElem? (i := 2) rfl) rfl rfl dX0_yieldPerMille_16 ?_
      refine lv_iload_n hx hb dX0_yieldPerMille_19 rfl (lv_at hl 3 rfl) ?_
      obtain ⟨r_5, c_6, h⟩ := bd_ok h
      refine x_Ni (As := [.ref (a 1), .int x3]) (w' := fl [cB G a v]) X hw (m_X4_at (G := G) (l := l) (q := (a 1)) c_6) (Cut.cellr 0 1 rfl rfl) ⟨va_cnB 2 hts gX0_yieldPerMille_X4_at_n48 rfl rfl rfl (hK.2 _ (List.mem_of_getElem? (i := 3) rfl)) (hts _ (List.mem_of_getElem? (i := 4) rfl)) hd_X4_at.2 ⟨Nat.le_of_ble_eq_true rfl, Nat.le_of_ble_eq_true rfl⟩, hts _ (List.mem_of_getElem? (i := 3) rfl), trivial⟩ rfl hl.1 rfl (Nat.le_of_ble_eq_true rfl) dX0_yieldPerMille_20 ⟨Nat.le_of_ble_eq_true rfl, Nat.le_of_ble_eq_true rfl⟩ (fun H locs hw => ?_)
      refine lv_iadd hx hb dX0_yieldPerMille_23 ?_
      obtain ⟨t_7, et_7, h⟩ := nm_ok h
      refine lv_istore_n (lv' := [(1, .int t_7), (0, .ref (a 0)), (2, .int x2), (3, .int x3)]) hx hb dX0_yieldPerMille_24 rfl hl (by decide) (by rw [et_7]; rfl) (fun ls hl => ?_)
      refine lv_aload_n hx hb dX0_yieldPerMille_25 rfl (lv_at hl 1 rfl) ?_
      refine lv_iload_n hx hb dX0_yieldPerMille_26 rfl (lv_at hl 3 rfl) ?_
      obtain ⟨r_8, c_9, h⟩ := bd_ok h
      refine x_Vi (As := [.int x3]) (w' := fl [cB G a v]) X hw (m_X0_isFeeder (G := G) (l := l) (a := a) c_9) Cut.all 0 0 rfl rfl rfl (cwV 1 hts gX0_yieldPerMille_X0_isFeeder rfl rfl rfl hd_X0_isFeeder ⟨Nat.le_of_ble_eq_true rfl, Nat.le_of_ble_eq_true rfl⟩) rfl hl.1 rfl (Nat.le_of_ble_eq_true rfl) dX0_yieldPerMille_27 ⟨Nat.le_of_ble_eq_true rfl, Nat.le_of_ble_eq_true rfl⟩ (fun H locs hw => ?_)
      refine lv_if_ne (tgt := 44) hx hb dX0_yieldPerMille_30 (by decide) (fun k_10 => ?_) (fun k_10 => ?_)
      · have h := br_no h k_10
        obtain ⟨t_11, et_11, h⟩ := nm_ok h
        refine lv_iinc (v := t_11) (lv' := [(3, .int t_11), (1, .int t_7), (0, .ref (a 0)), (2, .int x2)]) hx hb dX0_yieldPerMille_44 hl (k := 3) rfl (by rw [et_11]; rfl) (by decide) rfl (fun ls hl => ?_)
        refine lv_goto (tgt := 6) hx hb dX0_yieldPerMille_47 (by decide) ?_
        exact ih t_7 x2 t_11 _ _ _ h hw (lv_sub hl [2, 1, 3, 0] rfl)
      · have h := br_yes h k_10
        refine lv_iload_n hx hb dX0_yieldPerMille_33 rfl (lv_at hl 2 rfl) ?_
        refine lv_aload_n hx hb dX0_yieldPerMille_34 rfl (lv_at hl 1 rfl) ?_
        refine x_get (v := .ref (a 1)) 0 0 X hw in_X0_yieldPerMille_0 rfl rfl rfl 4 (by decide) (List.mem_of_getElem? (i := 2) rfl) rfl rfl dX0_yieldPerMille_35 ?_
        refine lv_iload_n hx hb dX0_yieldPerMille_38 rfl (lv_at hl 3 rfl) ?_
        obtain ⟨r_12, c_13, h⟩ := bd_ok h
        refine x_Ni (As := [.ref (a 1), .int x3]) (w' := fl [cB G a v]) X hw (m_X4_at (G := G) (l := l) (q := (a 1)) c_13) (Cut.cellr 0 1 rfl rfl) ⟨va_cnB 2 hts gX0_yieldPerMille_X4_at_n48 rfl rfl rfl (hK.2 _ (List.mem_of_getElem? (i := 3) rfl)) (hts _ (List.mem_of_getElem? (i := 4) rfl)) hd_X4_at.2 ⟨Nat.le_of_ble_eq_true rfl, Nat.le_of_ble_eq_true rfl⟩, hts _ (List.mem_of_getElem? (i := 3) rfl), trivial⟩ rfl hl.1 rfl (Nat.le_of_ble_eq_true rfl) dX0_yieldPerMille_39 ⟨Nat.le_of_ble_eq_true rfl, Nat.le_of_ble_eq_true rfl⟩ (fun H locs hw => ?_)
        refine lv_iadd hx hb dX0_yieldPerMille_42 ?_
        obtain ⟨t_14, et_14, h⟩ := nm_ok h
        refine lv_istore_n (lv' := [(2, .int t_14), (1, .int t_7), (0, .ref (a 0)), (3, .int x3)]) hx hb dX0_yieldPerMille_43 rfl hl (by decide) (by rw [et_14]; rfl) (fun ls hl => ?_)
        obtain ⟨t_15, et_15, h⟩ := nm_ok h
        refine lv_iinc (v := t_15) (lv' := [(3, .int t_15), (2, .int t_14), (1, .int t_7), (0, .ref (a 0))]) hx hb dX0_yieldPerMille_44 hl (k := 3) rfl (by rw [et_15]; rfl) (by decide) rfl (fun ls hl => ?_)
        refine lv_goto (tgt := 6) hx hb dX0_yieldPerMille_47 (by decide) ?_
        exact ih t_7 t_14 t_15 _ _ _ h hw (lv_sub hl [3, 2, 1, 0] rfl)
noncomputable def f_X0_yieldPerMille  (v : CV)  : Option (Int32) :=
  f_X0_yieldPerMille_b6 v FU 0 0 0
set_option maxHeartbeats 4000000 in
set_option maxRecDepth 100000 in
theorem m_X0_yieldPerMille {G : GG} {l : Launch} {a : Nat → Nat} {v : CV}  {r : Int32}  (h : f_X0_yieldPerMille v = some (r)) : Ci G l yX0_yieldPerMille wsX0_yieldPerMille rX0_yieldPerMille [.ref (a 0)] (fl [cB G a v]) r (fl [cB G a v]) := by
  refine Ci.intro cX0_yieldPerMille 4 (some .int) RX0 (by decide) rfl rfl (Nat.le_of_ble_eq_true rfl) ?_
  intro p e s m below meth c A ls X hw hl
  obtain ⟨⟨hx, hb, hml, hown, hts⟩, hK, hr, hlk, hA⟩ := id X
  unfold f_X0_yieldPerMille at h
  have hl : lv_has ls 4 [(0, .ref (a 0))] := hl
  refine lv_iconst (v := 0) hx hb dX0_yieldPerMille_0 (by decide) ?_
  refine lv_istore_n (lv' := [(1, .int 0), (0, .ref (a 0))]) hx hb dX0_yieldPerMille_1 rfl hl (by decide) rfl (fun ls hl => ?_)
  refine lv_iconst (v := 0) hx hb dX0_yieldPerMille_2 (by decide) ?_
  refine lv_istore_n (lv' := [(2, .int 0), (1, .int 0), (0, .ref (a 0))]) hx hb dX0_yieldPerMille_3 rfl hl (by decide) rfl (fun ls hl => ?_)
  refine lv_iconst (v := 0) hx hb dX0_yieldPerMille_4 (by decide) ?_
  refine lv_istore_n (lv' := [(3, .int 0), (2, .int 0), (1, .int 0), (0, .ref (a 0))]) hx hb dX0_yieldPerMille_5 rfl hl (by decide) rfl (fun ls hl => ?_)
  exact w_X0_yieldPerMille_b6 X FU 0 0 0 _ _ _ h hw (lv_sub hl [3, 2, 1, 0] rfl)

def rX0_neighbours : Room := { frames := 2, cells := 0, slots := 0, locals := 43 }
theorem hd_X0_neighbours : yX0_neighbours.cls = RX0 ∧ yX0_neighbours.cls ≠ "java/lang/invoke/MethodHandle" ∧ yX0_neighbours.cls ≠ "java/lang/invoke/VarHandle" ∧ (parseMethodDescriptor yX0_neighbours.desc).map (fun d => d.parameters.length) = some 1 := by decide +kernel
theorem in_X0_neighbours_0 : ∀ w ∈ u_ws RX0 TX0 10, w ∈ wsX0_neighbours := fun w h => (List.mem_cons_of_mem _ (List.mem_append_right _ h))
noncomputable def f_X0_neighbours_b4  (v : CV) (x1 : Int32) : Nat → Int32 → Int32 → Option (Int32)
  | 0 => fun _ _ => none
  | n + 1 => fun x2 x3 =>
    br ((C_jo v) ≤ x3)
      (some (x2))
      (bd (f_X0_touches v x3 x1) fun r_2 =>
       br (r_2 = 0)
         (nm (x3 + 1) fun t_5 =>
          f_X0_neighbours_b4 v x1 n x2 t_5)
         (nm (x2 + 1) fun t_6 =>
          nm (x3 + 1) fun t_7 =>
          f_X0_neighbours_b4 v x1 n t_6 t_7))
set_option maxHeartbeats 4000000 in
set_option maxRecDepth 100000 in
theorem w_X0_neighbours_b4 {G : GG} {l : Launch} {p : Program} {e : Env} {s : State} {m : MethodId} {args : Array Value} {below : List Frame} {meth : Method} {c : Code} {A : Nat → Prop} {a : Nat → Nat} {v : CV} {x1 : Int32} {r : Int32}    (X : Cx p s m args meth c cX0_neighbours 4 (some .int) wsX0_neighbours RX0 G A)  :
    ∀ (n : Nat) (x2 : Int32) (x3 : Int32) (H : Heap) (locs : List Loc) (ls : Array Slot), f_X0_neighbours_b4 v x1 n x2 x3 = some (r) → Wd G A s H locs (fl [cB G a v]) → lv_has ls 4 [(0, .ref (a 0)), (1, .int x1), (2, .int x2), (3, .int x3)] → W p l e rX0_neighbours s m args below meth c H locs 0 0 (MQ below (Qi G A r (fl [cB G a v])) args s 0 0 A) (F0 m 4 ls []) := by
  obtain ⟨⟨hx, hb, hml, hown, hts⟩, hK, hr, hlk, hA⟩ := id X
  intro n
  induction n with
  | zero =>
    intro x2 x3 H locs ls h
    rw [f_X0_neighbours_b4] at h
    cases h
  | succ n ih =>
    intro x2 x3 H locs ls h hw hl
    rw [f_X0_neighbours_b4] at h
    refine lv_iload_n hx hb dX0_neighbours_4 rfl (lv_at hl 3 rfl) ?_
    refine lv_aload_n hx hb dX0_neighbours_5 rfl (lv_at hl 0 rfl) ?_
    refine x_get (v := .int (C_jo v)) 0 0 X hw in_X0_neighbours_0 rfl rfl rfl 1 (by decide) (List.mem_of_getElem? (i := 1) rfl) rfl rfl dX0_neighbours_6 ?_
    refine lv_icmp_ge (tgt := 30) hx hb dX0_neighbours_9 (by decide) (fun k_1 => ?_) (fun k_1 => ?_)
    · have h := br_yes h k_1
      refine lv_iload_n hx hb dX0_neighbours_30 rfl (lv_at hl 2 rfl) ?_
      cases h
      exact x_iret X (vp_nar_int _) hw rfl rfl dX0_neighbours_31
    · have h := br_no h k_1
      refine lv_aload_n hx hb dX0_neighbours_12 rfl (lv_at hl 0 rfl) ?_
      refine lv_iload_n hx hb dX0_neighbours_13 rfl (lv_at hl 3 rfl) ?_
      refine lv_iload_n hx hb dX0_neighbours_14 rfl (lv_at hl 1 rfl) ?_
      obtain ⟨r_2, c_3, h⟩ := bd_ok h
      refine x_Vi (As := [.int x3, .int x1]) (w' := fl [cB G a v]) X hw (m_X0_touches (G := G) (l := l) (a := a) c_3) Cut.all 0 0 rfl rfl rfl (cwV 2 hts gX0_neighbours_X0_touches rfl rfl rfl hd_X0_touches ⟨Nat.le_of_ble_eq_true rfl, Nat.le_of_ble_eq_true rfl⟩) rfl hl.1 rfl (Nat.le_of_ble_eq_true rfl) dX0_neighbours_15 ⟨Nat.le_of_ble_eq_true rfl, Nat.le_of_ble_eq_true rfl⟩ (fun H locs hw => ?_)
      refine lv_if_eq (tgt := 24) hx hb dX0_neighbours_18 (by decide) (fun k_4 => ?_) (fun k_4 => ?_)
      · have h := br_yes h k_4
        obtain ⟨t_5, et_5, h⟩ := nm_ok h
        refine lv_iinc (v := t_5) (lv' := [(3, .int t_5), (0, .ref (a 0)), (1, .int x1), (2, .int x2)]) hx hb dX0_neighbours_24 hl (k := 3) rfl (by rw [et_5]; rfl) (by decide) rfl (fun ls hl => ?_)
        refine lv_goto (tgt := 4) hx hb dX0_neighbours_27 (by decide) ?_
        exact ih x2 t_5 _ _ _ h hw (lv_sub hl [1, 2, 3, 0] rfl)
      · have h := br_no h k_4
        obtain ⟨t_6, et_6, h⟩ := nm_ok h
        refine lv_iinc (v := t_6) (lv' := [(2, .int t_6), (0, .ref (a 0)), (1, .int x1), (3, .int x3)]) hx hb dX0_neighbours_21 hl (k := 2) rfl (by rw [et_6]; rfl) (by decide) rfl (fun ls hl => ?_)
        obtain ⟨t_7, et_7, h⟩ := nm_ok h
        refine lv_iinc (v := t_7) (lv' := [(3, .int t_7), (2, .int t_6), (0, .ref (a 0)), (1, .int x1)]) hx hb dX0_neighbours_24 hl (k := 3) rfl (by rw [et_7]; rfl) (by decide) rfl (fun ls hl => ?_)
        refine lv_goto (tgt := 4) hx hb dX0_neighbours_27 (by decide) ?_
        exact ih t_6 t_7 _ _ _ h hw (lv_sub hl [2, 3, 1, 0] rfl)
noncomputable def f_X0_neighbours  (v : CV) (x1 : Int32) : Option (Int32) :=
  f_X0_neighbours_b4 v x1 FU 0 0
set_option maxHeartbeats 4000000 in
set_option maxRecDepth 100000 in
theorem m_X0_neighbours {G : GG} {l : Launch} {a : Nat → Nat} {v : CV} {x1 : Int32} {r : Int32}  (h : f_X0_neighbours v x1 = some (r)) : Ci G l yX0_neighbours wsX0_neighbours rX0_neighbours [.ref (a 0), .int x1] (fl [cB G a v]) r (fl [cB G a v]) := by
  refine Ci.intro cX0_neighbours 4 (some .int) RX0 (by decide) rfl rfl (Nat.le_of_ble_eq_true rfl) ?_
  intro p e s m below meth c A ls X hw hl
  obtain ⟨⟨hx, hb, hml, hown, hts⟩, hK, hr, hlk, hA⟩ := id X
  unfold f_X0_neighbours at h
  have hl : lv_has ls 4 [(0, .ref (a 0)), (1, .int x1)] := hl
  refine lv_iconst (v := 0) hx hb dX0_neighbours_0 (by decide) ?_
  refine lv_istore_n (lv' := [(2, .int 0), (0, .ref (a 0)), (1, .int x1)]) hx hb dX0_neighbours_1 rfl hl (by decide) rfl (fun ls hl => ?_)
  refine lv_iconst (v := 0) hx hb dX0_neighbours_2 (by decide) ?_
  refine lv_istore_n (lv' := [(3, .int 0), (2, .int 0), (0, .ref (a 0)), (1, .int x1)]) hx hb dX0_neighbours_3 rfl hl (by decide) rfl (fun ls hl => ?_)
  exact w_X0_neighbours_b4 X FU 0 0 _ _ _ h hw (lv_sub hl [2, 3, 1, 0] rfl)
end
