-- ===== PART A: goes FIRST, ahead of the names: the tables' words, and 'selects' of the private methods out of them =====
/-- a private method of a class that the tables say can be made, by its rows of tables_1 -/
def lw_okq (q : MethodName × Nat) : Prop := (q.1.cls ≠ "java/lang/invoke/MethodHandle" ∧ q.1.cls ≠ "java/lang/invoke/VarHandle") ∧ Cond.instantiable q.1.cls q.2 ∈ tables_1 ∧ Cond.privateMethod q.1 ∈ tables_1 ∧ Cond.instanceMethod q.1 ∈ tables_1
theorem lw_p0 : lw_okq (⟨"DollsVote$Letters", "itemEnd", "(ILDollsVote$Nursery;)I"⟩, 2) := ⟨⟨by decide +kernel, by decide +kernel⟩, List.mem_of_getElem? (i := 26) (by decide +kernel), List.mem_of_getElem? (i := 203) (by decide +kernel), List.mem_of_getElem? (i := 204) (by decide +kernel)⟩
theorem lw_p1 : lw_okq (⟨"DollsVote$Letters", "letterAt", "(I)I"⟩, 2) := ⟨⟨by decide +kernel, by decide +kernel⟩, List.mem_of_getElem? (i := 26) (by decide +kernel), List.mem_of_getElem? (i := 207) (by decide +kernel), List.mem_of_getElem? (i := 208) (by decide +kernel)⟩
theorem lw_p2 : lw_okq (⟨"DollsVote$Letters", "houseEnd", "(ILDollsVote$Nursery;)I"⟩, 2) := ⟨⟨by decide +kernel, by decide +kernel⟩, List.mem_of_getElem? (i := 26) (by decide +kernel), List.mem_of_getElem? (i := 211) (by decide +kernel), List.mem_of_getElem? (i := 212) (by decide +kernel)⟩
theorem lw_p3 : lw_okq (⟨"DollsVote$Letters", "figureAt", "(I)I"⟩, 2) := ⟨⟨by decide +kernel, by decide +kernel⟩, List.mem_of_getElem? (i := 26) (by decide +kernel), List.mem_of_getElem? (i := 215) (by decide +kernel), List.mem_of_getElem? (i := 216) (by decide +kernel)⟩
theorem lw_p4 : lw_okq (⟨"DollsVote$Letters", "figuresFrom", "(I)I"⟩, 2) := ⟨⟨by decide +kernel, by decide +kernel⟩, List.mem_of_getElem? (i := 26) (by decide +kernel), List.mem_of_getElem? (i := 222) (by decide +kernel), List.mem_of_getElem? (i := 223) (by decide +kernel)⟩
theorem lw_p5 : lw_okq (⟨"DollsVote$Letters", "mouseEnd", "(ILDollsVote$Nursery;)I"⟩, 2) := ⟨⟨by decide +kernel, by decide +kernel⟩, List.mem_of_getElem? (i := 26) (by decide +kernel), List.mem_of_getElem? (i := 244) (by decide +kernel), List.mem_of_getElem? (i := 245) (by decide +kernel)⟩
theorem lw_p6 : lw_okq (⟨"DollsVote$Letters", "wishEnd", "(ILDollsVote$Nursery;)I"⟩, 2) := ⟨⟨by decide +kernel, by decide +kernel⟩, List.mem_of_getElem? (i := 26) (by decide +kernel), List.mem_of_getElem? (i := 260) (by decide +kernel), List.mem_of_getElem? (i := 261) (by decide +kernel)⟩
theorem lw_p7 : lw_okq (⟨"DollsVote$Pile", "dropOldest", "()V"⟩, 2) := ⟨⟨by decide +kernel, by decide +kernel⟩, List.mem_of_getElem? (i := 68) (by decide +kernel), List.mem_of_getElem? (i := 392) (by decide +kernel), List.mem_of_getElem? (i := 393) (by decide +kernel)⟩
theorem lw_p8 : lw_okq (⟨"DollsVote$Nursery", "takeFromWithin", "(I)Z"⟩, 7) := ⟨⟨by decide +kernel, by decide +kernel⟩, List.mem_of_getElem? (i := 40) (by decide +kernel), List.mem_of_getElem? (i := 406) (by decide +kernel), List.mem_of_getElem? (i := 407) (by decide +kernel)⟩
theorem lw_p9 : lw_okq (⟨"DollsVote$Nursery", "nextThing", "(II)I"⟩, 7) := ⟨⟨by decide +kernel, by decide +kernel⟩, List.mem_of_getElem? (i := 40) (by decide +kernel), List.mem_of_getElem? (i := 410) (by decide +kernel), List.mem_of_getElem? (i := 411) (by decide +kernel)⟩
theorem lw_p10 : lw_okq (⟨"DollsVote$Nursery", "roomAfter", "(I)I"⟩, 7) := ⟨⟨by decide +kernel, by decide +kernel⟩, List.mem_of_getElem? (i := 40) (by decide +kernel), List.mem_of_getElem? (i := 415) (by decide +kernel), List.mem_of_getElem? (i := 416) (by decide +kernel)⟩
theorem lw_p11 : lw_okq (⟨"DollsVote", "setMouse", "(IZ)I"⟩, 8) := ⟨⟨by decide +kernel, by decide +kernel⟩, List.mem_of_getElem? (i := 18) (by decide +kernel), List.mem_of_getElem? (i := 446) (by decide +kernel), List.mem_of_getElem? (i := 447) (by decide +kernel)⟩
theorem lw_p12 : lw_okq (⟨"DollsVote$Outlook", "tryThings", "(LDollsVote$Nursery;II)V"⟩, 3) := ⟨⟨by decide +kernel, by decide +kernel⟩, List.mem_of_getElem? (i := 109) (by decide +kernel), List.mem_of_getElem? (i := 533) (by decide +kernel), List.mem_of_getElem? (i := 534) (by decide +kernel)⟩
theorem lw_p13 : lw_okq (⟨"DollsVote$Outlook", "leastThingFor", "(I)I"⟩, 3) := ⟨⟨by decide +kernel, by decide +kernel⟩, List.mem_of_getElem? (i := 109) (by decide +kernel), List.mem_of_getElem? (i := 553) (by decide +kernel), List.mem_of_getElem? (i := 554) (by decide +kernel)⟩
theorem lw_p14 : lw_okq (⟨"DollsVote$Sightings", "furthestDay", "()I"⟩, 5) := ⟨⟨by decide +kernel, by decide +kernel⟩, List.mem_of_getElem? (i := 87) (by decide +kernel), List.mem_of_getElem? (i := 606) (by decide +kernel), List.mem_of_getElem? (i := 607) (by decide +kernel)⟩
theorem lw_p15 : lw_okq (⟨"DollsVote$Sightings", "areSo", "(ILDollsVote$Nursery;)Z"⟩, 5) := ⟨⟨by decide +kernel, by decide +kernel⟩, List.mem_of_getElem? (i := 87) (by decide +kernel), List.mem_of_getElem? (i := 611) (by decide +kernel), List.mem_of_getElem? (i := 612) (by decide +kernel)⟩
def lw_privs_1 : List (MethodName × Nat) := [(⟨"DollsVote$Letters", "itemEnd", "(ILDollsVote$Nursery;)I"⟩, 2), (⟨"DollsVote$Letters", "letterAt", "(I)I"⟩, 2), (⟨"DollsVote$Letters", "houseEnd", "(ILDollsVote$Nursery;)I"⟩, 2), (⟨"DollsVote$Letters", "figureAt", "(I)I"⟩, 2), (⟨"DollsVote$Letters", "figuresFrom", "(I)I"⟩, 2), (⟨"DollsVote$Letters", "mouseEnd", "(ILDollsVote$Nursery;)I"⟩, 2), (⟨"DollsVote$Letters", "wishEnd", "(ILDollsVote$Nursery;)I"⟩, 2), (⟨"DollsVote$Pile", "dropOldest", "()V"⟩, 2), (⟨"DollsVote$Nursery", "takeFromWithin", "(I)Z"⟩, 7), (⟨"DollsVote$Nursery", "nextThing", "(II)I"⟩, 7), (⟨"DollsVote$Nursery", "roomAfter", "(I)I"⟩, 7), (⟨"DollsVote", "setMouse", "(IZ)I"⟩, 8), (⟨"DollsVote$Outlook", "tryThings", "(LDollsVote$Nursery;II)V"⟩, 3), (⟨"DollsVote$Outlook", "leastThingFor", "(I)I"⟩, 3), (⟨"DollsVote$Sightings", "furthestDay", "()I"⟩, 5), (⟨"DollsVote$Sightings", "areSo", "(ILDollsVote$Nursery;)Z"⟩, 5)]
theorem lw_r1 : ∀ q ∈ lw_privs_1, lw_okq q := List.forall_mem_cons.mpr ⟨lw_p0, List.forall_mem_cons.mpr ⟨lw_p1, List.forall_mem_cons.mpr ⟨lw_p2, List.forall_mem_cons.mpr ⟨lw_p3, List.forall_mem_cons.mpr ⟨lw_p4, List.forall_mem_cons.mpr ⟨lw_p5, List.forall_mem_cons.mpr ⟨lw_p6, List.forall_mem_cons.mpr ⟨lw_p7, List.forall_mem_cons.mpr ⟨lw_p8, List.forall_mem_cons.mpr ⟨lw_p9, List.forall_mem_cons.mpr ⟨lw_p10, List.forall_mem_cons.mpr ⟨lw_p11, List.forall_mem_cons.mpr ⟨lw_p12, List.forall_mem_cons.mpr ⟨lw_p13, List.forall_mem_cons.mpr ⟨lw_p14, List.forall_mem_cons.mpr ⟨lw_p15, fun _ h => absurd h List.not_mem_nil⟩⟩⟩⟩⟩⟩⟩⟩⟩⟩⟩⟩⟩⟩⟩⟩
theorem lw_p16 : lw_okq (⟨"DollsVote$Outlook", "gatherValues", "(LDollsVote$Nursery;II)V"⟩, 3) := ⟨⟨by decide +kernel, by decide +kernel⟩, List.mem_of_getElem? (i := 109) (by decide +kernel), List.mem_of_getElem? (i := 630) (by decide +kernel), List.mem_of_getElem? (i := 631) (by decide +kernel)⟩
theorem lw_p17 : lw_okq (⟨"DollsVote$Chances", "topBehind", "(LDollsVote$Nursery;III)I"⟩, 1) := ⟨⟨by decide +kernel, by decide +kernel⟩, List.mem_of_getElem? (i := 127) (by decide +kernel), List.mem_of_getElem? (i := 652) (by decide +kernel), List.mem_of_getElem? (i := 653) (by decide +kernel)⟩
theorem lw_p18 : lw_okq (⟨"DollsVoteModel", "first", "(II)V"⟩, 28) := ⟨⟨by decide +kernel, by decide +kernel⟩, List.mem_of_getElem? (i := 709) (by decide +kernel), List.mem_of_getElem? (i := 715) (by decide +kernel), List.mem_of_getElem? (i := 716) (by decide +kernel)⟩
theorem lw_p19 : lw_okq (⟨"DollsVoteModel", "readsItem", "()Z"⟩, 28) := ⟨⟨by decide +kernel, by decide +kernel⟩, List.mem_of_getElem? (i := 709) (by decide +kernel), List.mem_of_getElem? (i := 819) (by decide +kernel), List.mem_of_getElem? (i := 820) (by decide +kernel)⟩
theorem lw_p20 : lw_okq (⟨"DollsVoteModel", "here", "()I"⟩, 28) := ⟨⟨by decide +kernel, by decide +kernel⟩, List.mem_of_getElem? (i := 709) (by decide +kernel), List.mem_of_getElem? (i := 823) (by decide +kernel), List.mem_of_getElem? (i := 824) (by decide +kernel)⟩
theorem lw_p21 : lw_okq (⟨"DollsVoteModel", "readsHouse", "()Z"⟩, 28) := ⟨⟨by decide +kernel, by decide +kernel⟩, List.mem_of_getElem? (i := 709) (by decide +kernel), List.mem_of_getElem? (i := 827) (by decide +kernel), List.mem_of_getElem? (i := 828) (by decide +kernel)⟩
theorem lw_p22 : lw_okq (⟨"DollsVoteModel", "figure", "(I)I"⟩, 28) := ⟨⟨by decide +kernel, by decide +kernel⟩, List.mem_of_getElem? (i := 709) (by decide +kernel), List.mem_of_getElem? (i := 831) (by decide +kernel), List.mem_of_getElem? (i := 832) (by decide +kernel)⟩
theorem lw_p23 : lw_okq (⟨"DollsVoteModel", "sign", "(I)Z"⟩, 28) := ⟨⟨by decide +kernel, by decide +kernel⟩, List.mem_of_getElem? (i := 709) (by decide +kernel), List.mem_of_getElem? (i := 835) (by decide +kernel), List.mem_of_getElem? (i := 836) (by decide +kernel)⟩
theorem lw_p24 : lw_okq (⟨"DollsVoteModel", "readsMouse", "()Z"⟩, 28) := ⟨⟨by decide +kernel, by decide +kernel⟩, List.mem_of_getElem? (i := 709) (by decide +kernel), List.mem_of_getElem? (i := 839) (by decide +kernel), List.mem_of_getElem? (i := 840) (by decide +kernel)⟩
theorem lw_p25 : lw_okq (⟨"DollsVoteModel", "readsWant", "()Z"⟩, 28) := ⟨⟨by decide +kernel, by decide +kernel⟩, List.mem_of_getElem? (i := 709) (by decide +kernel), List.mem_of_getElem? (i := 843) (by decide +kernel), List.mem_of_getElem? (i := 844) (by decide +kernel)⟩
theorem lw_p26 : lw_okq (⟨"DollsVoteModel", "isHouse", "(I)Z"⟩, 28) := ⟨⟨by decide +kernel, by decide +kernel⟩, List.mem_of_getElem? (i := 709) (by decide +kernel), List.mem_of_getElem? (i := 856) (by decide +kernel), List.mem_of_getElem? (i := 857) (by decide +kernel)⟩
theorem lw_p27 : lw_okq (⟨"DollsVoteModel", "isRoom", "(I)Z"⟩, 28) := ⟨⟨by decide +kernel, by decide +kernel⟩, List.mem_of_getElem? (i := 709) (by decide +kernel), List.mem_of_getElem? (i := 860) (by decide +kernel), List.mem_of_getElem? (i := 861) (by decide +kernel)⟩
theorem lw_p28 : lw_okq (⟨"DollsVoteModel", "notes", "()V"⟩, 28) := ⟨⟨by decide +kernel, by decide +kernel⟩, List.mem_of_getElem? (i := 709) (by decide +kernel), List.mem_of_getElem? (i := 876) (by decide +kernel), List.mem_of_getElem? (i := 877) (by decide +kernel)⟩
theorem lw_p29 : lw_okq (⟨"DollsVoteModel", "lays", "([II)V"⟩, 28) := ⟨⟨by decide +kernel, by decide +kernel⟩, List.mem_of_getElem? (i := 709) (by decide +kernel), List.mem_of_getElem? (i := 880) (by decide +kernel), List.mem_of_getElem? (i := 881) (by decide +kernel)⟩
theorem lw_p30 : lw_okq (⟨"DollsVoteModel", "goesOn", "(I)V"⟩, 28) := ⟨⟨by decide +kernel, by decide +kernel⟩, List.mem_of_getElem? (i := 709) (by decide +kernel), List.mem_of_getElem? (i := 884) (by decide +kernel), List.mem_of_getElem? (i := 885) (by decide +kernel)⟩
theorem lw_p31 : lw_okq (⟨"DollsVoteModel", "passes", "()Z"⟩, 28) := ⟨⟨by decide +kernel, by decide +kernel⟩, List.mem_of_getElem? (i := 709) (by decide +kernel), List.mem_of_getElem? (i := 888) (by decide +kernel), List.mem_of_getElem? (i := 889) (by decide +kernel)⟩
def lw_privs_2 : List (MethodName × Nat) := [(⟨"DollsVote$Outlook", "gatherValues", "(LDollsVote$Nursery;II)V"⟩, 3), (⟨"DollsVote$Chances", "topBehind", "(LDollsVote$Nursery;III)I"⟩, 1), (⟨"DollsVoteModel", "first", "(II)V"⟩, 28), (⟨"DollsVoteModel", "readsItem", "()Z"⟩, 28), (⟨"DollsVoteModel", "here", "()I"⟩, 28), (⟨"DollsVoteModel", "readsHouse", "()Z"⟩, 28), (⟨"DollsVoteModel", "figure", "(I)I"⟩, 28), (⟨"DollsVoteModel", "sign", "(I)Z"⟩, 28), (⟨"DollsVoteModel", "readsMouse", "()Z"⟩, 28), (⟨"DollsVoteModel", "readsWant", "()Z"⟩, 28), (⟨"DollsVoteModel", "isHouse", "(I)Z"⟩, 28), (⟨"DollsVoteModel", "isRoom", "(I)Z"⟩, 28), (⟨"DollsVoteModel", "notes", "()V"⟩, 28), (⟨"DollsVoteModel", "lays", "([II)V"⟩, 28), (⟨"DollsVoteModel", "goesOn", "(I)V"⟩, 28), (⟨"DollsVoteModel", "passes", "()Z"⟩, 28)]
theorem lw_r2 : ∀ q ∈ lw_privs_2, lw_okq q := List.forall_mem_cons.mpr ⟨lw_p16, List.forall_mem_cons.mpr ⟨lw_p17, List.forall_mem_cons.mpr ⟨lw_p18, List.forall_mem_cons.mpr ⟨lw_p19, List.forall_mem_cons.mpr ⟨lw_p20, List.forall_mem_cons.mpr ⟨lw_p21, List.forall_mem_cons.mpr ⟨lw_p22, List.forall_mem_cons.mpr ⟨lw_p23, List.forall_mem_cons.mpr ⟨lw_p24, List.forall_mem_cons.mpr ⟨lw_p25, List.forall_mem_cons.mpr ⟨lw_p26, List.forall_mem_cons.mpr ⟨lw_p27, List.forall_mem_cons.mpr ⟨lw_p28, List.forall_mem_cons.mpr ⟨lw_p29, List.forall_mem_cons.mpr ⟨lw_p30, List.forall_mem_cons.mpr ⟨lw_p31, fun _ h => absurd h List.not_mem_nil⟩⟩⟩⟩⟩⟩⟩⟩⟩⟩⟩⟩⟩⟩⟩⟩
theorem lw_p32 : lw_okq (⟨"DollsVoteModel", "thingThen", "(II)I"⟩, 28) := ⟨⟨by decide +kernel, by decide +kernel⟩, List.mem_of_getElem? (i := 709) (by decide +kernel), List.mem_of_getElem? (i := 892) (by decide +kernel), List.mem_of_getElem? (i := 893) (by decide +kernel)⟩
theorem lw_p33 : lw_okq (⟨"DollsVoteModel", "sneezes", "(I)V"⟩, 28) := ⟨⟨by decide +kernel, by decide +kernel⟩, List.mem_of_getElem? (i := 709) (by decide +kernel), List.mem_of_getElem? (i := 904) (by decide +kernel), List.mem_of_getElem? (i := 905) (by decide +kernel)⟩
theorem lw_p34 : lw_okq (⟨"DollsVoteModel", "mousing", "(II)I"⟩, 28) := ⟨⟨by decide +kernel, by decide +kernel⟩, List.mem_of_getElem? (i := 709) (by decide +kernel), List.mem_of_getElem? (i := 912) (by decide +kernel), List.mem_of_getElem? (i := 913) (by decide +kernel)⟩
theorem lw_p35 : lw_okq (⟨"DollsVoteModel", "mouseMany", "()I"⟩, 28) := ⟨⟨by decide +kernel, by decide +kernel⟩, List.mem_of_getElem? (i := 709) (by decide +kernel), List.mem_of_getElem? (i := 916) (by decide +kernel), List.mem_of_getElem? (i := 917) (by decide +kernel)⟩
theorem lw_p36 : lw_okq (⟨"DollsVoteModel", "takes", "([II)V"⟩, 28) := ⟨⟨by decide +kernel, by decide +kernel⟩, List.mem_of_getElem? (i := 709) (by decide +kernel), List.mem_of_getElem? (i := 932) (by decide +kernel), List.mem_of_getElem? (i := 933) (by decide +kernel)⟩
theorem lw_p37 : lw_okq (⟨"DollsVoteModel", "puts", "()V"⟩, 28) := ⟨⟨by decide +kernel, by decide +kernel⟩, List.mem_of_getElem? (i := 709) (by decide +kernel), List.mem_of_getElem? (i := 940) (by decide +kernel), List.mem_of_getElem? (i := 941) (by decide +kernel)⟩
theorem lw_p38 : lw_okq (⟨"DollsVoteModel", "puttingBack", "()V"⟩, 28) := ⟨⟨by decide +kernel, by decide +kernel⟩, List.mem_of_getElem? (i := 709) (by decide +kernel), List.mem_of_getElem? (i := 944) (by decide +kernel), List.mem_of_getElem? (i := 945) (by decide +kernel)⟩
theorem lw_p39 : lw_okq (⟨"DollsVoteModel", "metBehind", "(I)I"⟩, 28) := ⟨⟨by decide +kernel, by decide +kernel⟩, List.mem_of_getElem? (i := 709) (by decide +kernel), List.mem_of_getElem? (i := 960) (by decide +kernel), List.mem_of_getElem? (i := 961) (by decide +kernel)⟩
theorem lw_p40 : lw_okq (⟨"DollsVoteModel", "metNow", "()I"⟩, 28) := ⟨⟨by decide +kernel, by decide +kernel⟩, List.mem_of_getElem? (i := 709) (by decide +kernel), List.mem_of_getElem? (i := 964) (by decide +kernel), List.mem_of_getElem? (i := 965) (by decide +kernel)⟩
theorem lw_p41 : lw_okq (⟨"DollsVoteModel", "pinsFor", "(I)I"⟩, 28) := ⟨⟨by decide +kernel, by decide +kernel⟩, List.mem_of_getElem? (i := 709) (by decide +kernel), List.mem_of_getElem? (i := 972) (by decide +kernel), List.mem_of_getElem? (i := 973) (by decide +kernel)⟩
theorem lw_p42 : lw_okq (⟨"DollsVoteModel", "isSo", "()Z"⟩, 28) := ⟨⟨by decide +kernel, by decide +kernel⟩, List.mem_of_getElem? (i := 709) (by decide +kernel), List.mem_of_getElem? (i := 1003) (by decide +kernel), List.mem_of_getElem? (i := 1004) (by decide +kernel)⟩
theorem lw_p43 : lw_okq (⟨"DollsVoteModel", "unlike", "(III)I"⟩, 28) := ⟨⟨by decide +kernel, by decide +kernel⟩, List.mem_of_getElem? (i := 709) (by decide +kernel), List.mem_of_getElem? (i := 1015) (by decide +kernel), List.mem_of_getElem? (i := 1016) (by decide +kernel)⟩
theorem lw_p44 : lw_okq (⟨"DollsVoteModel", "rowBehind", "(II)I"⟩, 28) := ⟨⟨by decide +kernel, by decide +kernel⟩, List.mem_of_getElem? (i := 709) (by decide +kernel), List.mem_of_getElem? (i := 1019) (by decide +kernel), List.mem_of_getElem? (i := 1020) (by decide +kernel)⟩
theorem lw_p45 : lw_okq (⟨"DollsVoteModel", "wantedAll", "()I"⟩, 28) := ⟨⟨by decide +kernel, by decide +kernel⟩, List.mem_of_getElem? (i := 709) (by decide +kernel), List.mem_of_getElem? (i := 1051) (by decide +kernel), List.mem_of_getElem? (i := 1052) (by decide +kernel)⟩
def lw_privs_3 : List (MethodName × Nat) := [(⟨"DollsVoteModel", "thingThen", "(II)I"⟩, 28), (⟨"DollsVoteModel", "sneezes", "(I)V"⟩, 28), (⟨"DollsVoteModel", "mousing", "(II)I"⟩, 28), (⟨"DollsVoteModel", "mouseMany", "()I"⟩, 28), (⟨"DollsVoteModel", "takes", "([II)V"⟩, 28), (⟨"DollsVoteModel", "puts", "()V"⟩, 28), (⟨"DollsVoteModel", "puttingBack", "()V"⟩, 28), (⟨"DollsVoteModel", "metBehind", "(I)I"⟩, 28), (⟨"DollsVoteModel", "metNow", "()I"⟩, 28), (⟨"DollsVoteModel", "pinsFor", "(I)I"⟩, 28), (⟨"DollsVoteModel", "isSo", "()Z"⟩, 28), (⟨"DollsVoteModel", "unlike", "(III)I"⟩, 28), (⟨"DollsVoteModel", "rowBehind", "(II)I"⟩, 28), (⟨"DollsVoteModel", "wantedAll", "()I"⟩, 28)]
theorem lw_r3 : ∀ q ∈ lw_privs_3, lw_okq q := List.forall_mem_cons.mpr ⟨lw_p32, List.forall_mem_cons.mpr ⟨lw_p33, List.forall_mem_cons.mpr ⟨lw_p34, List.forall_mem_cons.mpr ⟨lw_p35, List.forall_mem_cons.mpr ⟨lw_p36, List.forall_mem_cons.mpr ⟨lw_p37, List.forall_mem_cons.mpr ⟨lw_p38, List.forall_mem_cons.mpr ⟨lw_p39, List.forall_mem_cons.mpr ⟨lw_p40, List.forall_mem_cons.mpr ⟨lw_p41, List.forall_mem_cons.mpr ⟨lw_p42, List.forall_mem_cons.mpr ⟨lw_p43, List.forall_mem_cons.mpr ⟨lw_p44, List.forall_mem_cons.mpr ⟨lw_p45, fun _ h => absurd h List.not_mem_nil⟩⟩⟩⟩⟩⟩⟩⟩⟩⟩⟩⟩⟩⟩
def lw_privs : List (MethodName × Nat) := lw_privs_1 ++ (lw_privs_2 ++ (lw_privs_3))
def lw_tbl : List Cond := k2_sels lw_privs ++ tables_1
theorem lw_privs_ok : ∀ q ∈ lw_privs, lw_okq q := by
  show ∀ q ∈ lw_privs_1 ++ (lw_privs_2 ++ (lw_privs_3)), lw_okq q
  exact List.forall_mem_append.mpr ⟨lw_r1, List.forall_mem_append.mpr ⟨lw_r2, lw_r3⟩⟩
/-! names: printed by program (NAMES.whole) -/
def RX0 : String := "DollsVote$Chances"
def TX0 : u_T := fun k => match k with
  | _ => ("DollsVote$Chances", "trial", "LDollsVote$Nursery;", true)
def tyX0 : Nat → FieldType := fun k => match k with
  | _ => .object "DollsVote$Nursery"
abbrev wsX00 : List Cond := u_ws RX0 TX0 1
theorem nmX0 : ∀ a, a < 1 → ∀ b, b < 1 → a ≠ b → (TX0 a).2.1 ≠ (TX0 b).2.1 := by decide +kernel
theorem tyX0_ok : ∀ k, k < 1 → parseFieldDescriptor (TX0 k).2.2.1 = some (tyX0 k) := by decide +kernel
abbrev cX0_init : ByteArray := prog_2_method_1_code
def yX0_init : MethodName := ⟨RX0, "<init>", "()V"⟩
abbrev cX0_tellingDays : ByteArray := prog_2_method_2_code
def yX0_tellingDays : MethodName := ⟨RX0, "tellingDays", "(LDollsVote$Nursery;I)I"⟩
abbrev cX0_waysOf : ByteArray := prog_2_method_3_code
def yX0_waysOf : MethodName := ⟨RX0, "waysOf", "(LDollsVote$Nursery;IIII)I"⟩
abbrev cX0_topBehind : ByteArray := prog_2_method_4_code
def yX0_topBehind : MethodName := ⟨RX0, "topBehind", "(LDollsVote$Nursery;III)I"⟩
abbrev cX0_liveCentury : ByteArray := prog_2_method_5_code
def yX0_liveCentury : MethodName := ⟨RX0, "liveCentury", "(LDollsVote$Nursery;II)V"⟩
abbrev cX0_draw : ByteArray := prog_2_method_6_code
def yX0_draw : MethodName := ⟨RX0, "draw", "(II)I"⟩
abbrev cX0_actBy : ByteArray := prog_2_method_7_code
def yX0_actBy : MethodName := ⟨RX0, "actBy", "(LDollsVote$Nursery;I)V"⟩
abbrev cX0_modulo : ByteArray := prog_2_method_8_code
def yX0_modulo : MethodName := ⟨RX0, "modulo", "(II)I"⟩
def RX1 : String := "DollsVote$Letters"
def TX1 : u_T := fun k => match k with
  | 0 => ("DollsVote$Letters", "letters", "[I", true)
  | _ => ("DollsVote$Letters", "length", "I", false)
def tyX1 : Nat → FieldType := fun k => match k with
  | 0 => .array .int
  | _ => .int
abbrev wsX10 : List Cond := u_ws RX1 TX1 2
theorem nmX1 : ∀ a, a < 2 → ∀ b, b < 2 → a ≠ b → (TX1 a).2.1 ≠ (TX1 b).2.1 := by decide +kernel
theorem tyX1_ok : ∀ k, k < 2 → parseFieldDescriptor (TX1 k).2.2.1 = some (tyX1 k) := by decide +kernel
abbrev cX1_init : ByteArray := prog_3_method_1_code
def yX1_init : MethodName := ⟨RX1, "<init>", "()V"⟩
abbrev cX1_length : ByteArray := prog_3_method_2_code
def yX1_length : MethodName := ⟨RX1, "length", "()I"⟩
abbrev cX1_clear : ByteArray := prog_3_method_3_code
def yX1_clear : MethodName := ⟨RX1, "clear", "()V"⟩
abbrev cX1_append : ByteArray := prog_3_method_4_code
def yX1_append : MethodName := ⟨RX1, "append", "(I)Z"⟩
abbrev cX1_readInto : ByteArray := prog_3_method_5_code
def yX1_readInto : MethodName := ⟨RX1, "readInto", "(LDollsVote$Nursery;)I"⟩
abbrev cX1_itemEnd : ByteArray := prog_3_method_6_code
def yX1_itemEnd : MethodName := ⟨RX1, "itemEnd", "(ILDollsVote$Nursery;)I"⟩
abbrev cX1_houseEnd : ByteArray := prog_3_method_7_code
def yX1_houseEnd : MethodName := ⟨RX1, "houseEnd", "(ILDollsVote$Nursery;)I"⟩
abbrev cX1_mouseEnd : ByteArray := prog_3_method_8_code
def yX1_mouseEnd : MethodName := ⟨RX1, "mouseEnd", "(ILDollsVote$Nursery;)I"⟩
abbrev cX1_wishEnd : ByteArray := prog_3_method_9_code
def yX1_wishEnd : MethodName := ⟨RX1, "wishEnd", "(ILDollsVote$Nursery;)I"⟩
abbrev cX1_figuresFrom : ByteArray := prog_3_method_10_code
def yX1_figuresFrom : MethodName := ⟨RX1, "figuresFrom", "(I)I"⟩
abbrev cX1_figureAt : ByteArray := prog_3_method_11_code
def yX1_figureAt : MethodName := ⟨RX1, "figureAt", "(I)I"⟩
abbrev cX1_letterAt : ByteArray := prog_3_method_12_code
def yX1_letterAt : MethodName := ⟨RX1, "letterAt", "(I)I"⟩
def RX2 : String := "DollsVote$Nursery"
def TX2 : u_T := fun k => match k with
  | 0 => ("DollsVote$Nursery", "kinds", "[I", true)
  | 1 => ("DollsVote$Nursery", "things", "[I", true)
  | 2 => ("DollsVote$Nursery", "wishes", "[I", true)
  | 3 => ("DollsVote$Nursery", "houses", "I", false)
  | 4 => ("DollsVote$Nursery", "rooms", "I", false)
  | 5 => ("DollsVote$Nursery", "mouseBits", "I", false)
  | _ => ("DollsVote$Nursery", "day", "I", false)
def tyX2 : Nat → FieldType := fun k => match k with
  | 0 => .array .int
  | 1 => .array .int
  | 2 => .array .int
  | 3 => .int
  | 4 => .int
  | 5 => .int
  | _ => .int
abbrev wsX20 : List Cond := u_ws RX2 TX2 7
theorem nmX2 : ∀ a, a < 7 → ∀ b, b < 7 → a ≠ b → (TX2 a).2.1 ≠ (TX2 b).2.1 := by decide +kernel
theorem tyX2_ok : ∀ k, k < 7 → parseFieldDescriptor (TX2 k).2.2.1 = some (tyX2 k) := by decide +kernel
abbrev cX2_init : ByteArray := prog_4_method_1_code
def yX2_init : MethodName := ⟨RX2, "<init>", "()V"⟩
abbrev cX2_clear : ByteArray := prog_4_method_2_code
def yX2_clear : MethodName := ⟨RX2, "clear", "()V"⟩
abbrev cX2_become : ByteArray := prog_4_method_3_code
def yX2_become : MethodName := ⟨RX2, "become", "(LDollsVote$Nursery;)V"⟩
abbrev cX2_fits : ByteArray := prog_4_method_4_code
def yX2_fits : MethodName := ⟨RX2, "fits", "(I)Z"⟩
abbrev cX2_addHouse : ByteArray := prog_4_method_5_code
def yX2_addHouse : MethodName := ⟨RX2, "addHouse", "(II)V"⟩
abbrev cX2_houses : ByteArray := prog_4_method_6_code
def yX2_houses : MethodName := ⟨RX2, "houses", "()I"⟩
abbrev cX2_rooms : ByteArray := prog_4_method_7_code
def yX2_rooms : MethodName := ⟨RX2, "rooms", "()I"⟩
abbrev cX2_bottom : ByteArray := prog_4_method_8_code
def yX2_bottom : MethodName := ⟨RX2, "bottom", "()I"⟩
abbrev cX2_hasHouse : ByteArray := prog_4_method_9_code
def yX2_hasHouse : MethodName := ⟨RX2, "hasHouse", "(I)Z"⟩
abbrev cX2_hasRoom : ByteArray := prog_4_method_10_code
def yX2_hasRoom : MethodName := ⟨RX2, "hasRoom", "(I)Z"⟩
abbrev cX2_thing : ByteArray := prog_4_method_11_code
def yX2_thing : MethodName := ⟨RX2, "thing", "(II)I"⟩
abbrev cX2_place : ByteArray := prog_4_method_12_code
def yX2_place : MethodName := ⟨RX2, "place", "(III)V"⟩
abbrev cX2_placeAll : ByteArray := prog_4_method_13_code
def yX2_placeAll : MethodName := ⟨RX2, "placeAll", "(II)V"⟩
abbrev cX2_kind : ByteArray := prog_4_method_14_code
def yX2_kind : MethodName := ⟨RX2, "kind", "(I)I"⟩
abbrev cX2_setKind : ByteArray := prog_4_method_15_code
def yX2_setKind : MethodName := ⟨RX2, "setKind", "(II)V"⟩
abbrev cX2_hasMouse : ByteArray := prog_4_method_16_code
def yX2_hasMouse : MethodName := ⟨RX2, "hasMouse", "(I)Z"⟩
abbrev cX2_toggleMouse : ByteArray := prog_4_method_17_code
def yX2_toggleMouse : MethodName := ⟨RX2, "toggleMouse", "(I)V"⟩
abbrev cX2_mice : ByteArray := prog_4_method_18_code
def yX2_mice : MethodName := ⟨RX2, "mice", "()I"⟩
abbrev cX2_wish : ByteArray := prog_4_method_19_code
def yX2_wish : MethodName := ⟨RX2, "wish", "(I)I"⟩
abbrev cX2_setWish : ByteArray := prog_4_method_20_code
def yX2_setWish : MethodName := ⟨RX2, "setWish", "(II)V"⟩
abbrev cX2_wishes : ByteArray := prog_4_method_21_code
def yX2_wishes : MethodName := ⟨RX2, "wishes", "()I"⟩
abbrev cX2_metRooms : ByteArray := prog_4_method_22_code
def yX2_metRooms : MethodName := ⟨RX2, "metRooms", "()I"⟩
abbrev cX2_day : ByteArray := prog_4_method_23_code
def yX2_day : MethodName := ⟨RX2, "day", "()I"⟩
abbrev cX2_addDays : ByteArray := prog_4_method_24_code
def yX2_addDays : MethodName := ⟨RX2, "addDays", "(I)V"⟩
abbrev cX2_shift : ByteArray := prog_4_method_25_code
def yX2_shift : MethodName := ⟨RX2, "shift", "(I)V"⟩
abbrev cX2_comeUp : ByteArray := prog_4_method_26_code
def yX2_comeUp : MethodName := ⟨RX2, "comeUp", "()Z"⟩
abbrev cX2_live : ByteArray := prog_4_method_27_code
def yX2_live : MethodName := ⟨RX2, "live", "(I)V"⟩
abbrev cX2_takeFromWithin : ByteArray := prog_4_method_28_code
def yX2_takeFromWithin : MethodName := ⟨RX2, "takeFromWithin", "(I)Z"⟩
abbrev cX2_nextThing : ByteArray := prog_4_method_29_code
def yX2_nextThing : MethodName := ⟨RX2, "nextThing", "(II)I"⟩
abbrev cX2_nearer : ByteArray := prog_4_method_30_code
def yX2_nearer : MethodName := ⟨RX2, "nearer", "(II)I"⟩
abbrev cX2_roomAfter : ByteArray := prog_4_method_31_code
def yX2_roomAfter : MethodName := ⟨RX2, "roomAfter", "(I)I"⟩
abbrev cX2_roomAbove : ByteArray := prog_4_method_32_code
def yX2_roomAbove : MethodName := ⟨RX2, "roomAbove", "(III)I"⟩
def RX3 : String := "DollsVote$Outlook"
def TX3 : u_T := fun k => match k with
  | 0 => ("DollsVote$Outlook", "trial", "LDollsVote$Nursery;", true)
  | 1 => ("DollsVote$Outlook", "metBy", "[I", true)
  | _ => ("DollsVote$Outlook", "valuesBy", "[I", true)
def tyX3 : Nat → FieldType := fun k => match k with
  | 0 => .object "DollsVote$Nursery"
  | 1 => .array .int
  | _ => .array .int
abbrev wsX30 : List Cond := u_ws RX3 TX3 3
theorem nmX3 : ∀ a, a < 3 → ∀ b, b < 3 → a ≠ b → (TX3 a).2.1 ≠ (TX3 b).2.1 := by decide +kernel
theorem tyX3_ok : ∀ k, k < 3 → parseFieldDescriptor (TX3 k).2.2.1 = some (tyX3 k) := by decide +kernel
abbrev cX3_init : ByteArray := prog_5_method_1_code
def yX3_init : MethodName := ⟨RX3, "<init>", "()V"⟩
abbrev cX3_thingBehind : ByteArray := prog_5_method_2_code
def yX3_thingBehind : MethodName := ⟨RX3, "thingBehind", "(LDollsVote$Nursery;III)I"⟩
abbrev cX3_metBehind : ByteArray := prog_5_method_3_code
def yX3_metBehind : MethodName := ⟨RX3, "metBehind", "(LDollsVote$Nursery;I)I"⟩
abbrev cX3_firstDayOf : ByteArray := prog_5_method_4_code
def yX3_firstDayOf : MethodName := ⟨RX3, "firstDayOf", "(LDollsVote$Nursery;II)I"⟩
abbrev cX3_firstQuietDay : ByteArray := prog_5_method_5_code
def yX3_firstQuietDay : MethodName := ⟨RX3, "firstQuietDay", "(LDollsVote$Nursery;)I"⟩
abbrev cX3_fewestPins : ByteArray := prog_5_method_6_code
def yX3_fewestPins : MethodName := ⟨RX3, "fewestPins", "(LDollsVote$Nursery;II)I"⟩
abbrev cX3_leastThingFor : ByteArray := prog_5_method_7_code
def yX3_leastThingFor : MethodName := ⟨RX3, "leastThingFor", "(I)I"⟩
abbrev cX3_bestPin : ByteArray := prog_5_method_8_code
def yX3_bestPin : MethodName := ⟨RX3, "bestPin", "(LDollsVote$Nursery;IZ)I"⟩
abbrev cX3_tryThings : ByteArray := prog_5_method_9_code
def yX3_tryThings : MethodName := ⟨RX3, "tryThings", "(LDollsVote$Nursery;II)V"⟩
abbrev cX3_worstMouse : ByteArray := prog_5_method_10_code
def yX3_worstMouse : MethodName := ⟨RX3, "worstMouse", "(LDollsVote$Nursery;IZ)I"⟩
abbrev cX3_mostTelling : ByteArray := prog_5_method_11_code
def yX3_mostTelling : MethodName := ⟨RX3, "mostTelling", "(LDollsVote$Nursery;IIZ)I"⟩
abbrev cX3_gatherValues : ByteArray := prog_5_method_12_code
def yX3_gatherValues : MethodName := ⟨RX3, "gatherValues", "(LDollsVote$Nursery;II)V"⟩
abbrev cX3_hasBit : ByteArray := prog_5_method_13_code
def yX3_hasBit : MethodName := ⟨RX3, "hasBit", "(II)Z"⟩
def RX4 : String := "DollsVote$Pile"
def TX4 : u_T := fun k => match k with
  | 0 => ("DollsVote$Pile", "copies", "[LDollsVote$Nursery;", true)
  | _ => ("DollsVote$Pile", "size", "I", false)
def tyX4 : Nat → FieldType := fun k => match k with
  | 0 => .array (.object "DollsVote$Nursery")
  | _ => .int
abbrev wsX40 : List Cond := u_ws RX4 TX4 2
theorem nmX4 : ∀ a, a < 2 → ∀ b, b < 2 → a ≠ b → (TX4 a).2.1 ≠ (TX4 b).2.1 := by decide +kernel
theorem tyX4_ok : ∀ k, k < 2 → parseFieldDescriptor (TX4 k).2.2.1 = some (tyX4 k) := by decide +kernel
abbrev cX4_init : ByteArray := prog_6_method_1_code
def yX4_init : MethodName := ⟨RX4, "<init>", "(I)V"⟩
abbrev cX4_clear : ByteArray := prog_6_method_2_code
def yX4_clear : MethodName := ⟨RX4, "clear", "()V"⟩
abbrev cX4_size : ByteArray := prog_6_method_3_code
def yX4_size : MethodName := ⟨RX4, "size", "()I"⟩
abbrev cX4_isFull : ByteArray := prog_6_method_4_code
def yX4_isFull : MethodName := ⟨RX4, "isFull", "()Z"⟩
abbrev cX4_put : ByteArray := prog_6_method_5_code
def yX4_put : MethodName := ⟨RX4, "put", "(LDollsVote$Nursery;)V"⟩
abbrev cX4_takeInto : ByteArray := prog_6_method_6_code
def yX4_takeInto : MethodName := ⟨RX4, "takeInto", "(LDollsVote$Nursery;)Z"⟩
abbrev cX4_dropOldest : ByteArray := prog_6_method_7_code
def yX4_dropOldest : MethodName := ⟨RX4, "dropOldest", "()V"⟩
def RX5 : String := "DollsVote$Sightings"
def TX5 : u_T := fun k => match k with
  | 0 => ("DollsVote$Sightings", "days", "[I", true)
  | 1 => ("DollsVote$Sightings", "houses", "[I", true)
  | 2 => ("DollsVote$Sightings", "rooms", "[I", true)
  | 3 => ("DollsVote$Sightings", "things", "[I", true)
  | _ => ("DollsVote$Sightings", "size", "I", false)
def tyX5 : Nat → FieldType := fun k => match k with
  | 0 => .array .int
  | 1 => .array .int
  | 2 => .array .int
  | 3 => .array .int
  | _ => .int
abbrev wsX50 : List Cond := u_ws RX5 TX5 5
theorem nmX5 : ∀ a, a < 5 → ∀ b, b < 5 → a ≠ b → (TX5 a).2.1 ≠ (TX5 b).2.1 := by decide +kernel
theorem tyX5_ok : ∀ k, k < 5 → parseFieldDescriptor (TX5 k).2.2.1 = some (tyX5 k) := by decide +kernel
abbrev cX5_init : ByteArray := prog_7_method_1_code
def yX5_init : MethodName := ⟨RX5, "<init>", "()V"⟩
abbrev cX5_size : ByteArray := prog_7_method_2_code
def yX5_size : MethodName := ⟨RX5, "size", "()I"⟩
abbrev cX5_clear : ByteArray := prog_7_method_3_code
def yX5_clear : MethodName := ⟨RX5, "clear", "()V"⟩
abbrev cX5_add : ByteArray := prog_7_method_4_code
def yX5_add : MethodName := ⟨RX5, "add", "(IIII)Z"⟩
abbrev cX5_comeTrueIn : ByteArray := prog_7_method_5_code
def yX5_comeTrueIn : MethodName := ⟨RX5, "comeTrueIn", "(LDollsVote$Nursery;)Z"⟩
abbrev cX5_furthestDay : ByteArray := prog_7_method_6_code
def yX5_furthestDay : MethodName := ⟨RX5, "furthestDay", "()I"⟩
abbrev cX5_areSo : ByteArray := prog_7_method_7_code
def yX5_areSo : MethodName := ⟨RX5, "areSo", "(ILDollsVote$Nursery;)Z"⟩
def RX6 : String := "DollsVote"
def TX6 : u_T := fun k => match k with
  | 0 => ("DollsVote", "text", "LDollsVote$Letters;", true)
  | 1 => ("DollsVote", "now", "LDollsVote$Nursery;", true)
  | 2 => ("DollsVote", "trial", "LDollsVote$Nursery;", true)
  | 3 => ("DollsVote", "past", "LDollsVote$Pile;", true)
  | 4 => ("DollsVote", "kept", "LDollsVote$Pile;", true)
  | 5 => ("DollsVote", "sightings", "LDollsVote$Sightings;", true)
  | 6 => ("DollsVote", "outlook", "LDollsVote$Outlook;", true)
  | _ => ("DollsVote", "chances", "LDollsVote$Chances;", true)
def tyX6 : Nat → FieldType := fun k => match k with
  | 0 => .object "DollsVote$Letters"
  | 1 => .object "DollsVote$Nursery"
  | 2 => .object "DollsVote$Nursery"
  | 3 => .object "DollsVote$Pile"
  | 4 => .object "DollsVote$Pile"
  | 5 => .object "DollsVote$Sightings"
  | 6 => .object "DollsVote$Outlook"
  | _ => .object "DollsVote$Chances"
abbrev wsX60 : List Cond := u_ws RX6 TX6 8
theorem nmX6 : ∀ a, a < 8 → ∀ b, b < 8 → a ≠ b → (TX6 a).2.1 ≠ (TX6 b).2.1 := by decide +kernel
theorem tyX6_ok : ∀ k, k < 8 → parseFieldDescriptor (TX6 k).2.2.1 = some (tyX6 k) := by decide +kernel
abbrev cX6_init : ByteArray := prog_1_method_1_code
def yX6_init : MethodName := ⟨RX6, "<init>", "()V"⟩
abbrev cX6_write : ByteArray := prog_1_method_2_code
def yX6_write : MethodName := ⟨RX6, "write", "(I)I"⟩
abbrev cX6_wipe : ByteArray := prog_1_method_3_code
def yX6_wipe : MethodName := ⟨RX6, "wipe", "()I"⟩
abbrev cX6_fault : ByteArray := prog_1_method_4_code
def yX6_fault : MethodName := ⟨RX6, "fault", "()I"⟩
abbrev cX6_lay : ByteArray := prog_1_method_5_code
def yX6_lay : MethodName := ⟨RX6, "lay", "()I"⟩
abbrev cX6_room : ByteArray := prog_1_method_6_code
def yX6_room : MethodName := ⟨RX6, "room", "(II)I"⟩
abbrev cX6_house : ByteArray := prog_1_method_7_code
def yX6_house : MethodName := ⟨RX6, "house", "(II)I"⟩
abbrev cX6_wanted : ByteArray := prog_1_method_8_code
def yX6_wanted : MethodName := ⟨RX6, "wanted", "(I)I"⟩
abbrev cX6_pass : ByteArray := prog_1_method_9_code
def yX6_pass : MethodName := ⟨RX6, "pass", "(I)I"⟩
abbrev cX6_pin : ByteArray := prog_1_method_10_code
def yX6_pin : MethodName := ⟨RX6, "pin", "(III)I"⟩
abbrev cX6_sneeze : ByteArray := prog_1_method_11_code
def yX6_sneeze : MethodName := ⟨RX6, "sneeze", "(I)I"⟩
abbrev cX6_mouse : ByteArray := prog_1_method_12_code
def yX6_mouse : MethodName := ⟨RX6, "mouse", "(I)I"⟩
abbrev cX6_chase : ByteArray := prog_1_method_13_code
def yX6_chase : MethodName := ⟨RX6, "chase", "(I)I"⟩
abbrev cX6_want : ByteArray := prog_1_method_14_code
def yX6_want : MethodName := ⟨RX6, "want", "(II)I"⟩
abbrev cX6_undo : ByteArray := prog_1_method_15_code
def yX6_undo : MethodName := ⟨RX6, "undo", "()I"⟩
abbrev cX6_behind : ByteArray := prog_1_method_16_code
def yX6_behind : MethodName := ⟨RX6, "behind", "(III)I"⟩
abbrev cX6_when : ByteArray := prog_1_method_17_code
def yX6_when : MethodName := ⟨RX6, "when", "(II)I"⟩
abbrev cX6_rest : ByteArray := prog_1_method_18_code
def yX6_rest : MethodName := ⟨RX6, "rest", "()I"⟩
abbrev cX6_met : ByteArray := prog_1_method_19_code
def yX6_met : MethodName := ⟨RX6, "met", "(I)I"⟩
abbrev cX6_pins : ByteArray := prog_1_method_20_code
def yX6_pins : MethodName := ⟨RX6, "pins", "(II)I"⟩
abbrev cX6_one : ByteArray := prog_1_method_21_code
def yX6_one : MethodName := ⟨RX6, "one", "(II)I"⟩
abbrev cX6_harm : ByteArray := prog_1_method_22_code
def yX6_harm : MethodName := ⟨RX6, "harm", "(II)I"⟩
abbrev cX6_seen : ByteArray := prog_1_method_23_code
def yX6_seen : MethodName := ⟨RX6, "seen", "(IIII)I"⟩
abbrev cX6_forget : ByteArray := prog_1_method_24_code
def yX6_forget : MethodName := ⟨RX6, "forget", "()I"⟩
abbrev cX6_kinds : ByteArray := prog_1_method_25_code
def yX6_kinds : MethodName := ⟨RX6, "kinds", "(I)I"⟩
abbrev cX6_stood : ByteArray := prog_1_method_26_code
def yX6_stood : MethodName := ⟨RX6, "stood", "(I)I"⟩
abbrev cX6_tells : ByteArray := prog_1_method_27_code
def yX6_tells : MethodName := ⟨RX6, "tells", "(III)I"⟩
abbrev cX6_likely : ByteArray := prog_1_method_28_code
def yX6_likely : MethodName := ⟨RX6, "likely", "(IIIII)I"⟩
abbrev cX6_century : ByteArray := prog_1_method_29_code
def yX6_century : MethodName := ⟨RX6, "century", "(III)I"⟩
abbrev cX6_keep : ByteArray := prog_1_method_30_code
def yX6_keep : MethodName := ⟨RX6, "keep", "()I"⟩
abbrev cX6_back : ByteArray := prog_1_method_31_code
def yX6_back : MethodName := ⟨RX6, "back", "()I"⟩
abbrev cX6_count : ByteArray := prog_1_method_32_code
def yX6_count : MethodName := ⟨RX6, "count", "(I)I"⟩
abbrev cX6_setMouse : ByteArray := prog_1_method_33_code
def yX6_setMouse : MethodName := ⟨RX6, "setMouse", "(IZ)I"⟩
abbrev cX6_orNone : ByteArray := prog_1_method_34_code
def yX6_orNone : MethodName := ⟨RX6, "orNone", "(I)I"⟩
abbrev cX6_isThing : ByteArray := prog_1_method_35_code
def yX6_isThing : MethodName := ⟨RX6, "isThing", "(I)Z"⟩
abbrev cX6_within : ByteArray := prog_1_method_36_code
def yX6_within : MethodName := ⟨RX6, "within", "(III)Z"⟩
abbrev cX6_power : ByteArray := prog_1_method_37_code
def yX6_power : MethodName := ⟨RX6, "power", "(II)I"⟩
abbrev cX6_commonDivisor : ByteArray := prog_1_method_38_code
def yX6_commonDivisor : MethodName := ⟨RX6, "commonDivisor", "(II)I"⟩
def RX7 : String := "DollsVoteModel"
def TX7 : u_T := fun k => match k with
  | 0 => ("DollsVoteModel", "houses", "I", false)
  | 1 => ("DollsVoteModel", "rooms", "I", false)
  | 2 => ("DollsVoteModel", "kindOf", "[I", true)
  | 3 => ("DollsVoteModel", "day", "I", false)
  | 4 => ("DollsVoteModel", "things", "[I", true)
  | 5 => ("DollsVoteModel", "mice", "[I", true)
  | 6 => ("DollsVoteModel", "wants", "[I", true)
  | 7 => ("DollsVoteModel", "seenMany", "I", false)
  | 8 => ("DollsVoteModel", "seenBehind", "[I", true)
  | 9 => ("DollsVoteModel", "seenAt", "[I", true)
  | 10 => ("DollsVoteModel", "seenThing", "[I", true)
  | 11 => ("DollsVoteModel", "text", "[I", true)
  | 12 => ("DollsVoteModel", "size", "I", false)
  | 13 => ("DollsVoteModel", "readAt", "I", false)
  | 14 => ("DollsVoteModel", "readHouses", "I", false)
  | 15 => ("DollsVoteModel", "readRooms", "I", false)
  | 16 => ("DollsVoteModel", "readKinds", "[I", true)
  | 17 => ("DollsVoteModel", "readThings", "[I", true)
  | 18 => ("DollsVoteModel", "readMice", "[I", true)
  | 19 => ("DollsVoteModel", "readWants", "[I", true)
  | 20 => ("DollsVoteModel", "then", "[I", true)
  | 21 => ("DollsVoteModel", "ahead", "[I", true)
  | 22 => ("DollsVoteModel", "undoMany", "I", false)
  | 23 => ("DollsVoteModel", "aside", "[I", true)
  | 24 => ("DollsVoteModel", "pinned", "[I", true)
  | 25 => ("DollsVoteModel", "tally", "[I", true)
  | 26 => ("DollsVoteModel", "kept", "[I", true)
  | _ => ("DollsVoteModel", "keptMany", "I", false)
def tyX7 : Nat → FieldType := fun k => match k with
  | 0 => .int
  | 1 => .int
  | 2 => .array .int
  | 3 => .int
  | 4 => .array .int
  | 5 => .array .int
  | 6 => .array .int
  | 7 => .int
  | 8 => .array .int
  | 9 => .array .int
  | 10 => .array .int
  | 11 => .array .int
  | 12 => .int
  | 13 => .int
  | 14 => .int
  | 15 => .int
  | 16 => .array .int
  | 17 => .array .int
  | 18 => .array .int
  | 19 => .array .int
  | 20 => .array .int
  | 21 => .array .int
  | 22 => .int
  | 23 => .array .int
  | 24 => .array .int
  | 25 => .array .int
  | 26 => .array .int
  | _ => .int
abbrev wsX70 : List Cond := u_ws RX7 TX7 28
theorem nmX7 : ∀ a, a < 28 → ∀ b, b < 28 → a ≠ b → (TX7 a).2.1 ≠ (TX7 b).2.1 := by decide +kernel
theorem tyX7_ok : ∀ k, k < 28 → parseFieldDescriptor (TX7 k).2.2.1 = some (tyX7 k) := by decide +kernel
abbrev cX7_in : ByteArray := prog_9_method_1_code
def yX7_in : MethodName := ⟨RX7, "in", "(III)Z"⟩
abbrev cX7_has : ByteArray := prog_9_method_2_code
def yX7_has : MethodName := ⟨RX7, "has", "(II)Z"⟩
abbrev cX7_bits : ByteArray := prog_9_method_3_code
def yX7_bits : MethodName := ⟨RX7, "bits", "(I)I"⟩
abbrev cX7_init : ByteArray := prog_9_method_4_code
def yX7_init : MethodName := ⟨RX7, "<init>", "()V"⟩
abbrev cX7_first : ByteArray := prog_9_method_5_code
def yX7_first : MethodName := ⟨RX7, "first", "(II)V"⟩
abbrev cX7_isHouse : ByteArray := prog_9_method_6_code
def yX7_isHouse : MethodName := ⟨RX7, "isHouse", "(I)Z"⟩
abbrev cX7_isRoom : ByteArray := prog_9_method_7_code
def yX7_isRoom : MethodName := ⟨RX7, "isRoom", "(I)Z"⟩
abbrev cX7_write : ByteArray := prog_9_method_8_code
def yX7_write : MethodName := ⟨RX7, "write", "(I)I"⟩
abbrev cX7_wipe : ByteArray := prog_9_method_9_code
def yX7_wipe : MethodName := ⟨RX7, "wipe", "()I"⟩
abbrev cX7_here : ByteArray := prog_9_method_10_code
def yX7_here : MethodName := ⟨RX7, "here", "()I"⟩
abbrev cX7_figure : ByteArray := prog_9_method_11_code
def yX7_figure : MethodName := ⟨RX7, "figure", "(I)I"⟩
abbrev cX7_sign : ByteArray := prog_9_method_12_code
def yX7_sign : MethodName := ⟨RX7, "sign", "(I)Z"⟩
abbrev cX7_readsHouse : ByteArray := prog_9_method_13_code
def yX7_readsHouse : MethodName := ⟨RX7, "readsHouse", "()Z"⟩
abbrev cX7_readsMouse : ByteArray := prog_9_method_14_code
def yX7_readsMouse : MethodName := ⟨RX7, "readsMouse", "()Z"⟩
abbrev cX7_readsWant : ByteArray := prog_9_method_15_code
def yX7_readsWant : MethodName := ⟨RX7, "readsWant", "()Z"⟩
abbrev cX7_readsItem : ByteArray := prog_9_method_16_code
def yX7_readsItem : MethodName := ⟨RX7, "readsItem", "()Z"⟩
abbrev cX7_fault : ByteArray := prog_9_method_17_code
def yX7_fault : MethodName := ⟨RX7, "fault", "()I"⟩
abbrev cX7_lay : ByteArray := prog_9_method_18_code
def yX7_lay : MethodName := ⟨RX7, "lay", "()I"⟩
abbrev cX7_room : ByteArray := prog_9_method_19_code
def yX7_room : MethodName := ⟨RX7, "room", "(II)I"⟩
abbrev cX7_house : ByteArray := prog_9_method_20_code
def yX7_house : MethodName := ⟨RX7, "house", "(II)I"⟩
abbrev cX7_wanted : ByteArray := prog_9_method_21_code
def yX7_wanted : MethodName := ⟨RX7, "wanted", "(I)I"⟩
abbrev cX7_thingThen : ByteArray := prog_9_method_22_code
def yX7_thingThen : MethodName := ⟨RX7, "thingThen", "(II)I"⟩
abbrev cX7_passes : ByteArray := prog_9_method_23_code
def yX7_passes : MethodName := ⟨RX7, "passes", "()Z"⟩
abbrev cX7_goesOn : ByteArray := prog_9_method_24_code
def yX7_goesOn : MethodName := ⟨RX7, "goesOn", "(I)V"⟩
abbrev cX7_metNow : ByteArray := prog_9_method_25_code
def yX7_metNow : MethodName := ⟨RX7, "metNow", "()I"⟩
abbrev cX7_wantedAll : ByteArray := prog_9_method_26_code
def yX7_wantedAll : MethodName := ⟨RX7, "wantedAll", "()I"⟩
abbrev cX7_mouseMany : ByteArray := prog_9_method_27_code
def yX7_mouseMany : MethodName := ⟨RX7, "mouseMany", "()I"⟩
abbrev cX7_lays : ByteArray := prog_9_method_28_code
def yX7_lays : MethodName := ⟨RX7, "lays", "([II)V"⟩
abbrev cX7_takes : ByteArray := prog_9_method_29_code
def yX7_takes : MethodName := ⟨RX7, "takes", "([II)V"⟩
abbrev cX7_notes : ByteArray := prog_9_method_30_code
def yX7_notes : MethodName := ⟨RX7, "notes", "()V"⟩
abbrev cX7_pass : ByteArray := prog_9_method_31_code
def yX7_pass : MethodName := ⟨RX7, "pass", "(I)I"⟩
abbrev cX7_pin : ByteArray := prog_9_method_32_code
def yX7_pin : MethodName := ⟨RX7, "pin", "(III)I"⟩
abbrev cX7_sneezes : ByteArray := prog_9_method_33_code
def yX7_sneezes : MethodName := ⟨RX7, "sneezes", "(I)V"⟩
abbrev cX7_sneeze : ByteArray := prog_9_method_34_code
def yX7_sneeze : MethodName := ⟨RX7, "sneeze", "(I)I"⟩
abbrev cX7_mousing : ByteArray := prog_9_method_35_code
def yX7_mousing : MethodName := ⟨RX7, "mousing", "(II)I"⟩
abbrev cX7_mouse : ByteArray := prog_9_method_36_code
def yX7_mouse : MethodName := ⟨RX7, "mouse", "(I)I"⟩
abbrev cX7_chase : ByteArray := prog_9_method_37_code
def yX7_chase : MethodName := ⟨RX7, "chase", "(I)I"⟩
abbrev cX7_want : ByteArray := prog_9_method_38_code
def yX7_want : MethodName := ⟨RX7, "want", "(II)I"⟩
abbrev cX7_undo : ByteArray := prog_9_method_39_code
def yX7_undo : MethodName := ⟨RX7, "undo", "()I"⟩
abbrev cX7_puts : ByteArray := prog_9_method_40_code
def yX7_puts : MethodName := ⟨RX7, "puts", "()V"⟩
abbrev cX7_puttingBack : ByteArray := prog_9_method_41_code
def yX7_puttingBack : MethodName := ⟨RX7, "puttingBack", "()V"⟩
abbrev cX7_behind : ByteArray := prog_9_method_42_code
def yX7_behind : MethodName := ⟨RX7, "behind", "(III)I"⟩
abbrev cX7_when : ByteArray := prog_9_method_43_code
def yX7_when : MethodName := ⟨RX7, "when", "(II)I"⟩
abbrev cX7_rest : ByteArray := prog_9_method_44_code
def yX7_rest : MethodName := ⟨RX7, "rest", "()I"⟩
abbrev cX7_metBehind : ByteArray := prog_9_method_45_code
def yX7_metBehind : MethodName := ⟨RX7, "metBehind", "(I)I"⟩
abbrev cX7_met : ByteArray := prog_9_method_46_code
def yX7_met : MethodName := ⟨RX7, "met", "(I)I"⟩
abbrev cX7_pinsFor : ByteArray := prog_9_method_47_code
def yX7_pinsFor : MethodName := ⟨RX7, "pinsFor", "(I)I"⟩
abbrev cX7_pins : ByteArray := prog_9_method_48_code
def yX7_pins : MethodName := ⟨RX7, "pins", "(II)I"⟩
abbrev cX7_one : ByteArray := prog_9_method_49_code
def yX7_one : MethodName := ⟨RX7, "one", "(II)I"⟩
abbrev cX7_harm : ByteArray := prog_9_method_50_code
def yX7_harm : MethodName := ⟨RX7, "harm", "(II)I"⟩
abbrev cX7_seen : ByteArray := prog_9_method_51_code
def yX7_seen : MethodName := ⟨RX7, "seen", "(IIII)I"⟩
abbrev cX7_forget : ByteArray := prog_9_method_52_code
def yX7_forget : MethodName := ⟨RX7, "forget", "()I"⟩
abbrev cX7_isSo : ByteArray := prog_9_method_53_code
def yX7_isSo : MethodName := ⟨RX7, "isSo", "()Z"⟩
abbrev cX7_kinds : ByteArray := prog_9_method_54_code
def yX7_kinds : MethodName := ⟨RX7, "kinds", "(I)I"⟩
abbrev cX7_stood : ByteArray := prog_9_method_55_code
def yX7_stood : MethodName := ⟨RX7, "stood", "(I)I"⟩
abbrev cX7_rowBehind : ByteArray := prog_9_method_56_code
def yX7_rowBehind : MethodName := ⟨RX7, "rowBehind", "(II)I"⟩
abbrev cX7_unlike : ByteArray := prog_9_method_57_code
def yX7_unlike : MethodName := ⟨RX7, "unlike", "(III)I"⟩
abbrev cX7_tells : ByteArray := prog_9_method_58_code
def yX7_tells : MethodName := ⟨RX7, "tells", "(III)I"⟩
abbrev cX7_common : ByteArray := prog_9_method_59_code
def yX7_common : MethodName := ⟨RX7, "common", "(JJ)J"⟩
abbrev cX7_likely : ByteArray := prog_9_method_60_code
def yX7_likely : MethodName := ⟨RX7, "likely", "(IIIII)I"⟩
abbrev cX7_century : ByteArray := prog_9_method_61_code
def yX7_century : MethodName := ⟨RX7, "century", "(III)I"⟩
abbrev cX7_keep : ByteArray := prog_9_method_62_code
def yX7_keep : MethodName := ⟨RX7, "keep", "()I"⟩
abbrev cX7_back : ByteArray := prog_9_method_63_code
def yX7_back : MethodName := ⟨RX7, "back", "()I"⟩
abbrev cX7_count : ByteArray := prog_9_method_64_code
def yX7_count : MethodName := ⟨RX7, "count", "(I)I"⟩
def RJ6 : String := "java/lang/Integer"
abbrev cJ6_bitCount_0f7a4 : ByteArray := prog_10_method_49_code
def yJ6_bitCount_0f7a4 : MethodName := ⟨RJ6, "bitCount", "(I)I"⟩
def RJ7 : String := "java/util/Arrays"
abbrev cJ7_fill_53178 : ByteArray := prog_16_method_103_code
def yJ7_fill_53178 : MethodName := ⟨RJ7, "fill", "([II)V"⟩
def RJ0 : String := "java/lang/String"
abbrev cJ0_length_8abf5 : ByteArray := prog_12_method_54_code
def yJ0_length_8abf5 : MethodName := ⟨RJ0, "length", "()I"⟩
abbrev cJ0_charAt_5068e : ByteArray := prog_12_method_56_code
def yJ0_charAt_5068e : MethodName := ⟨RJ0, "charAt", "(I)C"⟩
