section
-- ===== PART A: goes FIRST, ahead of the names: the tables' words, and 'selects' of the private methods out of them =====
/-- a private method of a class that the tables say can be made, by its rows of tables_1 -/
def lw_okq (q : MethodName × Nat) : Prop := (q.1.cls ≠ "java/lang/invoke/MethodHandle" ∧ q.1.cls ≠ "java/lang/invoke/VarHandle") ∧ Cond.instantiable q.1.cls q.2 ∈ tables_1 ∧ Cond.privateMethod q.1 ∈ tables_1 ∧ Cond.instanceMethod q.1 ∈ tables_1
theorem lw_p0 : lw_okq (⟨"DollsVote$Letters", "itemEnd", "(ILDollsVote$Nursery;)I"⟩, 2) := ⟨⟨by decide +kernel, by decide +kernel⟩, List.mem_of_getElem? (i := 26) (by decide +kernel), List.mem_of_getElem? (i := 203) (by decide +kernel), List.mem_of_getElem? (i := 204) (by decide +kernel)⟩
theorem lw_p1 : lw_okq (⟨"DollsVote$Letters", "letterAt", "(I)I"⟩, 2) := ⟨⟨by decide +kernel, by decide +kernel⟩, List.mem_of_getElem? (i := 26) (by decide +kernel), List.mem_of_getElem? (i := 207) (by decide +kernel), List.mem_of_getElem? (i := 208) (by decide +kernel)⟩
theorem lw_p2 : lw_okq (⟨"DollsVote$Letters", "houseEnd", "(ILDollsVote$Nursery;)I"⟩, 2) := ⟨⟨by decide +kernel, by decide +kernel⟩, List.mem_of_getElem? (i := 26) (by decide +kernel), List.mem_of_getElem? (i := 211) (by decide +kernel), List.mem_of_getElem? (i := 212) (by decide +kernel)⟩
theorem lw_p3 : lw_okq (⟨"DollsVote$Letters", "figureAt", "(I)I"⟩, 2) := ⟨⟨by decide +kernel, by decide +kernel⟩, List.mem_of_getElem? (i := 26) (by decide +kernel), List.mem_of_getElem? (i := 215) (by decide +kernel), List.mem_of_getElem? (i := 216) (by decide +kernel)⟩
theorem lw_p4 : lw_okq (⟨"DollsVote$Letters", "figuresFrom", "(I)I"⟩, 2) := ⟨⟨by decide +kernel, by decide +kernel⟩, List.mem_of_getElem? (i := 26) (by decide +kernel), List.mem_of_getElem? (i := 222) (by decide +kernel), List.mem_of_getElem? (i := 223) (by decide +kernel)⟩
theorem lw_p5 : lw_okq (⟨"DollsVote$Letters", "mouseEnd", "(ILDollsVote$Nursery;)I"⟩, 2) := ⟨⟨by decide +kernel, by decide +kernel⟩, List.mem_of_getElem? (i := 26) (by decide +kernel), List.mem_of_getElem? (i := 244) (by decide +kernel), List.mem_of_getElem? (i := 245) (by decide +kernel)⟩
theorem lw_p6 : lw_okq (⟨"DollsVote$Letters", "wishEnd", "(ILDollsVote$Nursery;)I"⟩, 2) := ⟨⟨by decide +kernel, by decide +kernel⟩, List.mem_of_getElem? (i := 26) (by decide +kernel), List.mem_of_getElem? (i := 260) (by decide +kernel), List.mem_of_getElem? (i := 261) (by decide +kernel)⟩
theorem lw_p7 : lw_okq (⟨"DollsVote$Pile", "dropOldest", "()V"⟩, 2) := ⟨⟨by decide +kernel, by decide +kernel⟩, List.mem_of_getElem? (i := 68) (by decide +kernel), List.mem_of_getElem? (i := 393) (by decide +kernel), List.mem_of_getElem? (i := 394) (by decide +kernel)⟩
theorem lw_p8 : lw_okq (⟨"DollsVote$Nursery", "takeFromWithin", "(I)Z"⟩, 7) := ⟨⟨by decide +kernel, by decide +kernel⟩, List.mem_of_getElem? (i := 40) (by decide +kernel), List.mem_of_getElem? (i := 407) (by decide +kernel), List.mem_of_getElem? (i := 408) (by decide +kernel)⟩
theorem lw_p9 : lw_okq (⟨"DollsVote$Nursery", "nextThing", "(II)I"⟩, 7) := ⟨⟨by decide +kernel, by decide +kernel⟩, List.mem_of_getElem? (i := 40) (by decide +kernel), List.mem_of_getElem? (i := 411) (by decide +kernel), List.mem_of_getElem? (i := 412) (by decide +kernel)⟩
theorem lw_p10 : lw_okq (⟨"DollsVote$Nursery", "roomAfter", "(I)I"⟩, 7) := ⟨⟨by decide +kernel, by decide +kernel⟩, List.mem_of_getElem? (i := 40) (by decide +kernel), List.mem_of_getElem? (i := 415) (by decide +kernel), List.mem_of_getElem? (i := 416) (by decide +kernel)⟩
theorem lw_p11 : lw_okq (⟨"DollsVote", "setMouse", "(IZ)I"⟩, 8) := ⟨⟨by decide +kernel, by decide +kernel⟩, List.mem_of_getElem? (i := 18) (by decide +kernel), List.mem_of_getElem? (i := 446) (by decide +kernel), List.mem_of_getElem? (i := 447) (by decide +kernel)⟩
theorem lw_p12 : lw_okq (⟨"DollsVote$Outlook", "tryThings", "(LDollsVote$Nursery;II)V"⟩, 3) := ⟨⟨by decide +kernel, by decide +kernel⟩, List.mem_of_getElem? (i := 109) (by decide +kernel), List.mem_of_getElem? (i := 532) (by decide +kernel), List.mem_of_getElem? (i := 533) (by decide +kernel)⟩
theorem lw_p13 : lw_okq (⟨"DollsVote$Outlook", "leastThingFor", "(I)I"⟩, 3) := ⟨⟨by decide +kernel, by decide +kernel⟩, List.mem_of_getElem? (i := 109) (by decide +kernel), List.mem_of_getElem? (i := 552) (by decide +kernel), List.mem_of_getElem? (i := 553) (by decide +kernel)⟩
theorem lw_p14 : lw_okq (⟨"DollsVote$Sightings", "furthestDay", "()I"⟩, 5) := ⟨⟨by decide +kernel, by decide +kernel⟩, List.mem_of_getElem? (i := 87) (by decide +kernel), List.mem_of_getElem? (i := 604) (by decide +kernel), List.mem_of_getElem? (i := 605) (by decide +kernel)⟩
theorem lw_p15 : lw_okq (⟨"DollsVote$Sightings", "areSo", "(ILDollsVote$Nursery;)Z"⟩, 5) := ⟨⟨by decide +kernel, by decide +kernel⟩, List.mem_of_getElem? (i := 87) (by decide +kernel), List.mem_of_getElem? (i := 609) (by decide +kernel), List.mem_of_getElem? (i := 610) (by decide +kernel)⟩
def lw_privs_1 : List (MethodName × Nat) := [(⟨"DollsVote$Letters", "itemEnd", "(ILDollsVote$Nursery;)I"⟩, 2), (⟨"DollsVote$Letters", "letterAt", "(I)I"⟩, 2), (⟨"DollsVote$Letters", "houseEnd", "(ILDollsVote$Nursery;)I"⟩, 2), (⟨"DollsVote$Letters", "figureAt", "(I)I"⟩, 2), (⟨"DollsVote$Letters", "figuresFrom", "(I)I"⟩, 2), (⟨"DollsVote$Letters", "mouseEnd", "(ILDollsVote$Nursery;)I"⟩, 2), (⟨"DollsVote$Letters", "wishEnd", "(ILDollsVote$Nursery;)I"⟩, 2), (⟨"DollsVote$Pile", "dropOldest", "()V"⟩, 2), (⟨"DollsVote$Nursery", "takeFromWithin", "(I)Z"⟩, 7), (⟨"DollsVote$Nursery", "nextThing", "(II)I"⟩, 7), (⟨"DollsVote$Nursery", "roomAfter", "(I)I"⟩, 7), (⟨"DollsVote", "setMouse", "(IZ)I"⟩, 8), (⟨"DollsVote$Outlook", "tryThings", "(LDollsVote$Nursery;II)V"⟩, 3), (⟨"DollsVote$Outlook", "leastThingFor", "(I)I"⟩, 3), (⟨"DollsVote$Sightings", "furthestDay", "()I"⟩, 5), (⟨"DollsVote$Sightings", "areSo", "(ILDollsVote$Nursery;)Z"⟩, 5)]
theorem lw_r1 : ∀ q ∈ lw_privs_1, lw_okq q := List.forall_mem_cons.mpr ⟨lw_p0, List.forall_mem_cons.mpr ⟨lw_p1, List.forall_mem_cons.mpr ⟨lw_p2, List.forall_mem_cons.mpr ⟨lw_p3, List.forall_mem_cons.mpr ⟨lw_p4, List.forall_mem_cons.mpr ⟨lw_p5, List.forall_mem_cons.mpr ⟨lw_p6, List.forall_mem_cons.mpr ⟨lw_p7, List.forall_mem_cons.mpr ⟨lw_p8, List.forall_mem_cons.mpr ⟨lw_p9, List.forall_mem_cons.mpr ⟨lw_p10, List.forall_mem_cons.mpr ⟨lw_p11, List.forall_mem_cons.mpr ⟨lw_p12, List.forall_mem_cons.mpr ⟨lw_p13, List.forall_mem_cons.mpr ⟨lw_p14, List.forall_mem_cons.mpr ⟨lw_p15, fun _ h => absurd h List.not_mem_nil⟩⟩⟩⟩⟩⟩⟩⟩⟩⟩⟩⟩⟩⟩⟩⟩
theorem lw_p16 : lw_okq (⟨"DollsVote$Outlook", "gatherValues", "(LDollsVote$Nursery;II)V"⟩, 3) := ⟨⟨by decide +kernel, by decide +kernel⟩, List.mem_of_getElem? (i := 109) (by decide +kernel), List.mem_of_getElem? (i := 628) (by decide +kernel), List.mem_of_getElem? (i := 629) (by decide +kernel)⟩
theorem lw_p17 : lw_okq (⟨"DollsVote$Chances", "topBehind", "(LDollsVote$Nursery;III)I"⟩, 1) := ⟨⟨by decide +kernel, by decide +kernel⟩, List.mem_of_getElem? (i := 127) (by decide +kernel), List.mem_of_getElem? (i := 650) (by decide +kernel), List.mem_of_getElem? (i := 651) (by decide +kernel)⟩
theorem lw_p18 : lw_okq (⟨"DollsVoteModel", "first", "(II)V"⟩, 28) := ⟨⟨by decide +kernel, by decide +kernel⟩, List.mem_of_getElem? (i := 707) (by decide +kernel), List.mem_of_getElem? (i := 713) (by decide +kernel), List.mem_of_getElem? (i := 714) (by decide +kernel)⟩
theorem lw_p19 : lw_okq (⟨"DollsVoteModel", "readsItem", "()Z"⟩, 28) := ⟨⟨by decide +kernel, by decide +kernel⟩, List.mem_of_getElem? (i := 707) (by decide +kernel), List.mem_of_getElem? (i := 817) (by decide +kernel), List.mem_of_getElem? (i := 818) (by decide +kernel)⟩
theorem lw_p20 : lw_okq (⟨"DollsVoteModel", "here", "()I"⟩, 28) := ⟨⟨by decide +kernel, by decide +kernel⟩, List.mem_of_getElem? (i := 707) (by decide +kernel), List.mem_of_getElem? (i := 821) (by decide +kernel), List.mem_of_getElem? (i := 822) (by decide +kernel)⟩
theorem lw_p21 : lw_okq (⟨"DollsVoteModel", "readsHouse", "()Z"⟩, 28) := ⟨⟨by decide +kernel, by decide +kernel⟩, List.mem_of_getElem? (i := 707) (by decide +kernel), List.mem_of_getElem? (i := 825) (by decide +kernel), List.mem_of_getElem? (i := 826) (by decide +kernel)⟩
theorem lw_p22 : lw_okq (⟨"DollsVoteModel", "figure", "(I)I"⟩, 28) := ⟨⟨by decide +kernel, by decide +kernel⟩, List.mem_of_getElem? (i := 707) (by decide +kernel), List.mem_of_getElem? (i := 829) (by decide +kernel), List.mem_of_getElem? (i := 830) (by decide +kernel)⟩
theorem lw_p23 : lw_okq (⟨"DollsVoteModel", "sign", "(I)Z"⟩, 28) := ⟨⟨by decide +kernel, by decide +kernel⟩, List.mem_of_getElem? (i := 707) (by decide +kernel), List.mem_of_getElem? (i := 833) (by decide +kernel), List.mem_of_getElem? (i := 834) (by decide +kernel)⟩
theorem lw_p24 : lw_okq (⟨"DollsVoteModel", "readsMouse", "()Z"⟩, 28) := ⟨⟨by decide +kernel, by decide +kernel⟩, List.mem_of_getElem? (i := 707) (by decide +kernel), List.mem_of_getElem? (i := 837) (by decide +kernel), List.mem_of_getElem? (i := 838) (by decide +kernel)⟩
theorem lw_p25 : lw_okq (⟨"DollsVoteModel", "readsWant", "()Z"⟩, 28) := ⟨⟨by decide +kernel, by decide +kernel⟩, List.mem_of_getElem? (i := 707) (by decide +kernel), List.mem_of_getElem? (i := 841) (by decide +kernel), List.mem_of_getElem? (i := 842) (by decide +kernel)⟩
theorem lw_p26 : lw_okq (⟨"DollsVoteModel", "isHouse", "(I)Z"⟩, 28) := ⟨⟨by decide +kernel, by decide +kernel⟩, List.mem_of_getElem? (i := 707) (by decide +kernel), List.mem_of_getElem? (i := 854) (by decide +kernel), List.mem_of_getElem? (i := 855) (by decide +kernel)⟩
theorem lw_p27 : lw_okq (⟨"DollsVoteModel", "isRoom", "(I)Z"⟩, 28) := ⟨⟨by decide +kernel, by decide +kernel⟩, List.mem_of_getElem? (i := 707) (by decide +kernel), List.mem_of_getElem? (i := 858) (by decide +kernel), List.mem_of_getElem? (i := 859) (by decide +kernel)⟩
theorem lw_p28 : lw_okq (⟨"DollsVoteModel", "notes", "()V"⟩, 28) := ⟨⟨by decide +kernel, by decide +kernel⟩, List.mem_of_getElem? (i := 707) (by decide +kernel), List.mem_of_getElem? (i := 874) (by decide +kernel), List.mem_of_getElem? (i := 875) (by decide +kernel)⟩
theorem lw_p29 : lw_okq (⟨"DollsVoteModel", "lays", "([II)V"⟩, 28) := ⟨⟨by decide +kernel, by decide +kernel⟩, List.mem_of_getElem? (i := 707) (by decide +kernel), List.mem_of_getElem? (i := 878) (by decide +kernel), List.mem_of_getElem? (i := 879) (by decide +kernel)⟩
theorem lw_p30 : lw_okq (⟨"DollsVoteModel", "goesOn", "(I)V"⟩, 28) := ⟨⟨by decide +kernel, by decide +kernel⟩, List.mem_of_getElem? (i := 707) (by decide +kernel), List.mem_of_getElem? (i := 882) (by decide +kernel), List.mem_of_getElem? (i := 883) (by decide +kernel)⟩
theorem lw_p31 : lw_okq (⟨"DollsVoteModel", "passes", "()Z"⟩, 28) := ⟨⟨by decide +kernel, by decide +kernel⟩, List.mem_of_getElem? (i := 707) (by decide +kernel), List.mem_of_getElem? (i := 886) (by decide +kernel), List.mem_of_getElem? (i := 887) (by decide +kernel)⟩
def lw_privs_2 : List (MethodName × Nat) := [(⟨"DollsVote$Outlook", "gatherValues", "(LDollsVote$Nursery;II)V"⟩, 3), (⟨"DollsVote$Chances", "topBehind", "(LDollsVote$Nursery;III)I"⟩, 1), (⟨"DollsVoteModel", "first", "(II)V"⟩, 28), (⟨"DollsVoteModel", "readsItem", "()Z"⟩, 28), (⟨"DollsVoteModel", "here", "()I"⟩, 28), (⟨"DollsVoteModel", "readsHouse", "()Z"⟩, 28), (⟨"DollsVoteModel", "figure", "(I)I"⟩, 28), (⟨"DollsVoteModel", "sign", "(I)Z"⟩, 28), (⟨"DollsVoteModel", "readsMouse", "()Z"⟩, 28), (⟨"DollsVoteModel", "readsWant", "()Z"⟩, 28), (⟨"DollsVoteModel", "isHouse", "(I)Z"⟩, 28), (⟨"DollsVoteModel", "isRoom", "(I)Z"⟩, 28), (⟨"DollsVoteModel", "notes", "()V"⟩, 28), (⟨"DollsVoteModel", "lays", "([II)V"⟩, 28), (⟨"DollsVoteModel", "goesOn", "(I)V"⟩, 28), (⟨"DollsVoteModel", "passes", "()Z"⟩, 28)]
theorem lw_r2 : ∀ q ∈ lw_privs_2, lw_okq q := List.forall_mem_cons.mpr ⟨lw_p16, List.forall_mem_cons.mpr ⟨lw_p17, List.forall_mem_cons.mpr ⟨lw_p18, List.forall_mem_cons.mpr ⟨lw_p19, List.forall_mem_cons.mpr ⟨lw_p20, List.forall_mem_cons.mpr ⟨lw_p21, List.forall_mem_cons.mpr ⟨lw_p22, List.forall_mem_cons.mpr ⟨lw_p23, List.forall_mem_cons.mpr ⟨lw_p24, List.forall_mem_cons.mpr ⟨lw_p25, List.forall_mem_cons.mpr ⟨lw_p26, List.forall_mem_cons.mpr ⟨lw_p27, List.forall_mem_cons.mpr ⟨lw_p28, List.forall_mem_cons.mpr ⟨lw_p29, List.forall_mem_cons.mpr ⟨lw_p30, List.forall_mem_cons.mpr ⟨lw_p31, fun _ h => absurd h List.not_mem_nil⟩⟩⟩⟩⟩⟩⟩⟩⟩⟩⟩⟩⟩⟩⟩⟩
theorem lw_p32 : lw_okq (⟨"DollsVoteModel", "thingThen", "(II)I"⟩, 28) := ⟨⟨by decide +kernel, by decide +kernel⟩, List.mem_of_getElem? (i := 707) (by decide +kernel), List.mem_of_getElem? (i := 890) (by decide +kernel), List.mem_of_getElem? (i := 891) (by decide +kernel)⟩
theorem lw_p33 : lw_okq (⟨"DollsVoteModel", "sneezes", "(I)V"⟩, 28) := ⟨⟨by decide +kernel, by decide +kernel⟩, List.mem_of_getElem? (i := 707) (by decide +kernel), List.mem_of_getElem? (i := 902) (by decide +kernel), List.mem_of_getElem? (i := 903) (by decide +kernel)⟩
theorem lw_p34 : lw_okq (⟨"DollsVoteModel", "mousing", "(II)I"⟩, 28) := ⟨⟨by decide +kernel, by decide +kernel⟩, List.mem_of_getElem? (i := 707) (by decide +kernel), List.mem_of_getElem? (i := 910) (by decide +kernel), List.mem_of_getElem? (i := 911) (by decide +kernel)⟩
theorem lw_p35 : lw_okq (⟨"DollsVoteModel", "mouseMany", "()I"⟩, 28) := ⟨⟨by decide +kernel, by decide +kernel⟩, List.mem_of_getElem? (i := 707) (by decide +kernel), List.mem_of_getElem? (i := 914) (by decide +kernel), List.mem_of_getElem? (i := 915) (by decide +kernel)⟩
theorem lw_p36 : lw_okq (⟨"DollsVoteModel", "takes", "([II)V"⟩, 28) := ⟨⟨by decide +kernel, by decide +kernel⟩, List.mem_of_getElem? (i := 707) (by decide +kernel), List.mem_of_getElem? (i := 930) (by decide +kernel), List.mem_of_getElem? (i := 931) (by decide +kernel)⟩
theorem lw_p37 : lw_okq (⟨"DollsVoteModel", "puts", "()V"⟩, 28) := ⟨⟨by decide +kernel, by decide +kernel⟩, List.mem_of_getElem? (i := 707) (by decide +kernel), List.mem_of_getElem? (i := 938) (by decide +kernel), List.mem_of_getElem? (i := 939) (by decide +kernel)⟩
theorem lw_p38 : lw_okq (⟨"DollsVoteModel", "puttingBack", "()V"⟩, 28) := ⟨⟨by decide +kernel, by decide +kernel⟩, List.mem_of_getElem? (i := 707) (by decide +kernel), List.mem_of_getElem? (i := 942) (by decide +kernel), List.mem_of_getElem? (i := 943) (by decide +kernel)⟩
theorem lw_p39 : lw_okq (⟨"DollsVoteModel", "metBehind", "(I)I"⟩, 28) := ⟨⟨by decide +kernel, by decide +kernel⟩, List.mem_of_getElem? (i := 707) (by decide +kernel), List.mem_of_getElem? (i := 958) (by decide +kernel), List.mem_of_getElem? (i := 959) (by decide +kernel)⟩
theorem lw_p40 : lw_okq (⟨"DollsVoteModel", "metNow", "()I"⟩, 28) := ⟨⟨by decide +kernel, by decide +kernel⟩, List.mem_of_getElem? (i := 707) (by decide +kernel), List.mem_of_getElem? (i := 962) (by decide +kernel), List.mem_of_getElem? (i := 963) (by decide +kernel)⟩
theorem lw_p41 : lw_okq (⟨"DollsVoteModel", "pinsFor", "(I)I"⟩, 28) := ⟨⟨by decide +kernel, by decide +kernel⟩, List.mem_of_getElem? (i := 707) (by decide +kernel), List.mem_of_getElem? (i := 970) (by decide +kernel), List.mem_of_getElem? (i := 971) (by decide +kernel)⟩
theorem lw_p42 : lw_okq (⟨"DollsVoteModel", "isSo", "()Z"⟩, 28) := ⟨⟨by decide +kernel, by decide +kernel⟩, List.mem_of_getElem? (i := 707) (by decide +kernel), List.mem_of_getElem? (i := 1001) (by decide +kernel), List.mem_of_getElem? (i := 1002) (by decide +kernel)⟩
theorem lw_p43 : lw_okq (⟨"DollsVoteModel", "unlike", "(III)I"⟩, 28) := ⟨⟨by decide +kernel, by decide +kernel⟩, List.mem_of_getElem? (i := 707) (by decide +kernel), List.mem_of_getElem? (i := 1013) (by decide +kernel), List.mem_of_getElem? (i := 1014) (by decide +kernel)⟩
theorem lw_p44 : lw_okq (⟨"DollsVoteModel", "rowBehind", "(II)I"⟩, 28) := ⟨⟨by decide +kernel, by decide +kernel⟩, List.mem_of_getElem? (i := 707) (by decide +kernel), List.mem_of_getElem? (i := 1017) (by decide +kernel), List.mem_of_getElem? (i := 1018) (by decide +kernel)⟩
theorem lw_p45 : lw_okq (⟨"DollsVoteModel", "wantedAll", "()I"⟩, 28) := ⟨⟨by decide +kernel, by decide +kernel⟩, List.mem_of_getElem? (i := 707) (by decide +kernel), List.mem_of_getElem? (i := 1049) (by decide +kernel), List.mem_of_getElem? (i := 1050) (by decide +kernel)⟩
def lw_privs_3 : List (MethodName × Nat) := [(⟨"DollsVoteModel", "thingThen", "(II)I"⟩, 28), (⟨"DollsVoteModel", "sneezes", "(I)V"⟩, 28), (⟨"DollsVoteModel", "mousing", "(II)I"⟩, 28), (⟨"DollsVoteModel", "mouseMany", "()I"⟩, 28), (⟨"DollsVoteModel", "takes", "([II)V"⟩, 28), (⟨"DollsVoteModel", "puts", "()V"⟩, 28), (⟨"DollsVoteModel", "puttingBack", "()V"⟩, 28), (⟨"DollsVoteModel", "metBehind", "(I)I"⟩, 28), (⟨"DollsVoteModel", "metNow", "()I"⟩, 28), (⟨"DollsVoteModel", "pinsFor", "(I)I"⟩, 28), (⟨"DollsVoteModel", "isSo", "()Z"⟩, 28), (⟨"DollsVoteModel", "unlike", "(III)I"⟩, 28), (⟨"DollsVoteModel", "rowBehind", "(II)I"⟩, 28), (⟨"DollsVoteModel", "wantedAll", "()I"⟩, 28)]
theorem lw_r3 : ∀ q ∈ lw_privs_3, lw_okq q := List.forall_mem_cons.mpr ⟨lw_p32, List.forall_mem_cons.mpr ⟨lw_p33, List.forall_mem_cons.mpr ⟨lw_p34, List.forall_mem_cons.mpr ⟨lw_p35, List.forall_mem_cons.mpr ⟨lw_p36, List.forall_mem_cons.mpr ⟨lw_p37, List.forall_mem_cons.mpr ⟨lw_p38, List.forall_mem_cons.mpr ⟨lw_p39, List.forall_mem_cons.mpr ⟨lw_p40, List.forall_mem_cons.mpr ⟨lw_p41, List.forall_mem_cons.mpr ⟨lw_p42, List.forall_mem_cons.mpr ⟨lw_p43, List.forall_mem_cons.mpr ⟨lw_p44, List.forall_mem_cons.mpr ⟨lw_p45, fun _ h => absurd h List.not_mem_nil⟩⟩⟩⟩⟩⟩⟩⟩⟩⟩⟩⟩⟩⟩
def lw_privs : List (MethodName × Nat) := lw_privs_1 ++ (lw_privs_2 ++ (lw_privs_3))
def lw_tbl : List Cond := k2_sels lw_privs ++ tables_1
theorem lw_privs_ok : ∀ q ∈ lw_privs, lw_okq q := by
  show ∀ q ∈ lw_privs_1 ++ (lw_privs_2 ++ (lw_privs_3)), lw_okq q
  exact List.forall_mem_append.mpr ⟨lw_r1, List.forall_mem_append.mpr ⟨lw_r2, lw_r3⟩⟩
/-! names: printed by program (NAMES.whole) -/
def RX0 : String := "DollsVote$Chances"
def TX0 : u_T := fun k => match k with
  | _ => ("DollsVote$Chances", "trial", "LDollsVote$Nursery;", true)
def tyX0 : Nat → FieldType := fun k => match k with
  | _ => .object "DollsVote$Nursery"
abbrev wsX00 : List Cond := u_ws RX0 TX0 1
theorem nmX0 : ∀ a, a < 1 → ∀ b, b < 1 → a ≠ b → (TX0 a).2.1 ≠ (TX0 b).2.1 := by decide +kernel
theorem tyX0_ok : ∀ k, k < 1 → parseFieldDescriptor (TX0 k).2.2.1 = some (tyX0 k) := by decide +kernel
abbrev cX0_init : ByteArray := prog_2_method_1_code
def yX0_init : MethodName := ⟨RX0, "<init>", "()V"⟩
abbrev cX0_tellingDays : ByteArray := prog_2_method_2_code
def yX0_tellingDays : MethodName := ⟨RX0, "tellingDays", "(LDollsVote$Nursery;I)I"⟩
abbrev cX0_waysOf : ByteArray := prog_2_method_3_code
def yX0_waysOf : MethodName := ⟨RX0, "waysOf", "(LDollsVote$Nursery;IIII)I"⟩
abbrev cX0_topBehind : ByteArray := prog_2_method_4_code
def yX0_topBehind : MethodName := ⟨RX0, "topBehind", "(LDollsVote$Nursery;III)I"⟩
abbrev cX0_liveCentury : ByteArray := prog_2_method_5_code
def yX0_liveCentury : MethodName := ⟨RX0, "liveCentury", "(LDollsVote$Nursery;II)V"⟩
abbrev cX0_draw : ByteArray := prog_2_method_6_code
def yX0_draw : MethodName := ⟨RX0, "draw", "(II)I"⟩
abbrev cX0_actBy : ByteArray := prog_2_method_7_code
def yX0_actBy : MethodName := ⟨RX0, "actBy", "(LDollsVote$Nursery;I)V"⟩
abbrev cX0_modulo : ByteArray := prog_2_method_8_code
def yX0_modulo : MethodName := ⟨RX0, "modulo", "(II)I"⟩
def RX1 : String := "DollsVote$Letters"
def TX1 : u_T := fun k => match k with
  | 0 => ("DollsVote$Letters", "letters", "[I", true)
  | _ => ("DollsVote$Letters", "length", "I", false)
def tyX1 : Nat → FieldType := fun k => match k with
  | 0 => .array .int
  | _ => .int
abbrev wsX10 : List Cond := u_ws RX1 TX1 2
theorem nmX1 : ∀ a, a < 2 → ∀ b, b < 2 → a ≠ b → (TX1 a).2.1 ≠ (TX1 b).2.1 := by decide +kernel
theorem tyX1_ok : ∀ k, k < 2 → parseFieldDescriptor (TX1 k).2.2.1 = some (tyX1 k) := by decide +kernel
abbrev cX1_init : ByteArray := prog_3_method_1_code
def yX1_init : MethodName := ⟨RX1, "<init>", "()V"⟩
abbrev cX1_length : ByteArray := prog_3_method_2_code
def yX1_length : MethodName := ⟨RX1, "length", "()I"⟩
abbrev cX1_clear : ByteArray := prog_3_method_3_code
def yX1_clear : MethodName := ⟨RX1, "clear", "()V"⟩
abbrev cX1_append : ByteArray := prog_3_method_4_code
def yX1_append : MethodName := ⟨RX1, "append", "(I)Z"⟩
abbrev cX1_readInto : ByteArray := prog_3_method_5_code
def yX1_readInto : MethodName := ⟨RX1, "readInto", "(LDollsVote$Nursery;)I"⟩
abbrev cX1_itemEnd : ByteArray := prog_3_method_6_code
def yX1_itemEnd : MethodName := ⟨RX1, "itemEnd", "(ILDollsVote$Nursery;)I"⟩
abbrev cX1_houseEnd : ByteArray := prog_3_method_7_code
def yX1_houseEnd : MethodName := ⟨RX1, "houseEnd", "(ILDollsVote$Nursery;)I"⟩
abbrev cX1_mouseEnd : ByteArray := prog_3_method_8_code
def yX1_mouseEnd : MethodName := ⟨RX1, "mouseEnd", "(ILDollsVote$Nursery;)I"⟩
abbrev cX1_wishEnd : ByteArray := prog_3_method_9_code
def yX1_wishEnd : MethodName := ⟨RX1, "wishEnd", "(ILDollsVote$Nursery;)I"⟩
abbrev cX1_figuresFrom : ByteArray := prog_3_method_10_code
def yX1_figuresFrom : MethodName := ⟨RX1, "figuresFrom", "(I)I"⟩
abbrev cX1_figureAt : ByteArray := prog_3_method_11_code
def yX1_figureAt : MethodName := ⟨RX1, "figureAt", "(I)I"⟩
abbrev cX1_letterAt : ByteArray := prog_3_method_12_code
def yX1_letterAt : MethodName := ⟨RX1, "letterAt", "(I)I"⟩
def RX2 : String := "DollsVote$Nursery"
def TX2 : u_T := fun k => match k with
  | 0 => ("DollsVote$Nursery", "kinds", "[I", true)
  | 1 => ("DollsVote$Nursery", "things", "[I", true)
  | 2 => ("DollsVote$Nursery", "wishes", "[I", true)
  | 3 => ("DollsVote$Nursery", "houses", "I", false)
  | 4 => ("DollsVote$Nursery", "rooms", "I", false)
  | 5 => ("DollsVote$Nursery", "mouseBits", "I", false)
  | _ => ("DollsVote$Nursery", "day", "I", false)
def tyX2 : Nat → FieldType := fun k => match k with
  | 0 => .array .int
  | 1 => .array .int
  | 2 => .array .int
  | 3 => .int
  | 4 => .int
  | 5 => .int
  | _ => .int
abbrev wsX20 : List Cond := u_ws RX2 TX2 7
theorem nmX2 : ∀ a, a < 7 → ∀ b, b < 7 → a ≠ b → (TX2 a).2.1 ≠ (TX2 b).2.1 := by decide +kernel
theorem tyX2_ok : ∀ k, k < 7 → parseFieldDescriptor (TX2 k).2.2.1 = some (tyX2 k) := by decide +kernel
abbrev cX2_init : ByteArray := prog_4_method_1_code
def yX2_init : MethodName := ⟨RX2, "<init>", "()V"⟩
abbrev cX2_clear : ByteArray := prog_4_method_2_code
def yX2_clear : MethodName := ⟨RX2, "clear", "()V"⟩
abbrev cX2_become : ByteArray := prog_4_method_3_code
def yX2_become : MethodName := ⟨RX2, "become", "(LDollsVote$Nursery;)V"⟩
abbrev cX2_fits : ByteArray := prog_4_method_4_code
def yX2_fits : MethodName := ⟨RX2, "fits", "(I)Z"⟩
abbrev cX2_addHouse : ByteArray := prog_4_method_5_code
def yX2_addHouse : MethodName := ⟨RX2, "addHouse", "(II)V"⟩
abbrev cX2_houses : ByteArray := prog_4_method_6_code
def yX2_houses : MethodName := ⟨RX2, "houses", "()I"⟩
abbrev cX2_rooms : ByteArray := prog_4_method_7_code
def yX2_rooms : MethodName := ⟨RX2, "rooms", "()I"⟩
abbrev cX2_bottom : ByteArray := prog_4_method_8_code
def yX2_bottom : MethodName := ⟨RX2, "bottom", "()I"⟩
abbrev cX2_hasHouse : ByteArray := prog_4_method_9_code
def yX2_hasHouse : MethodName := ⟨RX2, "hasHouse", "(I)Z"⟩
abbrev cX2_hasRoom : ByteArray := prog_4_method_10_code
def yX2_hasRoom : MethodName := ⟨RX2, "hasRoom", "(I)Z"⟩
abbrev cX2_thing : ByteArray := prog_4_method_11_code
def yX2_thing : MethodName := ⟨RX2, "thing", "(II)I"⟩
abbrev cX2_place : ByteArray := prog_4_method_12_code
def yX2_place : MethodName := ⟨RX2, "place", "(III)V"⟩
abbrev cX2_placeAll : ByteArray := prog_4_method_13_code
def yX2_placeAll : MethodName := ⟨RX2, "placeAll", "(II)V"⟩
abbrev cX2_kind : ByteArray := prog_4_method_14_code
def yX2_kind : MethodName := ⟨RX2, "kind", "(I)I"⟩
abbrev cX2_setKind : ByteArray := prog_4_method_15_code
def yX2_setKind : MethodName := ⟨RX2, "setKind", "(II)V"⟩
abbrev cX2_hasMouse : ByteArray := prog_4_method_16_code
def yX2_hasMouse : MethodName := ⟨RX2, "hasMouse", "(I)Z"⟩
abbrev cX2_toggleMouse : ByteArray := prog_4_method_17_code
def yX2_toggleMouse : MethodName := ⟨RX2, "toggleMouse", "(I)V"⟩
abbrev cX2_mice : ByteArray := prog_4_method_18_code
def yX2_mice : MethodName := ⟨RX2, "mice", "()I"⟩
abbrev cX2_wish : ByteArray := prog_4_method_19_code
def yX2_wish : MethodName := ⟨RX2, "wish", "(I)I"⟩
abbrev cX2_setWish : ByteArray := prog_4_method_20_code
def yX2_setWish : MethodName := ⟨RX2, "setWish", "(II)V"⟩
abbrev cX2_wishes : ByteArray := prog_4_method_21_code
def yX2_wishes : MethodName := ⟨RX2, "wishes", "()I"⟩
abbrev cX2_metRooms : ByteArray := prog_4_method_22_code
def yX2_metRooms : MethodName := ⟨RX2, "metRooms", "()I"⟩
abbrev cX2_day : ByteArray := prog_4_method_23_code
def yX2_day : MethodName := ⟨RX2, "day", "()I"⟩
abbrev cX2_addDays : ByteArray := prog_4_method_24_code
def yX2_addDays : MethodName := ⟨RX2, "addDays", "(I)V"⟩
abbrev cX2_shift : ByteArray := prog_4_method_25_code
def yX2_shift : MethodName := ⟨RX2, "shift", "(I)V"⟩
abbrev cX2_comeUp : ByteArray := prog_4_method_26_code
def yX2_comeUp : MethodName := ⟨RX2, "comeUp", "()Z"⟩
abbrev cX2_live : ByteArray := prog_4_method_27_code
def yX2_live : MethodName := ⟨RX2, "live", "(I)V"⟩
abbrev cX2_takeFromWithin : ByteArray := prog_4_method_28_code
def yX2_takeFromWithin : MethodName := ⟨RX2, "takeFromWithin", "(I)Z"⟩
abbrev cX2_nextThing : ByteArray := prog_4_method_29_code
def yX2_nextThing : MethodName := ⟨RX2, "nextThing", "(II)I"⟩
abbrev cX2_nearer : ByteArray := prog_4_method_30_code
def yX2_nearer : MethodName := ⟨RX2, "nearer", "(II)I"⟩
abbrev cX2_roomAfter : ByteArray := prog_4_method_31_code
def yX2_roomAfter : MethodName := ⟨RX2, "roomAfter", "(I)I"⟩
abbrev cX2_roomAbove : ByteArray := prog_4_method_32_code
def yX2_roomAbove : MethodName := ⟨RX2, "roomAbove", "(III)I"⟩
def RX3 : String := "DollsVote$Outlook"
def TX3 : u_T := fun k => match k with
  | 0 => ("DollsVote$Outlook", "trial", "LDollsVote$Nursery;", true)
  | 1 => ("DollsVote$Outlook", "metBy", "[I", true)
  | _ => ("DollsVote$Outlook", "valuesBy", "[I", true)
def tyX3 : Nat → FieldType := fun k => match k with
  | 0 => .object "DollsVote$Nursery"
  | 1 => .array .int
  | _ => .array .int
abbrev wsX30 : List Cond := u_ws RX3 TX3 3
theorem nmX3 : ∀ a, a < 3 → ∀ b, b < 3 → a ≠ b → (TX3 a).2.1 ≠ (TX3 b).2.1 := by decide +kernel
theorem tyX3_ok : ∀ k, k < 3 → parseFieldDescriptor (TX3 k).2.2.1 = some (tyX3 k) := by decide +kernel
abbrev cX3_init : ByteArray := prog_5_method_1_code
def yX3_init : MethodName := ⟨RX3, "<init>", "()V"⟩
abbrev cX3_thingBehind : ByteArray := prog_5_method_2_code
def yX3_thingBehind : MethodName := ⟨RX3, "thingBehind", "(LDollsVote$Nursery;III)I"⟩
abbrev cX3_metBehind : ByteArray := prog_5_method_3_code
def yX3_metBehind : MethodName := ⟨RX3, "metBehind", "(LDollsVote$Nursery;I)I"⟩
abbrev cX3_firstDayOf : ByteArray := prog_5_method_4_code
def yX3_firstDayOf : MethodName := ⟨RX3, "firstDayOf", "(LDollsVote$Nursery;II)I"⟩
abbrev cX3_firstQuietDay : ByteArray := prog_5_method_5_code
def yX3_firstQuietDay : MethodName := ⟨RX3, "firstQuietDay", "(LDollsVote$Nursery;)I"⟩
abbrev cX3_fewestPins : ByteArray := prog_5_method_6_code
def yX3_fewestPins : MethodName := ⟨RX3, "fewestPins", "(LDollsVote$Nursery;II)I"⟩
abbrev cX3_leastThingFor : ByteArray := prog_5_method_7_code
def yX3_leastThingFor : MethodName := ⟨RX3, "leastThingFor", "(I)I"⟩
abbrev cX3_bestPin : ByteArray := prog_5_method_8_code
def yX3_bestPin : MethodName := ⟨RX3, "bestPin", "(LDollsVote$Nursery;IZ)I"⟩
abbrev cX3_tryThings : ByteArray := prog_5_method_9_code
def yX3_tryThings : MethodName := ⟨RX3, "tryThings", "(LDollsVote$Nursery;II)V"⟩
abbrev cX3_worstMouse : ByteArray := prog_5_method_10_code
def yX3_worstMouse : MethodName := ⟨RX3, "worstMouse", "(LDollsVote$Nursery;IZ)I"⟩
abbrev cX3_mostTelling : ByteArray := prog_5_method_11_code
def yX3_mostTelling : MethodName := ⟨RX3, "mostTelling", "(LDollsVote$Nursery;IIZ)I"⟩
abbrev cX3_gatherValues : ByteArray := prog_5_method_12_code
def yX3_gatherValues : MethodName := ⟨RX3, "gatherValues", "(LDollsVote$Nursery;II)V"⟩
abbrev cX3_hasBit : ByteArray := prog_5_method_13_code
def yX3_hasBit : MethodName := ⟨RX3, "hasBit", "(II)Z"⟩
def RX4 : String := "DollsVote$Pile"
def TX4 : u_T := fun k => match k with
  | 0 => ("DollsVote$Pile", "copies", "[LDollsVote$Nursery;", true)
  | _ => ("DollsVote$Pile", "size", "I", false)
def tyX4 : Nat → FieldType := fun k => match k with
  | 0 => .array (.object "DollsVote$Nursery")
  | _ => .int
abbrev wsX40 : List Cond := u_ws RX4 TX4 2
theorem nmX4 : ∀ a, a < 2 → ∀ b, b < 2 → a ≠ b → (TX4 a).2.1 ≠ (TX4 b).2.1 := by decide +kernel
theorem tyX4_ok : ∀ k, k < 2 → parseFieldDescriptor (TX4 k).2.2.1 = some (tyX4 k) := by decide +kernel
abbrev cX4_init : ByteArray := prog_6_method_1_code
def yX4_init : MethodName := ⟨RX4, "<init>", "(I)V"⟩
abbrev cX4_clear : ByteArray := prog_6_method_2_code
def yX4_clear : MethodName := ⟨RX4, "clear", "()V"⟩
abbrev cX4_size : ByteArray := prog_6_method_3_code
def yX4_size : MethodName := ⟨RX4, "size", "()I"⟩
abbrev cX4_isFull : ByteArray := prog_6_method_4_code
def yX4_isFull : MethodName := ⟨RX4, "isFull", "()Z"⟩
abbrev cX4_put : ByteArray := prog_6_method_5_code
def yX4_put : MethodName := ⟨RX4, "put", "(LDollsVote$Nursery;)V"⟩
abbrev cX4_takeInto : ByteArray := prog_6_method_6_code
def yX4_takeInto : MethodName := ⟨RX4, "takeInto", "(LDollsVote$Nursery;)Z"⟩
abbrev cX4_dropOldest : ByteArray := prog_6_method_7_code
def yX4_dropOldest : MethodName := ⟨RX4, "dropOldest", "()V"⟩
def RX5 : String := "DollsVote$Sightings"
def TX5 : u_T := fun k => match k with
  | 0 => ("DollsVote$Sightings", "days", "[I", true)
  | 1 => ("DollsVote$Sightings", "houses", "[I", true)
  | 2 => ("DollsVote$Sightings", "rooms", "[I", true)
  | 3 => ("DollsVote$Sightings", "things", "[I", true)
  | _ => ("DollsVote$Sightings", "size", "I", false)
def tyX5 : Nat → FieldType := fun k => match k with
  | 0 => .array .int
  | 1 => .array .int
  | 2 => .array .int
  | 3 => .array .int
  | _ => .int
abbrev wsX50 : List Cond := u_ws RX5 TX5 5
theorem nmX5 : ∀ a, a < 5 → ∀ b, b < 5 → a ≠ b → (TX5 a).2.1 ≠ (TX5 b).2.1 := by decide +kernel
theorem tyX5_ok : ∀ k, k < 5 → parseFieldDescriptor (TX5 k).2.2.1 = some (tyX5 k) := by decide +kernel
abbrev cX5_init : ByteArray := prog_7_method_1_code
def yX5_init : MethodName := ⟨RX5, "<init>", "()V"⟩
abbrev cX5_size : ByteArray := prog_7_method_2_code
def yX5_size : MethodName := ⟨RX5, "size", "()I"⟩
abbrev cX5_clear : ByteArray := prog_7_method_3_code
def yX5_clear : MethodName := ⟨RX5, "clear", "()V"⟩
abbrev cX5_add : ByteArray := prog_7_method_4_code
def yX5_add : MethodName := ⟨RX5, "add", "(IIII)Z"⟩
abbrev cX5_comeTrueIn : ByteArray := prog_7_method_5_code
def yX5_comeTrueIn : MethodName := ⟨RX5, "comeTrueIn", "(LDollsVote$Nursery;)Z"⟩
abbrev cX5_furthestDay : ByteArray := prog_7_method_6_code
def yX5_furthestDay : MethodName := ⟨RX5, "furthestDay", "()I"⟩
abbrev cX5_areSo : ByteArray := prog_7_method_7_code
def yX5_areSo : MethodName := ⟨RX5, "areSo", "(ILDollsVote$Nursery;)Z"⟩
def RX6 : String := "DollsVote"
def TX6 : u_T := fun k => match k with
  | 0 => ("DollsVote", "text", "LDollsVote$Letters;", true)
  | 1 => ("DollsVote", "now", "LDollsVote$Nursery;", true)
  | 2 => ("DollsVote", "trial", "LDollsVote$Nursery;", true)
  | 3 => ("DollsVote", "past", "LDollsVote$Pile;", true)
  | 4 => ("DollsVote", "kept", "LDollsVote$Pile;", true)
  | 5 => ("DollsVote", "sightings", "LDollsVote$Sightings;", true)
  | 6 => ("DollsVote", "outlook", "LDollsVote$Outlook;", true)
  | _ => ("DollsVote", "chances", "LDollsVote$Chances;", true)
def tyX6 : Nat → FieldType := fun k => match k with
  | 0 => .object "DollsVote$Letters"
  | 1 => .object "DollsVote$Nursery"
  | 2 => .object "DollsVote$Nursery"
  | 3 => .object "DollsVote$Pile"
  | 4 => .object "DollsVote$Pile"
  | 5 => .object "DollsVote$Sightings"
  | 6 => .object "DollsVote$Outlook"
  | _ => .object "DollsVote$Chances"
abbrev wsX60 : List Cond := u_ws RX6 TX6 8
theorem nmX6 : ∀ a, a < 8 → ∀ b, b < 8 → a ≠ b → (TX6 a).2.1 ≠ (TX6 b).2.1 := by decide +kernel
theorem tyX6_ok : ∀ k, k < 8 → parseFieldDescriptor (TX6 k).2.2.1 = some (tyX6 k) := by decide +kernel
abbrev cX6_init : ByteArray := prog_1_method_1_code
def yX6_init : MethodName := ⟨RX6, "<init>", "()V"⟩
abbrev cX6_write : ByteArray := prog_1_method_2_code
def yX6_write : MethodName := ⟨RX6, "write", "(I)I"⟩
abbrev cX6_wipe : ByteArray := prog_1_method_3_code
def yX6_wipe : MethodName := ⟨RX6, "wipe", "()I"⟩
abbrev cX6_fault : ByteArray := prog_1_method_4_code
def yX6_fault : MethodName := ⟨RX6, "fault", "()I"⟩
abbrev cX6_lay : ByteArray := prog_1_method_5_code
def yX6_lay : MethodName := ⟨RX6, "lay", "()I"⟩
abbrev cX6_room : ByteArray := prog_1_method_6_code
def yX6_room : MethodName := ⟨RX6, "room", "(II)I"⟩
abbrev cX6_house : ByteArray := prog_1_method_7_code
def yX6_house : MethodName := ⟨RX6, "house", "(II)I"⟩
abbrev cX6_wanted : ByteArray := prog_1_method_8_code
def yX6_wanted : MethodName := ⟨RX6, "wanted", "(I)I"⟩
abbrev cX6_pass : ByteArray := prog_1_method_9_code
def yX6_pass : MethodName := ⟨RX6, "pass", "(I)I"⟩
abbrev cX6_pin : ByteArray := prog_1_method_10_code
def yX6_pin : MethodName := ⟨RX6, "pin", "(III)I"⟩
abbrev cX6_sneeze : ByteArray := prog_1_method_11_code
def yX6_sneeze : MethodName := ⟨RX6, "sneeze", "(I)I"⟩
abbrev cX6_mouse : ByteArray := prog_1_method_12_code
def yX6_mouse : MethodName := ⟨RX6, "mouse", "(I)I"⟩
abbrev cX6_chase : ByteArray := prog_1_method_13_code
def yX6_chase : MethodName := ⟨RX6, "chase", "(I)I"⟩
abbrev cX6_want : ByteArray := prog_1_method_14_code
def yX6_want : MethodName := ⟨RX6, "want", "(II)I"⟩
abbrev cX6_undo : ByteArray := prog_1_method_15_code
def yX6_undo : MethodName := ⟨RX6, "undo", "()I"⟩
abbrev cX6_behind : ByteArray := prog_1_method_16_code
def yX6_behind : MethodName := ⟨RX6, "behind", "(III)I"⟩
abbrev cX6_when : ByteArray := prog_1_method_17_code
def yX6_when : MethodName := ⟨RX6, "when", "(II)I"⟩
abbrev cX6_rest : ByteArray := prog_1_method_18_code
def yX6_rest : MethodName := ⟨RX6, "rest", "()I"⟩
abbrev cX6_met : ByteArray := prog_1_method_19_code
def yX6_met : MethodName := ⟨RX6, "met", "(I)I"⟩
abbrev cX6_pins : ByteArray := prog_1_method_20_code
def yX6_pins : MethodName := ⟨RX6, "pins", "(II)I"⟩
abbrev cX6_one : ByteArray := prog_1_method_21_code
def yX6_one : MethodName := ⟨RX6, "one", "(II)I"⟩
abbrev cX6_harm : ByteArray := prog_1_method_22_code
def yX6_harm : MethodName := ⟨RX6, "harm", "(II)I"⟩
abbrev cX6_seen : ByteArray := prog_1_method_23_code
def yX6_seen : MethodName := ⟨RX6, "seen", "(IIII)I"⟩
abbrev cX6_forget : ByteArray := prog_1_method_24_code
def yX6_forget : MethodName := ⟨RX6, "forget", "()I"⟩
abbrev cX6_kinds : ByteArray := prog_1_method_25_code
def yX6_kinds : MethodName := ⟨RX6, "kinds", "(I)I"⟩
abbrev cX6_stood : ByteArray := prog_1_method_26_code
def yX6_stood : MethodName := ⟨RX6, "stood", "(I)I"⟩
abbrev cX6_tells : ByteArray := prog_1_method_27_code
def yX6_tells : MethodName := ⟨RX6, "tells", "(III)I"⟩
abbrev cX6_likely : ByteArray := prog_1_method_28_code
def yX6_likely : MethodName := ⟨RX6, "likely", "(IIIII)I"⟩
abbrev cX6_century : ByteArray := prog_1_method_29_code
def yX6_century : MethodName := ⟨RX6, "century", "(III)I"⟩
abbrev cX6_keep : ByteArray := prog_1_method_30_code
def yX6_keep : MethodName := ⟨RX6, "keep", "()I"⟩
abbrev cX6_back : ByteArray := prog_1_method_31_code
def yX6_back : MethodName := ⟨RX6, "back", "()I"⟩
abbrev cX6_count : ByteArray := prog_1_method_32_code
def yX6_count : MethodName := ⟨RX6, "count", "(I)I"⟩
abbrev cX6_setMouse : ByteArray := prog_1_method_33_code
def yX6_setMouse : MethodName := ⟨RX6, "setMouse", "(IZ)I"⟩
abbrev cX6_orNone : ByteArray := prog_1_method_34_code
def yX6_orNone : MethodName := ⟨RX6, "orNone", "(I)I"⟩
abbrev cX6_isThing : ByteArray := prog_1_method_35_code
def yX6_isThing : MethodName := ⟨RX6, "isThing", "(I)Z"⟩
abbrev cX6_within : ByteArray := prog_1_method_36_code
def yX6_within : MethodName := ⟨RX6, "within", "(III)Z"⟩
abbrev cX6_power : ByteArray := prog_1_method_37_code
def yX6_power : MethodName := ⟨RX6, "power", "(II)I"⟩
abbrev cX6_commonDivisor : ByteArray := prog_1_method_38_code
def yX6_commonDivisor : MethodName := ⟨RX6, "commonDivisor", "(II)I"⟩
def RX7 : String := "DollsVoteModel"
def TX7 : u_T := fun k => match k with
  | 0 => ("DollsVoteModel", "houses", "I", false)
  | 1 => ("DollsVoteModel", "rooms", "I", false)
  | 2 => ("DollsVoteModel", "kindOf", "[I", true)
  | 3 => ("DollsVoteModel", "day", "I", false)
  | 4 => ("DollsVoteModel", "things", "[I", true)
  | 5 => ("DollsVoteModel", "mice", "[I", true)
  | 6 => ("DollsVoteModel", "wants", "[I", true)
  | 7 => ("DollsVoteModel", "seenMany", "I", false)
  | 8 => ("DollsVoteModel", "seenBehind", "[I", true)
  | 9 => ("DollsVoteModel", "seenAt", "[I", true)
  | 10 => ("DollsVoteModel", "seenThing", "[I", true)
  | 11 => ("DollsVoteModel", "text", "[I", true)
  | 12 => ("DollsVoteModel", "size", "I", false)
  | 13 => ("DollsVoteModel", "readAt", "I", false)
  | 14 => ("DollsVoteModel", "readHouses", "I", false)
  | 15 => ("DollsVoteModel", "readRooms", "I", false)
  | 16 => ("DollsVoteModel", "readKinds", "[I", true)
  | 17 => ("DollsVoteModel", "readThings", "[I", true)
  | 18 => ("DollsVoteModel", "readMice", "[I", true)
  | 19 => ("DollsVoteModel", "readWants", "[I", true)
  | 20 => ("DollsVoteModel", "then", "[I", true)
  | 21 => ("DollsVoteModel", "ahead", "[I", true)
  | 22 => ("DollsVoteModel", "undoMany", "I", false)
  | 23 => ("DollsVoteModel", "aside", "[I", true)
  | 24 => ("DollsVoteModel", "pinned", "[I", true)
  | 25 => ("DollsVoteModel", "tally", "[I", true)
  | 26 => ("DollsVoteModel", "kept", "[I", true)
  | _ => ("DollsVoteModel", "keptMany", "I", false)
def tyX7 : Nat → FieldType := fun k => match k with
  | 0 => .int
  | 1 => .int
  | 2 => .array .int
  | 3 => .int
  | 4 => .array .int
  | 5 => .array .int
  | 6 => .array .int
  | 7 => .int
  | 8 => .array .int
  | 9 => .array .int
  | 10 => .array .int
  | 11 => .array .int
  | 12 => .int
  | 13 => .int
  | 14 => .int
  | 15 => .int
  | 16 => .array .int
  | 17 => .array .int
  | 18 => .array .int
  | 19 => .array .int
  | 20 => .array .int
  | 21 => .array .int
  | 22 => .int
  | 23 => .array .int
  | 24 => .array .int
  | 25 => .array .int
  | 26 => .array .int
  | _ => .int
abbrev wsX70 : List Cond := u_ws RX7 TX7 28
theorem nmX7 : ∀ a, a < 28 → ∀ b, b < 28 → a ≠ b → (TX7 a).2.1 ≠ (TX7 b).2.1 := by decide +kernel
theorem tyX7_ok : ∀ k, k < 28 → parseFieldDescriptor (TX7 k).2.2.1 = some (tyX7 k) := by decide +kernel
abbrev cX7_in : ByteArray := prog_9_method_1_code
def yX7_in : MethodName := ⟨RX7, "in", "(III)Z"⟩
abbrev cX7_has : ByteArray := prog_9_method_2_code
def yX7_has : MethodName := ⟨RX7, "has", "(II)Z"⟩
abbrev cX7_bits : ByteArray := prog_9_method_3_code
def yX7_bits : MethodName := ⟨RX7, "bits", "(I)I"⟩
abbrev cX7_init : ByteArray := prog_9_method_4_code
def yX7_init : MethodName := ⟨RX7, "<init>", "()V"⟩
abbrev cX7_first : ByteArray := prog_9_method_5_code
def yX7_first : MethodName := ⟨RX7, "first", "(II)V"⟩
abbrev cX7_isHouse : ByteArray := prog_9_method_6_code
def yX7_isHouse : MethodName := ⟨RX7, "isHouse", "(I)Z"⟩
abbrev cX7_isRoom : ByteArray := prog_9_method_7_code
def yX7_isRoom : MethodName := ⟨RX7, "isRoom", "(I)Z"⟩
abbrev cX7_write : ByteArray := prog_9_method_8_code
def yX7_write : MethodName := ⟨RX7, "write", "(I)I"⟩
abbrev cX7_wipe : ByteArray := prog_9_method_9_code
def yX7_wipe : MethodName := ⟨RX7, "wipe", "()I"⟩
abbrev cX7_here : ByteArray := prog_9_method_10_code
def yX7_here : MethodName := ⟨RX7, "here", "()I"⟩
abbrev cX7_figure : ByteArray := prog_9_method_11_code
def yX7_figure : MethodName := ⟨RX7, "figure", "(I)I"⟩
abbrev cX7_sign : ByteArray := prog_9_method_12_code
def yX7_sign : MethodName := ⟨RX7, "sign", "(I)Z"⟩
abbrev cX7_readsHouse : ByteArray := prog_9_method_13_code
def yX7_readsHouse : MethodName := ⟨RX7, "readsHouse", "()Z"⟩
abbrev cX7_readsMouse : ByteArray := prog_9_method_14_code
def yX7_readsMouse : MethodName := ⟨RX7, "readsMouse", "()Z"⟩
abbrev cX7_readsWant : ByteArray := prog_9_method_15_code
def yX7_readsWant : MethodName := ⟨RX7, "readsWant", "()Z"⟩
abbrev cX7_readsItem : ByteArray := prog_9_method_16_code
def yX7_readsItem : MethodName := ⟨RX7, "readsItem", "()Z"⟩
abbrev cX7_fault : ByteArray := prog_9_method_17_code
def yX7_fault : MethodName := ⟨RX7, "fault", "()I"⟩
abbrev cX7_lay : ByteArray := prog_9_method_18_code
def yX7_lay : MethodName := ⟨RX7, "lay", "()I"⟩
abbrev cX7_room : ByteArray := prog_9_method_19_code
def yX7_room : MethodName := ⟨RX7, "room", "(II)I"⟩
abbrev cX7_house : ByteArray := prog_9_method_20_code
def yX7_house : MethodName := ⟨RX7, "house", "(II)I"⟩
abbrev cX7_wanted : ByteArray := prog_9_method_21_code
def yX7_wanted : MethodName := ⟨RX7, "wanted", "(I)I"⟩
abbrev cX7_thingThen : ByteArray := prog_9_method_22_code
def yX7_thingThen : MethodName := ⟨RX7, "thingThen", "(II)I"⟩
abbrev cX7_passes : ByteArray := prog_9_method_23_code
def yX7_passes : MethodName := ⟨RX7, "passes", "()Z"⟩
abbrev cX7_goesOn : ByteArray := prog_9_method_24_code
def yX7_goesOn : MethodName := ⟨RX7, "goesOn", "(I)V"⟩
abbrev cX7_metNow : ByteArray := prog_9_method_25_code
def yX7_metNow : MethodName := ⟨RX7, "metNow", "()I"⟩
abbrev cX7_wantedAll : ByteArray := prog_9_method_26_code
def yX7_wantedAll : MethodName := ⟨RX7, "wantedAll", "()I"⟩
abbrev cX7_mouseMany : ByteArray := prog_9_method_27_code
def yX7_mouseMany : MethodName := ⟨RX7, "mouseMany", "()I"⟩
abbrev cX7_lays : ByteArray := prog_9_method_28_code
def yX7_lays : MethodName := ⟨RX7, "lays", "([II)V"⟩
abbrev cX7_takes : ByteArray := prog_9_method_29_code
def yX7_takes : MethodName := ⟨RX7, "takes", "([II)V"⟩
abbrev cX7_notes : ByteArray := prog_9_method_30_code
def yX7_notes : MethodName := ⟨RX7, "notes", "()V"⟩
abbrev cX7_pass : ByteArray := prog_9_method_31_code
def yX7_pass : MethodName := ⟨RX7, "pass", "(I)I"⟩
abbrev cX7_pin : ByteArray := prog_9_method_32_code
def yX7_pin : MethodName := ⟨RX7, "pin", "(III)I"⟩
abbrev cX7_sneezes : ByteArray := prog_9_method_33_code
def yX7_sneezes : MethodName := ⟨RX7, "sneezes", "(I)V"⟩
abbrev cX7_sneeze : ByteArray := prog_9_method_34_code
def yX7_sneeze : MethodName := ⟨RX7, "sneeze", "(I)I"⟩
abbrev cX7_mousing : ByteArray := prog_9_method_35_code
def yX7_mousing : MethodName := ⟨RX7, "mousing", "(II)I"⟩
abbrev cX7_mouse : ByteArray := prog_9_method_36_code
def yX7_mouse : MethodName := ⟨RX7, "mouse", "(I)I"⟩
abbrev cX7_chase : ByteArray := prog_9_method_37_code
def yX7_chase : MethodName := ⟨RX7, "chase", "(I)I"⟩
abbrev cX7_want : ByteArray := prog_9_method_38_code
def yX7_want : MethodName := ⟨RX7, "want", "(II)I"⟩
abbrev cX7_undo : ByteArray := prog_9_method_39_code
def yX7_undo : MethodName := ⟨RX7, "undo", "()I"⟩
abbrev cX7_puts : ByteArray := prog_9_method_40_code
def yX7_puts : MethodName := ⟨RX7, "puts", "()V"⟩
abbrev cX7_puttingBack : ByteArray := prog_9_method_41_code
def yX7_puttingBack : MethodName := ⟨RX7, "puttingBack", "()V"⟩
abbrev cX7_behind : ByteArray := prog_9_method_42_code
def yX7_behind : MethodName := ⟨RX7, "behind", "(III)I"⟩
abbrev cX7_when : ByteArray := prog_9_method_43_code
def yX7_when : MethodName := ⟨RX7, "when", "(II)I"⟩
abbrev cX7_rest : ByteArray := prog_9_method_44_code
def yX7_rest : MethodName := ⟨RX7, "rest", "()I"⟩
abbrev cX7_metBehind : ByteArray := prog_9_method_45_code
def yX7_metBehind : MethodName := ⟨RX7, "metBehind", "(I)I"⟩
abbrev cX7_met : ByteArray := prog_9_method_46_code
def yX7_met : MethodName := ⟨RX7, "met", "(I)I"⟩
abbrev cX7_pinsFor : ByteArray := prog_9_method_47_code
def yX7_pinsFor : MethodName := ⟨RX7, "pinsFor", "(I)I"⟩
abbrev cX7_pins : ByteArray := prog_9_method_48_code
def yX7_pins : MethodName := ⟨RX7, "pins", "(II)I"⟩
abbrev cX7_one : ByteArray := prog_9_method_49_code
def yX7_one : MethodName := ⟨RX7, "one", "(II)I"⟩
abbrev cX7_harm : ByteArray := prog_9_method_50_code
def yX7_harm : MethodName := ⟨RX7, "harm", "(II)I"⟩
abbrev cX7_seen : ByteArray := prog_9_method_51_code
def yX7_seen : MethodName := ⟨RX7, "seen", "(IIII)I"⟩
abbrev cX7_forget : ByteArray := prog_9_method_52_code
def yX7_forget : MethodName := ⟨RX7, "forget", "()I"⟩
abbrev cX7_isSo : ByteArray := prog_9_method_53_code
def yX7_isSo : MethodName := ⟨RX7, "isSo", "()Z"⟩
abbrev cX7_kinds : ByteArray := prog_9_method_54_code
def yX7_kinds : MethodName := ⟨RX7, "kinds", "(I)I"⟩
abbrev cX7_stood : ByteArray := prog_9_method_55_code
def yX7_stood : MethodName := ⟨RX7, "stood", "(I)I"⟩
abbrev cX7_rowBehind : ByteArray := prog_9_method_56_code
def yX7_rowBehind : MethodName := ⟨RX7, "rowBehind", "(II)I"⟩
abbrev cX7_unlike : ByteArray := prog_9_method_57_code
def yX7_unlike : MethodName := ⟨RX7, "unlike", "(III)I"⟩
abbrev cX7_tells : ByteArray := prog_9_method_58_code
def yX7_tells : MethodName := ⟨RX7, "tells", "(III)I"⟩
abbrev cX7_common : ByteArray := prog_9_method_59_code
def yX7_common : MethodName := ⟨RX7, "common", "(JJ)J"⟩
abbrev cX7_likely : ByteArray := prog_9_method_60_code
def yX7_likely : MethodName := ⟨RX7, "likely", "(IIIII)I"⟩
abbrev cX7_century : ByteArray := prog_9_method_61_code
def yX7_century : MethodName := ⟨RX7, "century", "(III)I"⟩
abbrev cX7_keep : ByteArray := prog_9_method_62_code
def yX7_keep : MethodName := ⟨RX7, "keep", "()I"⟩
abbrev cX7_back : ByteArray := prog_9_method_63_code
def yX7_back : MethodName := ⟨RX7, "back", "()I"⟩
abbrev cX7_count : ByteArray := prog_9_method_64_code
def yX7_count : MethodName := ⟨RX7, "count", "(I)I"⟩
def RJ6 : String := "java/lang/Integer"
abbrev cJ6_bitCount_0f7a4 : ByteArray := prog_10_method_49_code
def yJ6_bitCount_0f7a4 : MethodName := ⟨RJ6, "bitCount", "(I)I"⟩
def RJ7 : String := "java/util/Arrays"
abbrev cJ7_fill_53178 : ByteArray := prog_16_method_103_code
def yJ7_fill_53178 : MethodName := ⟨RJ7, "fill", "([II)V"⟩
def RJ0 : String := "java/lang/String"
abbrev cJ0_length_8abf5 : ByteArray := prog_12_method_54_code
def yJ0_length_8abf5 : MethodName := ⟨RJ0, "length", "()I"⟩
abbrev cJ0_charAt_5068e : ByteArray := prog_12_method_56_code
def yJ0_charAt_5068e : MethodName := ⟨RJ0, "charAt", "(I)C"⟩
end
section
/-! THE PURE MACHINE: cells as rows and objects with addresses counted from 0 within a method's own world; an instruction is a transformer of predicates -/
abbrev aC : Type := (Nat × (Nat → Int32)) ⊕ ((Nat × (Nat → Option Nat)) ⊕ (Nat × List Value))
abbrev ai (n : Nat) (f : Nat → Int32) : aC := .inl (n, f)
abbrev aq (n : Nat) (g : Nat → Option Nat) : aC := .inr (.inl (n, g))
abbrev ao (ci : Nat) (fs : List Value) : aC := .inr (.inr (ci, fs))
/-- a value under a renaming of its world's addresses -/
def rv (f : Nat → Nat) : Value → Value
  | .ref k => .ref (f k)
  | .int x => .int x
  | .long x => .long x
  | .float x => .float x
  | .double x => .double x
  | .null => .null
  | .retAddr x => .retAddr x
/-- the machine's own value: what lies outside the world (the script, a text) is told by retAddr -/
def tv (ad ex : Nat → Nat) : Value → Value
  | .ref k => .ref (ad k)
  | .int x => .int x
  | .long x => .long x
  | .float x => .float x
  | .double x => .double x
  | .null => .null
  | .retAddr x => .ref (ex x)
def rc (f : Nat → Nat) : aC → aC
  | .inl a => .inl a
  | .inr (.inl (n, g)) => .inr (.inl (n, fun i => (g i).map f))
  | .inr (.inr (ci, fs)) => .inr (.inr (ci, fs.map (rv f)))
def tc (cI cN : ClassId) (ad ex : Nat → Nat) : aC → va_E
  | .inl (n, f) => .inl (cI, n, .inl f)
  | .inr (.inl (n, g)) => .inl (cN, n, .inr (.inr (.inr (.inr (fun i => (g i).map ad)))))
  | .inr (.inr (ci, fs)) => .inr (ci, fs.map (tv ad ex))
theorem tv_comp (ad ex r : Nat → Nat) (v : Value) : tv (fun k => ad (r k)) ex v = tv ad ex (rv r v) := by cases v <;> rfl
theorem tc_comp (cI cN : ClassId) (ad ex r : Nat → Nat) (c : aC) : tc cI cN (fun k => ad (r k)) ex c = tc cI cN ad ex (rc r c) := by
  rcases c with ⟨n, f⟩ | ⟨n, g⟩ | ⟨ci, fs⟩
  · rfl
  · simp only [tc, rc, Option.map_map]
    rfl
  · simp only [tc, rc, List.map_map]
    congr 2
    exact List.map_congr_left (fun v _ => tv_comp ad ex r v)
def wF (cI cN : ClassId) (ad ex : Nat → Nat) (h : List aC) : va_W := h.mapIdx (fun k c => (ad k, tc cI cN ad ex c))
theorem wF_get {cI cN : ClassId} {ad ex : Nat → Nat} {h : List aC} {k : Nat} : (wF cI cN ad ex h)[k]? = (h[k]?).map (fun c => (ad k, tc cI cN ad ex c)) := by
  simp [wF, List.getElem?_mapIdx]
theorem wF_at {cI cN : ClassId} {ad ex : Nat → Nat} {h : List aC} {k : Nat} {c : aC} (hk : h[k]? = some c) : (wF cI cN ad ex h)[k]? = some (ad k, tc cI cN ad ex c) := by
  rw [wF_get, hk]; rfl
theorem wF_set {cI cN : ClassId} {ad ex : Nat → Nat} {h : List aC} {k : Nat} {c : aC} : wF cI cN ad ex (h.set k c) = (wF cI cN ad ex h).set k (ad k, tc cI cN ad ex c) := by
  apply List.ext_getElem?
  intro j
  rw [wF_get, List.getElem?_set, List.getElem?_set, wF_get]
  by_cases hj : k = j
  · subst hj
    simp only [if_true, wF, List.length_mapIdx]
    by_cases hl : k < h.length <;> simp [hl]
  · simp [hj]
theorem wF_D {cI cN : ClassId} {ad ex : Nat → Nat} {h : List aC} {A : Nat → Prop} (hi : ∀ i j, ad i = ad j → i = j) (hA : ∀ k, A (ad k)) : va_D A (wF cI cN ad ex h) := by
  refine ⟨fun i j x y hx hy hxy => ?_, fun k q hk => ?_⟩
  · rw [wF_get] at hx hy
    obtain ⟨a, -, rfl⟩ := Option.map_eq_some_iff.mp hx
    obtain ⟨b, -, rfl⟩ := Option.map_eq_some_iff.mp hy
    exact hi i j hxy
  · rw [wF_get] at hk
    obtain ⟨a, -, rfl⟩ := Option.map_eq_some_iff.mp hk
    exact hA k
/-- the classes of the worlds, the array classes -/
abbrev cls : List vw_C := [(RX0, TX0, 1), (RX1, TX1, 2), (RX2, TX2, 7), (RX3, TX3, 3), (RX4, TX4, 2), (RX5, TX5, 5), (RX6, TX6, 8), (RX7, TX7, 28)]
abbrev tys (cI cN : ClassId) : List (ClassId × FieldType) := [(cI, .int), (cN, .object RX2)]
/-- the tables' words that hold in every later state -/
def gtbl : List Cond := lw_tbl.filter goodWord
theorem gt_in {w : Cond} (h : w ∈ lw_tbl) (hg : goodWord w = true) : w ∈ gtbl := List.mem_filter.mpr ⟨h, hg⟩
theorem gt_good {w : Cond} (h : w ∈ gtbl) : goodWord w = true := (List.mem_filter.mp h).2
abbrev aP : Type := Nat → List (Option Value) → List Value → List aC → Nat → Nat → Prop
abbrev aR : Type := Option Value → List aC → Nat → Nat → Prop
abbrev callP : Type := Nat → Nat → Nat → List Value → List aC → (Option Value → List aC → Prop) → Prop
/-- the room for new cells, for their slots; the calls -/
abbrev aK : Type := Nat × Nat × callP
abbrev aI : Type := aK → aP → aR → aP
def MonoC (C : callP) : Prop := ∀ y mc ms av h (Q Q' : Option Value → List aC → Prop), (∀ v h', Q v h' → Q' v h') → C y mc ms av h Q → C y mc ms av h Q'
def Mono (i : aI) : Prop := ∀ (K : aK) (X Y : aP) (Q Q' : aR), MonoC K.2.2 → (∀ pc lo st h c s, X pc lo st h c s → Y pc lo st h c s) → (∀ v h c s, Q v h c s → Q' v h c s) → ∀ pc lo st h c s, i K X Q pc lo st h c s → i K Y Q' pc lo st h c s
/-- the weakest that leads to Q -/
def wp (K : aK) (tb : List (Nat × aI)) (Q : aR) : aP := fun pc lo st h c s => ∀ X : aP, (∀ pc i lo st h c s, tb.lookup pc = some i → i K X Q pc lo st h c s → X pc lo st h c s) → X pc lo st h c s
def runN (K : aK) (tb : List (Nat × aI)) (Q : aR) : Nat → aP
  | 0 => wp K tb Q
  | n + 1 => fun pc lo st h c s => match tb.lookup pc with
    | some i => i K (runN K tb Q n) Q pc lo st h c s
    | none => False
theorem lookup_mem {α : Type} {l : List (Nat × α)} {k : Nat} {a : α} (h : l.lookup k = some a) : (k, a) ∈ l := by
  induction l with
  | nil => cases h
  | cons q t ih =>
    obtain ⟨j, b⟩ := q
    rw [List.lookup_cons] at h
    by_cases e : k == j
    · rw [e] at h
      have ek : k = j := by simpa using e
      cases h
      subst ek
      exact List.mem_cons_self
    · have e' : (k == j) = false := by simpa using e
      rw [e'] at h
      exact List.mem_cons_of_mem _ (ih h)
theorem wp_step {K : aK} {tb : List (Nat × aI)} {Q : aR} (hm : ∀ e ∈ tb, Mono e.2) (hC : MonoC K.2.2) {pc : Nat} {i : aI} {lo : List (Option Value)} {st : List Value} {h : List aC} {c s : Nat} (hl : tb.lookup pc = some i) (hi : i K (wp K tb Q) Q pc lo st h c s) : wp K tb Q pc lo st h c s := by
  intro X hX
  refine hX pc i lo st h c s hl ?_
  exact hm _ (lookup_mem hl) K _ X Q Q hC (fun pc lo st h c s w => w X hX) (fun _ _ _ _ q => q) _ _ _ _ _ _ hi
theorem runN_wp {K : aK} {tb : List (Nat × aI)} {Q : aR} (hm : ∀ e ∈ tb, Mono e.2) (hC : MonoC K.2.2) : ∀ (n : Nat) (pc : Nat) (lo : List (Option Value)) (st : List Value) (h : List aC) (c s : Nat), runN K tb Q n pc lo st h c s → wp K tb Q pc lo st h c s
  | 0, _, _, _, _, _, _, w => w
  | n + 1, pc, lo, st, h, c, s, w => by
    unfold runN at w
    cases e : tb.lookup pc with
    | none => rw [e] at w; exact w.elim
    | some i =>
      rw [e] at w
      exact wp_step hm hC e (hm _ (lookup_mem e) K _ _ Q Q hC (runN_wp hm hC n) (fun _ _ _ _ q => q) _ _ _ _ _ _ w)
theorem wp_mono {K : aK} {tb : List (Nat × aI)} {Q Q' : aR} (hm : ∀ e ∈ tb, Mono e.2) (hC : MonoC K.2.2) (hQ : ∀ v h c s, Q v h c s → Q' v h c s) {pc : Nat} {lo : List (Option Value)} {st : List Value} {h : List aC} {c s : Nat} (w : wp K tb Q pc lo st h c s) : wp K tb Q' pc lo st h c s := by
  intro X hX
  refine w X fun pc i lo st h c s hl hi => hX pc i lo st h c s hl ?_
  exact hm _ (lookup_mem hl) K X X Q Q' hC (fun _ _ _ _ _ _ q => q) hQ _ _ _ _ _ _ hi
/-! instructions -/
def okS (lo : List (Option Value)) (i : Nat) : Bool := decide (i < lo.length) && (match i with
  | 0 => true
  | j + 1 => match lo[j]? with
    | some (some (.long _)) => false
    | some (some (.double _)) => false
    | _ => true)
def i_push (v : Value) (n : Nat) : aI := fun _ X _ pc lo st h c s => X (pc + n) lo (v :: st) h c s
def i_iload (i n : Nat) : aI := fun _ X _ pc lo st h c s => match lo[i]? with
  | some (some (.int x)) => X (pc + n) lo (.int x :: st) h c s
  | _ => False
def i_lload (i n : Nat) : aI := fun _ X _ pc lo st h c s => match lo[i]? with
  | some (some (.long x)) => X (pc + n) lo (.long x :: st) h c s
  | _ => False
def i_aload (i n : Nat) : aI := fun _ X _ pc lo st h c s => match lo[i]? with
  | some (some (.ref x)) => X (pc + n) lo (.ref x :: st) h c s
  | some (some (.retAddr x)) => X (pc + n) lo (.retAddr x :: st) h c s
  | _ => False
def i_istore (i n : Nat) : aI := fun _ X _ pc lo st h c s => match st, okS lo i with
  | .int x :: t, true => X (pc + n) (lo.set i (some (.int x))) t h c s
  | _, _ => False
def i_astore (i n : Nat) : aI := fun _ X _ pc lo st h c s => match st, okS lo i with
  | .ref x :: t, true => X (pc + n) (lo.set i (some (.ref x))) t h c s
  | _, _ => False
def i_lstore (i n : Nat) : aI := fun _ X _ pc lo st h c s => match st, okS lo i && decide (i + 1 < lo.length) with
  | .long x :: t, true => X (pc + n) ((lo.set i (some (.long x))).set (i + 1) none) t h c s
  | _, _ => False
def i_iinc (i : Nat) (n : Int32) : aI := fun _ X _ pc lo st h c s => match lo[i]?, okS lo i with
  | some (some (.int x)), true => X (pc + 3) (lo.set i (some (.int (x + n)))) st h c s
  | _, _ => False
def i_bin (f : Int32 → Int32 → Int32) : aI := fun _ X _ pc lo st h c s => match st with
  | .int y :: .int x :: t => X (pc + 1) lo (.int (f x y) :: t) h c s
  | _ => False
def i_div (f : Int32 → Int32 → Int32) : aI := fun _ X _ pc lo st h c s => match st with
  | .int y :: .int x :: t => ¬ y = 0 ∧ X (pc + 1) lo (.int (f x y) :: t) h c s
  | _ => False
def i_lbin (f : Int64 → Int64 → Int64) : aI := fun _ X _ pc lo st h c s => match st with
  | .long y :: .long x :: t => X (pc + 1) lo (.long (f x y) :: t) h c s
  | _ => False
def i_ldiv (f : Int64 → Int64 → Int64) : aI := fun _ X _ pc lo st h c s => match st with
  | .long y :: .long x :: t => ¬ y = 0 ∧ X (pc + 1) lo (.long (f x y) :: t) h c s
  | _ => False
def i_lcmp : aI := fun _ X _ pc lo st h c s => match st with
  | .long y :: .long x :: t => X (pc + 1) lo (.int (lg_cmp x y) :: t) h c s
  | _ => False
def i_i2l : aI := fun _ X _ pc lo st h c s => match st with
  | .int x :: t => X (pc + 1) lo (.long x.toInt64 :: t) h c s
  | _ => False
def i_l2i : aI := fun _ X _ pc lo st h c s => match st with
  | .long x :: t => X (pc + 1) lo (.int x.toInt32 :: t) h c s
  | _ => False
def i_dup : aI := fun _ X _ pc lo st h c s => match st with
  | .int x :: t => X (pc + 1) lo (.int x :: .int x :: t) h c s
  | .ref x :: t => X (pc + 1) lo (.ref x :: .ref x :: t) h c s
  | _ => False
def i_pop : aI := fun _ X _ pc lo st h c s => match st with
  | .int _ :: t => X (pc + 1) lo t h c s
  | _ => False
def i_dup2 : aI := fun _ X _ pc lo st h c s => match st with
  | .int y :: .ref x :: t => X (pc + 1) lo (.int y :: .ref x :: .int y :: .ref x :: t) h c s
  | _ => False
/-- to a where P holds, to b where it doesn't -/
def i_if (P : Int32 → Prop) (a b : Nat) : aI := fun _ X _ _ lo st h c s => match st with
  | .int x :: t => (P x → X a lo t h c s) ∧ (¬ P x → X b lo t h c s)
  | _ => False
def i_icmp (P : Int32 → Int32 → Prop) (a b : Nat) : aI := fun _ X _ _ lo st h c s => match st with
  | .int y :: .int x :: t => (P x y → X a lo t h c s) ∧ (¬ P x y → X b lo t h c s)
  | _ => False
def i_goto (tgt : Nat) : aI := fun _ X _ _ lo st h c s => X tgt lo st h c s
def i_tsw (lw hi : Int) (tg : List Nat) (df : Nat) : aI := fun _ X _ _ lo st h c s => match st with
  | .int x :: t => (x.toInt < lw ∨ hi < x.toInt → X df lo t h c s) ∧ ∀ j a : Nat, tg[j]? = some a → x.toInt = lw + j → X a lo t h c s
  | _ => False
def i_lsw (ps : List (Int × Nat)) (df : Nat) : aI := fun _ X _ _ lo st h c s => match st with
  | .int x :: t => ((∀ q ∈ ps, x.toInt ≠ q.1) → X df lo t h c s) ∧ ∀ q ∈ ps, x.toInt = q.1 → X q.2 lo t h c s
  | _ => False
def i_get (ci k : Nat) : aI := fun _ X _ pc lo st h c s => match st with
  | .ref a :: t => match h[a]? with
    | some (.inr (.inr (cj, fs))) => match decide (cj = ci), fs[k]? with
      | true, some v => X (pc + 3) lo (v :: t) h c s
      | _, _ => False
    | _ => False
  | _ => False
def i_put (ci k : Nat) : aI := fun _ X _ pc lo st h c s => match st with
  | .int x :: .ref a :: t => match h[a]? with
    | some (.inr (.inr (cj, fs))) => match decide (cj = ci), decide (k < fs.length) with
      | true, true => X (pc + 3) lo t (h.set a (ao ci (fs.set k (.int x)))) c s
      | _, _ => False
    | _ => False
  | _ => False
def i_putR (ci k : Nat) : aI := fun _ X _ pc lo st h c s => match st with
  | .ref x :: .ref a :: t => match h[a]? with
    | some (.inr (.inr (cj, fs))) => match decide (cj = ci), decide (k < fs.length) with
      | true, true => X (pc + 3) lo t (h.set a (ao ci (fs.set k (.ref x)))) c s
      | _, _ => False
    | _ => False
  | _ => False
def i_iald : aI := fun _ X _ pc lo st h c s => match st with
  | .int i :: .ref a :: t => match h[a]? with
    | some (.inl (n, f)) => ∃ k, i = nI k ∧ (k < n ∧ n ≤ 1000) ∧ X (pc + 1) lo (.int (f k) :: t) h c s
    | _ => False
  | _ => False
def i_iast : aI := fun _ X _ pc lo st h c s => match st with
  | .int x :: .int i :: .ref a :: t => match h[a]? with
    | some (.inl (n, f)) => ∃ k, i = nI k ∧ (k < n ∧ n ≤ 1000) ∧ X (pc + 1) lo t (h.set a (ai n (upd f k x))) c s
    | _ => False
  | _ => False
def i_alen : aI := fun _ X _ pc lo st h c s => match st with
  | .ref a :: t => match h[a]? with
    | some (.inl (n, _)) => X (pc + 1) lo (.int (nI n) :: t) h c s
    | some (.inr (.inl (n, _))) => X (pc + 1) lo (.int (nI n) :: t) h c s
    | _ => False
  | _ => False
def i_aald : aI := fun _ X _ pc lo st h c s => match st with
  | .int i :: .ref a :: t => match h[a]? with
    | some (.inr (.inl (n, g))) => ∃ k, i = nI k ∧ (k < n ∧ n ≤ 1000) ∧ ∃ r, g k = some r ∧ X (pc + 1) lo (.ref r :: t) h c s
    | _ => False
  | _ => False
def i_aast : aI := fun _ X _ pc lo st h c s => match st with
  | .ref v :: .int i :: .ref a :: t => match h[a]? with
    | some (.inr (.inl (n, g))) => ∃ k, i = nI k ∧ (k < n ∧ n ≤ 1000) ∧ (∃ fs, h[v]? = some (ao 2 fs)) ∧ X (pc + 1) lo t (h.set a (aq n (va_up g k (some v)))) c s
    | _ => False
  | _ => False
def i_new (ci N : Nat) (fs : List Value) : aI := fun K X _ pc lo st h c s => c + 1 ≤ K.1 ∧ s + N ≤ K.2.1 ∧ X (pc + 3) lo (.ref h.length :: st) (h ++ [ao ci fs]) (c + 1) (s + N)
def i_newI : aI := fun K X _ pc lo st h c s => match st with
  | .int n :: t => ∃ k, n = nI k ∧ k ≤ 1000 ∧ c + 1 ≤ K.1 ∧ s + k ≤ K.2.1 ∧ X (pc + 2) lo (.ref h.length :: t) (h ++ [ai k (fun _ => 0)]) (c + 1) (s + k)
  | _ => False
def i_newQ : aI := fun K X _ pc lo st h c s => match st with
  | .int n :: t => ∃ k, n = nI k ∧ k ≤ 1000 ∧ c + 1 ≤ K.1 ∧ s + k ≤ K.2.1 ∧ X (pc + 3) lo (.ref h.length :: t) (h ++ [aq k (fun _ => none)]) (c + 1) (s + k)
  | _ => False
def i_obj : aI := fun _ X _ pc lo st h c s => match st with
  | .ref _ :: t => (t.map fun v => v.category).sum ≤ 8 ∧ X (pc + 3) lo t h c s
  | _ => False
def i_iret : aI := fun _ _ Q _ _ st h c s => match st with
  | [.int x] => Q (some (.int x)) h c s
  | _ => False
def i_zret : aI := fun _ _ Q _ _ st h c s => match st with
  | [.int x] => (x = 0 ∨ x = 1) ∧ Q (some (.int x)) h c s
  | _ => False
def i_lret : aI := fun _ _ Q _ _ st h c s => match st with
  | [.long x] => Q (some (.long x)) h c s
  | _ => False
def i_vret : aI := fun _ _ Q _ _ st h c s => match st with
  | [] => Q none h c s
  | _ => False
/-- a whole int row copied to another -/
def i_copy : aI := fun _ X _ pc lo st h c s => match st with
  | .int n :: .int dp :: .ref b :: .int sp :: .ref a :: t => match h[a]?, h[b]? with
    | some (.inl (n0, f)), some (.inl (n1, _)) => (sp = nI 0 ∧ dp = nI 0 ∧ n = nI n0 ∧ n1 = n0 ∧ n0 ≤ 1000 ∧ (t.map fun v => v.category).sum ≤ 8) ∧ X (pc + 3) lo t (h.set b (ai n1 f)) c s
    | _, _ => False
  | _ => False
def i_max : aI := fun K X _ pc lo st h c s => match st with
  | .int y :: .int x :: t => ((t.map fun v => v.category).sum ≤ 8 ∧ c ≤ K.1 ∧ s ≤ K.2.1) ∧ X (pc + 3) lo (.int (if x < y then y else x) :: t) h c s
  | _ => False
/-- where a callee's cell lies in its caller's world -/
def rho (is : List Nat) (n k : Nat) : Nat := match is[k]? with
  | some i => i
  | none => n + (k - is.length)
def put : List aC → List Nat → List aC → List aC
  | h, [], cs => h ++ cs
  | h, _ :: _, [] => h
  | h, i :: is, c :: cs => put (h.set i c) is cs
/-- a call of method y with n values on the stack: its world is the cells 'is' of the caller's -/
def i_call (y n : Nat) (B : List Value → List aC → Prop) : aI := fun K X _ pc lo st h c s =>
  ∃ (is : List Nat) (av : List Value) (hc : List aC) (mc ms : Nat), (st.take n = (av.map (rv (rho is h.length))).reverse ∧ av.length = n ∧ ((st.drop n).map fun v => v.category).sum ≤ 8 ∧ va_nd is = true ∧ is.all (fun i => decide (i < h.length)) = true ∧ is.map (fun i => h[i]?) = hc.map (fun x => some (rc (rho is h.length) x)) ∧ B av hc) ∧ c + mc ≤ K.1 ∧ s + ms ≤ K.2.1 ∧
    K.2.2 y mc ms av hc (fun v hc' => X (pc + 3) lo ((v.map (rv (rho is h.length))).toList ++ st.drop n) (put h is (hc'.map (rc (rho is h.length)))) (c + mc) (s + ms))
def recv (ci : Nat) (av : List Value) (hc : List aC) : Prop := ∃ r fs, av.head? = some (.ref r) ∧ hc[r]? = some (ao ci fs)
abbrev i_callV (y n ci : Nat) : aI := i_call y n (recv ci)
abbrev i_callS (y n : Nat) : aI := i_call y n (fun _ _ => True)
abbrev i_callI (y n : Nat) : aI := i_call y n (fun av _ => ∃ r, av.head? = some (.ref r))
/-! each grows with what it is told -/
theorem mo_push (v : Value) (n : Nat) : Mono (i_push v n) := fun _ _ _ _ _ _ hX _ _ _ _ _ _ _ w => hX _ _ _ _ _ _ w
theorem mo_iload (i n : Nat) : Mono (i_iload i n) := by
  intro K X Y Q Q' hC hX hQ pc lo st h c s
  unfold i_iload
  split <;> first | exact fun w => hX _ _ _ _ _ _ w | exact fun w => w
theorem mo_lload (i n : Nat) : Mono (i_lload i n) := by
  intro K X Y Q Q' hC hX hQ pc lo st h c s
  unfold i_lload
  split <;> first | exact fun w => hX _ _ _ _ _ _ w | exact fun w => w
theorem mo_aload (i n : Nat) : Mono (i_aload i n) := by
  intro K X Y Q Q' hC hX hQ pc lo st h c s
  unfold i_aload
  split <;> first | exact fun w => hX _ _ _ _ _ _ w | exact fun w => w
theorem mo_istore (i n : Nat) : Mono (i_istore i n) := by
  intro K X Y Q Q' hC hX hQ pc lo st h c s
  unfold i_istore
  split <;> first | exact fun w => hX _ _ _ _ _ _ w | exact fun w => w
theorem mo_astore (i n : Nat) : Mono (i_astore i n) := by
  intro K X Y Q Q' hC hX hQ pc lo st h c s
  unfold i_astore
  split <;> first | exact fun w => hX _ _ _ _ _ _ w | exact fun w => w
theorem mo_lstore (i n : Nat) : Mono (i_lstore i n) := by
  intro K X Y Q Q' hC hX hQ pc lo st h c s
  unfold i_lstore
  split <;> first | exact fun w => hX _ _ _ _ _ _ w | exact fun w => w
theorem mo_iinc (i : Nat) (n : Int32) : Mono (i_iinc i n) := by
  intro K X Y Q Q' hC hX hQ pc lo st h c s
  unfold i_iinc
  split <;> first | exact fun w => hX _ _ _ _ _ _ w | exact fun w => w
theorem mo_bin (f : Int32 → Int32 → Int32) : Mono (i_bin f) := by
  intro K X Y Q Q' hC hX hQ pc lo st h c s
  unfold i_bin
  split <;> first | exact fun w => hX _ _ _ _ _ _ w | exact fun w => w
theorem mo_lbin (f : Int64 → Int64 → Int64) : Mono (i_lbin f) := by
  intro K X Y Q Q' hC hX hQ pc lo st h c s
  unfold i_lbin
  split <;> first | exact fun w => hX _ _ _ _ _ _ w | exact fun w => w
theorem mo_lcmp  : Mono (i_lcmp ) := by
  intro K X Y Q Q' hC hX hQ pc lo st h c s
  unfold i_lcmp
  split <;> first | exact fun w => hX _ _ _ _ _ _ w | exact fun w => w
theorem mo_i2l  : Mono (i_i2l ) := by
  intro K X Y Q Q' hC hX hQ pc lo st h c s
  unfold i_i2l
  split <;> first | exact fun w => hX _ _ _ _ _ _ w | exact fun w => w
theorem mo_l2i  : Mono (i_l2i ) := by
  intro K X Y Q Q' hC hX hQ pc lo st h c s
  unfold i_l2i
  split <;> first | exact fun w => hX _ _ _ _ _ _ w | exact fun w => w
theorem mo_dup  : Mono (i_dup ) := by
  intro K X Y Q Q' hC hX hQ pc lo st h c s
  unfold i_dup
  split <;> first | exact fun w => hX _ _ _ _ _ _ w | exact fun w => w
theorem mo_pop  : Mono (i_pop ) := by
  intro K X Y Q Q' hC hX hQ pc lo st h c s
  unfold i_pop
  split <;> first | exact fun w => hX _ _ _ _ _ _ w | exact fun w => w
theorem mo_dup2  : Mono (i_dup2 ) := by
  intro K X Y Q Q' hC hX hQ pc lo st h c s
  unfold i_dup2
  split <;> first | exact fun w => hX _ _ _ _ _ _ w | exact fun w => w
theorem mo_div (f : Int32 → Int32 → Int32) : Mono (i_div f) := by
  intro K X Y Q Q' hC hX hQ pc lo st h c s
  unfold i_div
  split <;> first | exact fun w => ⟨w.1, hX _ _ _ _ _ _ w.2⟩ | exact fun w => w
theorem mo_ldiv (f : Int64 → Int64 → Int64) : Mono (i_ldiv f) := by
  intro K X Y Q Q' hC hX hQ pc lo st h c s
  unfold i_ldiv
  split <;> first | exact fun w => ⟨w.1, hX _ _ _ _ _ _ w.2⟩ | exact fun w => w
theorem mo_obj  : Mono (i_obj ) := by
  intro K X Y Q Q' hC hX hQ pc lo st h c s
  unfold i_obj
  split <;> first | exact fun w => ⟨w.1, hX _ _ _ _ _ _ w.2⟩ | exact fun w => w
theorem mo_max  : Mono (i_max ) := by
  intro K X Y Q Q' hC hX hQ pc lo st h c s
  unfold i_max
  split <;> first | exact fun w => ⟨w.1, hX _ _ _ _ _ _ w.2⟩ | exact fun w => w
theorem mo_if (P : Int32 → Prop) (a b : Nat) : Mono (i_if P a b) := by
  intro K X Y Q Q' hC hX hQ pc lo st h c s
  unfold i_if
  split <;> first | exact fun w => ⟨fun z => hX _ _ _ _ _ _ (w.1 z), fun z => hX _ _ _ _ _ _ (w.2 z)⟩ | exact fun w => w
theorem mo_icmp (P : Int32 → Int32 → Prop) (a b : Nat) : Mono (i_icmp P a b) := by
  intro K X Y Q Q' hC hX hQ pc lo st h c s
  unfold i_icmp
  split <;> first | exact fun w => ⟨fun z => hX _ _ _ _ _ _ (w.1 z), fun z => hX _ _ _ _ _ _ (w.2 z)⟩ | exact fun w => w
theorem mo_goto (tgt : Nat) : Mono (i_goto tgt) := by
  intro K X Y Q Q' hC hX hQ pc lo st h c s
  unfold i_goto
  exact fun w => hX _ _ _ _ _ _ w
theorem mo_tsw (lw hi : Int) (tg : List Nat) (df : Nat) : Mono (i_tsw lw hi tg df) := by
  intro K X Y Q Q' hC hX hQ pc lo st h c s
  unfold i_tsw
  split <;> first | exact fun w => ⟨fun z => hX _ _ _ _ _ _ (w.1 z), fun j a z1 z2 => hX _ _ _ _ _ _ (w.2 j a z1 z2)⟩ | exact fun w => w
theorem mo_lsw (ps : List (Int × Nat)) (df : Nat) : Mono (i_lsw ps df) := by
  intro K X Y Q Q' hC hX hQ pc lo st h c s
  unfold i_lsw
  split <;> first | exact fun w => ⟨fun z => hX _ _ _ _ _ _ (w.1 z), fun q z1 z2 => hX _ _ _ _ _ _ (w.2 q z1 z2)⟩ | exact fun w => w
theorem mo_get (ci k : Nat) : Mono (i_get ci k) := by
  intro K X Y Q Q' hC hX hQ pc lo st h c s
  unfold i_get
  repeat' (split)
  all_goals first | exact fun w => hX _ _ _ _ _ _ w | exact fun w => ⟨w.1, hX _ _ _ _ _ _ w.2⟩ | exact fun w => w | exact fun ⟨k, e, l, w⟩ => ⟨k, e, l, hX _ _ _ _ _ _ w⟩ | exact fun ⟨k, e, l, r, b, w⟩ => ⟨k, e, l, r, b, hX _ _ _ _ _ _ w⟩ | exact fun ⟨k, e, l, r, w⟩ => ⟨k, e, l, r, hX _ _ _ _ _ _ w⟩
theorem mo_put (ci k : Nat) : Mono (i_put ci k) := by
  intro K X Y Q Q' hC hX hQ pc lo st h c s
  unfold i_put
  repeat' (split)
  all_goals first | exact fun w => hX _ _ _ _ _ _ w | exact fun w => ⟨w.1, hX _ _ _ _ _ _ w.2⟩ | exact fun w => w | exact fun ⟨k, e, l, w⟩ => ⟨k, e, l, hX _ _ _ _ _ _ w⟩ | exact fun ⟨k, e, l, r, b, w⟩ => ⟨k, e, l, r, b, hX _ _ _ _ _ _ w⟩ | exact fun ⟨k, e, l, r, w⟩ => ⟨k, e, l, r, hX _ _ _ _ _ _ w⟩
theorem mo_putR (ci k : Nat) : Mono (i_putR ci k) := by
  intro K X Y Q Q' hC hX hQ pc lo st h c s
  unfold i_putR
  repeat' (split)
  all_goals first | exact fun w => hX _ _ _ _ _ _ w | exact fun w => ⟨w.1, hX _ _ _ _ _ _ w.2⟩ | exact fun w => w | exact fun ⟨k, e, l, w⟩ => ⟨k, e, l, hX _ _ _ _ _ _ w⟩ | exact fun ⟨k, e, l, r, b, w⟩ => ⟨k, e, l, r, b, hX _ _ _ _ _ _ w⟩ | exact fun ⟨k, e, l, r, w⟩ => ⟨k, e, l, r, hX _ _ _ _ _ _ w⟩
theorem mo_iald  : Mono (i_iald ) := by
  intro K X Y Q Q' hC hX hQ pc lo st h c s
  unfold i_iald
  repeat' (split)
  all_goals first | exact fun w => hX _ _ _ _ _ _ w | exact fun w => ⟨w.1, hX _ _ _ _ _ _ w.2⟩ | exact fun w => w | exact fun ⟨k, e, l, w⟩ => ⟨k, e, l, hX _ _ _ _ _ _ w⟩ | exact fun ⟨k, e, l, r, b, w⟩ => ⟨k, e, l, r, b, hX _ _ _ _ _ _ w⟩ | exact fun ⟨k, e, l, r, w⟩ => ⟨k, e, l, r, hX _ _ _ _ _ _ w⟩
theorem mo_iast  : Mono (i_iast ) := by
  intro K X Y Q Q' hC hX hQ pc lo st h c s
  unfold i_iast
  repeat' (split)
  all_goals first | exact fun w => hX _ _ _ _ _ _ w | exact fun w => ⟨w.1, hX _ _ _ _ _ _ w.2⟩ | exact fun w => w | exact fun ⟨k, e, l, w⟩ => ⟨k, e, l, hX _ _ _ _ _ _ w⟩ | exact fun ⟨k, e, l, r, b, w⟩ => ⟨k, e, l, r, b, hX _ _ _ _ _ _ w⟩ | exact fun ⟨k, e, l, r, w⟩ => ⟨k, e, l, r, hX _ _ _ _ _ _ w⟩
theorem mo_alen  : Mono (i_alen ) := by
  intro K X Y Q Q' hC hX hQ pc lo st h c s
  unfold i_alen
  repeat' (split)
  all_goals first | exact fun w => hX _ _ _ _ _ _ w | exact fun w => ⟨w.1, hX _ _ _ _ _ _ w.2⟩ | exact fun w => w | exact fun ⟨k, e, l, w⟩ => ⟨k, e, l, hX _ _ _ _ _ _ w⟩ | exact fun ⟨k, e, l, r, b, w⟩ => ⟨k, e, l, r, b, hX _ _ _ _ _ _ w⟩ | exact fun ⟨k, e, l, r, w⟩ => ⟨k, e, l, r, hX _ _ _ _ _ _ w⟩
theorem mo_aald  : Mono (i_aald ) := by
  intro K X Y Q Q' hC hX hQ pc lo st h c s
  unfold i_aald
  repeat' (split)
  all_goals first | exact fun w => hX _ _ _ _ _ _ w | exact fun w => ⟨w.1, hX _ _ _ _ _ _ w.2⟩ | exact fun w => w | exact fun ⟨k, e, l, w⟩ => ⟨k, e, l, hX _ _ _ _ _ _ w⟩ | exact fun ⟨k, e, l, r, b, w⟩ => ⟨k, e, l, r, b, hX _ _ _ _ _ _ w⟩ | exact fun ⟨k, e, l, r, w⟩ => ⟨k, e, l, r, hX _ _ _ _ _ _ w⟩
theorem mo_aast  : Mono (i_aast ) := by
  intro K X Y Q Q' hC hX hQ pc lo st h c s
  unfold i_aast
  repeat' (split)
  all_goals first | exact fun w => hX _ _ _ _ _ _ w | exact fun w => ⟨w.1, hX _ _ _ _ _ _ w.2⟩ | exact fun w => w | exact fun ⟨k, e, l, w⟩ => ⟨k, e, l, hX _ _ _ _ _ _ w⟩ | exact fun ⟨k, e, l, r, b, w⟩ => ⟨k, e, l, r, b, hX _ _ _ _ _ _ w⟩ | exact fun ⟨k, e, l, r, w⟩ => ⟨k, e, l, r, hX _ _ _ _ _ _ w⟩
theorem mo_copy  : Mono (i_copy ) := by
  intro K X Y Q Q' hC hX hQ pc lo st h c s
  unfold i_copy
  repeat' (split)
  all_goals first | exact fun w => hX _ _ _ _ _ _ w | exact fun w => ⟨w.1, hX _ _ _ _ _ _ w.2⟩ | exact fun w => w | exact fun ⟨k, e, l, w⟩ => ⟨k, e, l, hX _ _ _ _ _ _ w⟩ | exact fun ⟨k, e, l, r, b, w⟩ => ⟨k, e, l, r, b, hX _ _ _ _ _ _ w⟩ | exact fun ⟨k, e, l, r, w⟩ => ⟨k, e, l, r, hX _ _ _ _ _ _ w⟩
theorem mo_new (ci N : Nat) (fs : List Value) : Mono (i_new ci N fs) := by
  intro K X Y Q Q' hC hX hQ pc lo st h c s
  unfold i_new
  exact fun w => ⟨w.1, w.2.1, hX _ _ _ _ _ _ w.2.2⟩
theorem mo_newI  : Mono (i_newI ) := by
  intro K X Y Q Q' hC hX hQ pc lo st h c s
  unfold i_newI
  split <;> first | exact fun ⟨k, e, l, a, b, w⟩ => ⟨k, e, l, a, b, hX _ _ _ _ _ _ w⟩ | exact fun w => w
theorem mo_newQ  : Mono (i_newQ ) := by
  intro K X Y Q Q' hC hX hQ pc lo st h c s
  unfold i_newQ
  split <;> first | exact fun ⟨k, e, l, a, b, w⟩ => ⟨k, e, l, a, b, hX _ _ _ _ _ _ w⟩ | exact fun w => w
theorem mo_iret  : Mono (i_iret ) := by
  intro K X Y Q Q' hC hX hQ pc lo st h c s
  unfold i_iret
  split <;> first | exact fun w => hQ _ _ _ _ w | exact fun w => w
theorem mo_lret  : Mono (i_lret ) := by
  intro K X Y Q Q' hC hX hQ pc lo st h c s
  unfold i_lret
  split <;> first | exact fun w => hQ _ _ _ _ w | exact fun w => w
theorem mo_vret  : Mono (i_vret ) := by
  intro K X Y Q Q' hC hX hQ pc lo st h c s
  unfold i_vret
  split <;> first | exact fun w => hQ _ _ _ _ w | exact fun w => w
theorem mo_zret  : Mono (i_zret ) := by
  intro K X Y Q Q' hC hX hQ pc lo st h c s
  unfold i_zret
  split <;> first | exact fun w => ⟨w.1, hQ _ _ _ _ w.2⟩ | exact fun w => w
theorem mo_call (y n : Nat) (B : List Value → List aC → Prop) : Mono (i_call y n B) := by
  intro K X Y Q Q' hC hX hQ pc lo st h c s
  unfold i_call
  rintro ⟨is, av, hc, mc, ms, a, b, d, w⟩
  exact ⟨is, av, hc, mc, ms, a, b, d, hC _ _ _ _ _ _ _ (fun v h' z => hX _ _ _ _ _ _ z) w⟩
end
section
/-! the methods by number; what holds of the machine while one runs -/
def MT : List (MethodName × ByteArray × Nat × Option FieldType) := [(yX0_init, cX0_init, 1, none),
  (yX0_tellingDays, cX0_tellingDays, 2, (some .int)),
  (yX0_waysOf, cX0_waysOf, 11, (some .int)),
  (yX0_topBehind, cX0_topBehind, 6, (some .int)),
  (yX0_liveCentury, cX0_liveCentury, 4, none),
  (yX0_draw, cX0_draw, 4, (some .int)),
  (yX0_actBy, cX0_actBy, 4, none),
  (yX0_modulo, cX0_modulo, 2, (some .int)),
  (yX1_init, cX1_init, 1, none),
  (yX1_length, cX1_length, 1, (some .int)),
  (yX1_clear, cX1_clear, 1, none),
  (yX1_append, cX1_append, 2, (some .boolean)),
  (yX1_readInto, cX1_readInto, 5, (some .int)),
  (yX1_itemEnd, cX1_itemEnd, 3, (some .int)),
  (yX1_houseEnd, cX1_houseEnd, 7, (some .int)),
  (yX1_mouseEnd, cX1_mouseEnd, 4, (some .int)),
  (yX1_wishEnd, cX1_wishEnd, 5, (some .int)),
  (yX1_figuresFrom, cX1_figuresFrom, 3, (some .int)),
  (yX1_figureAt, cX1_figureAt, 3, (some .int)),
  (yX1_letterAt, cX1_letterAt, 2, (some .int)),
  (yX2_init, cX2_init, 1, none),
  (yX2_clear, cX2_clear, 1, none),
  (yX2_become, cX2_become, 2, none),
  (yX2_fits, cX2_fits, 2, (some .boolean)),
  (yX2_addHouse, cX2_addHouse, 3, none),
  (yX2_houses, cX2_houses, 1, (some .int)),
  (yX2_rooms, cX2_rooms, 1, (some .int)),
  (yX2_bottom, cX2_bottom, 1, (some .int)),
  (yX2_hasHouse, cX2_hasHouse, 2, (some .boolean)),
  (yX2_hasRoom, cX2_hasRoom, 2, (some .boolean)),
  (yX2_thing, cX2_thing, 4, (some .int)),
  (yX2_place, cX2_place, 5, none),
  (yX2_placeAll, cX2_placeAll, 4, none),
  (yX2_kind, cX2_kind, 2, (some .int)),
  (yX2_setKind, cX2_setKind, 3, none),
  (yX2_hasMouse, cX2_hasMouse, 2, (some .boolean)),
  (yX2_toggleMouse, cX2_toggleMouse, 2, none),
  (yX2_mice, cX2_mice, 1, (some .int)),
  (yX2_wish, cX2_wish, 2, (some .int)),
  (yX2_setWish, cX2_setWish, 3, none),
  (yX2_wishes, cX2_wishes, 3, (some .int)),
  (yX2_metRooms, cX2_metRooms, 3, (some .int)),
  (yX2_day, cX2_day, 1, (some .int)),
  (yX2_addDays, cX2_addDays, 2, none),
  (yX2_shift, cX2_shift, 4, none),
  (yX2_comeUp, cX2_comeUp, 3, (some .boolean)),
  (yX2_live, cX2_live, 4, none),
  (yX2_takeFromWithin, cX2_takeFromWithin, 5, (some .boolean)),
  (yX2_nextThing, cX2_nextThing, 5, (some .int)),
  (yX2_nearer, cX2_nearer, 2, (some .int)),
  (yX2_roomAfter, cX2_roomAfter, 2, (some .int)),
  (yX2_roomAbove, cX2_roomAbove, 6, (some .int)),
  (yX3_init, cX3_init, 1, none),
  (yX3_thingBehind, cX3_thingBehind, 5, (some .int)),
  (yX3_metBehind, cX3_metBehind, 3, (some .int)),
  (yX3_firstDayOf, cX3_firstDayOf, 5, (some .int)),
  (yX3_firstQuietDay, cX3_firstQuietDay, 3, (some .int)),
  (yX3_fewestPins, cX3_fewestPins, 11, (some .int)),
  (yX3_leastThingFor, cX3_leastThingFor, 3, (some .int)),
  (yX3_bestPin, cX3_bestPin, 12, (some .int)),
  (yX3_tryThings, cX3_tryThings, 5, none),
  (yX3_worstMouse, cX3_worstMouse, 8, (some .int)),
  (yX3_mostTelling, cX3_mostTelling, 9, (some .int)),
  (yX3_gatherValues, cX3_gatherValues, 7, none),
  (yX3_hasBit, cX3_hasBit, 2, (some .boolean)),
  (yX4_init, cX4_init, 3, none),
  (yX4_clear, cX4_clear, 1, none),
  (yX4_size, cX4_size, 1, (some .int)),
  (yX4_isFull, cX4_isFull, 1, (some .boolean)),
  (yX4_put, cX4_put, 2, none),
  (yX4_takeInto, cX4_takeInto, 2, (some .boolean)),
  (yX4_dropOldest, cX4_dropOldest, 3, none),
  (yX5_init, cX5_init, 1, none),
  (yX5_size, cX5_size, 1, (some .int)),
  (yX5_clear, cX5_clear, 1, none),
  (yX5_add, cX5_add, 5, (some .boolean)),
  (yX5_comeTrueIn, cX5_comeTrueIn, 4, (some .boolean)),
  (yX5_furthestDay, cX5_furthestDay, 3, (some .int)),
  (yX5_areSo, cX5_areSo, 4, (some .boolean)),
  (yX6_init, cX6_init, 2, none),
  (yX6_write, cX6_write, 2, (some .int)),
  (yX6_wipe, cX6_wipe, 2, (some .int)),
  (yX6_fault, cX6_fault, 1, (some .int)),
  (yX6_lay, cX6_lay, 1, (some .int)),
  (yX6_room, cX6_room, 3, (some .int)),
  (yX6_house, cX6_house, 3, (some .int)),
  (yX6_wanted, cX6_wanted, 2, (some .int)),
  (yX6_pass, cX6_pass, 2, (some .int)),
  (yX6_pin, cX6_pin, 5, (some .int)),
  (yX6_sneeze, cX6_sneeze, 2, (some .int)),
  (yX6_mouse, cX6_mouse, 2, (some .int)),
  (yX6_chase, cX6_chase, 2, (some .int)),
  (yX6_want, cX6_want, 4, (some .int)),
  (yX6_undo, cX6_undo, 1, (some .int)),
  (yX6_behind, cX6_behind, 4, (some .int)),
  (yX6_when, cX6_when, 3, (some .int)),
  (yX6_rest, cX6_rest, 1, (some .int)),
  (yX6_met, cX6_met, 2, (some .int)),
  (yX6_pins, cX6_pins, 3, (some .int)),
  (yX6_one, cX6_one, 3, (some .int)),
  (yX6_harm, cX6_harm, 3, (some .int)),
  (yX6_seen, cX6_seen, 5, (some .int)),
  (yX6_forget, cX6_forget, 2, (some .int)),
  (yX6_kinds, cX6_kinds, 4, (some .int)),
  (yX6_stood, cX6_stood, 4, (some .int)),
  (yX6_tells, cX6_tells, 4, (some .int)),
  (yX6_likely, cX6_likely, 10, (some .int)),
  (yX6_century, cX6_century, 4, (some .int)),
  (yX6_keep, cX6_keep, 1, (some .int)),
  (yX6_back, cX6_back, 1, (some .int)),
  (yX6_count, cX6_count, 2, (some .int)),
  (yX6_setMouse, cX6_setMouse, 3, (some .int)),
  (yX6_orNone, cX6_orNone, 1, (some .int)),
  (yX6_isThing, cX6_isThing, 1, (some .boolean)),
  (yX6_within, cX6_within, 3, (some .boolean)),
  (yX6_power, cX6_power, 4, (some .int)),
  (yX6_commonDivisor, cX6_commonDivisor, 6, (some .int)),
  (yX7_in, cX7_in, 3, (some .boolean)),
  (yX7_has, cX7_has, 2, (some .boolean)),
  (yX7_bits, cX7_bits, 3, (some .int)),
  (yX7_init, cX7_init, 1, none),
  (yX7_first, cX7_first, 5, none),
  (yX7_isHouse, cX7_isHouse, 2, (some .boolean)),
  (yX7_isRoom, cX7_isRoom, 2, (some .boolean)),
  (yX7_write, cX7_write, 2, (some .int)),
  (yX7_wipe, cX7_wipe, 2, (some .int)),
  (yX7_here, cX7_here, 1, (some .int)),
  (yX7_figure, cX7_figure, 3, (some .int)),
  (yX7_sign, cX7_sign, 2, (some .boolean)),
  (yX7_readsHouse, cX7_readsHouse, 3, (some .boolean)),
  (yX7_readsMouse, cX7_readsMouse, 2, (some .boolean)),
  (yX7_readsWant, cX7_readsWant, 3, (some .boolean)),
  (yX7_readsItem, cX7_readsItem, 2, (some .boolean)),
  (yX7_fault, cX7_fault, 2, (some .int)),
  (yX7_lay, cX7_lay, 2, (some .int)),
  (yX7_room, cX7_room, 3, (some .int)),
  (yX7_house, cX7_house, 3, (some .int)),
  (yX7_wanted, cX7_wanted, 2, (some .int)),
  (yX7_thingThen, cX7_thingThen, 5, (some .int)),
  (yX7_passes, cX7_passes, 4, (some .boolean)),
  (yX7_goesOn, cX7_goesOn, 3, none),
  (yX7_metNow, cX7_metNow, 3, (some .int)),
  (yX7_wantedAll, cX7_wantedAll, 3, (some .int)),
  (yX7_mouseMany, cX7_mouseMany, 3, (some .int)),
  (yX7_lays, cX7_lays, 4, none),
  (yX7_takes, cX7_takes, 4, none),
  (yX7_notes, cX7_notes, 2, none),
  (yX7_pass, cX7_pass, 2, (some .int)),
  (yX7_pin, cX7_pin, 5, (some .int)),
  (yX7_sneezes, cX7_sneezes, 4, none),
  (yX7_sneeze, cX7_sneeze, 2, (some .int)),
  (yX7_mousing, cX7_mousing, 3, (some .int)),
  (yX7_mouse, cX7_mouse, 2, (some .int)),
  (yX7_chase, cX7_chase, 2, (some .int)),
  (yX7_want, cX7_want, 4, (some .int)),
  (yX7_undo, cX7_undo, 1, (some .int)),
  (yX7_puts, cX7_puts, 1, none),
  (yX7_puttingBack, cX7_puttingBack, 1, none),
  (yX7_behind, cX7_behind, 5, (some .int)),
  (yX7_when, cX7_when, 5, (some .int)),
  (yX7_rest, cX7_rest, 2, (some .int)),
  (yX7_metBehind, cX7_metBehind, 3, (some .int)),
  (yX7_met, cX7_met, 2, (some .int)),
  (yX7_pinsFor, cX7_pinsFor, 11, (some .int)),
  (yX7_pins, cX7_pins, 4, (some .int)),
  (yX7_one, cX7_one, 11, (some .int)),
  (yX7_harm, cX7_harm, 7, (some .int)),
  (yX7_seen, cX7_seen, 5, (some .int)),
  (yX7_forget, cX7_forget, 2, (some .int)),
  (yX7_isSo, cX7_isSo, 4, (some .boolean)),
  (yX7_kinds, cX7_kinds, 5, (some .int)),
  (yX7_stood, cX7_stood, 6, (some .int)),
  (yX7_rowBehind, cX7_rowBehind, 5, (some .int)),
  (yX7_unlike, cX7_unlike, 10, (some .int)),
  (yX7_tells, cX7_tells, 8, (some .int)),
  (yX7_common, cX7_common, 10, (some .long)),
  (yX7_likely, cX7_likely, 14, (some .int)),
  (yX7_century, cX7_century, 10, (some .int)),
  (yX7_keep, cX7_keep, 1, (some .int)),
  (yX7_back, cX7_back, 1, (some .int)),
  (yX7_count, cX7_count, 2, (some .int)),
  (yJ6_bitCount_0f7a4, cJ6_bitCount_0f7a4, 1, (some .int)),
  (yJ7_fill_53178, cJ7_fill_53178, 4, none)]
def mt (y : Nat) : MethodName × ByteArray × Nat × Option FieldType := MT.getD y (yX0_init, cX0_init, 1, none)
def nestL : List (String × Nat × MethodName × String) := [(RX6, 9, yX1_init, RX6), (RX6, 18, yX2_init, RX6), (RX4, 21, yX2_init, RX6), (RX6, 40, yX5_init, RX6), (RX6, 47, yX3_init, RX6), (RX3, 11, yX2_init, RX6), (RX6, 54, yX0_init, RX6), (RX0, 11, yX2_init, RX6), (RX1, 47, yX6_within, RX6), (RX2, 46, yX6_within, RX6), (RX1, 80, yX6_isThing, RX6), (RX0, 38, yX6_power, RX6)]
/-- what a state must hold beside the tables: links among nest mates, the class of rows of nurseries -/
def XF (U : State) : Prop := (∀ q ∈ nestL, va_Nw (.methodLinkNest q.1 q.2.1 q.2.2.1 q.2.2.2) U) ∧ va_AO RX2 U
theorem XF.warm {s U : State} (hW : s.WarmedH U.vm) (h : XF s) : XF U := ⟨fun q hq => va_Nw.warmM hW (h.1 q hq), va_AO.moved hW.alike h.2⟩
theorem XF.same {s U : State} (hv : s.vm = U.vm) (h : XF s) : XF U := ⟨fun q hq => va_Nw.same rfl hv (h.1 q hq), va_AO.moved (by rw [hv]; exact Vm.Alike.refl _) h.2⟩
def rmD (d mc ms : Nat) : Room := { frames := d, cells := mc, slots := ms, locals := 40 * d }
def PcA (D : va_G) (cI cN : ClassId) (ad ex : Nat → Nat) (sz : Nat) (av : List Value) (h : List aC) : Array Value → State → Prop := va_Pc (av.map (tv ad ex)) (fun U => U.heap.size = sz ∧ va_P D cls (wF cI cN ad ex h) U.heap ∧ va_K D cls (tys cI cN) U ∧ XF U)
def QcA (D : va_G) (cI cN : ClassId) (ad ex : Nat → Nat) (n0 : Nat) (Q : Option Value → List aC → Prop) : Array Value → State → Outcome → State → Prop := fun _ st oc t => (∃ v h', oc = .returned (v.map (tv ad ex)) ∧ Q v h' ∧ h'.length = n0 ∧ va_P D cls (wF cI cN ad ex h') t.heap) ∧ va_F (fun q => ∃ k, q = ad k) st t
abbrev mws (y : Nat) : List Cond := .code (mt y).1 (mt y).2.1 (mt y).2.2.1 (mt y).2.2.2 :: gtbl
def Cok (l : Launch) (D : va_G) (cI cN : ClassId) (ex : Nat → Nat) (d : Nat) (C : callP) : Prop := ∀ y mc ms av h Q, C y mc ms av h Q → ∀ (ad : Nat → Nat) (sz : Nat), (∀ i j, ad i = ad j → i = j) → (∀ k, h.length ≤ k → ad k + h.length = sz + k) →
  Met l (mt y).1 (mws y) (rmD d mc ms) (PcA D cI cN ad ex sz av h) (QcA D cI cN ad ex (h.length + mc) Q) mc ms (fun q => ∃ k, q = ad k)
/-- the locals -/
def lvR (ad ex : Nat → Nat) (ls : Array Slot) (nL : Nat) (lo : List (Option Value)) : Prop := lo.length = nL ∧ ls.size = nL ∧ lv_wf ls ∧ ∀ (i : Nat) (v : Value), lo[i]? = some (some v) → ls[i]? = some (Slot.val (tv ad ex v))
def la (ad ex : Nat → Nat) (lo : List (Option Value)) : List (Nat × Value) := (List.range lo.length).filterMap (fun i => match lo[i]? with
  | some (some v) => some (i, tv ad ex v)
  | _ => none)
theorem la_mem {ad ex : Nat → Nat} {lo : List (Option Value)} {q : Nat × Value} (h : q ∈ la ad ex lo) : ∃ v, lo[q.1]? = some (some v) ∧ q.2 = tv ad ex v := by
  obtain ⟨i, -, hi⟩ := List.mem_filterMap.mp h
  split at hi
  · rename_i v e
    cases hi
    exact ⟨v, e, rfl⟩
  · cases hi
theorem la_in {ad ex : Nat → Nat} {lo : List (Option Value)} {i : Nat} {v : Value} (h : lo[i]? = some (some v)) : (i, tv ad ex v) ∈ la ad ex lo := by
  refine List.mem_filterMap.mpr ⟨i, List.mem_range.mpr (List.getElem?_eq_some_iff.mp h).1, ?_⟩
  rw [h]
theorem lvR.has {ad ex : Nat → Nat} {ls : Array Slot} {nL : Nat} {lo : List (Option Value)} (h : lvR ad ex ls nL lo) : lv_has ls nL (la ad ex lo) := by
  refine ⟨h.2.1, h.2.2.1, fun q hq => ?_⟩
  obtain ⟨v, h1, h2⟩ := la_mem hq
  rw [h2]
  exact h.2.2.2 _ _ h1
theorem lvR.place {ad ex : Nat → Nat} {ls : Array Slot} {nL i : Nat} {x : Int32} {lo : List (Option Value)} (_ : lvR ad ex ls nL lo) (e : lo[i]? = some (some (.int x))) : ∃ j : Nat, (la ad ex lo)[j]? = some (i, .int x) := List.getElem?_of_mem (la_in (ad := ad) (ex := ex) e)
theorem okS_lt {lo : List (Option Value)} {i : Nat} (h : okS lo i = true) : i < lo.length := by
  unfold okS at h
  simp only [Bool.and_eq_true, decide_eq_true_eq] at h
  exact h.1
theorem okS_prev {ad ex : Nat → Nat} {lo : List (Option Value)} {j : Nat} {v : Value} (h : okS lo (j + 1) = true) (e : lo[j]? = some (some v)) : (tv ad ex v).category = 1 := by
  unfold okS at h
  simp only [Bool.and_eq_true, decide_eq_true_eq, e] at h
  cases v <;> first | rfl | (exact Bool.noConfusion h.2)
theorem lvR.lt {ad ex : Nat → Nat} {ls : Array Slot} {nL i : Nat} {lo : List (Option Value)} (h : lvR ad ex ls nL lo) (e : okS lo i = true) : i < nL := by rw [← h.1]; exact okS_lt e
theorem lvR.lt2 {ad ex : Nat → Nat} {ls : Array Slot} {nL i : Nat} {lo : List (Option Value)} (h : lvR ad ex ls nL lo) (e : (okS lo i && decide (i + 1 < lo.length)) = true) : i + 1 < nL := by
  simp only [Bool.and_eq_true, decide_eq_true_eq] at e
  rw [← h.1]; exact e.2
theorem lvR.st1 {ad ex : Nat → Nat} {ls ls' : Array Slot} {nL i : Nat} {v : Value} {lo : List (Option Value)} (h : lvR ad ex ls nL lo) (e : okS lo i = true) (h' : lv_has ls' nL ((i, tv ad ex v) :: (la ad ex lo).filter (fun q => !(q.1 == i) && !(q.1 + 1 == i && q.2.category == 2)))) : lvR ad ex ls' nL (lo.set i (some v)) := by
  refine ⟨by rw [List.length_set]; exact h.1, h'.1, h'.2.1, fun j w hj => ?_⟩
  rw [List.getElem?_set] at hj
  by_cases hij : i = j
  · subst hij
    rw [if_pos rfl, if_pos (okS_lt e)] at hj
    cases hj
    exact h'.2.2 (i, tv ad ex v) List.mem_cons_self
  · rw [if_neg hij] at hj
    refine h'.2.2 (j, tv ad ex w) (List.mem_cons_of_mem _ (List.mem_filter.mpr ⟨la_in hj, ?_⟩))
    have h1 : (j == i) = false := by simpa using fun z => hij z.symm
    by_cases hp : j + 1 = i
    · subst hp
      have h2 := okS_prev (ad := ad) (ex := ex) e hj
      simp [h1, h2]
    · have h2 : (j + 1 == i) = false := by simpa using hp
      simp [h1, h2]
theorem lvR.st2 {ad ex : Nat → Nat} {ls ls' : Array Slot} {nL i : Nat} {v : Value} {lo : List (Option Value)} (h : lvR ad ex ls nL lo) (e : (okS lo i && decide (i + 1 < lo.length)) = true) (h' : lv_has ls' nL ((i, tv ad ex v) :: (la ad ex lo).filter (fun q => !(q.1 == i) && (!(q.1 == i + 1) && !(q.1 + 1 == i && q.2.category == 2))))) : lvR ad ex ls' nL ((lo.set i (some v)).set (i + 1) none) := by
  simp only [Bool.and_eq_true, decide_eq_true_eq] at e
  obtain ⟨e, -⟩ := e
  refine ⟨by rw [List.length_set, List.length_set]; exact h.1, h'.1, h'.2.1, fun j w hj => ?_⟩
  rw [List.getElem?_set] at hj
  by_cases hq : i + 1 = j
  · rw [if_pos hq] at hj
    split at hj <;> cases hj
  · rw [if_neg hq, List.getElem?_set] at hj
    by_cases hij : i = j
    · subst hij
      rw [if_pos rfl, if_pos (okS_lt e)] at hj
      cases hj
      exact h'.2.2 (i, tv ad ex v) List.mem_cons_self
    · rw [if_neg hij] at hj
      refine h'.2.2 (j, tv ad ex w) (List.mem_cons_of_mem _ (List.mem_filter.mpr ⟨la_in hj, ?_⟩))
      have h1 : (j == i) = false := by simpa using fun z => hij z.symm
      have h3 : (j == i + 1) = false := by simpa using fun z => hq z.symm
      by_cases hp : j + 1 = i
      · subst hp
        have h2 := okS_prev (ad := ad) (ex := ex) e hj
        simp [h1, h2, h3]
      · have h2 : (j + 1 == i) = false := by simpa using hp
        simp [h1, h2, h3]
/-- the heap -/
def Rl (s : State) (D : va_G) (cI cN : ClassId) (ad ex : Nat → Nat) (n0 : Nat) (A : Nat → Prop) (h : List aC) (c0 : Nat) (H : Heap) (locs : List Loc) : Prop := va_P D cls (wF cI cN ad ex h) H ∧ h.length = n0 + c0 ∧ va_S A s.heap H locs
def Sm (p : Program) (l : Launch) (e : Env) (R : Room) (s : State) (m : MethodId) (args : Array Value) (below : List Frame) (meth : Method) (c : Code) (D : va_G) (cI cN : ClassId) (ad ex : Nat → Nat) (n0 : Nat) (A : Nat → Prop) (nL : Nat) (Qw : State → Prop) : aP :=
  fun pc lo st h c0 s0 => ∀ (H : Heap) (locs : List Loc) (ls : Array Slot), Rl s D cI cN ad ex n0 A h c0 H locs → lvR ad ex ls nL lo → W p l e R s m args below meth c H locs c0 s0 Qw (F0 m pc ls (st.map (tv ad ex)))
def FX (p : Program) (R : Room) (s : State) (m : MethodId) (args : Array Value) (meth : Method) (c : Code) (D : va_G) (cI cN : ClassId) (ad : Nat → Nat) (n0 : Nat) (A : Nat → Prop) (nL : Nat) (own : String) (cc : ByteArray) (ini : Bool) (K : aK) (d : Nat) : Prop :=
  p.tables.exec = Jvm.exec ∧ c.code = cc ∧ c.maxLocals = nL ∧ s.vm.findClass own = some m.cls ∧ (∀ w ∈ gtbl, w.before args s = true) ∧ va_K D cls (tys cI cN) s ∧ XF s ∧ (∀ i j, ad i = ad j → i = j) ∧ (∀ k, n0 ≤ k → ad k + n0 = s.heap.size + k) ∧ (∀ k, A (ad k)) ∧ (∀ q, s.heap.size ≤ q → A q) ∧ (ini = true → meth.name = "<init>") ∧ d + 1 ≤ R.frames ∧ 40 * d + 40 ≤ R.locals ∧ K.1 ≤ R.cells ∧ K.2.1 ≤ R.slots
def RT (p : Program) (l : Launch) (e : Env) (R : Room) (s : State) (m : MethodId) (args : Array Value) (below : List Frame) (meth : Method) (c : Code) (D : va_G) (cI cN : ClassId) (ad ex : Nat → Nat) (n0 : Nat) (A : Nat → Prop) (Qw : State → Prop) (cc : ByteArray) (rt : Option FieldType) (Q : aR) : Prop :=
  (∀ (x : Int32) h c0 s0 H locs ls pc, (rt = some .int ∨ (rt = some .boolean ∧ (x = 0 ∨ x = 1))) → decode cc pc = .ok (.ireturn, 1) → Q (some (.int x)) h c0 s0 → Rl s D cI cN ad ex n0 A h c0 H locs → W p l e R s m args below meth c H locs c0 s0 Qw (F0 m pc ls [.int x])) ∧
  (∀ h c0 s0 H locs ls pc, rt = none → decode cc pc = .ok (.return_, 1) → Q none h c0 s0 → Rl s D cI cN ad ex n0 A h c0 H locs → W p l e R s m args below meth c H locs c0 s0 Qw (F0 m pc ls [])) ∧
  (∀ (x : Int64) h c0 s0 H locs ls pc, rt = some .long → decode cc pc = .ok (.lreturn, 1) → Q (some (.long x)) h c0 s0 → Rl s D cI cN ad ex n0 A h c0 H locs → W p l e R s m args below meth c H locs c0 s0 Qw (F0 m pc ls [.long x]))
/-- the machine does what the pure instruction says -/
def Snd (own : String) (cc : ByteArray) (rt : Option FieldType) (ini : Bool) (pc : Nat) (i : aI) : Prop :=
  ∀ (p : Program) (l : Launch) (e : Env) (R : Room) (s : State) (m : MethodId) (args : Array Value) (below : List Frame) (meth : Method) (c : Code) (D : va_G) (cI cN : ClassId) (ad ex : Nat → Nat) (n0 : Nat) (A : Nat → Prop) (nL : Nat) (Qw : State → Prop) (K : aK) (Q : aR) (d : Nat),
    FX p R s m args meth c D cI cN ad n0 A nL own cc ini K d → Cok l D cI cN ex d K.2.2 → RT p l e R s m args below meth c D cI cN ad ex n0 A Qw cc rt Q →
    ∀ lo st h c0 s0, i K (Sm p l e R s m args below meth c D cI cN ad ex n0 A nL Qw) Q pc lo st h c0 s0 → Sm p l e R s m args below meth c D cI cN ad ex n0 A nL Qw pc lo st h c0 s0

theorem snd_iconst {own : String} {cc : ByteArray} {rt : Option FieldType} {ini : Bool} {pc : Nat} {k : Int} {v : Int32} (hd : decode cc pc = .ok (.iconst k, 1)) (hv : Int32.ofInt k = v) : Snd own cc rt ini pc (i_push (.int v) 1) := by
  intro p l e R s m args below meth c D cI cN ad ex n0 A nL Qw K Q d F hC hT lo st h c0 s0 w
  unfold i_push at w
  intro H locs ls hr hl
  exact lv_iconst F.1 F.2.1 hd hv (w H locs ls hr hl)
theorem snd_bipush {own : String} {cc : ByteArray} {rt : Option FieldType} {ini : Bool} {pc : Nat} {k : Int} {v : Int32} (hd : decode cc pc = .ok (.bipush k, 2)) (hv : (Int8.ofInt k).toInt32 = v) : Snd own cc rt ini pc (i_push (.int v) 2) := by
  intro p l e R s m args below meth c D cI cN ad ex n0 A nL Qw K Q d F hC hT lo st h c0 s0 w
  unfold i_push at w
  intro H locs ls hr hl
  exact lv_bipush F.1 F.2.1 hd hv (w H locs ls hr hl)
theorem snd_sipush {own : String} {cc : ByteArray} {rt : Option FieldType} {ini : Bool} {pc : Nat} {k : Int} {v : Int32} (hd : decode cc pc = .ok (.sipush k, 3)) (hv : (Int16.ofInt k).toInt32 = v) : Snd own cc rt ini pc (i_push (.int v) 3) := by
  intro p l e R s m args below meth c D cI cN ad ex n0 A nL Qw K Q d F hC hT lo st h c0 s0 w
  unfold i_push at w
  intro H locs ls hr hl
  exact lv_sipush F.1 F.2.1 hd hv (w H locs ls hr hl)
theorem snd_lconst {own : String} {cc : ByteArray} {rt : Option FieldType} {ini : Bool} {pc : Nat} {k : Fin 2} {v : Int64} (hd : decode cc pc = .ok (.lconst k, 1)) (hv : Int64.ofNat (k : Nat) = v) : Snd own cc rt ini pc (i_push (.long v) 1) := by
  intro p l e R s m args below meth c D cI cN ad ex n0 A nL Qw K Q d F hC hT lo st h c0 s0 w
  unfold i_push at w
  intro H locs ls hr hl
  exact lv_lconst F.1 F.2.1 hd hv (w H locs ls hr hl)
theorem snd_ldcw {own : String} {cc : ByteArray} {rt : Option FieldType} {ini : Bool} {pc : Nat} {k : Nat} {v : Int32} (hd : decode cc pc = .ok (.ldc_w k, 3)) (hw : Cond.constant own k v ∈ lw_tbl) : Snd own cc rt ini pc (i_push (.int v) 3) := by
  intro p l e R s m args below meth c D cI cN ad ex n0 A nL Qw K Q d F hC hT lo st h c0 s0 w
  unfold i_push at w
  intro H locs ls hr hl
  exact lv_ldcw F.1 F.2.1 F.2.2.2.1 (F.2.2.2.2.1 _ (gt_in hw rfl)) hd (w H locs ls hr hl)
theorem snd_ldc {own : String} {cc : ByteArray} {rt : Option FieldType} {ini : Bool} {pc : Nat} {k : Nat} {v : Int32} (hd : decode cc pc = .ok (.ldc k, 2)) (hw : Cond.constant own k v ∈ lw_tbl) : Snd own cc rt ini pc (i_push (.int v) 2) := by
  intro p l e R s m args below meth c D cI cN ad ex n0 A nL Qw K Q d F hC hT lo st h c0 s0 w
  unfold i_push at w
  intro H locs ls hr hl
  exact lv_ldc F.1 F.2.1 F.2.2.2.1 (F.2.2.2.2.1 _ (gt_in hw rfl)) hd (w H locs ls hr hl)
theorem snd_ldc2 {own : String} {cc : ByteArray} {rt : Option FieldType} {ini : Bool} {pc : Nat} {k : Nat} {v : Int64} (hd : decode cc pc = .ok (.ldc2_w k, 3)) (hw : Cond.constantLong own k v ∈ lw_tbl) : Snd own cc rt ini pc (i_push (.long v) 3) := by
  intro p l e R s m args below meth c D cI cN ad ex n0 A nL Qw K Q d F hC hT lo st h c0 s0 w
  unfold i_push at w
  intro H locs ls hr hl
  exact lv_ldc2 F.1 F.2.1 F.2.2.2.1 (F.2.2.2.2.1 _ (gt_in hw rfl)) hd (w H locs ls hr hl)
theorem snd_iload_n {own : String} {cc : ByteArray} {rt : Option FieldType} {ini : Bool} {pc : Nat} {i : Nat} {k : Fin 4} (hd : decode cc pc = .ok (.iload_n k, 1)) (hk : (k : Nat) = i) : Snd own cc rt ini pc (i_iload i 1) := by
  intro p l e R s m args below meth c D cI cN ad ex n0 A nL Qw K Q d F hC hT lo st h c0 s0 w
  unfold i_iload at w
  split at w
  · rename_i x e1
    intro H locs ls hr hl
    exact lv_iload_n F.1 F.2.1 hd hk (hl.2.2.2 _ _ e1) (w H locs ls hr hl)
  · exact w.elim
theorem snd_iload {own : String} {cc : ByteArray} {rt : Option FieldType} {ini : Bool} {pc : Nat} {i : Nat} (hd : decode cc pc = .ok (.iload i, 2)) : Snd own cc rt ini pc (i_iload i 2) := by
  intro p l e R s m args below meth c D cI cN ad ex n0 A nL Qw K Q d F hC hT lo st h c0 s0 w
  unfold i_iload at w
  split at w
  · rename_i x e1
    intro H locs ls hr hl
    exact lv_iload F.1 F.2.1 hd (hl.2.2.2 _ _ e1) (w H locs ls hr hl)
  · exact w.elim
theorem snd_lload_n {own : String} {cc : ByteArray} {rt : Option FieldType} {ini : Bool} {pc : Nat} {i : Nat} {k : Fin 4} (hd : decode cc pc = .ok (.lload_n k, 1)) (hk : (k : Nat) = i) : Snd own cc rt ini pc (i_lload i 1) := by
  intro p l e R s m args below meth c D cI cN ad ex n0 A nL Qw K Q d F hC hT lo st h c0 s0 w
  unfold i_lload at w
  split at w
  · rename_i x e1
    intro H locs ls hr hl
    exact lv_lload_n F.1 F.2.1 hd hk (hl.2.2.2 _ _ e1) (w H locs ls hr hl)
  · exact w.elim
theorem snd_lload {own : String} {cc : ByteArray} {rt : Option FieldType} {ini : Bool} {pc : Nat} {i : Nat} (hd : decode cc pc = .ok (.lload i, 2)) : Snd own cc rt ini pc (i_lload i 2) := by
  intro p l e R s m args below meth c D cI cN ad ex n0 A nL Qw K Q d F hC hT lo st h c0 s0 w
  unfold i_lload at w
  split at w
  · rename_i x e1
    intro H locs ls hr hl
    exact lv_lload F.1 F.2.1 hd (hl.2.2.2 _ _ e1) (w H locs ls hr hl)
  · exact w.elim
theorem snd_aload_n {own : String} {cc : ByteArray} {rt : Option FieldType} {ini : Bool} {pc : Nat} {i : Nat} {k : Fin 4} (hd : decode cc pc = .ok (.aload_n k, 1)) (hk : (k : Nat) = i) : Snd own cc rt ini pc (i_aload i 1) := by
  intro p l e R s m args below meth c D cI cN ad ex n0 A nL Qw K Q d F hC hT lo st h c0 s0 w
  unfold i_aload at w
  split at w
  · rename_i x e1
    intro H locs ls hr hl
    exact lv_aload_n F.1 F.2.1 hd hk (hl.2.2.2 _ _ e1) (w H locs ls hr hl)
  · rename_i x e1
    intro H locs ls hr hl
    exact lv_aload_n F.1 F.2.1 hd hk (hl.2.2.2 _ _ e1) (w H locs ls hr hl)
  · exact w.elim
theorem snd_aload {own : String} {cc : ByteArray} {rt : Option FieldType} {ini : Bool} {pc : Nat} {i : Nat} (hd : decode cc pc = .ok (.aload i, 2)) : Snd own cc rt ini pc (i_aload i 2) := by
  intro p l e R s m args below meth c D cI cN ad ex n0 A nL Qw K Q d F hC hT lo st h c0 s0 w
  unfold i_aload at w
  split at w
  · rename_i x e1
    intro H locs ls hr hl
    exact lv_aload F.1 F.2.1 hd (hl.2.2.2 _ _ e1) (w H locs ls hr hl)
  · rename_i x e1
    intro H locs ls hr hl
    exact lv_aload F.1 F.2.1 hd (hl.2.2.2 _ _ e1) (w H locs ls hr hl)
  · exact w.elim
theorem snd_istore_n {own : String} {cc : ByteArray} {rt : Option FieldType} {ini : Bool} {pc : Nat} {i : Nat} {k : Fin 4} (hd : decode cc pc = .ok (.istore_n k, 1)) (hk : (k : Nat) = i) : Snd own cc rt ini pc (i_istore i 1) := by
  intro p l e R s m args below meth c D cI cN ad ex n0 A nL Qw K Q d F hC hT lo st h c0 s0 w
  unfold i_istore at w
  split at w
  · rename_i x t e1
    intro H locs ls hr hl
    exact lv_istore_n F.1 F.2.1 hd hk hl.has (hl.lt e1) rfl (fun ls' h' => w H locs ls' hr (hl.st1 e1 h'))
  · exact w.elim
theorem snd_istore {own : String} {cc : ByteArray} {rt : Option FieldType} {ini : Bool} {pc : Nat} {i : Nat} (hd : decode cc pc = .ok (.istore i, 2)) : Snd own cc rt ini pc (i_istore i 2) := by
  intro p l e R s m args below meth c D cI cN ad ex n0 A nL Qw K Q d F hC hT lo st h c0 s0 w
  unfold i_istore at w
  split at w
  · rename_i x t e1
    intro H locs ls hr hl
    exact lv_istore F.1 F.2.1 hd hl.has (hl.lt e1) rfl (fun ls' h' => w H locs ls' hr (hl.st1 e1 h'))
  · exact w.elim
theorem snd_astore_n {own : String} {cc : ByteArray} {rt : Option FieldType} {ini : Bool} {pc : Nat} {i : Nat} {k : Fin 4} (hd : decode cc pc = .ok (.astore_n k, 1)) (hk : (k : Nat) = i) : Snd own cc rt ini pc (i_astore i 1) := by
  intro p l e R s m args below meth c D cI cN ad ex n0 A nL Qw K Q d F hC hT lo st h c0 s0 w
  unfold i_astore at w
  split at w
  · rename_i x t e1
    intro H locs ls hr hl
    exact lv_astore_n F.1 F.2.1 hd hk hl.has (hl.lt e1) rfl (fun ls' h' => w H locs ls' hr (hl.st1 e1 h'))
  · exact w.elim
theorem snd_astore {own : String} {cc : ByteArray} {rt : Option FieldType} {ini : Bool} {pc : Nat} {i : Nat} (hd : decode cc pc = .ok (.astore i, 2)) : Snd own cc rt ini pc (i_astore i 2) := by
  intro p l e R s m args below meth c D cI cN ad ex n0 A nL Qw K Q d F hC hT lo st h c0 s0 w
  unfold i_astore at w
  split at w
  · rename_i x t e1
    intro H locs ls hr hl
    exact lv_astore F.1 F.2.1 hd hl.has (hl.lt e1) rfl (fun ls' h' => w H locs ls' hr (hl.st1 e1 h'))
  · exact w.elim
theorem snd_lstore_n {own : String} {cc : ByteArray} {rt : Option FieldType} {ini : Bool} {pc : Nat} {i : Nat} {k : Fin 4} (hd : decode cc pc = .ok (.lstore_n k, 1)) (hk : (k : Nat) = i) : Snd own cc rt ini pc (i_lstore i 1) := by
  intro p l e R s m args below meth c D cI cN ad ex n0 A nL Qw K Q d F hC hT lo st h c0 s0 w
  unfold i_lstore at w
  split at w
  · rename_i x t e1
    intro H locs ls hr hl
    exact lv_lstore_n F.1 F.2.1 hd hk hl.has (hl.lt2 e1) rfl (fun ls' h' => w H locs ls' hr (hl.st2 e1 h'))
  · exact w.elim
theorem snd_lstore {own : String} {cc : ByteArray} {rt : Option FieldType} {ini : Bool} {pc : Nat} {i : Nat} (hd : decode cc pc = .ok (.lstore i, 2)) : Snd own cc rt ini pc (i_lstore i 2) := by
  intro p l e R s m args below meth c D cI cN ad ex n0 A nL Qw K Q d F hC hT lo st h c0 s0 w
  unfold i_lstore at w
  split at w
  · rename_i x t e1
    intro H locs ls hr hl
    exact lv_lstore F.1 F.2.1 hd hl.has (hl.lt2 e1) rfl (fun ls' h' => w H locs ls' hr (hl.st2 e1 h'))
  · exact w.elim
theorem snd_iinc {own : String} {cc : ByteArray} {rt : Option FieldType} {ini : Bool} {pc : Nat} {i : Nat} {k : Int} {n : Int32} (hd : decode cc pc = .ok (.iinc i k, 3)) (hn : Int32.ofInt k = n) : Snd own cc rt ini pc (i_iinc i n) := by
  intro p l e R s m args below meth c D cI cN ad ex n0 A nL Qw K Q d F hC hT lo st h c0 s0 w
  unfold i_iinc at w
  split at w
  · rename_i x e1 e2
    intro H locs ls hr hl
    obtain ⟨j, hj⟩ := hl.place e1
    exact lv_iinc F.1 F.2.1 hd hl.has hj (by rw [hn]) (hl.lt e2) rfl (fun ls' h' => w H locs ls' hr (hl.st1 e2 h'))
  · exact w.elim
theorem snd_iadd {own : String} {cc : ByteArray} {rt : Option FieldType} {ini : Bool} {pc : Nat}  (hd : decode cc pc = .ok (.iadd, 1)) : Snd own cc rt ini pc (i_bin (fun x y => x + y)) := by
  intro p l e R s m args below meth c D cI cN ad ex n0 A nL Qw K Q d F hC hT lo st h c0 s0 w
  unfold i_bin at w
  split at w
  · intro H locs ls hr hl
    exact lv_iadd F.1 F.2.1 hd (w H locs ls hr hl)
  · exact w.elim
theorem snd_isub {own : String} {cc : ByteArray} {rt : Option FieldType} {ini : Bool} {pc : Nat}  (hd : decode cc pc = .ok (.isub, 1)) : Snd own cc rt ini pc (i_bin (fun x y => x - y)) := by
  intro p l e R s m args below meth c D cI cN ad ex n0 A nL Qw K Q d F hC hT lo st h c0 s0 w
  unfold i_bin at w
  split at w
  · intro H locs ls hr hl
    exact lv_isub F.1 F.2.1 hd (w H locs ls hr hl)
  · exact w.elim
theorem snd_imul {own : String} {cc : ByteArray} {rt : Option FieldType} {ini : Bool} {pc : Nat}  (hd : decode cc pc = .ok (.imul, 1)) : Snd own cc rt ini pc (i_bin (fun x y => x * y)) := by
  intro p l e R s m args below meth c D cI cN ad ex n0 A nL Qw K Q d F hC hT lo st h c0 s0 w
  unfold i_bin at w
  split at w
  · intro H locs ls hr hl
    exact lv_imul F.1 F.2.1 hd (w H locs ls hr hl)
  · exact w.elim
theorem snd_iand {own : String} {cc : ByteArray} {rt : Option FieldType} {ini : Bool} {pc : Nat}  (hd : decode cc pc = .ok (.iand, 1)) : Snd own cc rt ini pc (i_bin (fun x y => x &&& y)) := by
  intro p l e R s m args below meth c D cI cN ad ex n0 A nL Qw K Q d F hC hT lo st h c0 s0 w
  unfold i_bin at w
  split at w
  · intro H locs ls hr hl
    exact lv_iand F.1 F.2.1 hd (w H locs ls hr hl)
  · exact w.elim
theorem snd_ior {own : String} {cc : ByteArray} {rt : Option FieldType} {ini : Bool} {pc : Nat}  (hd : decode cc pc = .ok (.ior, 1)) : Snd own cc rt ini pc (i_bin (fun x y => x ||| y)) := by
  intro p l e R s m args below meth c D cI cN ad ex n0 A nL Qw K Q d F hC hT lo st h c0 s0 w
  unfold i_bin at w
  split at w
  · intro H locs ls hr hl
    exact lv_ior F.1 F.2.1 hd (w H locs ls hr hl)
  · exact w.elim
theorem snd_ixor {own : String} {cc : ByteArray} {rt : Option FieldType} {ini : Bool} {pc : Nat}  (hd : decode cc pc = .ok (.ixor, 1)) : Snd own cc rt ini pc (i_bin (fun x y => x ^^^ y)) := by
  intro p l e R s m args below meth c D cI cN ad ex n0 A nL Qw K Q d F hC hT lo st h c0 s0 w
  unfold i_bin at w
  split at w
  · intro H locs ls hr hl
    exact lv_ixor F.1 F.2.1 hd (w H locs ls hr hl)
  · exact w.elim
theorem snd_ishl {own : String} {cc : ByteArray} {rt : Option FieldType} {ini : Bool} {pc : Nat}  (hd : decode cc pc = .ok (.ishl, 1)) : Snd own cc rt ini pc (i_bin (fun x y => x <<< (y &&& 31))) := by
  intro p l e R s m args below meth c D cI cN ad ex n0 A nL Qw K Q d F hC hT lo st h c0 s0 w
  unfold i_bin at w
  split at w
  · intro H locs ls hr hl
    exact lv_ishl F.1 F.2.1 hd (w H locs ls hr hl)
  · exact w.elim
theorem snd_ishr {own : String} {cc : ByteArray} {rt : Option FieldType} {ini : Bool} {pc : Nat}  (hd : decode cc pc = .ok (.ishr, 1)) : Snd own cc rt ini pc (i_bin (fun x y => x >>> (y &&& 31))) := by
  intro p l e R s m args below meth c D cI cN ad ex n0 A nL Qw K Q d F hC hT lo st h c0 s0 w
  unfold i_bin at w
  split at w
  · intro H locs ls hr hl
    exact lv_ishr F.1 F.2.1 hd (w H locs ls hr hl)
  · exact w.elim
theorem snd_iushr {own : String} {cc : ByteArray} {rt : Option FieldType} {ini : Bool} {pc : Nat}  (hd : decode cc pc = .ok (.iushr, 1)) : Snd own cc rt ini pc (i_bin (fun x y => (x.toUInt32 >>> (y.toUInt32 &&& Int32.toUInt32 31)).toInt32)) := by
  intro p l e R s m args below meth c D cI cN ad ex n0 A nL Qw K Q d F hC hT lo st h c0 s0 w
  unfold i_bin at w
  split at w
  · intro H locs ls hr hl
    exact lv_iushr F.1 F.2.1 hd rfl (w H locs ls hr hl)
  · exact w.elim
theorem snd_idiv {own : String} {cc : ByteArray} {rt : Option FieldType} {ini : Bool} {pc : Nat}  (hd : decode cc pc = .ok (.idiv, 1)) : Snd own cc rt ini pc (i_div (fun x y => x / y)) := by
  intro p l e R s m args below meth c D cI cN ad ex n0 A nL Qw K Q d F hC hT lo st h c0 s0 w
  unfold i_div at w
  split at w
  · intro H locs ls hr hl
    exact lv_idiv F.1 F.2.1 hd w.1 (w.2 H locs ls hr hl)
  · exact w.elim
theorem snd_irem {own : String} {cc : ByteArray} {rt : Option FieldType} {ini : Bool} {pc : Nat}  (hd : decode cc pc = .ok (.irem, 1)) : Snd own cc rt ini pc (i_div (fun x y => x - x / y * y)) := by
  intro p l e R s m args below meth c D cI cN ad ex n0 A nL Qw K Q d F hC hT lo st h c0 s0 w
  unfold i_div at w
  split at w
  · intro H locs ls hr hl
    exact lv_irem F.1 F.2.1 hd w.1 (w.2 H locs ls hr hl)
  · exact w.elim
theorem snd_ladd {own : String} {cc : ByteArray} {rt : Option FieldType} {ini : Bool} {pc : Nat}  (hd : decode cc pc = .ok (.ladd, 1)) : Snd own cc rt ini pc (i_lbin (fun x y => x + y)) := by
  intro p l e R s m args below meth c D cI cN ad ex n0 A nL Qw K Q d F hC hT lo st h c0 s0 w
  unfold i_lbin at w
  split at w
  · intro H locs ls hr hl
    exact lv_ladd F.1 F.2.1 hd (w H locs ls hr hl)
  · exact w.elim
theorem snd_lmul {own : String} {cc : ByteArray} {rt : Option FieldType} {ini : Bool} {pc : Nat}  (hd : decode cc pc = .ok (.lmul, 1)) : Snd own cc rt ini pc (i_lbin (fun x y => x * y)) := by
  intro p l e R s m args below meth c D cI cN ad ex n0 A nL Qw K Q d F hC hT lo st h c0 s0 w
  unfold i_lbin at w
  split at w
  · intro H locs ls hr hl
    exact lv_lmul F.1 F.2.1 hd (w H locs ls hr hl)
  · exact w.elim
theorem snd_ldiv {own : String} {cc : ByteArray} {rt : Option FieldType} {ini : Bool} {pc : Nat}  (hd : decode cc pc = .ok (.ldiv, 1)) : Snd own cc rt ini pc (i_ldiv (fun x y => x / y)) := by
  intro p l e R s m args below meth c D cI cN ad ex n0 A nL Qw K Q d F hC hT lo st h c0 s0 w
  unfold i_ldiv at w
  split at w
  · intro H locs ls hr hl
    exact lv_ldiv F.1 F.2.1 hd w.1 (w.2 H locs ls hr hl)
  · exact w.elim
theorem snd_lrem {own : String} {cc : ByteArray} {rt : Option FieldType} {ini : Bool} {pc : Nat}  (hd : decode cc pc = .ok (.lrem, 1)) : Snd own cc rt ini pc (i_ldiv (fun x y => x - x / y * y)) := by
  intro p l e R s m args below meth c D cI cN ad ex n0 A nL Qw K Q d F hC hT lo st h c0 s0 w
  unfold i_ldiv at w
  split at w
  · intro H locs ls hr hl
    exact lv_lrem F.1 F.2.1 hd w.1 (w.2 H locs ls hr hl)
  · exact w.elim
theorem snd_lcmp {own : String} {cc : ByteArray} {rt : Option FieldType} {ini : Bool} {pc : Nat}  (hd : decode cc pc = .ok (.lcmp, 1)) : Snd own cc rt ini pc (i_lcmp) := by
  intro p l e R s m args below meth c D cI cN ad ex n0 A nL Qw K Q d F hC hT lo st h c0 s0 w
  unfold i_lcmp at w
  split at w
  · intro H locs ls hr hl
    exact W.lcmp F.1 F.2.1 hd (w H locs ls hr hl)
  · exact w.elim
theorem snd_i2l {own : String} {cc : ByteArray} {rt : Option FieldType} {ini : Bool} {pc : Nat}  (hd : decode cc pc = .ok (.i2l, 1)) : Snd own cc rt ini pc (i_i2l) := by
  intro p l e R s m args below meth c D cI cN ad ex n0 A nL Qw K Q d F hC hT lo st h c0 s0 w
  unfold i_i2l at w
  split at w
  · intro H locs ls hr hl
    exact lv_i2l F.1 F.2.1 hd rfl (w H locs ls hr hl)
  · exact w.elim
theorem snd_l2i {own : String} {cc : ByteArray} {rt : Option FieldType} {ini : Bool} {pc : Nat}  (hd : decode cc pc = .ok (.l2i, 1)) : Snd own cc rt ini pc (i_l2i) := by
  intro p l e R s m args below meth c D cI cN ad ex n0 A nL Qw K Q d F hC hT lo st h c0 s0 w
  unfold i_l2i at w
  split at w
  · intro H locs ls hr hl
    exact lv_l2i F.1 F.2.1 hd rfl (w H locs ls hr hl)
  · exact w.elim
theorem snd_dup {own : String} {cc : ByteArray} {rt : Option FieldType} {ini : Bool} {pc : Nat}  (hd : decode cc pc = .ok (.dup, 1)) : Snd own cc rt ini pc (i_dup) := by
  intro p l e R s m args below meth c D cI cN ad ex n0 A nL Qw K Q d F hC hT lo st h c0 s0 w
  unfold i_dup at w
  split at w
  · intro H locs ls hr hl
    exact lv_dup F.1 F.2.1 hd rfl (w H locs ls hr hl)
  · intro H locs ls hr hl
    exact lv_dup F.1 F.2.1 hd rfl (w H locs ls hr hl)
  · exact w.elim
theorem snd_pop {own : String} {cc : ByteArray} {rt : Option FieldType} {ini : Bool} {pc : Nat}  (hd : decode cc pc = .ok (.pop, 1)) : Snd own cc rt ini pc (i_pop) := by
  intro p l e R s m args below meth c D cI cN ad ex n0 A nL Qw K Q d F hC hT lo st h c0 s0 w
  unfold i_pop at w
  split at w
  · intro H locs ls hr hl
    exact lv_pop F.1 F.2.1 hd rfl (w H locs ls hr hl)
  · exact w.elim
theorem snd_dup2 {own : String} {cc : ByteArray} {rt : Option FieldType} {ini : Bool} {pc : Nat}  (hd : decode cc pc = .ok (.dup2, 1)) : Snd own cc rt ini pc (i_dup2) := by
  intro p l e R s m args below meth c D cI cN ad ex n0 A nL Qw K Q d F hC hT lo st h c0 s0 w
  unfold i_dup2 at w
  split at w
  · intro H locs ls hr hl
    exact lv_dup2_11 F.1 F.2.1 hd rfl rfl (w H locs ls hr hl)
  · exact w.elim
theorem snd_if_eq {own : String} {cc : ByteArray} {rt : Option FieldType} {ini : Bool} {pc : Nat} {k : Int} {tgt : Nat} (hd : decode cc pc = .ok (.ifCond .eq k, 3)) (ht : (pc : Int) + k = (tgt : Int)) : Snd own cc rt ini pc (i_if (fun x => x = 0) tgt (pc + 3)) := by
  intro p l e R s m args below meth c D cI cN ad ex n0 A nL Qw K Q d F hC hT lo st h c0 s0 w
  unfold i_if at w
  split at w
  · intro H locs ls hr hl
    exact lv_if_eq F.1 F.2.1 hd ht (fun z => w.1 z H locs ls hr hl) (fun z => w.2 z H locs ls hr hl)
  · exact w.elim
theorem snd_if_ne {own : String} {cc : ByteArray} {rt : Option FieldType} {ini : Bool} {pc : Nat} {k : Int} {tgt : Nat} (hd : decode cc pc = .ok (.ifCond .ne k, 3)) (ht : (pc : Int) + k = (tgt : Int)) : Snd own cc rt ini pc (i_if (fun x => x = 0) (pc + 3) tgt) := by
  intro p l e R s m args below meth c D cI cN ad ex n0 A nL Qw K Q d F hC hT lo st h c0 s0 w
  unfold i_if at w
  split at w
  · intro H locs ls hr hl
    exact lv_if_ne F.1 F.2.1 hd ht (fun z => w.2 z H locs ls hr hl) (fun z => w.1 z H locs ls hr hl)
  · exact w.elim
theorem snd_if_lt {own : String} {cc : ByteArray} {rt : Option FieldType} {ini : Bool} {pc : Nat} {k : Int} {tgt : Nat} (hd : decode cc pc = .ok (.ifCond .lt k, 3)) (ht : (pc : Int) + k = (tgt : Int)) : Snd own cc rt ini pc (i_if (fun x => x < 0) tgt (pc + 3)) := by
  intro p l e R s m args below meth c D cI cN ad ex n0 A nL Qw K Q d F hC hT lo st h c0 s0 w
  unfold i_if at w
  split at w
  · intro H locs ls hr hl
    exact lv_if_lt F.1 F.2.1 hd ht (fun z => w.1 z H locs ls hr hl) (fun z => w.2 z H locs ls hr hl)
  · exact w.elim
theorem snd_if_ge {own : String} {cc : ByteArray} {rt : Option FieldType} {ini : Bool} {pc : Nat} {k : Int} {tgt : Nat} (hd : decode cc pc = .ok (.ifCond .ge k, 3)) (ht : (pc : Int) + k = (tgt : Int)) : Snd own cc rt ini pc (i_if (fun x => x < 0) (pc + 3) tgt) := by
  intro p l e R s m args below meth c D cI cN ad ex n0 A nL Qw K Q d F hC hT lo st h c0 s0 w
  unfold i_if at w
  split at w
  · intro H locs ls hr hl
    exact lv_if_ge F.1 F.2.1 hd ht (fun z => w.2 (Int32.not_lt.mpr z) H locs ls hr hl) (fun z => w.1 (Int32.not_le.mp z) H locs ls hr hl)
  · exact w.elim
theorem snd_if_gt {own : String} {cc : ByteArray} {rt : Option FieldType} {ini : Bool} {pc : Nat} {k : Int} {tgt : Nat} (hd : decode cc pc = .ok (.ifCond .gt k, 3)) (ht : (pc : Int) + k = (tgt : Int)) : Snd own cc rt ini pc (i_if (fun x => 0 < x) tgt (pc + 3)) := by
  intro p l e R s m args below meth c D cI cN ad ex n0 A nL Qw K Q d F hC hT lo st h c0 s0 w
  unfold i_if at w
  split at w
  · intro H locs ls hr hl
    exact lv_if_gt F.1 F.2.1 hd ht (fun z => w.1 z H locs ls hr hl) (fun z => w.2 z H locs ls hr hl)
  · exact w.elim
theorem snd_if_le {own : String} {cc : ByteArray} {rt : Option FieldType} {ini : Bool} {pc : Nat} {k : Int} {tgt : Nat} (hd : decode cc pc = .ok (.ifCond .le k, 3)) (ht : (pc : Int) + k = (tgt : Int)) : Snd own cc rt ini pc (i_if (fun x => 0 < x) (pc + 3) tgt) := by
  intro p l e R s m args below meth c D cI cN ad ex n0 A nL Qw K Q d F hC hT lo st h c0 s0 w
  unfold i_if at w
  split at w
  · intro H locs ls hr hl
    exact lv_if_le F.1 F.2.1 hd ht (fun z => w.2 (Int32.not_lt.mpr z) H locs ls hr hl) (fun z => w.1 (Int32.not_le.mp z) H locs ls hr hl)
  · exact w.elim
theorem snd_icmp_eq {own : String} {cc : ByteArray} {rt : Option FieldType} {ini : Bool} {pc : Nat} {k : Int} {tgt : Nat} (hd : decode cc pc = .ok (.if_icmp .eq k, 3)) (ht : (pc : Int) + k = (tgt : Int)) : Snd own cc rt ini pc (i_icmp (fun x y => x = y) tgt (pc + 3)) := by
  intro p l e R s m args below meth c D cI cN ad ex n0 A nL Qw K Q d F hC hT lo st h c0 s0 w
  unfold i_icmp at w
  split at w
  · intro H locs ls hr hl
    exact lv_icmp_eq F.1 F.2.1 hd ht (fun z => w.1 z H locs ls hr hl) (fun z => w.2 z H locs ls hr hl)
  · exact w.elim
theorem snd_icmp_ne {own : String} {cc : ByteArray} {rt : Option FieldType} {ini : Bool} {pc : Nat} {k : Int} {tgt : Nat} (hd : decode cc pc = .ok (.if_icmp .ne k, 3)) (ht : (pc : Int) + k = (tgt : Int)) : Snd own cc rt ini pc (i_icmp (fun x y => x = y) (pc + 3) tgt) := by
  intro p l e R s m args below meth c D cI cN ad ex n0 A nL Qw K Q d F hC hT lo st h c0 s0 w
  unfold i_icmp at w
  split at w
  · intro H locs ls hr hl
    exact lv_icmp_ne F.1 F.2.1 hd ht (fun z => w.2 z H locs ls hr hl) (fun z => w.1 z H locs ls hr hl)
  · exact w.elim
theorem snd_icmp_lt {own : String} {cc : ByteArray} {rt : Option FieldType} {ini : Bool} {pc : Nat} {k : Int} {tgt : Nat} (hd : decode cc pc = .ok (.if_icmp .lt k, 3)) (ht : (pc : Int) + k = (tgt : Int)) : Snd own cc rt ini pc (i_icmp (fun x y => x < y) tgt (pc + 3)) := by
  intro p l e R s m args below meth c D cI cN ad ex n0 A nL Qw K Q d F hC hT lo st h c0 s0 w
  unfold i_icmp at w
  split at w
  · intro H locs ls hr hl
    exact lv_icmp_lt F.1 F.2.1 hd ht (fun z => w.1 z H locs ls hr hl) (fun z => w.2 z H locs ls hr hl)
  · exact w.elim
theorem snd_icmp_ge {own : String} {cc : ByteArray} {rt : Option FieldType} {ini : Bool} {pc : Nat} {k : Int} {tgt : Nat} (hd : decode cc pc = .ok (.if_icmp .ge k, 3)) (ht : (pc : Int) + k = (tgt : Int)) : Snd own cc rt ini pc (i_icmp (fun x y => x < y) (pc + 3) tgt) := by
  intro p l e R s m args below meth c D cI cN ad ex n0 A nL Qw K Q d F hC hT lo st h c0 s0 w
  unfold i_icmp at w
  split at w
  · intro H locs ls hr hl
    exact lv_icmp_ge F.1 F.2.1 hd ht (fun z => w.2 (Int32.not_lt.mpr z) H locs ls hr hl) (fun z => w.1 (Int32.not_le.mp z) H locs ls hr hl)
  · exact w.elim
theorem snd_icmp_gt {own : String} {cc : ByteArray} {rt : Option FieldType} {ini : Bool} {pc : Nat} {k : Int} {tgt : Nat} (hd : decode cc pc = .ok (.if_icmp .gt k, 3)) (ht : (pc : Int) + k = (tgt : Int)) : Snd own cc rt ini pc (i_icmp (fun x y => y < x) tgt (pc + 3)) := by
  intro p l e R s m args below meth c D cI cN ad ex n0 A nL Qw K Q d F hC hT lo st h c0 s0 w
  unfold i_icmp at w
  split at w
  · intro H locs ls hr hl
    exact lv_icmp_gt F.1 F.2.1 hd ht (fun z => w.1 z H locs ls hr hl) (fun z => w.2 z H locs ls hr hl)
  · exact w.elim
theorem snd_icmp_le {own : String} {cc : ByteArray} {rt : Option FieldType} {ini : Bool} {pc : Nat} {k : Int} {tgt : Nat} (hd : decode cc pc = .ok (.if_icmp .le k, 3)) (ht : (pc : Int) + k = (tgt : Int)) : Snd own cc rt ini pc (i_icmp (fun x y => y < x) (pc + 3) tgt) := by
  intro p l e R s m args below meth c D cI cN ad ex n0 A nL Qw K Q d F hC hT lo st h c0 s0 w
  unfold i_icmp at w
  split at w
  · intro H locs ls hr hl
    exact lv_icmp_le F.1 F.2.1 hd ht (fun z => w.2 (Int32.not_lt.mpr z) H locs ls hr hl) (fun z => w.1 (Int32.not_le.mp z) H locs ls hr hl)
  · exact w.elim
theorem snd_goto {own : String} {cc : ByteArray} {rt : Option FieldType} {ini : Bool} {pc : Nat} {k : Int} {tgt : Nat} (hd : decode cc pc = .ok (.goto k, 3)) (ht : (pc : Int) + k = (tgt : Int)) : Snd own cc rt ini pc (i_goto tgt) := by
  intro p l e R s m args below meth c D cI cN ad ex n0 A nL Qw K Q d F hC hT lo st h c0 s0 w
  unfold i_goto at w
  intro H locs ls hr hl
  exact lv_goto F.1 F.2.1 hd ht (w H locs ls hr hl)
theorem snd_tsw {own : String} {cc : ByteArray} {rt : Option FieldType} {ini : Bool} {pc : Nat} {dk lw hi : Int} {offs : Array Int} {len df : Nat} {tg : List Nat} (hd : decode cc pc = .ok (.tableswitch dk lw hi offs, len)) (h1 : (pc : Int) + dk = (df : Int)) (h2 : offs.toList.map (fun o => (pc : Int) + o) = tg.map (fun (a : Nat) => (a : Int))) (h3 : hi - lw + 1 = tg.length) : Snd own cc rt ini pc (i_tsw lw hi tg df) := by
  intro p l e R s m args below meth c D cI cN ad ex n0 A nL Qw K Q d F hC hT lo st h c0 s0 w
  unfold i_tsw at w
  split at w
  · rename_i x t
    intro H locs ls hr hl
    by_cases ho : x.toInt < lw ∨ hi < x.toInt
    · exact lv_tableOut F.1 F.2.1 hd ho h1 (w.1 ho H locs ls hr hl)
    · have g1 : ¬ x.toInt < lw := fun z => ho (Or.inl z)
      have g2 : ¬ hi < x.toInt := fun z => ho (Or.inr z)
      have hj : (x.toInt - lw).toNat < tg.length := by omega
      have e1 : tg[(x.toInt - lw).toNat]? = some tg[(x.toInt - lw).toNat] := List.getElem?_eq_getElem hj
      have e2 : (offs.toList.map (fun o => (pc : Int) + o))[(x.toInt - lw).toNat]? = some ((tg[(x.toInt - lw).toNat] : Nat) : Int) := by rw [h2, List.getElem?_map, e1]; rfl
      rw [List.getElem?_map] at e2
      obtain ⟨o, e3, e4⟩ := Option.map_eq_some_iff.mp e2
      exact lv_tableIn F.1 F.2.1 hd g1 g2 (by rw [← Array.getElem?_toList]; exact e3) e4 (w.2 _ _ e1 (by omega) H locs ls hr hl)
  · exact w.elim
theorem lsw_off {x : Int} : ∀ (ps : List (Int × Int)) (dk : Int) (pc : Nat), (∃ q ∈ ps, x = q.1 ∧ Op.lookupswitch.offset ps dk x = q.2) ∨ ((∀ q ∈ ps, x ≠ q.1) ∧ Op.lookupswitch.offset ps dk x = dk)
  | [], dk, pc => Or.inr ⟨fun q h => absurd h List.not_mem_nil, rfl⟩
  | (a, o) :: r, dk, pc => by
    rw [Op.lookupswitch.offset_cons]
    by_cases h : a = x
    · rw [if_pos h]
      exact Or.inl ⟨(a, o), List.mem_cons_self, h.symm, rfl⟩
    · rw [if_neg h]
      rcases lsw_off r dk pc with ⟨q, h1, h2, h3⟩ | ⟨h1, h2⟩
      · exact Or.inl ⟨q, List.mem_cons_of_mem _ h1, h2, h3⟩
      · refine Or.inr ⟨fun q hq => ?_, h2⟩
        rcases List.mem_cons.mp hq with rfl | hq
        · exact fun z => h z.symm
        · exact h1 q hq
theorem snd_lsw {own : String} {cc : ByteArray} {rt : Option FieldType} {ini : Bool} {pc : Nat} {dk : Int} {prs : Array (Int × Int)} {len df : Nat} {ps : List (Int × Nat)} (hd : decode cc pc = .ok (.lookupswitch dk prs, len)) (hp : (prs.toList.zip (prs.toList.drop 1)).all (fun (a, next) => a.1 < next.1) = true) (h1 : (pc : Int) + dk = (df : Int)) (h2 : prs.toList.map (fun o => (o.1, (pc : Int) + o.2)) = ps.map (fun a => (a.1, (a.2 : Int)))) : Snd own cc rt ini pc (i_lsw ps df) := by
  intro p l e R s m args below meth c D cI cN ad ex n0 A nL Qw K Q d F hC hT lo st h c0 s0 w
  unfold i_lsw at w
  split at w
  · rename_i x t
    intro H locs ls hr hl
    rcases lsw_off (x := x.toInt) prs.toList dk pc with ⟨q, g1, g2, g3⟩ | ⟨g1, g2⟩
    · have e1 : (q.1, (pc : Int) + q.2) ∈ ps.map (fun a => (a.1, (a.2 : Int))) := by rw [← h2]; exact List.mem_map.mpr ⟨q, g1, rfl⟩
      obtain ⟨a, ha, e2⟩ := List.mem_map.mp e1
      have e3 : a.1 = q.1 := (Prod.mk.inj e2).1
      have e4 : (a.2 : Int) = (pc : Int) + q.2 := (Prod.mk.inj e2).2
      exact lv_lookup F.1 F.2.1 hd hp g3 e4.symm (w.2 a ha (by rw [e3]; exact g2) H locs ls hr hl)
    · refine lv_lookup F.1 F.2.1 hd hp g2 h1 (w.1 (fun a ha z => ?_) H locs ls hr hl)
      have e1 : (a.1, (a.2 : Int)) ∈ prs.toList.map (fun o => (o.1, (pc : Int) + o.2)) := by rw [h2]; exact List.mem_map.mpr ⟨a, ha, rfl⟩
      obtain ⟨q, hq, e2⟩ := List.mem_map.mp e1
      exact g1 q hq (by rw [z]; exact (Prod.mk.inj e2).1.symm)
  · exact w.elim
/-- what a class's fields need -/
def Fld (ci k : Nat) (own : String) (idx : Nat) (fin : Bool) (ty : FieldType) : Prop := ∃ (C : String) (T : u_T) (N : Nat) (ty0 : Nat → FieldType), cls[ci]? = some (C, T, N) ∧ k < N ∧ Cond.fieldLink own idx (T k).1 (T k).2.1 (T k).2.2.1 ∈ lw_tbl ∧ (∀ w ∈ u_ws C T N, w ∈ gtbl) ∧ (∀ k, k < N → parseFieldDescriptor (T k).2.2.1 = some (ty0 k)) ∧ (∀ a, a < N → ∀ b, b < N → a ≠ b → (T a).2.1 ≠ (T b).2.1) ∧ (T k).2.2.2 = fin ∧ (T k).1 = own ∧ parseFieldDescriptor (T k).2.2.1 = some ty
theorem Rl.set {s : State} {D : va_G} {cI cN : ClassId} {ad ex : Nat → Nat} {n0 c0 : Nat} {A : Nat → Prop} {h : List aC} {H H1 : Heap} {locs locs1 : List Loc} {k : Nat} {c : aC} (hr : Rl s D cI cN ad ex n0 A h c0 H locs) (hP : va_P D cls ((wF cI cN ad ex h).set k (ad k, tc cI cN ad ex c)) H1) (hS : va_S A s.heap H1 locs1) : Rl s D cI cN ad ex n0 A (h.set k c) c0 H1 locs1 :=
  ⟨by rw [wF_set]; exact hP, by rw [List.length_set]; exact hr.2.1, hS⟩
theorem Rl.D {p : Program} {R : Room} {s : State} {m : MethodId} {args : Array Value} {meth : Method} {c : Code} {D : va_G} {cI cN : ClassId} {ad ex : Nat → Nat} {n0 nL d : Nat} {A : Nat → Prop} {own : String} {cc : ByteArray} {ini : Bool} {K : aK} {h : List aC} (F : FX p R s m args meth c D cI cN ad n0 A nL own cc ini K d) : va_D A (wF cI cN ad ex h) := wF_D F.2.2.2.2.2.2.2.1 F.2.2.2.2.2.2.2.2.2.1
theorem tc_ao_set {cI cN : ClassId} {ad ex : Nat → Nat} {ci k : Nat} {fs : List Value} {v : Value} : tc cI cN ad ex (ao ci (fs.set k v)) = .inr (ci, (fs.map (tv ad ex)).set k (tv ad ex v)) := by
  show Sum.inr (ci, (fs.set k v).map (tv ad ex)) = _
  rw [List.map_set]
theorem snd_get {own : String} {cc : ByteArray} {rt : Option FieldType} {ini : Bool} {pc ci k idx : Nat} {fin : Bool} {ty : FieldType} (hf : Fld ci k own idx fin ty) (hd : decode cc pc = .ok (.getfield idx, 3)) : Snd own cc rt ini pc (i_get ci k) := by
  obtain ⟨C, T, N, ty0, f1, f2, f3, f4, f5, f6, f7, f8, f9⟩ := hf
  intro p l e R s m args below meth c D cI cN ad ex n0 A nL Qw K Q d F hC hT lo st h c0 s0 w
  unfold i_get at w
  split at w
  · rename_i a t
    split at w
    · rename_i cj fs e1
      split at w
      · rename_i v e2 e3
        have e2 : cj = ci := by simpa using e2
        subst e2
        intro H locs ls hr hl
        exact va_get (v := tv ad ex v) F.1 F.2.1 F.2.2.2.2.1 f4 F.2.2.2.1 F.2.2.2.2.2.1 hr.1 a (wF_at e1) f1 k f2 (F.2.2.2.2.1 _ (gt_in f3 rfl)) (fun _ z => z) (by rw [List.getElem?_map, e3]; rfl) hd (w H locs ls hr hl)
      · exact w.elim
    · exact w.elim
  · exact w.elim
theorem snd_put {own : String} {cc : ByteArray} {rt : Option FieldType} {ini : Bool} {pc ci k idx : Nat} (hf : Fld ci k own idx false .int) (hd : decode cc pc = .ok (.putfield idx, 3)) : Snd own cc rt ini pc (i_put ci k) := by
  obtain ⟨C, T, N, ty0, f1, f2, f3, f4, f5, f6, f7, f8, f9⟩ := hf
  intro p l e R s m args below meth c D cI cN ad ex n0 A nL Qw K Q d F hC hT lo st h c0 s0 w
  unfold i_put at w
  split at w
  · rename_i x a t
    split at w
    · rename_i cj fs e1
      split at w
      · rename_i e2 e3
        have e2 : cj = ci := by simpa using e2
        have e3 : k < fs.length := by simpa using e3
        subst e2
        intro H locs ls hr hl
        exact va_put (v := .int x) (ty := .int) F.1 F.2.1 F.2.2.2.2.1 f4 ty0 f5 f6 F.2.2.2.1 F.2.2.2.2.2.1 hr.1 (Rl.D F) hr.2.2 a (wF_at e1) f1 k f2 (F.2.2.2.2.1 _ (gt_in f3 rfl)) (fun _ z => z) f7 f9 rfl rfl (by rw [List.length_map]; exact e3) hd (fun H1 locs1 hP hD hS => w H1 locs1 ls (hr.set (by rw [tc_ao_set]; exact hP) hS) hl)
      · exact w.elim
    · exact w.elim
  · exact w.elim
theorem snd_putR {own : String} {cc : ByteArray} {rt : Option FieldType} {pc ci k idx : Nat} {ty : FieldType} (hf : Fld ci k own idx true ty) (hty : (∃ n, ty = .object n) ∨ ∃ t, ty = .array t) (hd : decode cc pc = .ok (.putfield idx, 3)) : Snd own cc rt true pc (i_putR ci k) := by
  obtain ⟨C, T, N, ty0, f1, f2, f3, f4, f5, f6, f7, f8, f9⟩ := hf
  intro p l e R s m args below meth c D cI cN ad ex n0 A nL Qw K Q d F hC hT lo st h c0 s0 w
  unfold i_putR at w
  split at w
  · rename_i x a t
    split at w
    · rename_i cj fs e1
      split at w
      · rename_i e2 e3
        have e2 : cj = ci := by simpa using e2
        have e3 : k < fs.length := by simpa using e3
        subst e2
        intro H locs ls hr hl
        exact va_putF (v := .ref (ad x)) (ty := ty) F.1 F.2.1 F.2.2.2.2.1 f4 ty0 f5 f6 F.2.2.2.1 F.2.2.2.2.2.1 hr.1 (Rl.D F) hr.2.2 a (wF_at e1) f1 k f2 (F.2.2.2.2.1 _ (gt_in f3 rfl)) (fun _ z => z) f7 (F.2.2.2.2.2.2.2.2.2.2.2.1 rfl) f8 f9 (by rcases hty with ⟨n, rfl⟩ | ⟨n, rfl⟩ <;> rfl) (by rcases hty with ⟨n, rfl⟩ | ⟨n, rfl⟩ <;> rfl) (by rw [List.length_map]; exact e3) hd (fun H1 locs1 hP hD hS => w H1 locs1 ls (hr.set (by rw [tc_ao_set]; exact hP) hS) hl)
      · exact w.elim
    · exact w.elim
  · exact w.elim
theorem snd_iald {own : String} {cc : ByteArray} {rt : Option FieldType} {ini : Bool} {pc : Nat} (hd : decode cc pc = .ok (.iaload, 1)) : Snd own cc rt ini pc i_iald := by
  intro p l e R s m args below meth c D cI cN ad ex n0 A nL Qw K Q d F hC hT lo st h c0 s0 w
  unfold i_iald at w
  split at w
  · rename_i i a t
    split at w
    · rename_i n f e1
      obtain ⟨k, rfl, ⟨w0, w1⟩, w⟩ := w
      intro H locs ls hr hl
      refine va_iald F.1 F.2.1 F.2.2.2.2.2.1 hr.1 a 0 (wF_at e1) rfl (vp_in_nI w0 (by omega)) hd ?_
      rw [nI_clamp (by omega)]
      exact w H locs ls hr hl
    · exact w.elim
  · exact w.elim
theorem snd_iast {own : String} {cc : ByteArray} {rt : Option FieldType} {ini : Bool} {pc : Nat} (hd : decode cc pc = .ok (.iastore, 1)) : Snd own cc rt ini pc i_iast := by
  intro p l e R s m args below meth c D cI cN ad ex n0 A nL Qw K Q d F hC hT lo st h c0 s0 w
  unfold i_iast at w
  split at w
  · rename_i x i a t
    split at w
    · rename_i n f e1
      obtain ⟨k, rfl, ⟨w0, w1⟩, w⟩ := w
      intro H locs ls hr hl
      refine va_iast F.1 F.2.1 F.2.2.2.2.2.1 hr.1 (Rl.D F) hr.2.2 a 0 (wF_at e1) rfl (vp_in_nI w0 (by omega)) hd (fun H1 locs1 hP hD hS => ?_)
      rw [nI_clamp (by omega)] at hP
      exact w H1 locs1 ls (hr.set hP hS) hl
    · exact w.elim
  · exact w.elim
theorem snd_alen {own : String} {cc : ByteArray} {rt : Option FieldType} {ini : Bool} {pc : Nat} (hd : decode cc pc = .ok (.arraylength, 1)) : Snd own cc rt ini pc i_alen := by
  intro p l e R s m args below meth c D cI cN ad ex n0 A nL Qw K Q d F hC hT lo st h c0 s0 w
  unfold i_alen at w
  split at w
  · rename_i a t
    split at w
    · rename_i n f e1
      intro H locs ls hr hl
      exact va_alen F.1 F.2.1 F.2.2.2.2.2.1 hr.1 a 0 (wF_at e1) rfl rfl hd (w H locs ls hr hl)
    · rename_i n f e1
      intro H locs ls hr hl
      exact va_alen F.1 F.2.1 F.2.2.2.2.2.1 hr.1 a 1 (wF_at e1) rfl rfl hd (w H locs ls hr hl)
    · exact w.elim
  · exact w.elim
theorem snd_aald {own : String} {cc : ByteArray} {rt : Option FieldType} {ini : Bool} {pc : Nat} (hd : decode cc pc = .ok (.aaload, 1)) : Snd own cc rt ini pc i_aald := by
  intro p l e R s m args below meth c D cI cN ad ex n0 A nL Qw K Q d F hC hT lo st h c0 s0 w
  unfold i_aald at w
  split at w
  · rename_i i a t
    split at w
    · rename_i n g e1
      obtain ⟨k, rfl, ⟨w0, w1⟩, r, hg, w2⟩ := w
      intro H locs ls hr hl
      refine va_aldq F.1 F.2.1 F.2.2.2.2.2.1 hr.1 a 1 (wF_at e1) rfl (vp_in_nI w0 (by omega)) hd ?_
      rw [nI_clamp (by omega)]
      have e2 : va_rf ((g k).map ad) = .ref (ad r) := by rw [hg]; rfl
      show W _ _ _ _ _ _ _ _ _ _ _ _ _ _ _ (F0 m (pc + 1) ls (va_rf ((g k).map ad) :: t.map (tv ad ex)))
      rw [e2]
      exact w2 H locs ls hr hl
    · exact w.elim
  · exact w.elim
theorem snd_aast {own : String} {cc : ByteArray} {rt : Option FieldType} {ini : Bool} {pc : Nat} (hd : decode cc pc = .ok (.aastore, 1)) : Snd own cc rt ini pc i_aast := by
  intro p l e R s m args below meth c D cI cN ad ex n0 A nL Qw K Q d F hC hT lo st h c0 s0 w
  unfold i_aast at w
  split at w
  · rename_i v i a t
    split at w
    · rename_i n g e1
      obtain ⟨k, rfl, ⟨w0, w1⟩, ⟨fs, e2⟩, w2⟩ := w
      intro H locs ls hr hl
      refine va_astq (r := (RX2, TX2, 7)) F.1 F.2.1 F.2.2.2.2.2.1 hr.1 (Rl.D F) hr.2.2 a 1 v 2 (wF_at e1) rfl (wF_at e2) rfl (vp_in_nI w0 (by omega)) hd (fun H1 locs1 hP hD hS => w2 H1 locs1 ls (hr.set ?_ hS) hl)
      rw [nI_clamp (by omega)] at hP
      have e3 : (fun j => (va_up g k (some v) j).map ad) = va_up (fun j => (g j).map ad) k (some (ad v)) := by
        funext j
        unfold va_up
        by_cases hj : j = k
        · simp [hj]
        · simp [hj]
      show va_P D cls ((wF cI cN ad ex h).set a (ad a, .inl (cN, n, .inr (.inr (.inr (.inr (fun j => (va_up g k (some v) j).map ad))))))) H1
      rw [e3]
      exact hP
    · exact w.elim
  · exact w.elim
theorem cat_tv (ad ex : Nat → Nat) (v : Value) : (tv ad ex v).category = v.category := by cases v <;> rfl
theorem cats_tv (ad ex : Nat → Nat) (t : List Value) : ((t.map (tv ad ex)).map fun v => v.category).sum = (t.map fun v => v.category).sum := by
  rw [List.map_map]
  congr 1
  exact List.map_congr_left (fun v _ => cat_tv ad ex v)
theorem snd_copy {own : String} {cc : ByteArray} {rt : Option FieldType} {ini : Bool} {pc idx : Nat} (h1 : Cond.methodLink own idx arraycopyName ∈ lw_tbl) (h2 : Cond.native arraycopyName ∈ lw_tbl) (h3 : Cond.static arraycopyName ∈ lw_tbl) (h4 : Cond.initialized "java/lang/System" ∈ lw_tbl) (hd : decode cc pc = .ok (.invokestatic idx, 3)) : Snd own cc rt ini pc i_copy := by
  intro p l e R s m args below meth c D cI cN ad ex n0 A nL Qw K Q d F hC hT lo st h c0 s0 w
  unfold i_copy at w
  split at w
  · rename_i n dp b sp a t
    split at w
    · rename_i n0' f n1 g e1 e2
      obtain ⟨⟨rfl, rfl, rfl, rfl, g5, g6⟩, w⟩ := w
      intro H locs ls hr hl
      have h9 := F.2.2.2.2.2.2.2.2.2.2.2.2.2.1
      have h7 := F.2.2.2.2.2.2.2.2.2.2.2.2.1
      have h8 : nativeFrameWords "java/lang/System" "arraycopy" 5 = 7 := by decide
      have z0 : (nI 0).toNatClampNeg = 0 := by decide
      have zn : (nI n1).toNatClampNeg = n1 := nI_clamp (by omega)
      have eC : ∀ c1 : ClassId, vp_cell c1 (n1, .inl (va_cpy f g 0 0 n1)) = vp_cell c1 (n1, .inl f) := fun c1 => by
        rw [vp_cell_i, vp_cell_i]
        unfold arrV
        congr 2
        funext j
        have := j.isLt
        simp [va_cpy, this]
      refine va_copyi (ty := .int) F.1 F.2.1 (by rw [F.2.2.1, hl.2.1]) F.2.2.2.1 (F.2.2.2.2.1 _ (gt_in h1 rfl)) (F.2.2.2.2.1 _ (gt_in h2 rfl)) (F.2.2.2.2.1 _ (gt_in h3 rfl)) (F.2.2.2.2.1 _ (gt_in h4 rfl)) F.2.2.2.2.2.1 hr.1 (Rl.D F) hr.2.2 a b 0 0 (wF_at e1) (wF_at e2) rfl rfl rfl (nI_pos (by omega)) (nI_pos (by omega)) (nI_pos (by omega)) (by rw [z0, zn]; omega) (by rw [z0, zn]; omega) (fun _ _ => rfl) (by omega) (by rw [cats_tv, h8]; omega) hd (fun H1 locs1 hP hD hS => w H1 locs1 ls (hr.set (fun k q hk => ?_) hS) hl)
      rw [z0, zn] at hP
      by_cases hkb : k = b
      · subst hkb
        have hlt : k < (wF cI cN ad ex h).length := (List.getElem?_eq_some_iff.mp (wF_at (cI := cI) (cN := cN) (ad := ad) (ex := ex) e2)).1
        rw [List.getElem?_set_self hlt] at hk
        cases hk
        have h5 := hP k _ (List.getElem?_set_self hlt)
        show H1[ad k]? = some (vp_cell cI (n1, .inl f))
        rw [← eC]
        exact h5
      · rw [List.getElem?_set_ne (Ne.symm hkb)] at hk
        exact hP k q (by rw [List.getElem?_set_ne (Ne.symm hkb)]; exact hk)
    · exact w.elim
  · exact w.elim
theorem snd_max {own : String} {cc : ByteArray} {rt : Option FieldType} {ini : Bool} {pc idx : Nat} (h1 : Cond.methodLink own idx Lib.Math.max.name ∈ lw_tbl) (h2 : Cond.static Lib.Math.max.name ∈ lw_tbl) (h3 : Cond.initialized "java/lang/Math" ∈ lw_tbl) (h4 : Cond.code Lib.Math.max.name Lib.Math.max.code 2 (some .int) ∈ lw_tbl) (hd : decode cc pc = .ok (.invokestatic idx, 3)) : Snd own cc rt ini pc i_max := by
  intro p l e R s m args below meth c D cI cN ad ex n0 A nL Qw K Q d F hC hT lo st h c0 s0 w
  unfold i_max at w
  split at w
  · obtain ⟨⟨w1, w2, w3⟩, w⟩ := w
    intro H locs ls hr hl
    have h9 := F.2.2.2.2.2.2.2.2.2.2.2.2.2.1
    have h7 := F.2.2.2.2.2.2.2.2.2.2.2.2.1
    have h5 := F.2.2.2.2.2.2.2.2.2.2.2.2.2.2
    exact va_mmax F.1 F.2.1 (by rw [F.2.2.1, hl.2.1]) F.2.2.2.1 (F.2.2.2.2.1 _ (gt_in h1 rfl)) (F.2.2.2.2.1 _ (gt_in h2 rfl)) (F.2.2.2.2.1 _ (gt_in h3 rfl)) (F.2.2.2.2.1 _ (gt_in h4 rfl)) (by omega) (by rw [cats_tv]; omega) (Nat.le_trans w2 h5.1) (Nat.le_trans w3 h5.2) hd (w H locs ls hr hl)
  · exact w.elim
theorem snd_obj {own : String} {cc : ByteArray} {rt : Option FieldType} {ini : Bool} {pc idx : Nat} (h1 : Cond.methodLink own idx objectInit ∈ lw_tbl) (h2 : Cond.instanceMethod objectInit ∈ lw_tbl) (h3 : Cond.code objectInit ⟨#[0xb1]⟩ 1 none ∈ lw_tbl) (hd : decode cc pc = .ok (.invokespecial idx, 3)) : Snd own cc rt ini pc i_obj := by
  intro p l e R s m args below meth c D cI cN ad ex n0 A nL Qw K Q d F hC hT lo st h c0 s0 w
  unfold i_obj at w
  split at w
  · obtain ⟨w1, w⟩ := w
    intro H locs ls hr hl
    exact W.objInit F.1 F.2.1 F.2.2.2.1 (F.2.2.2.2.1 _ (gt_in h1 rfl)) (F.2.2.2.2.1 _ (gt_in h2 rfl)) (F.2.2.2.2.1 _ (gt_in h3 rfl)) rfl (by rw [F.2.2.1]; exact hl.2.1) rfl hd (by have := F.2.2.2.2.2.2.2.2.2.2.2.2.1; omega) (by have h9 := F.2.2.2.2.2.2.2.2.2.2.2.2.2.1; show 2 * 0 + _ + 12 ≤ _; rw [cats_tv]; omega) (w H locs ls hr hl)
  · exact w.elim
end
section
/-! new cells, ends, calls; what a pure method does the machine's method does -/
section SZ
variable {p : Program} {l : Launch} {e : Env} {R : Room} {s : State} {m : MethodId} {args : Array Value} {below : List Frame} {meth : Method} {c : Code} {D : va_G} {cI cN : ClassId} {ad ex : Nat → Nat} {n0 nL d c0 s0 : Nat} {A : Nat → Prop} {own : String} {cc : ByteArray} {ini : Bool} {K : aK} {h : List aC} {H : Heap} {locs : List Loc} {T : State}
theorem Rl.size (hr : Rl s D cI cN ad ex n0 A h c0 H locs) (F : FX p R s m args meth c D cI cN ad n0 A nL own cc ini K d) (hT : T.heap = H) (X : Stand p l e R s m args below meth c T locs c0 s0) : H.size + n0 = s.heap.size + h.length := by
  have h1 : H.size ≤ s.heap.size + c0 := by rw [← hT]; exact X.heapSize
  have h2 := hr.2.1
  have h3 := hr.2.2.1
  by_cases hc : c0 = 0
  · omega
  · have hk : h.length - 1 < h.length := by omega
    have h4 : ad (h.length - 1) < H.size := (hr.1 (h.length - 1) _ (wF_at (List.getElem?_eq_getElem hk))).lt
    have h5 := F.2.2.2.2.2.2.2.2.1 (h.length - 1) (by omega)
    omega
theorem Rl.push (hr : Rl s D cI cN ad ex n0 A h c0 H locs) {H1 : Heap} {x : aC} (hx : va_at D cls (ad h.length, tc cI cN ad ex x) H1) (z1 : H1.size = H.size + 1) (o1 : ∀ q, q < H.size → H1[q]? = H[q]?) : Rl s D cI cN ad ex n0 A (h ++ [x]) (c0 + 1) H1 locs := by
  refine ⟨fun k q hk => ?_, by rw [List.length_append]; have := hr.2.1; simp; omega, ⟨by have := hr.2.2.1; omega, fun q h1 h2 => (o1 q (Nat.lt_of_lt_of_le h1 hr.2.2.1)).trans (hr.2.2.2.1 q h1 h2), hr.2.2.2.2⟩⟩
  rw [wF_get] at hk
  obtain ⟨a, ha, rfl⟩ := Option.map_eq_some_iff.mp hk
  by_cases hl : k < h.length
  · rw [List.getElem?_append_left hl] at ha
    have h4 := hr.1 k _ (wF_at ha)
    exact h4.kept (o1 _ h4.lt)
  · rw [List.getElem?_append_right (by omega)] at ha
    have hz : k - h.length < 1 := (List.getElem?_eq_some_iff.mp ha).1
    have hk0 : k = h.length := by omega
    subst hk0
    rw [Nat.sub_self] at ha
    cases ha
    exact hx
end SZ
/-- what a class needs whose objects are made -/
def Cls (ci : Nat) (own : String) (idx N : Nat) (fs : List Value) : Prop := ∃ (C : String) (T : u_T) (ty0 : Nat → FieldType), cls[ci]? = some (C, T, N) ∧ Cond.classLink own idx C ∈ lw_tbl ∧ Cond.instantiable C N ∈ lw_tbl ∧ Cond.initialized C ∈ lw_tbl ∧ (∀ w ∈ u_ws C T N, w ∈ gtbl) ∧ (∀ k, k < N → parseFieldDescriptor (T k).2.2.1 = some (ty0 k)) ∧ (∀ j, j < N → defaultValue (ty0 j) = vp_V fs j) ∧ ∀ ad ex, fs.map (tv ad ex) = fs
theorem snd_new {own : String} {cc : ByteArray} {rt : Option FieldType} {ini : Bool} {pc ci idx N : Nat} {fs : List Value} (hc : Cls ci own idx N fs) (hd : decode cc pc = .ok (.new idx, 3)) : Snd own cc rt ini pc (i_new ci N fs) := by
  obtain ⟨C, T, ty0, f1, f2, f3, f4, f5, f6, f7, f8⟩ := hc
  intro p l e R s m args below meth c D cI cN ad ex n0 A nL Qw K Q d F hC hT lo st h c0 s0 w
  obtain ⟨w1, w2, w⟩ := w
  intro H locs ls hr hl T0 hT0 X
  have hz := hr.size F hT0 X
  have hKn := F.2.2.2.2.2.1.1 ci _ f1
  have h5 := F.2.2.2.2.2.2.2.2.2.2.2.2.2.2
  have had : ad h.length = H.size := by
    have h6 := hr.2.1
    have := F.2.2.2.2.2.2.2.2.1 h.length (by omega)
    omega
  suffices key : W p l e R s m args below meth c H locs c0 s0 Qw (F0 m pc ls (st.map (tv ad ex))) from key T0 hT0 X
  refine W.newcK F.1 F.2.1 F.2.2.2.1 (F.2.2.2.2.1 _ (gt_in f2 rfl)) (F.2.2.2.2.1 _ (gt_in f3 rfl)) (F.2.2.2.2.1 _ (gt_in f4 rfl)) rfl hd (Nat.le_trans w1 h5.1) (Nat.le_trans w2 h5.2) hKn.2.1 rfl (fun H1 kC hkC e1 z1 o1 => ?_)
  have w3 := w H1 locs ls (hr.push (x := ao ci fs) ⟨_, f1, (u_born ty0 F.2.2.2.2.1 f5 hKn hkC (by rw [had]; exact e1) f6).to (fun j hj => by rw [f7 j hj]; show _ = vp_V (fs.map (tv ad ex)) j; rw [f8])⟩ z1 o1) hl
  have e2 : (Value.ref h.length :: st).map (tv ad ex) = .ref H.size :: st.map (tv ad ex) := by rw [← had]; rfl
  rw [e2] at w3
  exact w3
theorem snd_newI {own : String} {cc : ByteArray} {rt : Option FieldType} {ini : Bool} {pc : Nat} (ha : Cond.arrayClass .int ∈ lw_tbl) (hd : decode cc pc = .ok (.newarray .int, 2)) : Snd own cc rt ini pc i_newI := by
  intro p l e R s m args below meth c D cI cN ad ex n0 A nL Qw K Q d F hC hT lo st h c0 s0 w
  unfold i_newI at w
  split at w
  · rename_i n t
    obtain ⟨k, rfl, w0, w1, w2, w⟩ := w
    intro H locs ls hr hl T0 hT0 X
    have hk0 : ¬ nI k < 0 := nI_pos (by omega)
    have hkc : (nI k).toNatClampNeg = k := nI_clamp (by omega)
    have hz := hr.size F hT0 X
    have h5 := F.2.2.2.2.2.2.2.2.2.2.2.2.2.2
    have had : ad h.length = H.size := by
      have h6 := hr.2.1
      have := F.2.2.2.2.2.2.2.2.1 h.length (by omega)
      omega
    suffices key : W p l e R s m args below meth c H locs c0 s0 Qw (F0 m pc ls (.int (nI k) :: t.map (tv ad ex))) from key T0 hT0 X
    refine va_newaK (atype := .int) F.1 F.2.1 (F.2.2.2.2.1 _ (gt_in ha rfl)) rfl hd rfl hk0 hkc (by show _ * 4 ≤ _; omega) (Nat.le_trans w1 h5.1) (Nat.le_trans w2 h5.2) rfl (fun H1 cA e1 z1 o1 hAr hNm => ?_)
    have hcA : cA = cI := Option.some.inj (hNm.symm.trans (F.2.2.2.2.2.1.2 0 _ rfl).2)
    subst hcA
    have w3 := w H1 locs ls (hr.push (x := ai k (fun _ => 0)) (by rw [had]; exact e1) z1 o1) hl
    have e2 : (Value.ref h.length :: t).map (tv ad ex) = .ref H.size :: t.map (tv ad ex) := by rw [← had]; rfl
    rw [e2] at w3
    exact w3
  · exact w.elim
theorem snd_newQ {own : String} {cc : ByteArray} {rt : Option FieldType} {ini : Bool} {pc idx : Nat} (ha : Cond.classLink own idx RX2 ∈ lw_tbl) (hd : decode cc pc = .ok (.anewarray idx, 3)) : Snd own cc rt ini pc i_newQ := by
  intro p l e R s m args below meth c D cI cN ad ex n0 A nL Qw K Q d F hC hT lo st h c0 s0 w
  unfold i_newQ at w
  split at w
  · rename_i n t
    obtain ⟨k, rfl, w0, w1, w2, w⟩ := w
    intro H locs ls hr hl T0 hT0 X
    have hk0 : ¬ nI k < 0 := nI_pos (by omega)
    have hkc : (nI k).toNatClampNeg = k := nI_clamp (by omega)
    have hz := hr.size F hT0 X
    have h5 := F.2.2.2.2.2.2.2.2.2.2.2.2.2.2
    have had : ad h.length = H.size := by
      have h6 := hr.2.1
      have := F.2.2.2.2.2.2.2.2.1 h.length (by omega)
      omega
    suffices key : W p l e R s m args below meth c H locs c0 s0 Qw (F0 m pc ls (.int (nI k) :: t.map (tv ad ex))) from key T0 hT0 X
    refine W.anew F.1 F.2.1 F.2.2.2.1 (F.2.2.2.2.1 _ (gt_in ha rfl)) (va_AO.use F.2.2.2.2.2.2.1.2) rfl hd rfl hk0 (by rw [hkc]; omega) (Nat.le_trans w1 h5.1) (by rw [hkc]; exact Nat.le_trans w2 h5.2) (fun cA kA comp g1 g2 g3 g4 => ?_)
    rw [hkc]
    obtain ⟨kA', comp', k1, k2, k3, k4⟩ := (F.2.2.2.2.2.1.2 1 _ rfl).2
    have hcA : cA = cN := Option.some.inj (g1.symm.trans k4)
    subst hcA
    have w3 := w _ locs ls (hr.push (H1 := H.push { cls := cA, slots := Array.replicate k .null, vm := .none }) (x := aq k (fun _ => none)) (by
      rw [had]
      show (H.push _)[H.size]? = some (vp_cell _ _)
      rw [Array.getElem?_push_size, vp_cell_q]
      exact congrArg some (arrV_new _ _ _)) (by simp) (fun q hq => by rw [Array.getElem?_push, if_neg (Nat.ne_of_lt hq)])) hl
    have e2 : (Value.ref h.length :: t).map (tv ad ex) = .ref H.size :: t.map (tv ad ex) := by rw [← had]; rfl
    rw [e2] at w3
    exact w3
  · exact w.elim
theorem snd_iret {own : String} {cc : ByteArray} {ini : Bool} {pc : Nat} (hd : decode cc pc = .ok (.ireturn, 1)) : Snd own cc (some .int) ini pc i_iret := by
  intro p l e R s m args below meth c D cI cN ad ex n0 A nL Qw K Q d F hC hT lo st h c0 s0 w
  unfold i_iret at w
  split at w
  · intro H locs ls hr hl
    exact hT.1 _ h c0 s0 H locs ls pc (Or.inl rfl) hd w hr
  · exact w.elim
theorem snd_zret {own : String} {cc : ByteArray} {ini : Bool} {pc : Nat} (hd : decode cc pc = .ok (.ireturn, 1)) : Snd own cc (some .boolean) ini pc i_zret := by
  intro p l e R s m args below meth c D cI cN ad ex n0 A nL Qw K Q d F hC hT lo st h c0 s0 w
  unfold i_zret at w
  split at w
  · intro H locs ls hr hl
    exact hT.1 _ h c0 s0 H locs ls pc (Or.inr ⟨rfl, w.1⟩) hd w.2 hr
  · exact w.elim
theorem snd_vret {own : String} {cc : ByteArray} {ini : Bool} {pc : Nat} (hd : decode cc pc = .ok (.return_, 1)) : Snd own cc none ini pc i_vret := by
  intro p l e R s m args below meth c D cI cN ad ex n0 A nL Qw K Q d F hC hT lo st h c0 s0 w
  unfold i_vret at w
  split at w
  · intro H locs ls hr hl
    exact hT.2.1 h c0 s0 H locs ls pc rfl hd w hr
  · exact w.elim
theorem snd_lret {own : String} {cc : ByteArray} {ini : Bool} {pc : Nat} (hd : decode cc pc = .ok (.lreturn, 1)) : Snd own cc (some .long) ini pc i_lret := by
  intro p l e R s m args below meth c D cI cN ad ex n0 A nL Qw K Q d F hC hT lo st h c0 s0 w
  unfold i_lret at w
  split at w
  · intro H locs ls hr hl
    exact hT.2.2 _ h c0 s0 H locs ls pc rfl hd w hr
  · exact w.elim
/-! what a callee's cells are in its caller's world -/
theorem rho_in {is : List Nat} {n j i : Nat} (h : is[j]? = some i) : rho is n j = i := by unfold rho; rw [h]
theorem rho_out {is : List Nat} {n j : Nat} (h : is.length ≤ j) : rho is n j = n + (j - is.length) := by unfold rho; rw [List.getElem?_eq_none h]
theorem rho_cons {i n j : Nat} {is : List Nat} : rho (i :: is) n (j + 1) = rho is n j := by
  unfold rho
  rw [List.getElem?_cons_succ, List.length_cons]
  cases is[j]? with
  | some x => rfl
  | none => show n + (j + 1 - (is.length + 1)) = n + (j - is.length); omega
theorem rho_inj {is : List Nat} {n : Nat} (hn : va_nd is = true) (hl : ∀ i ∈ is, i < n) : ∀ a b, rho is n a = rho is n b → a = b := by
  intro a b h
  rcases Nat.lt_or_ge a is.length with ha | ha <;> rcases Nat.lt_or_ge b is.length with hb | hb
  · have e1 := List.getElem?_eq_getElem ha
    have e2 := List.getElem?_eq_getElem hb
    rw [rho_in e1, rho_in e2] at h
    rw [h] at e1
    exact va_nd_inj is hn a b _ e1 e2
  · have e1 := List.getElem?_eq_getElem ha
    rw [rho_in e1, rho_out hb] at h
    have := hl _ (List.mem_of_getElem? e1)
    omega
  · have e2 := List.getElem?_eq_getElem hb
    rw [rho_in e2, rho_out ha] at h
    have := hl _ (List.mem_of_getElem? e2)
    omega
  · rw [rho_out ha, rho_out hb] at h
    omega
theorem put_len : ∀ (is : List Nat) (h cs : List aC), is.length ≤ cs.length → (put h is cs).length = h.length + (cs.length - is.length)
  | [], h, cs, _ => by simp [put]
  | i :: is, h, [], hl => by simp at hl
  | i :: is, h, c :: cs, hl => by
    rw [put, put_len is _ cs (by simpa using hl), List.length_set]
    simp
theorem put_get : ∀ (is : List Nat) (h cs : List aC) (k : Nat) (x : aC), is.length ≤ cs.length → (put h is cs)[k]? = some x → (∃ j, rho is h.length j = k ∧ cs[j]? = some x) ∨ (k < h.length ∧ h[k]? = some x ∧ k ∉ is)
  | [], h, cs, k, x, _, hk => by
    rw [put] at hk
    by_cases hl : k < h.length
    · rw [List.getElem?_append_left hl] at hk
      exact Or.inr ⟨hl, hk, List.not_mem_nil⟩
    · rw [List.getElem?_append_right (by omega)] at hk
      refine Or.inl ⟨k - h.length, ?_, hk⟩
      rw [rho_out (Nat.zero_le _)]
      simp
      omega
  | i :: is, h, [], k, x, hl, hk => by simp at hl
  | i :: is, h, c :: cs, k, x, hl, hk => by
    rw [put] at hk
    rcases put_get is (h.set i c) cs k x (by simpa using hl) hk with ⟨j, h1, h2⟩ | ⟨h1, h2, h3⟩
    · rw [List.length_set] at h1
      exact Or.inl ⟨j + 1, by rw [rho_cons]; exact h1, by rw [List.getElem?_cons_succ]; exact h2⟩
    · rw [List.length_set] at h1
      by_cases hki : k = i
      · subst hki
        rw [List.getElem?_set_self h1] at h2
        cases h2
        exact Or.inl ⟨0, rho_in rfl, rfl⟩
      · rw [List.getElem?_set_ne (Ne.symm hki)] at h2
        exact Or.inr ⟨h1, h2, fun z => (List.mem_cons.mp z).elim hki h3⟩
section CALL
variable {p : Program} {l : Launch} {e : Env} {R : Room} {s : State} {m : MethodId} {args : Array Value} {below : List Frame} {meth : Method} {c : Code} {D : va_G} {cI cN : ClassId} {ad ex : Nat → Nat} {n0 nL d c0 s0 : Nat} {A : Nat → Prop} {own : String} {cc : ByteArray} {ini : Bool} {K : aK} {h : List aC} {H : Heap} {locs : List Loc} {Qw : State → Prop} {ls : Array Slot} {lo : List (Option Value)} {st : List Value} {pc n mc ms : Nat} {is : List Nat} {av : List Value} {hc : List aC} {Qn : Option Value → List aC → Prop} {arr : Array Value}
theorem call_core (F : FX p R s m args meth c D cI cN ad n0 A nL own cc ini K d) (hr : Rl s D cI cN ad ex n0 A h c0 H locs) (hl : lvR ad ex ls nL lo) (hn : va_nd is = true) (hi : ∀ i ∈ is, i < h.length) (hcs : is.map (fun i => h[i]?) = hc.map (fun x => some (rc (rho is h.length) x)))
    (run : va_Run p l e R s m args below meth c H locs c0 s0 mc ms (F0 m pc ls (st.map (tv ad ex))) ((st.drop n).map (tv ad ex)) (QcA D cI cN (fun k => ad (rho is h.length k)) ex (hc.length + mc) Qn arr) (fun q => ∃ k, q = ad (rho is h.length k)))
    (w : ∀ v hc', Qn v hc' → Sm p l e R s m args below meth c D cI cN ad ex n0 A nL Qw (pc + 3) lo ((v.map (rv (rho is h.length))).toList ++ st.drop n) (put h is (hc'.map (rc (rho is h.length)))) (c0 + mc) (s0 + ms)) :
    W p l e R s m args below meth c H locs c0 s0 Qw (F0 m pc ls (st.map (tv ad ex))) := by
  intro T hT X
  obtain ⟨v, st₀, t, T', L, h0, X', hL, e1, e2, ⟨⟨v', hc', ho, hq, hlen, hP'⟩, hF⟩, go⟩ := run T hT X
  have hv : v = v'.map (tv (fun k => ad (rho is h.length k)) ex) := by cases ho; rfl
  subst hv
  have hisl : is.length = hc.length := by have := congrArg List.length hcs; simpa using this
  have hle : is.length ≤ (hc'.map (rc (rho is h.length))).length := by rw [List.length_map, hlen, hisl]; omega
  have hA := F.2.2.2.2.2.2.2.2.2.1
  have w2 := w v' hc' hq T'.heap (locs ++ L) ls ⟨fun k q hk => ?_, ?_, ?_⟩ hl
  · obtain ⟨t2, a1, b1⟩ := w2 T' rfl X'
    refine ⟨t2, go t2 ?_, b1⟩
    have es : (v'.map (tv (fun k => ad (rho is h.length k)) ex)).toList ++ (st.drop n).map (tv ad ex) = ((v'.map (rv (rho is h.length))).toList ++ st.drop n).map (tv ad ex) := by
      cases v' with
      | none => rfl
      | some x => simp [tv_comp]
    show Steps p.tables e below (T'.setTop (F0 m (pc + 3) ls ((v'.map (tv (fun k => ad (rho is h.length k)) ex)).toList ++ (st.drop n).map (tv ad ex)))) t2
    rw [es]
    exact a1
  · rw [wF_get] at hk
    obtain ⟨x, hx, rfl⟩ := Option.map_eq_some_iff.mp hk
    rcases put_get is h _ k x hle hx with ⟨j, g1, g2⟩ | ⟨g1, g2, g3⟩
    · rw [List.getElem?_map] at g2
      obtain ⟨x', hx', rfl⟩ := Option.map_eq_some_iff.mp g2
      have h4 := hP' j _ (wF_at hx')
      rw [tc_comp] at h4
      rw [← g1, e1]
      exact h4
    · have h4 := hr.1 k _ (wF_at g2)
      refine h4.kept ?_
      rw [e1]
      show t.heap[ad k]? = H[ad k]?
      rw [hF.2 (ad k) (by rw [h0]; exact h4.lt) (fun ⟨j, hj⟩ => ?_), h0]
      have hkj := F.2.2.2.2.2.2.2.1 _ _ hj
      rcases Nat.lt_or_ge j is.length with hj1 | hj1
      · rw [rho_in (List.getElem?_eq_getElem hj1)] at hkj
        exact g3 (by rw [hkj]; exact List.getElem_mem hj1)
      · rw [rho_out hj1] at hkj
        omega
  · rw [put_len is h _ hle, List.length_map, hlen, hr.2.1, hisl]
    omega
  · refine ⟨?_, fun q g1 g2 => ?_, fun q hq => ?_⟩
    · rw [e1]
      have h5 := hF.1
      rw [h0] at h5
      exact Nat.le_trans hr.2.2.1 h5
    · rw [e1, hF.2 q (by rw [h0]; exact Nat.lt_of_lt_of_le g1 hr.2.2.1) (fun ⟨j, hj⟩ => g2 (by rw [hj]; exact hA _)), h0]
      exact hr.2.2.2.1 q g1 g2
    · rcases List.mem_append.mp hq with g | g
      · exact hr.2.2.2.2 q g
      · obtain ⟨k, hk⟩ := hL q g
        rw [hk]
        exact hA _
/-- the callee's start -/
theorem call_pre (F : FX p R s m args meth c D cI cN ad n0 A nL own cc ini K d) (hr : Rl s D cI cN ad ex n0 A h c0 H locs) (hcs : is.map (fun i => h[i]?) = hc.map (fun x => some (rc (rho is h.length) x))) : PreS s H (PcA D cI cN (fun k => ad (rho is h.length k)) ex H.size av hc) (av.map (tv (fun k => ad (rho is h.length k)) ex)) := by
  refine ⟨fun a U g mk q => ⟨q.1, q.2.1, q.2.2.1, va_K.moved (u := U) (U := U.calling g mk a) (Vm.Alike.refl U.vm) q.2.2.2.1, XF.same (s := U) (U := U.calling g mk a) rfl q.2.2.2.2⟩, fun U hU hW => ⟨rfl, by rw [hU], ?_, va_K.moved hW.alike F.2.2.2.2.2.1, XF.warm hW F.2.2.2.2.2.2.1⟩⟩
  rw [hU]
  intro j q hj
  rw [wF_get] at hj
  obtain ⟨x, hx, rfl⟩ := Option.map_eq_some_iff.mp hj
  have e1 : (is.map (fun i => h[i]?))[j]? = some (some (rc (rho is h.length) x)) := by rw [hcs, List.getElem?_map, hx]; rfl
  rw [List.getElem?_map] at e1
  obtain ⟨i, hi, e2⟩ := Option.map_eq_some_iff.mp e1
  have h4 := hr.1 i _ (wF_at e2)
  rw [← tc_comp, ← rho_in (n := h.length) hi] at h4
  exact h4
theorem call_new (F : FX p R s m args meth c D cI cN ad n0 A nL own cc ini K d) (hr : Rl s D cI cN ad ex n0 A h c0 H locs) (hz : H.size + n0 = s.heap.size + h.length) (hisl : is.length = hc.length) : ∀ k, hc.length ≤ k → ad (rho is h.length k) + hc.length = H.size + k := by
  intro k hk
  rw [rho_out (by omega)]
  have h2 := hr.2.1
  have := F.2.2.2.2.2.2.2.2.1 (h.length + (k - is.length)) (by omega)
  omega
theorem call_stack (h1 : st.take n = (av.map (rv (rho is h.length))).reverse) : st.map (tv ad ex) = (av.map (tv (fun k => ad (rho is h.length k)) ex)).reverse ++ (st.drop n).map (tv ad ex) := by
  have e1 : st = st.take n ++ st.drop n := (List.take_append_drop n st).symm
  conv => lhs; rw [e1]
  rw [List.map_append, h1, ← List.map_reverse, List.map_map, ← List.map_reverse]
  congr 1
  exact List.map_congr_left (fun v _ => (tv_comp ad ex (rho is h.length) v).symm)
end CALL
theorem gi {ws : List Cond} (h : ∀ w ∈ ws, w ∈ gtbl) : GoodIn gtbl ws := fun w hw => ⟨h w hw, good_of_word (gt_good (h w hw))⟩
theorem mws_in {y : Nat} (h : Cond.code (mt y).1 (mt y).2.1 (mt y).2.2.1 (mt y).2.2.2 ∈ lw_tbl) : ∀ w ∈ mws y, w ∈ gtbl := fun w hw => (List.mem_cons.mp hw).elim (fun e => by rw [e]; exact gt_in h rfl) (fun z => z)
/-- what a method needs to be called: its words, its locals, its values -/
def MOK (y n : Nat) : Prop := Cond.code (mt y).1 (mt y).2.1 (mt y).2.2.1 (mt y).2.2.2 ∈ lw_tbl ∧ Cond.initialized (mt y).1.cls ∈ lw_tbl ∧ (mt y).2.2.1 ≤ 21 ∧ (mt y).1.cls ≠ "java/lang/invoke/MethodHandle" ∧ (mt y).1.cls ≠ "java/lang/invoke/VarHandle" ∧ (parseMethodDescriptor (mt y).1.desc).map (fun d => d.parameters.length) = some n
theorem snd_callV {own : String} {cc : ByteArray} {rt : Option FieldType} {ini : Bool} {pc y n ci idx : Nat} {q : vw_C} (hy : MOK y n) (h1 : Cond.methodLink own idx (mt y).1 ∈ lw_tbl) (h2 : Cond.instanceMethod (mt y).1 ∈ lw_tbl) (h3 : Cond.selects (mt y).1.cls (mt y).1 (mt y).1 ∈ lw_tbl) (h4 : cls[ci]? = some q) (h5 : q.1 = (mt y).1.cls) (hd : decode cc pc = .ok (.invokevirtual idx, 3)) : Snd own cc rt ini pc (i_callV y (n + 1) ci) := by
  intro p l e R s m args below meth c D cI cN ad ex n0 A nL Qw K Q d F hC hT lo st h c0 s0 w
  obtain ⟨is, av, hc, mc, ms, ⟨g1, g2, g3, g4, g5, g6, r, fs, g7, g8⟩, w1, w2, w⟩ := w
  obtain ⟨y1, y2, y3, y4, y5, y6⟩ := hy
  have g5 : ∀ i ∈ is, i < h.length := fun i hi => by simpa using List.all_eq_true.mp g5 i hi
  intro H locs ls hr hl T0 hT0 X
  have hz := hr.size F hT0 X
  have hF := F.2.2.2.2.2.2.2.2.2.2.2.2
  have hisl : is.length = hc.length := by have := congrArg List.length g6; simpa using this
  have hM := hC y mc ms av hc _ w (fun k => ad (rho is h.length k)) H.size (fun i j z => rho_inj g4 g5 i j (F.2.2.2.2.2.2.2.1 _ _ z)) (call_new F hr hz hisl)
  obtain ⟨av', rfl⟩ : ∃ av', av = .ref r :: av' := by
    cases av with
    | nil => cases g7
    | cons v t => cases g7; exact ⟨t, rfl⟩
  have hpre := call_pre (av := .ref r :: av') F hr g6
  have hrec : ∃ cell : Cell, H[ad (rho is h.length r)]? = some cell ∧ cell.vm.isStatics = false ∧ s.vm.findClass (mt y).1.cls = some cell.cls := by
    rw [← h5]
    exact va_recv (ws := wF cI cN (fun k => ad (rho is h.length k)) ex hc) F.2.2.2.2.2.1 (by have := (call_pre (av := []) F hr g6); exact (this.2 T0 hT0 X.warmed).2.2.1 |> fun z => by rw [hT0] at z; exact z) h4 (wF_at g8)
  refine call_core (n := n + 1) F hr hl g4 g5 g6 (va_runV (As := av'.map (tv (fun k => ad (rho is h.length k)) ex)) ⟨F.1, F.2.1, F.2.2.1, F.2.2.2.1, F.2.2.2.2.1⟩ hM (cwV n F.2.2.2.2.1 (gi (fun w hw => ?_)) rfl rfl rfl ⟨rfl, y4, y5, y6⟩ ⟨hF.1, ?_⟩) ⟨hpre.1, hrec, hpre.2⟩ rfl (by rw [List.length_map]; simpa using g2) hl.2.1 ?_ ?_ hd ⟨Nat.le_trans w1 hF.2.2.1, Nat.le_trans w2 hF.2.2.2⟩) (fun v hc' z => z) T0 hT0 X
  · rcases List.mem_append.mp hw with z | z
    · simp only [List.mem_cons, List.not_mem_nil, or_false] at z
      rcases z with rfl | rfl | rfl | rfl
      · exact gt_in h1 rfl
      · exact gt_in h2 rfl
      · exact gt_in h3 rfl
      · exact gt_in y2 rfl
    · exact mws_in y1 w z
  · show 8 + ((mt y).2.2.1 + 11) + 40 * d ≤ R.locals
    omega
  · have e9 := call_stack (ad := ad) (ex := ex) g1
    show st.map (tv ad ex) = _
    rw [e9]
    simp [tv]
  · show 2 * 0 + _ ≤ 8
    rw [cats_tv]
    omega
theorem snd_callS {own : String} {cc : ByteArray} {rt : Option FieldType} {ini : Bool} {pc y n idx : Nat} (hy : MOK y n) (h1 : Cond.methodLink own idx (mt y).1 ∈ lw_tbl) (h2 : Cond.static (mt y).1 ∈ lw_tbl) (hd : decode cc pc = .ok (.invokestatic idx, 3)) : Snd own cc rt ini pc (i_callS y n) := by
  intro p l e R s m args below meth c D cI cN ad ex n0 A nL Qw K Q d F hC hT lo st h c0 s0 w
  obtain ⟨is, av, hc, mc, ms, ⟨g1, g2, g3, g4, g5, g6, -⟩, w1, w2, w⟩ := w
  obtain ⟨y1, y2, y3, y4, y5, y6⟩ := hy
  have g5 : ∀ i ∈ is, i < h.length := fun i hi => by simpa using List.all_eq_true.mp g5 i hi
  intro H locs ls hr hl T0 hT0 X
  have hz := hr.size F hT0 X
  have hF := F.2.2.2.2.2.2.2.2.2.2.2.2
  have hisl : is.length = hc.length := by have := congrArg List.length g6; simpa using this
  have hM := hC y mc ms av hc _ w (fun k => ad (rho is h.length k)) H.size (fun i j z => rho_inj g4 g5 i j (F.2.2.2.2.2.2.2.1 _ _ z)) (call_new F hr hz hisl)
  refine call_core (n := n) F hr hl g4 g5 g6 (va_runS (As := av.map (tv (fun k => ad (rho is h.length k)) ex)) ⟨F.1, F.2.1, F.2.2.1, F.2.2.2.1, F.2.2.2.2.1⟩ hM (va_cwS n F.2.2.2.2.1 (gi (fun w hw => ?_)) rfl rfl rfl ⟨y4, y5, y6⟩ ⟨hF.1, ?_⟩) (call_pre F hr g6) rfl (by rw [List.length_map]; exact g2) hl.2.1 (call_stack g1) ?_ hd ⟨Nat.le_trans w1 hF.2.2.1, Nat.le_trans w2 hF.2.2.2⟩) (fun v hc' z => z) T0 hT0 X
  · rcases List.mem_append.mp hw with z | z
    · simp only [List.mem_cons, List.not_mem_nil, or_false] at z
      rcases z with rfl | rfl | rfl
      · exact gt_in h1 rfl
      · exact gt_in h2 rfl
      · exact gt_in y2 rfl
    · exact mws_in y1 w z
  · show 8 + ((mt y).2.2.1 + 11) + 40 * d ≤ R.locals
    omega
  · show 2 * 0 + _ ≤ 8
    rw [cats_tv]
    omega
theorem snd_callSN {own : String} {cc : ByteArray} {rt : Option FieldType} {ini : Bool} {pc y n idx : Nat} {host : String} (hy : MOK y n) (h1 : (own, idx, (mt y).1, host) ∈ nestL) (h2 : Cond.static (mt y).1 ∈ lw_tbl) (hd : decode cc pc = .ok (.invokestatic idx, 3)) : Snd own cc rt ini pc (i_callS y n) := by
  intro p l e R s m args below meth c D cI cN ad ex n0 A nL Qw K Q d F hC hT lo st h c0 s0 w
  obtain ⟨is, av, hc, mc, ms, ⟨g1, g2, g3, g4, g5, g6, -⟩, w1, w2, w⟩ := w
  obtain ⟨y1, y2, y3, y4, y5, y6⟩ := hy
  have g5 : ∀ i ∈ is, i < h.length := fun i hi => by simpa using List.all_eq_true.mp g5 i hi
  intro H locs ls hr hl T0 hT0 X
  have hz := hr.size F hT0 X
  have hF := F.2.2.2.2.2.2.2.2.2.2.2.2
  have hisl : is.length = hc.length := by have := congrArg List.length g6; simpa using this
  have hM := hC y mc ms av hc _ w (fun k => ad (rho is h.length k)) H.size (fun i j z => rho_inj g4 g5 i j (F.2.2.2.2.2.2.2.1 _ _ z)) (call_new F hr hz hisl)
  refine call_core (n := n) F hr hl g4 g5 g6 (va_runSN (host := host) (As := av.map (tv (fun k => ad (rho is h.length k)) ex)) ⟨F.1, F.2.1, F.2.2.1, F.2.2.2.1, F.2.2.2.2.1⟩ hM ⟨va_cnB n F.2.2.2.2.1 (gi (mws_in y1)) rfl rfl rfl (F.2.2.2.2.2.2.1.1 _ h1) (F.2.2.2.2.1 _ (gt_in y2 rfl)) ⟨y4, y5, y6⟩ ⟨hF.1, ?_⟩, F.2.2.2.2.1 _ (gt_in h2 rfl), trivial⟩ (call_pre F hr g6) rfl (by rw [List.length_map]; exact g2) hl.2.1 (call_stack g1) ?_ hd ⟨Nat.le_trans w1 hF.2.2.1, Nat.le_trans w2 hF.2.2.2⟩) (fun v hc' z => z) T0 hT0 X
  · show 8 + ((mt y).2.2.1 + 11) + 40 * d ≤ R.locals
    omega
  · show 2 * 0 + _ ≤ 8
    rw [cats_tv]
    omega
theorem snd_callI {own : String} {cc : ByteArray} {rt : Option FieldType} {ini : Bool} {pc y n idx : Nat} (h1 : Cond.methodLink own idx (mt y).1 ∈ lw_tbl) (hy : MOK y n) (h2 : Cond.instanceMethod (mt y).1 ∈ lw_tbl) (h3 : (mt y).1.name = "<init>") (h4 : (mt y).2.2.2 = none) (hd : decode cc pc = .ok (.invokespecial idx, 3)) : Snd own cc rt ini pc (i_callI y (n + 1)) := by
  intro p l e R s m args below meth c D cI cN ad ex n0 A nL Qw K Q d F hC hT lo st h c0 s0 w
  obtain ⟨is, av, hc, mc, ms, ⟨g1, g2, g3, g4, g5, g6, r, g7⟩, w1, w2, w⟩ := w
  obtain ⟨y1, y2, y3, y4, y5, y6⟩ := hy
  have g5 : ∀ i ∈ is, i < h.length := fun i hi => by simpa using List.all_eq_true.mp g5 i hi
  intro H locs ls hr hl T0 hT0 X
  have hz := hr.size F hT0 X
  have hF := F.2.2.2.2.2.2.2.2.2.2.2.2
  have hisl : is.length = hc.length := by have := congrArg List.length g6; simpa using this
  have hM := hC y mc ms av hc _ w (fun k => ad (rho is h.length k)) H.size (fun i j z => rho_inj g4 g5 i j (F.2.2.2.2.2.2.2.1 _ _ z)) (call_new F hr hz hisl)
  obtain ⟨av', rfl⟩ : ∃ av', av = .ref r :: av' := by
    cases av with
    | nil => cases g7
    | cons v t => cases g7; exact ⟨t, rfl⟩
  refine call_core (n := n + 1) F hr hl g4 g5 g6 (va_runI (b := ad (rho is h.length r)) (As := av'.map (tv (fun k => ad (rho is h.length k)) ex)) (maxL := (mt y).2.2.1) (bytes := (mt y).2.1) ⟨F.1, F.2.1, F.2.2.1, F.2.2.2.1, F.2.2.2.2.1⟩ hM (cwI n F.2.2.2.2.1 (gi (mws_in y1)) (by show mws y = _; rw [← h4]) rfl rfl (F.2.2.2.2.1 _ (gt_in y2 rfl)) (F.2.2.2.2.1 _ (gt_in h1 rfl)) (F.2.2.2.2.1 _ (gt_in h2 rfl)) h3 ⟨y4, y5, y6⟩ ⟨hF.1, ?_⟩) (call_pre (av := .ref r :: av') F hr g6) rfl (by rw [List.length_map]; simpa using g2) hl.2.1 ?_ ?_ hd ⟨Nat.le_trans w1 hF.2.2.1, Nat.le_trans w2 hF.2.2.2⟩) (fun v hc' z => z) T0 hT0 X
  · show 8 + ((mt y).2.2.1 + 11) + 40 * d ≤ R.locals
    omega
  · have e9 := call_stack (ad := ad) (ex := ex) g1
    show st.map (tv ad ex) = _
    rw [e9]
    simp [tv]
  · show 2 * 0 + _ ≤ 8
    rw [cats_tv]
    omega
theorem snd_callIN {own : String} {cc : ByteArray} {rt : Option FieldType} {ini : Bool} {pc y n idx : Nat} {host : String} (h1 : (own, idx, (mt y).1, host) ∈ nestL) (hy : MOK y n) (h2 : Cond.instanceMethod (mt y).1 ∈ lw_tbl) (h3 : (mt y).1.name = "<init>") (h4 : (mt y).2.2.2 = none) (hd : decode cc pc = .ok (.invokespecial idx, 3)) : Snd own cc rt ini pc (i_callI y (n + 1)) := by
  intro p l e R s m args below meth c D cI cN ad ex n0 A nL Qw K Q d F hC hT lo st h c0 s0 w
  obtain ⟨is, av, hc, mc, ms, ⟨g1, g2, g3, g4, g5, g6, r, g7⟩, w1, w2, w⟩ := w
  obtain ⟨y1, y2, y3, y4, y5, y6⟩ := hy
  have g5 : ∀ i ∈ is, i < h.length := fun i hi => by simpa using List.all_eq_true.mp g5 i hi
  intro H locs ls hr hl T0 hT0 X
  have hz := hr.size F hT0 X
  have hF := F.2.2.2.2.2.2.2.2.2.2.2.2
  have hisl : is.length = hc.length := by have := congrArg List.length g6; simpa using this
  have hM := hC y mc ms av hc _ w (fun k => ad (rho is h.length k)) H.size (fun i j z => rho_inj g4 g5 i j (F.2.2.2.2.2.2.2.1 _ _ z)) (call_new F hr hz hisl)
  obtain ⟨av', rfl⟩ : ∃ av', av = .ref r :: av' := by
    cases av with
    | nil => cases g7
    | cons v t => cases g7; exact ⟨t, rfl⟩
  refine call_core (n := n + 1) F hr hl g4 g5 g6 (va_runIN (host := host) (b := ad (rho is h.length r)) (As := av'.map (tv (fun k => ad (rho is h.length k)) ex)) (maxL := (mt y).2.2.1) (bytes := (mt y).2.1) ⟨F.1, F.2.1, F.2.2.1, F.2.2.2.1, F.2.2.2.2.1⟩ hM ⟨va_cnB n F.2.2.2.2.1 (gi (mws_in y1)) (by show mws y = _; rw [← h4]) rfl rfl (F.2.2.2.2.2.2.1.1 _ h1) (F.2.2.2.2.1 _ (gt_in y2 rfl)) ⟨y4, y5, y6⟩ ⟨hF.1, ?_⟩, h3, F.2.2.2.2.1 _ (gt_in h2 rfl)⟩ (call_pre (av := .ref r :: av') F hr g6) rfl (by rw [List.length_map]; simpa using g2) hl.2.1 ?_ ?_ hd ⟨Nat.le_trans w1 hF.2.2.1, Nat.le_trans w2 hF.2.2.2⟩) (fun v hc' z => z) T0 hT0 X
  · show 8 + ((mt y).2.2.1 + 11) + 40 * d ≤ R.locals
    omega
  · have e9 := call_stack (ad := ad) (ex := ex) g1
    show st.map (tv ad ex) = _
    rw [e9]
    simp [tv]
  · show 2 * 0 + _ ≤ 8
    rw [cats_tv]
    omega
/-! a method's start; the calls by depth -/
def argL : List Value → List (Option Value)
  | [] => []
  | .long x :: t => some (.long x) :: none :: argL t
  | .double x :: t => some (.double x) :: none :: argL t
  | v :: t => some v :: argL t
def entryL (n : Nat) (av : List Value) : List (Option Value) := argL av ++ List.replicate (n - (argL av).length) none
theorem argL_len (ad ex : Nat → Nat) : ∀ av : List Value, (lg_sl (av.map (tv ad ex))).length = (argL av).length
  | [] => rfl
  | v :: t => by
    have ih := argL_len ad ex t
    cases v <;> simp [lg_sl, argL, tv, Value.category] at ih ⊢ <;> omega
theorem argL_mem (ad ex : Nat → Nat) : ∀ (av : List Value) (k i : Nat) (v : Value), (argL av)[i]? = some (some v) → (k + i, tv ad ex v) ∈ lv_args k (av.map (tv ad ex))
  | [], k, i, v, h => by simp [argL] at h
  | u :: t, k, i, v, h => by
    have two : ∀ x : Value, x.category = 2 → argL (x :: t) = some x :: none :: argL t → argL (u :: t) = argL (x :: t) → u = x → (k + i, tv ad ex v) ∈ lv_args k ((u :: t).map (tv ad ex)) := by
      intro x hx e1 e2 e3
      subst e3
      rw [e1] at h
      rw [List.map_cons, lv_args, if_pos (by rw [cat_tv]; exact hx)]
      match i, h with
      | 0, h => cases h; exact List.mem_cons_self
      | 1, h => cases h
      | j + 2, h =>
        have := argL_mem ad ex t (k + 2) j v h
        rw [show k + (j + 2) = k + 2 + j by omega]
        exact List.mem_cons_of_mem _ this
    have one : u.category ≠ 2 → argL (u :: t) = some u :: argL t → (k + i, tv ad ex v) ∈ lv_args k ((u :: t).map (tv ad ex)) := by
      intro hx e1
      rw [e1] at h
      rw [List.map_cons, lv_args, if_neg (by rw [cat_tv]; exact hx)]
      match i, h with
      | 0, h => cases h; exact List.mem_cons_self
      | j + 1, h =>
        have := argL_mem ad ex t (k + 1) j v h
        rw [show k + (j + 1) = k + 1 + j by omega]
        exact List.mem_cons_of_mem _ this
    cases u with
    | long x => exact two (.long x) rfl rfl rfl rfl
    | double x => exact two (.double x) rfl rfl rfl rfl
    | int x => exact one (fun z => by cases z) rfl
    | float x => exact one (fun z => by cases z) rfl
    | null => exact one (by decide) rfl
    | ref x => exact one (fun z => by cases z) rfl
    | retAddr x => exact one (fun z => by cases z) rfl
theorem entry_lv {ad ex : Nat → Nat} {n : Nat} {av : List Value} (h : (argL av).length ≤ n) : lvR ad ex ((lg_sl (av.map (tv ad ex)) ++ List.replicate (n - (lg_sl (av.map (tv ad ex))).length) Slot.unset).toArray) n (entryL n av) := by
  have h1 := lv_entry (av.map (tv ad ex)) (n := n) (by rw [argL_len]; exact h)
  refine ⟨by simp [entryL]; omega, h1.1, h1.2.1, fun i v hi => ?_⟩
  unfold entryL at hi
  by_cases hl : i < (argL av).length
  · rw [List.getElem?_append_left hl] at hi
    have := argL_mem ad ex av 0 i v hi
    rw [Nat.zero_add] at this
    exact h1.2.2 _ this
  · rw [List.getElem?_append_right (by omega), List.getElem?_replicate] at hi
    split at hi <;> cases hi
end
