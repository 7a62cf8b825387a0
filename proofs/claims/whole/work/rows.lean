section
-- ===== PART A: goes FIRST, ahead of the names: the tables' words, and 'selects' of the private methods out of them =====
/-- a private method of a class that the tables say can be made, by its rows of tables_1 -/
def lw_okq (q : MethodName × Nat) : Prop := (q.1.cls ≠ "java/lang/invoke/MethodHandle" ∧ q.1.cls ≠ "java/lang/invoke/VarHandle") ∧ Cond.instantiable q.1.cls q.2 ∈ tables_1 ∧ Cond.privateMethod q.1 ∈ tables_1 ∧ Cond.instanceMethod q.1 ∈ tables_1
theorem lw_p0 : lw_okq (⟨"DollsVote$Letters", "itemEnd", "(ILDollsVote$Nursery;)I"⟩, 2) := ⟨⟨by decide +kernel, by decide +kernel⟩, List.mem_of_getElem? (i := 26) (by decide +kernel), List.mem_of_getElem? (i := 203) (by decide +kernel), List.mem_of_getElem? (i := 204) (by decide +kernel)⟩
theorem lw_p1 : lw_okq (⟨"DollsVote$Letters", "letterAt", "(I)I"⟩, 2) := ⟨⟨by decide +kernel, by decide +kernel⟩, List.mem_of_getElem? (i := 26) (by decide +kernel), List.mem_of_getElem? (i := 207) (by decide +kernel), List.mem_of_getElem? (i := 208) (by decide +kernel)⟩
theorem lw_p2 : lw_okq (⟨"DollsVote$Letters", "houseEnd", "(ILDollsVote$Nursery;)I"⟩, 2) := ⟨⟨by decide +kernel, by decide +kernel⟩, List.mem_of_getElem? (i := 26) (by decide +kernel), List.mem_of_getElem? (i := 211) (by decide +kernel), List.mem_of_getElem? (i := 212) (by decide +kernel)⟩
theorem lw_p3 : lw_okq (⟨"DollsVote$Letters", "figureAt", "(I)I"⟩, 2) := ⟨⟨by decide +kernel, by decide +kernel⟩, List.mem_of_getElem? (i := 26) (by decide +kernel), List.mem_of_getElem? (i := 215) (by decide +kernel), List.mem_of_getElem? (i := 216) (by decide +kernel)⟩
theorem lw_p4 : lw_okq (⟨"DollsVote$Letters", "figuresFrom", "(I)I"⟩, 2) := ⟨⟨by decide +kernel, by decide +kernel⟩, List.mem_of_getElem? (i := 26) (by decide +kernel), List.mem_of_getElem? (i := 222) (by decide +kernel), List.mem_of_getElem? (i := 223) (by decide +kernel)⟩
theorem lw_p5 : lw_okq (⟨"DollsVote$Letters", "mouseEnd", "(ILDollsVote$Nursery;)I"⟩, 2) := ⟨⟨by decide +kernel, by decide +kernel⟩, List.mem_of_getElem? (i := 26) (by decide +kernel), List.mem_of_getElem? (i := 244) (by decide +kernel), List.mem_of_getElem? (i := 245) (by decide +kernel)⟩
theorem lw_p6 : lw_okq (⟨"DollsVote$Letters", "wishEnd", "(ILDollsVote$Nursery;)I"⟩, 2) := ⟨⟨by decide +kernel, by decide +kernel⟩, List.mem_of_getElem? (i := 26) (by decide +kernel), List.mem_of_getElem? (i := 260) (by decide +kernel), List.mem_of_getElem? (i := 261) (by decide +kernel)⟩
theorem lw_p7 : lw_okq (⟨"DollsVote$Pile", "dropOldest", "()V"⟩, 2) := ⟨⟨by decide +kernel, by decide +kernel⟩, List.mem_of_getElem? (i := 68) (by decide +kernel), List.mem_of_getElem? (i := 393) (by decide +kernel), List.mem_of_getElem? (i := 394) (by decide +kernel)⟩
theorem lw_p8 : lw_okq (⟨"DollsVote$Nursery", "takeFromWithin", "(I)Z"⟩, 7) := ⟨⟨by decide +kernel, by decide +kernel⟩, List.mem_of_getElem? (i := 40) (by decide +kernel), List.mem_of_getElem? (i := 407) (by decide +kernel), List.mem_of_getElem? (i := 408) (by decide +kernel)⟩
theorem lw_p9 : lw_okq (⟨"DollsVote$Nursery", "nextThing", "(II)I"⟩, 7) := ⟨⟨by decide +kernel, by decide +kernel⟩, List.mem_of_getElem? (i := 40) (by decide +kernel), List.mem_of_getElem? (i := 411) (by decide +kernel), List.mem_of_getElem? (i := 412) (by decide +kernel)⟩
theorem lw_p10 : lw_okq (⟨"DollsVote$Nursery", "roomAfter", "(I)I"⟩, 7) := ⟨⟨by decide +kernel, by decide +kernel⟩, List.mem_of_getElem? (i := 40) (by decide +kernel), List.mem_of_getElem? (i := 415) (by decide +kernel), List.mem_of_getElem? (i := 416) (by decide +kernel)⟩
theorem lw_p11 : lw_okq (⟨"DollsVote", "setMouse", "(IZ)I"⟩, 8) := ⟨⟨by decide +kernel, by decide +kernel⟩, List.mem_of_getElem? (i := 18) (by decide +kernel), List.mem_of_getElem? (i := 446) (by decide +kernel), List.mem_of_getElem? (i := 447) (by decide +kernel)⟩
theorem lw_p12 : lw_okq (⟨"DollsVote$Outlook", "tryThings", "(LDollsVote$Nursery;II)V"⟩, 3) := ⟨⟨by decide +kernel, by decide +kernel⟩, List.mem_of_getElem? (i := 109) (by decide +kernel), List.mem_of_getElem? (i := 532) (by decide +kernel), List.mem_of_getElem? (i := 533) (by decide +kernel)⟩
theorem lw_p13 : lw_okq (⟨"DollsVote$Outlook", "leastThingFor", "(I)I"⟩, 3) := ⟨⟨by decide +kernel, by decide +kernel⟩, List.mem_of_getElem? (i := 109) (by decide +kernel), List.mem_of_getElem? (i := 552) (by decide +kernel), List.mem_of_getElem? (i := 553) (by decide +kernel)⟩
theorem lw_p14 : lw_okq (⟨"DollsVote$Sightings", "furthestDay", "()I"⟩, 5) := ⟨⟨by decide +kernel, by decide +kernel⟩, List.mem_of_getElem? (i := 87) (by decide +kernel), List.mem_of_getElem? (i := 604) (by decide +kernel), List.mem_of_getElem? (i := 605) (by decide +kernel)⟩
theorem lw_p15 : lw_okq (⟨"DollsVote$Sightings", "areSo", "(ILDollsVote$Nursery;)Z"⟩, 5) := ⟨⟨by decide +kernel, by decide +kernel⟩, List.mem_of_getElem? (i := 87) (by decide +kernel), List.mem_of_getElem? (i := 609) (by decide +kernel), List.mem_of_getElem? (i := 610) (by decide +kernel)⟩
def lw_privs_1 : List (MethodName × Nat) := [(⟨"DollsVote$Letters", "itemEnd", "(ILDollsVote$Nursery;)I"⟩, 2), (⟨"DollsVote$Letters", "letterAt", "(I)I"⟩, 2), (⟨"DollsVote$Letters", "houseEnd", "(ILDollsVote$Nursery;)I"⟩, 2), (⟨"DollsVote$Letters", "figureAt", "(I)I"⟩, 2), (⟨"DollsVote$Letters", "figuresFrom", "(I)I"⟩, 2), (⟨"DollsVote$Letters", "mouseEnd", "(ILDollsVote$Nursery;)I"⟩, 2), (⟨"DollsVote$Letters", "wishEnd", "(ILDollsVote$Nursery;)I"⟩, 2), (⟨"DollsVote$Pile", "dropOldest", "()V"⟩, 2), (⟨"DollsVote$Nursery", "takeFromWithin", "(I)Z"⟩, 7), (⟨"DollsVote$Nursery", "nextThing", "(II)I"⟩, 7), (⟨"DollsVote$Nursery", "roomAfter", "(I)I"⟩, 7), (⟨"DollsVote", "setMouse", "(IZ)I"⟩, 8), (⟨"DollsVote$Outlook", "tryThings", "(LDollsVote$Nursery;II)V"⟩, 3), (⟨"DollsVote$Outlook", "leastThingFor", "(I)I"⟩, 3), (⟨"DollsVote$Sightings", "furthestDay", "()I"⟩, 5), (⟨"DollsVote$Sightings", "areSo", "(ILDollsVote$Nursery;)Z"⟩, 5)]
theorem lw_r1 : ∀ q ∈ lw_privs_1, lw_okq q := List.forall_mem_cons.mpr ⟨lw_p0, List.forall_mem_cons.mpr ⟨lw_p1, List.forall_mem_cons.mpr ⟨lw_p2, List.forall_mem_cons.mpr ⟨lw_p3, List.forall_mem_cons.mpr ⟨lw_p4, List.forall_mem_cons.mpr ⟨lw_p5, List.forall_mem_cons.mpr ⟨lw_p6, List.forall_mem_cons.mpr ⟨lw_p7, List.forall_mem_cons.mpr ⟨lw_p8, List.forall_mem_cons.mpr ⟨lw_p9, List.forall_mem_cons.mpr ⟨lw_p10, List.forall_mem_cons.mpr ⟨lw_p11, List.forall_mem_cons.mpr ⟨lw_p12, List.forall_mem_cons.mpr ⟨lw_p13, List.forall_mem_cons.mpr ⟨lw_p14, List.forall_mem_cons.mpr ⟨lw_p15, fun _ h => absurd h List.not_mem_nil⟩⟩⟩⟩⟩⟩⟩⟩⟩⟩⟩⟩⟩⟩⟩⟩
theorem lw_p16 : lw_okq (⟨"DollsVote$Outlook", "gatherValues", "(LDollsVote$Nursery;II)V"⟩, 3) := ⟨⟨by decide +kernel, by decide +kernel⟩, List.mem_of_getElem? (i := 109) (by decide +kernel), List.mem_of_getElem? (i := 628) (by decide +kernel), List.mem_of_getElem? (i := 629) (by decide +kernel)⟩
theorem lw_p17 : lw_okq (⟨"DollsVote$Chances", "topBehind", "(LDollsVote$Nursery;III)I"⟩, 1) := ⟨⟨by decide +kernel, by decide +kernel⟩, List.mem_of_getElem? (i := 127) (by decide +kernel), List.mem_of_getElem? (i := 650) (by decide +kernel), List.mem_of_getElem? (i := 651) (by decide +kernel)⟩
theorem lw_p18 : lw_okq (⟨"DollsVoteModel", "first", "(II)V"⟩, 28) := ⟨⟨by decide +kernel, by decide +kernel⟩, List.mem_of_getElem? (i := 707) (by decide +kernel), List.mem_of_getElem? (i := 713) (by decide +kernel), List.mem_of_getElem? (i := 714) (by decide +kernel)⟩
theorem lw_p19 : lw_okq (⟨"DollsVoteModel", "readsItem", "()Z"⟩, 28) := ⟨⟨by decide +kernel, by decide +kernel⟩, List.mem_of_getElem? (i := 707) (by decide +kernel), List.mem_of_getElem? (i := 817) (by decide +kernel), List.mem_of_getElem? (i := 818) (by decide +kernel)⟩
theorem lw_p20 : lw_okq (⟨"DollsVoteModel", "here", "()I"⟩, 28) := ⟨⟨by decide +kernel, by decide +kernel⟩, List.mem_of_getElem? (i := 707) (by decide +kernel), List.mem_of_getElem? (i := 821) (by decide +kernel), List.mem_of_getElem? (i := 822) (by decide +kernel)⟩
theorem lw_p21 : lw_okq (⟨"DollsVoteModel", "readsHouse", "()Z"⟩, 28) := ⟨⟨by decide +kernel, by decide +kernel⟩, List.mem_of_getElem? (i := 707) (by decide +kernel), List.mem_of_getElem? (i := 825) (by decide +kernel), List.mem_of_getElem? (i := 826) (by decide +kernel)⟩
theorem lw_p22 : lw_okq (⟨"DollsVoteModel", "figure", "(I)I"⟩, 28) := ⟨⟨by decide +kernel, by decide +kernel⟩, List.mem_of_getElem? (i := 707) (by decide +kernel), List.mem_of_getElem? (i := 829) (by decide +kernel), List.mem_of_getElem? (i := 830) (by decide +kernel)⟩
theorem lw_p23 : lw_okq (⟨"DollsVoteModel", "sign", "(I)Z"⟩, 28) := ⟨⟨by decide +kernel, by decide +kernel⟩, List.mem_of_getElem? (i := 707) (by decide +kernel), List.mem_of_getElem? (i := 833) (by decide +kernel), List.mem_of_getElem? (i := 834) (by decide +kernel)⟩
theorem lw_p24 : lw_okq (⟨"DollsVoteModel", "readsMouse", "()Z"⟩, 28) := ⟨⟨by decide +kernel, by decide +kernel⟩, List.mem_of_getElem? (i := 707) (by decide +kernel), List.mem_of_getElem? (i := 837) (by decide +kernel), List.mem_of_getElem? (i := 838) (by decide +kernel)⟩
theorem lw_p25 : lw_okq (⟨"DollsVoteModel", "readsWant", "()Z"⟩, 28) := ⟨⟨by decide +kernel, by decide +kernel⟩, List.mem_of_getElem? (i := 707) (by decide +kernel), List.mem_of_getElem? (i := 841) (by decide +kernel), List.mem_of_getElem? (i := 842) (by decide +kernel)⟩
theorem lw_p26 : lw_okq (⟨"DollsVoteModel", "isHouse", "(I)Z"⟩, 28) := ⟨⟨by decide +kernel, by decide +kernel⟩, List.mem_of_getElem? (i := 707) (by decide +kernel), List.mem_of_getElem? (i := 854) (by decide +kernel), List.mem_of_getElem? (i := 855) (by decide +kernel)⟩
theorem lw_p27 : lw_okq (⟨"DollsVoteModel", "isRoom", "(I)Z"⟩, 28) := ⟨⟨by decide +kernel, by decide +kernel⟩, List.mem_of_getElem? (i := 707) (by decide +kernel), List.mem_of_getElem? (i := 858) (by decide +kernel), List.mem_of_getElem? (i := 859) (by decide +kernel)⟩
theorem lw_p28 : lw_okq (⟨"DollsVoteModel", "notes", "()V"⟩, 28) := ⟨⟨by decide +kernel, by decide +kernel⟩, List.mem_of_getElem? (i := 707) (by decide +kernel), List.mem_of_getElem? (i := 874) (by decide +kernel), List.mem_of_getElem? (i := 875) (by decide +kernel)⟩
theorem lw_p29 : lw_okq (⟨"DollsVoteModel", "lays", "([II)V"⟩, 28) := ⟨⟨by decide +kernel, by decide +kernel⟩, List.mem_of_getElem? (i := 707) (by decide +kernel), List.mem_of_getElem? (i := 878) (by decide +kernel), List.mem_of_getElem? (i := 879) (by decide +kernel)⟩
theorem lw_p30 : lw_okq (⟨"DollsVoteModel", "goesOn", "(I)V"⟩, 28) := ⟨⟨by decide +kernel, by decide +kernel⟩, List.mem_of_getElem? (i := 707) (by decide +kernel), List.mem_of_getElem? (i := 882) (by decide +kernel), List.mem_of_getElem? (i := 883) (by decide +kernel)⟩
theorem lw_p31 : lw_okq (⟨"DollsVoteModel", "passes", "()Z"⟩, 28) := ⟨⟨by decide +kernel, by decide +kernel⟩, List.mem_of_getElem? (i := 707) (by decide +kernel), List.mem_of_getElem? (i := 886) (by decide +kernel), List.mem_of_getElem? (i := 887) (by decide +kernel)⟩
def lw_privs_2 : List (MethodName × Nat) := [(⟨"DollsVote$Outlook", "gatherValues", "(LDollsVote$Nursery;II)V"⟩, 3), (⟨"DollsVote$Chances", "topBehind", "(LDollsVote$Nursery;III)I"⟩, 1), (⟨"DollsVoteModel", "first", "(II)V"⟩, 28), (⟨"DollsVoteModel", "readsItem", "()Z"⟩, 28), (⟨"DollsVoteModel", "here", "()I"⟩, 28), (⟨"DollsVoteModel", "readsHouse", "()Z"⟩, 28), (⟨"DollsVoteModel", "figure", "(I)I"⟩, 28), (⟨"DollsVoteModel", "sign", "(I)Z"⟩, 28), (⟨"DollsVoteModel", "readsMouse", "()Z"⟩, 28), (⟨"DollsVoteModel", "readsWant", "()Z"⟩, 28), (⟨"DollsVoteModel", "isHouse", "(I)Z"⟩, 28), (⟨"DollsVoteModel", "isRoom", "(I)Z"⟩, 28), (⟨"DollsVoteModel", "notes", "()V"⟩, 28), (⟨"DollsVoteModel", "lays", "([II)V"⟩, 28), (⟨"DollsVoteModel", "goesOn", "(I)V"⟩, 28), (⟨"DollsVoteModel", "passes", "()Z"⟩, 28)]
theorem lw_r2 : ∀ q ∈ lw_privs_2, lw_okq q := List.forall_mem_cons.mpr ⟨lw_p16, List.forall_mem_cons.mpr ⟨lw_p17, List.forall_mem_cons.mpr ⟨lw_p18, List.forall_mem_cons.mpr ⟨lw_p19, List.forall_mem_cons.mpr ⟨lw_p20, List.forall_mem_cons.mpr ⟨lw_p21, List.forall_mem_cons.mpr ⟨lw_p22, List.forall_mem_cons.mpr ⟨lw_p23, List.forall_mem_cons.mpr ⟨lw_p24, List.forall_mem_cons.mpr ⟨lw_p25, List.forall_mem_cons.mpr ⟨lw_p26, List.forall_mem_cons.mpr ⟨lw_p27, List.forall_mem_cons.mpr ⟨lw_p28, List.forall_mem_cons.mpr ⟨lw_p29, List.forall_mem_cons.mpr ⟨lw_p30, List.forall_mem_cons.mpr ⟨lw_p31, fun _ h => absurd h List.not_mem_nil⟩⟩⟩⟩⟩⟩⟩⟩⟩⟩⟩⟩⟩⟩⟩⟩
theorem lw_p32 : lw_okq (⟨"DollsVoteModel", "thingThen", "(II)I"⟩, 28) := ⟨⟨by decide +kernel, by decide +kernel⟩, List.mem_of_getElem? (i := 707) (by decide +kernel), List.mem_of_getElem? (i := 890) (by decide +kernel), List.mem_of_getElem? (i := 891) (by decide +kernel)⟩
theorem lw_p33 : lw_okq (⟨"DollsVoteModel", "sneezes", "(I)V"⟩, 28) := ⟨⟨by decide +kernel, by decide +kernel⟩, List.mem_of_getElem? (i := 707) (by decide +kernel), List.mem_of_getElem? (i := 902) (by decide +kernel), List.mem_of_getElem? (i := 903) (by decide +kernel)⟩
theorem lw_p34 : lw_okq (⟨"DollsVoteModel", "mousing", "(II)I"⟩, 28) := ⟨⟨by decide +kernel, by decide +kernel⟩, List.mem_of_getElem? (i := 707) (by decide +kernel), List.mem_of_getElem? (i := 910) (by decide +kernel), List.mem_of_getElem? (i := 911) (by decide +kernel)⟩
theorem lw_p35 : lw_okq (⟨"DollsVoteModel", "mouseMany", "()I"⟩, 28) := ⟨⟨by decide +kernel, by decide +kernel⟩, List.mem_of_getElem? (i := 707) (by decide +kernel), List.mem_of_getElem? (i := 914) (by decide +kernel), List.mem_of_getElem? (i := 915) (by decide +kernel)⟩
theorem lw_p36 : lw_okq (⟨"DollsVoteModel", "takes", "([II)V"⟩, 28) := ⟨⟨by decide +kernel, by decide +kernel⟩, List.mem_of_getElem? (i := 707) (by decide +kernel), List.mem_of_getElem? (i := 930) (by decide +kernel), List.mem_of_getElem? (i := 931) (by decide +kernel)⟩
theorem lw_p37 : lw_okq (⟨"DollsVoteModel", "puts", "()V"⟩, 28) := ⟨⟨by decide +kernel, by decide +kernel⟩, List.mem_of_getElem? (i := 707) (by decide +kernel), List.mem_of_getElem? (i := 938) (by decide +kernel), List.mem_of_getElem? (i := 939) (by decide +kernel)⟩
theorem lw_p38 : lw_okq (⟨"DollsVoteModel", "puttingBack", "()V"⟩, 28) := ⟨⟨by decide +kernel, by decide +kernel⟩, List.mem_of_getElem? (i := 707) (by decide +kernel), List.mem_of_getElem? (i := 942) (by decide +kernel), List.mem_of_getElem? (i := 943) (by decide +kernel)⟩
theorem lw_p39 : lw_okq (⟨"DollsVoteModel", "metBehind", "(I)I"⟩, 28) := ⟨⟨by decide +kernel, by decide +kernel⟩, List.mem_of_getElem? (i := 707) (by decide +kernel), List.mem_of_getElem? (i := 958) (by decide +kernel), List.mem_of_getElem? (i := 959) (by decide +kernel)⟩
theorem lw_p40 : lw_okq (⟨"DollsVoteModel", "metNow", "()I"⟩, 28) := ⟨⟨by decide +kernel, by decide +kernel⟩, List.mem_of_getElem? (i := 707) (by decide +kernel), List.mem_of_getElem? (i := 962) (by decide +kernel), List.mem_of_getElem? (i := 963) (by decide +kernel)⟩
theorem lw_p41 : lw_okq (⟨"DollsVoteModel", "pinsFor", "(I)I"⟩, 28) := ⟨⟨by decide +kernel, by decide +kernel⟩, List.mem_of_getElem? (i := 707) (by decide +kernel), List.mem_of_getElem? (i := 970) (by decide +kernel), List.mem_of_getElem? (i := 971) (by decide +kernel)⟩
theorem lw_p42 : lw_okq (⟨"DollsVoteModel", "isSo", "()Z"⟩, 28) := ⟨⟨by decide +kernel, by decide +kernel⟩, List.mem_of_getElem? (i := 707) (by decide +kernel), List.mem_of_getElem? (i := 1001) (by decide +kernel), List.mem_of_getElem? (i := 1002) (by decide +kernel)⟩
theorem lw_p43 : lw_okq (⟨"DollsVoteModel", "unlike", "(III)I"⟩, 28) := ⟨⟨by decide +kernel, by decide +kernel⟩, List.mem_of_getElem? (i := 707) (by decide +kernel), List.mem_of_getElem? (i := 1013) (by decide +kernel), List.mem_of_getElem? (i := 1014) (by decide +kernel)⟩
theorem lw_p44 : lw_okq (⟨"DollsVoteModel", "rowBehind", "(II)I"⟩, 28) := ⟨⟨by decide +kernel, by decide +kernel⟩, List.mem_of_getElem? (i := 707) (by decide +kernel), List.mem_of_getElem? (i := 1017) (by decide +kernel), List.mem_of_getElem? (i := 1018) (by decide +kernel)⟩
theorem lw_p45 : lw_okq (⟨"DollsVoteModel", "wantedAll", "()I"⟩, 28) := ⟨⟨by decide +kernel, by decide +kernel⟩, List.mem_of_getElem? (i := 707) (by decide +kernel), List.mem_of_getElem? (i := 1049) (by decide +kernel), List.mem_of_getElem? (i := 1050) (by decide +kernel)⟩
def lw_privs_3 : List (MethodName × Nat) := [(⟨"DollsVoteModel", "thingThen", "(II)I"⟩, 28), (⟨"DollsVoteModel", "sneezes", "(I)V"⟩, 28), (⟨"DollsVoteModel", "mousing", "(II)I"⟩, 28), (⟨"DollsVoteModel", "mouseMany", "()I"⟩, 28), (⟨"DollsVoteModel", "takes", "([II)V"⟩, 28), (⟨"DollsVoteModel", "puts", "()V"⟩, 28), (⟨"DollsVoteModel", "puttingBack", "()V"⟩, 28), (⟨"DollsVoteModel", "metBehind", "(I)I"⟩, 28), (⟨"DollsVoteModel", "metNow", "()I"⟩, 28), (⟨"DollsVoteModel", "pinsFor", "(I)I"⟩, 28), (⟨"DollsVoteModel", "isSo", "()Z"⟩, 28), (⟨"DollsVoteModel", "unlike", "(III)I"⟩, 28), (⟨"DollsVoteModel", "rowBehind", "(II)I"⟩, 28), (⟨"DollsVoteModel", "wantedAll", "()I"⟩, 28)]
theorem lw_r3 : ∀ q ∈ lw_privs_3, lw_okq q := List.forall_mem_cons.mpr ⟨lw_p32, List.forall_mem_cons.mpr ⟨lw_p33, List.forall_mem_cons.mpr ⟨lw_p34, List.forall_mem_cons.mpr ⟨lw_p35, List.forall_mem_cons.mpr ⟨lw_p36, List.forall_mem_cons.mpr ⟨lw_p37, List.forall_mem_cons.mpr ⟨lw_p38, List.forall_mem_cons.mpr ⟨lw_p39, List.forall_mem_cons.mpr ⟨lw_p40, List.forall_mem_cons.mpr ⟨lw_p41, List.forall_mem_cons.mpr ⟨lw_p42, List.forall_mem_cons.mpr ⟨lw_p43, List.forall_mem_cons.mpr ⟨lw_p44, List.forall_mem_cons.mpr ⟨lw_p45, fun _ h => absurd h List.not_mem_nil⟩⟩⟩⟩⟩⟩⟩⟩⟩⟩⟩⟩⟩⟩
def lw_privs : List (MethodName × Nat) := lw_privs_1 ++ (lw_privs_2 ++ (lw_privs_3))
def lw_tbl : List Cond := k2_sels lw_privs ++ tables_1
theorem lw_privs_ok : ∀ q ∈ lw_privs, lw_okq q := by
  show ∀ q ∈ lw_privs_1 ++ (lw_privs_2 ++ (lw_privs_3)), lw_okq q
  exact List.forall_mem_append.mpr ⟨lw_r1, List.forall_mem_append.mpr ⟨lw_r2, lw_r3⟩⟩
/-! names: printed by program (NAMES.whole) -/
def RX0 : String := "DollsVote$Chances"
def TX0 : u_T := fun k => match k with
  | _ => ("DollsVote$Chances", "trial", "LDollsVote$Nursery;", true)
def tyX0 : Nat → FieldType := fun k => match k with
  | _ => .object "DollsVote$Nursery"
abbrev wsX00 : List Cond := u_ws RX0 TX0 1
theorem nmX0 : ∀ a, a < 1 → ∀ b, b < 1 → a ≠ b → (TX0 a).2.1 ≠ (TX0 b).2.1 := by decide +kernel
theorem tyX0_ok : ∀ k, k < 1 → parseFieldDescriptor (TX0 k).2.2.1 = some (tyX0 k) := by decide +kernel
abbrev cX0_init : ByteArray := prog_2_method_1_code
def yX0_init : MethodName := ⟨RX0, "<init>", "()V"⟩
abbrev cX0_tellingDays : ByteArray := prog_2_method_2_code
def yX0_tellingDays : MethodName := ⟨RX0, "tellingDays", "(LDollsVote$Nursery;I)I"⟩
abbrev cX0_waysOf : ByteArray := prog_2_method_3_code
def yX0_waysOf : MethodName := ⟨RX0, "waysOf", "(LDollsVote$Nursery;IIII)I"⟩
abbrev cX0_topBehind : ByteArray := prog_2_method_4_code
def yX0_topBehind : MethodName := ⟨RX0, "topBehind", "(LDollsVote$Nursery;III)I"⟩
abbrev cX0_liveCentury : ByteArray := prog_2_method_5_code
def yX0_liveCentury : MethodName := ⟨RX0, "liveCentury", "(LDollsVote$Nursery;II)V"⟩
abbrev cX0_draw : ByteArray := prog_2_method_6_code
def yX0_draw : MethodName := ⟨RX0, "draw", "(II)I"⟩
abbrev cX0_actBy : ByteArray := prog_2_method_7_code
def yX0_actBy : MethodName := ⟨RX0, "actBy", "(LDollsVote$Nursery;I)V"⟩
abbrev cX0_modulo : ByteArray := prog_2_method_8_code
def yX0_modulo : MethodName := ⟨RX0, "modulo", "(II)I"⟩
def RX1 : String := "DollsVote$Letters"
def TX1 : u_T := fun k => match k with
  | 0 => ("DollsVote$Letters", "letters", "[I", true)
  | _ => ("DollsVote$Letters", "length", "I", false)
def tyX1 : Nat → FieldType := fun k => match k with
  | 0 => .array .int
  | _ => .int
abbrev wsX10 : List Cond := u_ws RX1 TX1 2
theorem nmX1 : ∀ a, a < 2 → ∀ b, b < 2 → a ≠ b → (TX1 a).2.1 ≠ (TX1 b).2.1 := by decide +kernel
theorem tyX1_ok : ∀ k, k < 2 → parseFieldDescriptor (TX1 k).2.2.1 = some (tyX1 k) := by decide +kernel
abbrev cX1_init : ByteArray := prog_3_method_1_code
def yX1_init : MethodName := ⟨RX1, "<init>", "()V"⟩
abbrev cX1_length : ByteArray := prog_3_method_2_code
def yX1_length : MethodName := ⟨RX1, "length", "()I"⟩
abbrev cX1_clear : ByteArray := prog_3_method_3_code
def yX1_clear : MethodName := ⟨RX1, "clear", "()V"⟩
abbrev cX1_append : ByteArray := prog_3_method_4_code
def yX1_append : MethodName := ⟨RX1, "append", "(I)Z"⟩
abbrev cX1_readInto : ByteArray := prog_3_method_5_code
def yX1_readInto : MethodName := ⟨RX1, "readInto", "(LDollsVote$Nursery;)I"⟩
abbrev cX1_itemEnd : ByteArray := prog_3_method_6_code
def yX1_itemEnd : MethodName := ⟨RX1, "itemEnd", "(ILDollsVote$Nursery;)I"⟩
abbrev cX1_houseEnd : ByteArray := prog_3_method_7_code
def yX1_houseEnd : MethodName := ⟨RX1, "houseEnd", "(ILDollsVote$Nursery;)I"⟩
abbrev cX1_mouseEnd : ByteArray := prog_3_method_8_code
def yX1_mouseEnd : MethodName := ⟨RX1, "mouseEnd", "(ILDollsVote$Nursery;)I"⟩
abbrev cX1_wishEnd : ByteArray := prog_3_method_9_code
def yX1_wishEnd : MethodName := ⟨RX1, "wishEnd", "(ILDollsVote$Nursery;)I"⟩
abbrev cX1_figuresFrom : ByteArray := prog_3_method_10_code
def yX1_figuresFrom : MethodName := ⟨RX1, "figuresFrom", "(I)I"⟩
abbrev cX1_figureAt : ByteArray := prog_3_method_11_code
def yX1_figureAt : MethodName := ⟨RX1, "figureAt", "(I)I"⟩
abbrev cX1_letterAt : ByteArray := prog_3_method_12_code
def yX1_letterAt : MethodName := ⟨RX1, "letterAt", "(I)I"⟩
def RX2 : String := "DollsVote$Nursery"
def TX2 : u_T := fun k => match k with
  | 0 => ("DollsVote$Nursery", "kinds", "[I", true)
  | 1 => ("DollsVote$Nursery", "things", "[I", true)
  | 2 => ("DollsVote$Nursery", "wishes", "[I", true)
  | 3 => ("DollsVote$Nursery", "houses", "I", false)
  | 4 => ("DollsVote$Nursery", "rooms", "I", false)
  | 5 => ("DollsVote$Nursery", "mouseBits", "I", false)
  | _ => ("DollsVote$Nursery", "day", "I", false)
def tyX2 : Nat → FieldType := fun k => match k with
  | 0 => .array .int
  | 1 => .array .int
  | 2 => .array .int
  | 3 => .int
  | 4 => .int
  | 5 => .int
  | _ => .int
abbrev wsX20 : List Cond := u_ws RX2 TX2 7
theorem nmX2 : ∀ a, a < 7 → ∀ b, b < 7 → a ≠ b → (TX2 a).2.1 ≠ (TX2 b).2.1 := by decide +kernel
theorem tyX2_ok : ∀ k, k < 7 → parseFieldDescriptor (TX2 k).2.2.1 = some (tyX2 k) := by decide +kernel
abbrev cX2_init : ByteArray := prog_4_method_1_code
def yX2_init : MethodName := ⟨RX2, "<init>", "()V"⟩
abbrev cX2_clear : ByteArray := prog_4_method_2_code
def yX2_clear : MethodName := ⟨RX2, "clear", "()V"⟩
abbrev cX2_become : ByteArray := prog_4_method_3_code
def yX2_become : MethodName := ⟨RX2, "become", "(LDollsVote$Nursery;)V"⟩
abbrev cX2_fits : ByteArray := prog_4_method_4_code
def yX2_fits : MethodName := ⟨RX2, "fits", "(I)Z"⟩
abbrev cX2_addHouse : ByteArray := prog_4_method_5_code
def yX2_addHouse : MethodName := ⟨RX2, "addHouse", "(II)V"⟩
abbrev cX2_houses : ByteArray := prog_4_method_6_code
def yX2_houses : MethodName := ⟨RX2, "houses", "()I"⟩
abbrev cX2_rooms : ByteArray := prog_4_method_7_code
def yX2_rooms : MethodName := ⟨RX2, "rooms", "()I"⟩
abbrev cX2_bottom : ByteArray := prog_4_method_8_code
def yX2_bottom : MethodName := ⟨RX2, "bottom", "()I"⟩
abbrev cX2_hasHouse : ByteArray := prog_4_method_9_code
def yX2_hasHouse : MethodName := ⟨RX2, "hasHouse", "(I)Z"⟩
abbrev cX2_hasRoom : ByteArray := prog_4_method_10_code
def yX2_hasRoom : MethodName := ⟨RX2, "hasRoom", "(I)Z"⟩
abbrev cX2_thing : ByteArray := prog_4_method_11_code
def yX2_thing : MethodName := ⟨RX2, "thing", "(II)I"⟩
abbrev cX2_place : ByteArray := prog_4_method_12_code
def yX2_place : MethodName := ⟨RX2, "place", "(III)V"⟩
abbrev cX2_placeAll : ByteArray := prog_4_method_13_code
def yX2_placeAll : MethodName := ⟨RX2, "placeAll", "(II)V"⟩
abbrev cX2_kind : ByteArray := prog_4_method_14_code
def yX2_kind : MethodName := ⟨RX2, "kind", "(I)I"⟩
abbrev cX2_setKind : ByteArray := prog_4_method_15_code
def yX2_setKind : MethodName := ⟨RX2, "setKind", "(II)V"⟩
abbrev cX2_hasMouse : ByteArray := prog_4_method_16_code
def yX2_hasMouse : MethodName := ⟨RX2, "hasMouse", "(I)Z"⟩
abbrev cX2_toggleMouse : ByteArray := prog_4_method_17_code
def yX2_toggleMouse : MethodName := ⟨RX2, "toggleMouse", "(I)V"⟩
abbrev cX2_mice : ByteArray := prog_4_method_18_code
def yX2_mice : MethodName := ⟨RX2, "mice", "()I"⟩
abbrev cX2_wish : ByteArray := prog_4_method_19_code
def yX2_wish : MethodName := ⟨RX2, "wish", "(I)I"⟩
abbrev cX2_setWish : ByteArray := prog_4_method_20_code
def yX2_setWish : MethodName := ⟨RX2, "setWish", "(II)V"⟩
abbrev cX2_wishes : ByteArray := prog_4_method_21_code
def yX2_wishes : MethodName := ⟨RX2, "wishes", "()I"⟩
abbrev cX2_metRooms : ByteArray := prog_4_method_22_code
def yX2_metRooms : MethodName := ⟨RX2, "metRooms", "()I"⟩
abbrev cX2_day : ByteArray := prog_4_method_23_code
def yX2_day : MethodName := ⟨RX2, "day", "()I"⟩
abbrev cX2_addDays : ByteArray := prog_4_method_24_code
def yX2_addDays : MethodName := ⟨RX2, "addDays", "(I)V"⟩
abbrev cX2_shift : ByteArray := prog_4_method_25_code
def yX2_shift : MethodName := ⟨RX2, "shift", "(I)V"⟩
abbrev cX2_comeUp : ByteArray := prog_4_method_26_code
def yX2_comeUp : MethodName := ⟨RX2, "comeUp", "()Z"⟩
abbrev cX2_live : ByteArray := prog_4_method_27_code
def yX2_live : MethodName := ⟨RX2, "live", "(I)V"⟩
abbrev cX2_takeFromWithin : ByteArray := prog_4_method_28_code
def yX2_takeFromWithin : MethodName := ⟨RX2, "takeFromWithin", "(I)Z"⟩
abbrev cX2_nextThing : ByteArray := prog_4_method_29_code
def yX2_nextThing : MethodName := ⟨RX2, "nextThing", "(II)I"⟩
abbrev cX2_nearer : ByteArray := prog_4_method_30_code
def yX2_nearer : MethodName := ⟨RX2, "nearer", "(II)I"⟩
abbrev cX2_roomAfter : ByteArray := prog_4_method_31_code
def yX2_roomAfter : MethodName := ⟨RX2, "roomAfter", "(I)I"⟩
abbrev cX2_roomAbove : ByteArray := prog_4_method_32_code
def yX2_roomAbove : MethodName := ⟨RX2, "roomAbove", "(III)I"⟩
def RX3 : String := "DollsVote$Outlook"
def TX3 : u_T := fun k => match k with
  | 0 => ("DollsVote$Outlook", "trial", "LDollsVote$Nursery;", true)
  | 1 => ("DollsVote$Outlook", "metBy", "[I", true)
  | _ => ("DollsVote$Outlook", "valuesBy", "[I", true)
def tyX3 : Nat → FieldType := fun k => match k with
  | 0 => .object "DollsVote$Nursery"
  | 1 => .array .int
  | _ => .array .int
abbrev wsX30 : List Cond := u_ws RX3 TX3 3
theorem nmX3 : ∀ a, a < 3 → ∀ b, b < 3 → a ≠ b → (TX3 a).2.1 ≠ (TX3 b).2.1 := by decide +kernel
theorem tyX3_ok : ∀ k, k < 3 → parseFieldDescriptor (TX3 k).2.2.1 = some (tyX3 k) := by decide +kernel
abbrev cX3_init : ByteArray := prog_5_method_1_code
def yX3_init : MethodName := ⟨RX3, "<init>", "()V"⟩
abbrev cX3_thingBehind : ByteArray := prog_5_method_2_code
def yX3_thingBehind : MethodName := ⟨RX3, "thingBehind", "(LDollsVote$Nursery;III)I"⟩
abbrev cX3_metBehind : ByteArray := prog_5_method_3_code
def yX3_metBehind : MethodName := ⟨RX3, "metBehind", "(LDollsVote$Nursery;I)I"⟩
abbrev cX3_firstDayOf : ByteArray := prog_5_method_4_code
def yX3_firstDayOf : MethodName := ⟨RX3, "firstDayOf", "(LDollsVote$Nursery;II)I"⟩
abbrev cX3_firstQuietDay : ByteArray := prog_5_method_5_code
def yX3_firstQuietDay : MethodName := ⟨RX3, "firstQuietDay", "(LDollsVote$Nursery;)I"⟩
abbrev cX3_fewestPins : ByteArray := prog_5_method_6_code
def yX3_fewestPins : MethodName := ⟨RX3, "fewestPins", "(LDollsVote$Nursery;II)I"⟩
abbrev cX3_leastThingFor : ByteArray := prog_5_method_7_code
def yX3_leastThingFor : MethodName := ⟨RX3, "leastThingFor", "(I)I"⟩
abbrev cX3_bestPin : ByteArray := prog_5_method_8_code
def yX3_bestPin : MethodName := ⟨RX3, "bestPin", "(LDollsVote$Nursery;IZ)I"⟩
abbrev cX3_tryThings : ByteArray := prog_5_method_9_code
def yX3_tryThings : MethodName := ⟨RX3, "tryThings", "(LDollsVote$Nursery;II)V"⟩
abbrev cX3_worstMouse : ByteArray := prog_5_method_10_code
def yX3_worstMouse : MethodName := ⟨RX3, "worstMouse", "(LDollsVote$Nursery;IZ)I"⟩
abbrev cX3_mostTelling : ByteArray := prog_5_method_11_code
def yX3_mostTelling : MethodName := ⟨RX3, "mostTelling", "(LDollsVote$Nursery;IIZ)I"⟩
abbrev cX3_gatherValues : ByteArray := prog_5_method_12_code
def yX3_gatherValues : MethodName := ⟨RX3, "gatherValues", "(LDollsVote$Nursery;II)V"⟩
abbrev cX3_hasBit : ByteArray := prog_5_method_13_code
def yX3_hasBit : MethodName := ⟨RX3, "hasBit", "(II)Z"⟩
def RX4 : String := "DollsVote$Pile"
def TX4 : u_T := fun k => match k with
  | 0 => ("DollsVote$Pile", "copies", "[LDollsVote$Nursery;", true)
  | _ => ("DollsVote$Pile", "size", "I", false)
def tyX4 : Nat → FieldType := fun k => match k with
  | 0 => .array (.object "DollsVote$Nursery")
  | _ => .int
abbrev wsX40 : List Cond := u_ws RX4 TX4 2
theorem nmX4 : ∀ a, a < 2 → ∀ b, b < 2 → a ≠ b → (TX4 a).2.1 ≠ (TX4 b).2.1 := by decide +kernel
theorem tyX4_ok : ∀ k, k < 2 → parseFieldDescriptor (TX4 k).2.2.1 = some (tyX4 k) := by decide +kernel
abbrev cX4_init : ByteArray := prog_6_method_1_code
def yX4_init : MethodName := ⟨RX4, "<init>", "(I)V"⟩
abbrev cX4_clear : ByteArray := prog_6_method_2_code
def yX4_clear : MethodName := ⟨RX4, "clear", "()V"⟩
abbrev cX4_size : ByteArray := prog_6_method_3_code
def yX4_size : MethodName := ⟨RX4, "size", "()I"⟩
abbrev cX4_isFull : ByteArray := prog_6_method_4_code
def yX4_isFull : MethodName := ⟨RX4, "isFull", "()Z"⟩
abbrev cX4_put : ByteArray := prog_6_method_5_code
def yX4_put : MethodName := ⟨RX4, "put", "(LDollsVote$Nursery;)V"⟩
abbrev cX4_takeInto : ByteArray := prog_6_method_6_code
def yX4_takeInto : MethodName := ⟨RX4, "takeInto", "(LDollsVote$Nursery;)Z"⟩
abbrev cX4_dropOldest : ByteArray := prog_6_method_7_code
def yX4_dropOldest : MethodName := ⟨RX4, "dropOldest", "()V"⟩
def RX5 : String := "DollsVote$Sightings"
def TX5 : u_T := fun k => match k with
  | 0 => ("DollsVote$Sightings", "days", "[I", true)
  | 1 => ("DollsVote$Sightings", "houses", "[I", true)
  | 2 => ("DollsVote$Sightings", "rooms", "[I", true)
  | 3 => ("DollsVote$Sightings", "things", "[I", true)
  | _ => ("DollsVote$Sightings", "size", "I", false)
def tyX5 : Nat → FieldType := fun k => match k with
  | 0 => .array .int
  | 1 => .array .int
  | 2 => .array .int
  | 3 => .array .int
  | _ => .int
abbrev wsX50 : List Cond := u_ws RX5 TX5 5
theorem nmX5 : ∀ a, a < 5 → ∀ b, b < 5 → a ≠ b → (TX5 a).2.1 ≠ (TX5 b).2.1 := by decide +kernel
theorem tyX5_ok : ∀ k, k < 5 → parseFieldDescriptor (TX5 k).2.2.1 = some (tyX5 k) := by decide +kernel
abbrev cX5_init : ByteArray := prog_7_method_1_code
def yX5_init : MethodName := ⟨RX5, "<init>", "()V"⟩
abbrev cX5_size : ByteArray := prog_7_method_2_code
def yX5_size : MethodName := ⟨RX5, "size", "()I"⟩
abbrev cX5_clear : ByteArray := prog_7_method_3_code
def yX5_clear : MethodName := ⟨RX5, "clear", "()V"⟩
abbrev cX5_add : ByteArray := prog_7_method_4_code
def yX5_add : MethodName := ⟨RX5, "add", "(IIII)Z"⟩
abbrev cX5_comeTrueIn : ByteArray := prog_7_method_5_code
def yX5_comeTrueIn : MethodName := ⟨RX5, "comeTrueIn", "(LDollsVote$Nursery;)Z"⟩
abbrev cX5_furthestDay : ByteArray := prog_7_method_6_code
def yX5_furthestDay : MethodName := ⟨RX5, "furthestDay", "()I"⟩
abbrev cX5_areSo : ByteArray := prog_7_method_7_code
def yX5_areSo : MethodName := ⟨RX5, "areSo", "(ILDollsVote$Nursery;)Z"⟩
def RX6 : String := "DollsVote"
def TX6 : u_T := fun k => match k with
  | 0 => ("DollsVote", "text", "LDollsVote$Letters;", true)
  | 1 => ("DollsVote", "now", "LDollsVote$Nursery;", true)
  | 2 => ("DollsVote", "trial", "LDollsVote$Nursery;", true)
  | 3 => ("DollsVote", "past", "LDollsVote$Pile;", true)
  | 4 => ("DollsVote", "kept", "LDollsVote$Pile;", true)
  | 5 => ("DollsVote", "sightings", "LDollsVote$Sightings;", true)
  | 6 => ("DollsVote", "outlook", "LDollsVote$Outlook;", true)
  | _ => ("DollsVote", "chances", "LDollsVote$Chances;", true)
def tyX6 : Nat → FieldType := fun k => match k with
  | 0 => .object "DollsVote$Letters"
  | 1 => .object "DollsVote$Nursery"
  | 2 => .object "DollsVote$Nursery"
  | 3 => .object "DollsVote$Pile"
  | 4 => .object "DollsVote$Pile"
  | 5 => .object "DollsVote$Sightings"
  | 6 => .object "DollsVote$Outlook"
  | _ => .object "DollsVote$Chances"
abbrev wsX60 : List Cond := u_ws RX6 TX6 8
theorem nmX6 : ∀ a, a < 8 → ∀ b, b < 8 → a ≠ b → (TX6 a).2.1 ≠ (TX6 b).2.1 := by decide +kernel
theorem tyX6_ok : ∀ k, k < 8 → parseFieldDescriptor (TX6 k).2.2.1 = some (tyX6 k) := by decide +kernel
abbrev cX6_init : ByteArray := prog_1_method_1_code
def yX6_init : MethodName := ⟨RX6, "<init>", "()V"⟩
abbrev cX6_write : ByteArray := prog_1_method_2_code
def yX6_write : MethodName := ⟨RX6, "write", "(I)I"⟩
abbrev cX6_wipe : ByteArray := prog_1_method_3_code
def yX6_wipe : MethodName := ⟨RX6, "wipe", "()I"⟩
abbrev cX6_fault : ByteArray := prog_1_method_4_code
def yX6_fault : MethodName := ⟨RX6, "fault", "()I"⟩
abbrev cX6_lay : ByteArray := prog_1_method_5_code
def yX6_lay : MethodName := ⟨RX6, "lay", "()I"⟩
abbrev cX6_room : ByteArray := prog_1_method_6_code
def yX6_room : MethodName := ⟨RX6, "room", "(II)I"⟩
abbrev cX6_house : ByteArray := prog_1_method_7_code
def yX6_house : MethodName := ⟨RX6, "house", "(II)I"⟩
abbrev cX6_wanted : ByteArray := prog_1_method_8_code
def yX6_wanted : MethodName := ⟨RX6, "wanted", "(I)I"⟩
abbrev cX6_pass : ByteArray := prog_1_method_9_code
def yX6_pass : MethodName := ⟨RX6, "pass", "(I)I"⟩
abbrev cX6_pin : ByteArray := prog_1_method_10_code
def yX6_pin : MethodName := ⟨RX6, "pin", "(III)I"⟩
abbrev cX6_sneeze : ByteArray := prog_1_method_11_code
def yX6_sneeze : MethodName := ⟨RX6, "sneeze", "(I)I"⟩
abbrev cX6_mouse : ByteArray := prog_1_method_12_code
def yX6_mouse : MethodName := ⟨RX6, "mouse", "(I)I"⟩
abbrev cX6_chase : ByteArray := prog_1_method_13_code
def yX6_chase : MethodName := ⟨RX6, "chase", "(I)I"⟩
abbrev cX6_want : ByteArray := prog_1_method_14_code
def yX6_want : MethodName := ⟨RX6, "want", "(II)I"⟩
abbrev cX6_undo : ByteArray := prog_1_method_15_code
def yX6_undo : MethodName := ⟨RX6, "undo", "()I"⟩
abbrev cX6_behind : ByteArray := prog_1_method_16_code
def yX6_behind : MethodName := ⟨RX6, "behind", "(III)I"⟩
abbrev cX6_when : ByteArray := prog_1_method_17_code
def yX6_when : MethodName := ⟨RX6, "when", "(II)I"⟩
abbrev cX6_rest : ByteArray := prog_1_method_18_code
def yX6_rest : MethodName := ⟨RX6, "rest", "()I"⟩
abbrev cX6_met : ByteArray := prog_1_method_19_code
def yX6_met : MethodName := ⟨RX6, "met", "(I)I"⟩
abbrev cX6_pins : ByteArray := prog_1_method_20_code
def yX6_pins : MethodName := ⟨RX6, "pins", "(II)I"⟩
abbrev cX6_one : ByteArray := prog_1_method_21_code
def yX6_one : MethodName := ⟨RX6, "one", "(II)I"⟩
abbrev cX6_harm : ByteArray := prog_1_method_22_code
def yX6_harm : MethodName := ⟨RX6, "harm", "(II)I"⟩
abbrev cX6_seen : ByteArray := prog_1_method_23_code
def yX6_seen : MethodName := ⟨RX6, "seen", "(IIII)I"⟩
abbrev cX6_forget : ByteArray := prog_1_method_24_code
def yX6_forget : MethodName := ⟨RX6, "forget", "()I"⟩
abbrev cX6_kinds : ByteArray := prog_1_method_25_code
def yX6_kinds : MethodName := ⟨RX6, "kinds", "(I)I"⟩
abbrev cX6_stood : ByteArray := prog_1_method_26_code
def yX6_stood : MethodName := ⟨RX6, "stood", "(I)I"⟩
abbrev cX6_tells : ByteArray := prog_1_method_27_code
def yX6_tells : MethodName := ⟨RX6, "tells", "(III)I"⟩
abbrev cX6_likely : ByteArray := prog_1_method_28_code
def yX6_likely : MethodName := ⟨RX6, "likely", "(IIIII)I"⟩
abbrev cX6_century : ByteArray := prog_1_method_29_code
def yX6_century : MethodName := ⟨RX6, "century", "(III)I"⟩
abbrev cX6_keep : ByteArray := prog_1_method_30_code
def yX6_keep : MethodName := ⟨RX6, "keep", "()I"⟩
abbrev cX6_back : ByteArray := prog_1_method_31_code
def yX6_back : MethodName := ⟨RX6, "back", "()I"⟩
abbrev cX6_count : ByteArray := prog_1_method_32_code
def yX6_count : MethodName := ⟨RX6, "count", "(I)I"⟩
abbrev cX6_setMouse : ByteArray := prog_1_method_33_code
def yX6_setMouse : MethodName := ⟨RX6, "setMouse", "(IZ)I"⟩
abbrev cX6_orNone : ByteArray := prog_1_method_34_code
def yX6_orNone : MethodName := ⟨RX6, "orNone", "(I)I"⟩
abbrev cX6_isThing : ByteArray := prog_1_method_35_code
def yX6_isThing : MethodName := ⟨RX6, "isThing", "(I)Z"⟩
abbrev cX6_within : ByteArray := prog_1_method_36_code
def yX6_within : MethodName := ⟨RX6, "within", "(III)Z"⟩
abbrev cX6_power : ByteArray := prog_1_method_37_code
def yX6_power : MethodName := ⟨RX6, "power", "(II)I"⟩
abbrev cX6_commonDivisor : ByteArray := prog_1_method_38_code
def yX6_commonDivisor : MethodName := ⟨RX6, "commonDivisor", "(II)I"⟩
def RX7 : String := "DollsVoteModel"
def TX7 : u_T := fun k => match k with
  | 0 => ("DollsVoteModel", "houses", "I", false)
  | 1 => ("DollsVoteModel", "rooms", "I", false)
  | 2 => ("DollsVoteModel", "kindOf", "[I", true)
  | 3 => ("DollsVoteModel", "day", "I", false)
  | 4 => ("DollsVoteModel", "things", "[I", true)
  | 5 => ("DollsVoteModel", "mice", "[I", true)
  | 6 => ("DollsVoteModel", "wants", "[I", true)
  | 7 => ("DollsVoteModel", "seenMany", "I", false)
  | 8 => ("DollsVoteModel", "seenBehind", "[I", true)
  | 9 => ("DollsVoteModel", "seenAt", "[I", true)
  | 10 => ("DollsVoteModel", "seenThing", "[I", true)
  | 11 => ("DollsVoteModel", "text", "[I", true)
  | 12 => ("DollsVoteModel", "size", "I", false)
  | 13 => ("DollsVoteModel", "readAt", "I", false)
  | 14 => ("DollsVoteModel", "readHouses", "I", false)
  | 15 => ("DollsVoteModel", "readRooms", "I", false)
  | 16 => ("DollsVoteModel", "readKinds", "[I", true)
  | 17 => ("DollsVoteModel", "readThings", "[I", true)
  | 18 => ("DollsVoteModel", "readMice", "[I", true)
  | 19 => ("DollsVoteModel", "readWants", "[I", true)
  | 20 => ("DollsVoteModel", "then", "[I", true)
  | 21 => ("DollsVoteModel", "ahead", "[I", true)
  | 22 => ("DollsVoteModel", "undoMany", "I", false)
  | 23 => ("DollsVoteModel", "aside", "[I", true)
  | 24 => ("DollsVoteModel", "pinned", "[I", true)
  | 25 => ("DollsVoteModel", "tally", "[I", true)
  | 26 => ("DollsVoteModel", "kept", "[I", true)
  | _ => ("DollsVoteModel", "keptMany", "I", false)
def tyX7 : Nat → FieldType := fun k => match k with
  | 0 => .int
  | 1 => .int
  | 2 => .array .int
  | 3 => .int
  | 4 => .array .int
  | 5 => .array .int
  | 6 => .array .int
  | 7 => .int
  | 8 => .array .int
  | 9 => .array .int
  | 10 => .array .int
  | 11 => .array .int
  | 12 => .int
  | 13 => .int
  | 14 => .int
  | 15 => .int
  | 16 => .array .int
  | 17 => .array .int
  | 18 => .array .int
  | 19 => .array .int
  | 20 => .array .int
  | 21 => .array .int
  | 22 => .int
  | 23 => .array .int
  | 24 => .array .int
  | 25 => .array .int
  | 26 => .array .int
  | _ => .int
abbrev wsX70 : List Cond := u_ws RX7 TX7 28
theorem nmX7 : ∀ a, a < 28 → ∀ b, b < 28 → a ≠ b → (TX7 a).2.1 ≠ (TX7 b).2.1 := by decide +kernel
theorem tyX7_ok : ∀ k, k < 28 → parseFieldDescriptor (TX7 k).2.2.1 = some (tyX7 k) := by decide +kernel
abbrev cX7_in : ByteArray := prog_9_method_1_code
def yX7_in : MethodName := ⟨RX7, "in", "(III)Z"⟩
abbrev cX7_has : ByteArray := prog_9_method_2_code
def yX7_has : MethodName := ⟨RX7, "has", "(II)Z"⟩
abbrev cX7_bits : ByteArray := prog_9_method_3_code
def yX7_bits : MethodName := ⟨RX7, "bits", "(I)I"⟩
abbrev cX7_init : ByteArray := prog_9_method_4_code
def yX7_init : MethodName := ⟨RX7, "<init>", "()V"⟩
abbrev cX7_first : ByteArray := prog_9_method_5_code
def yX7_first : MethodName := ⟨RX7, "first", "(II)V"⟩
abbrev cX7_isHouse : ByteArray := prog_9_method_6_code
def yX7_isHouse : MethodName := ⟨RX7, "isHouse", "(I)Z"⟩
abbrev cX7_isRoom : ByteArray := prog_9_method_7_code
def yX7_isRoom : MethodName := ⟨RX7, "isRoom", "(I)Z"⟩
abbrev cX7_write : ByteArray := prog_9_method_8_code
def yX7_write : MethodName := ⟨RX7, "write", "(I)I"⟩
abbrev cX7_wipe : ByteArray := prog_9_method_9_code
def yX7_wipe : MethodName := ⟨RX7, "wipe", "()I"⟩
abbrev cX7_here : ByteArray := prog_9_method_10_code
def yX7_here : MethodName := ⟨RX7, "here", "()I"⟩
abbrev cX7_figure : ByteArray := prog_9_method_11_code
def yX7_figure : MethodName := ⟨RX7, "figure", "(I)I"⟩
abbrev cX7_sign : ByteArray := prog_9_method_12_code
def yX7_sign : MethodName := ⟨RX7, "sign", "(I)Z"⟩
abbrev cX7_readsHouse : ByteArray := prog_9_method_13_code
def yX7_readsHouse : MethodName := ⟨RX7, "readsHouse", "()Z"⟩
abbrev cX7_readsMouse : ByteArray := prog_9_method_14_code
def yX7_readsMouse : MethodName := ⟨RX7, "readsMouse", "()Z"⟩
abbrev cX7_readsWant : ByteArray := prog_9_method_15_code
def yX7_readsWant : MethodName := ⟨RX7, "readsWant", "()Z"⟩
abbrev cX7_readsItem : ByteArray := prog_9_method_16_code
def yX7_readsItem : MethodName := ⟨RX7, "readsItem", "()Z"⟩
abbrev cX7_fault : ByteArray := prog_9_method_17_code
def yX7_fault : MethodName := ⟨RX7, "fault", "()I"⟩
abbrev cX7_lay : ByteArray := prog_9_method_18_code
def yX7_lay : MethodName := ⟨RX7, "lay", "()I"⟩
abbrev cX7_room : ByteArray := prog_9_method_19_code
def yX7_room : MethodName := ⟨RX7, "room", "(II)I"⟩
abbrev cX7_house : ByteArray := prog_9_method_20_code
def yX7_house : MethodName := ⟨RX7, "house", "(II)I"⟩
abbrev cX7_wanted : ByteArray := prog_9_method_21_code
def yX7_wanted : MethodName := ⟨RX7, "wanted", "(I)I"⟩
abbrev cX7_thingThen : ByteArray := prog_9_method_22_code
def yX7_thingThen : MethodName := ⟨RX7, "thingThen", "(II)I"⟩
abbrev cX7_passes : ByteArray := prog_9_method_23_code
def yX7_passes : MethodName := ⟨RX7, "passes", "()Z"⟩
abbrev cX7_goesOn : ByteArray := prog_9_method_24_code
def yX7_goesOn : MethodName := ⟨RX7, "goesOn", "(I)V"⟩
abbrev cX7_metNow : ByteArray := prog_9_method_25_code
def yX7_metNow : MethodName := ⟨RX7, "metNow", "()I"⟩
abbrev cX7_wantedAll : ByteArray := prog_9_method_26_code
def yX7_wantedAll : MethodName := ⟨RX7, "wantedAll", "()I"⟩
abbrev cX7_mouseMany : ByteArray := prog_9_method_27_code
def yX7_mouseMany : MethodName := ⟨RX7, "mouseMany", "()I"⟩
abbrev cX7_lays : ByteArray := prog_9_method_28_code
def yX7_lays : MethodName := ⟨RX7, "lays", "([II)V"⟩
abbrev cX7_takes : ByteArray := prog_9_method_29_code
def yX7_takes : MethodName := ⟨RX7, "takes", "([II)V"⟩
abbrev cX7_notes : ByteArray := prog_9_method_30_code
def yX7_notes : MethodName := ⟨RX7, "notes", "()V"⟩
abbrev cX7_pass : ByteArray := prog_9_method_31_code
def yX7_pass : MethodName := ⟨RX7, "pass", "(I)I"⟩
abbrev cX7_pin : ByteArray := prog_9_method_32_code
def yX7_pin : MethodName := ⟨RX7, "pin", "(III)I"⟩
abbrev cX7_sneezes : ByteArray := prog_9_method_33_code
def yX7_sneezes : MethodName := ⟨RX7, "sneezes", "(I)V"⟩
abbrev cX7_sneeze : ByteArray := prog_9_method_34_code
def yX7_sneeze : MethodName := ⟨RX7, "sneeze", "(I)I"⟩
abbrev cX7_mousing : ByteArray := prog_9_method_35_code
def yX7_mousing : MethodName := ⟨RX7, "mousing", "(II)I"⟩
abbrev cX7_mouse : ByteArray := prog_9_method_36_code
def yX7_mouse : MethodName := ⟨RX7, "mouse", "(I)I"⟩
abbrev cX7_chase : ByteArray := prog_9_method_37_code
def yX7_chase : MethodName := ⟨RX7, "chase", "(I)I"⟩
abbrev cX7_want : ByteArray := prog_9_method_38_code
def yX7_want : MethodName := ⟨RX7, "want", "(II)I"⟩
abbrev cX7_undo : ByteArray := prog_9_method_39_code
def yX7_undo : MethodName := ⟨RX7, "undo", "()I"⟩
abbrev cX7_puts : ByteArray := prog_9_method_40_code
def yX7_puts : MethodName := ⟨RX7, "puts", "()V"⟩
abbrev cX7_puttingBack : ByteArray := prog_9_method_41_code
def yX7_puttingBack : MethodName := ⟨RX7, "puttingBack", "()V"⟩
abbrev cX7_behind : ByteArray := prog_9_method_42_code
def yX7_behind : MethodName := ⟨RX7, "behind", "(III)I"⟩
abbrev cX7_when : ByteArray := prog_9_method_43_code
def yX7_when : MethodName := ⟨RX7, "when", "(II)I"⟩
abbrev cX7_rest : ByteArray := prog_9_method_44_code
def yX7_rest : MethodName := ⟨RX7, "rest", "()I"⟩
abbrev cX7_metBehind : ByteArray := prog_9_method_45_code
def yX7_metBehind : MethodName := ⟨RX7, "metBehind", "(I)I"⟩
abbrev cX7_met : ByteArray := prog_9_method_46_code
def yX7_met : MethodName := ⟨RX7, "met", "(I)I"⟩
abbrev cX7_pinsFor : ByteArray := prog_9_method_47_code
def yX7_pinsFor : MethodName := ⟨RX7, "pinsFor", "(I)I"⟩
abbrev cX7_pins : ByteArray := prog_9_method_48_code
def yX7_pins : MethodName := ⟨RX7, "pins", "(II)I"⟩
abbrev cX7_one : ByteArray := prog_9_method_49_code
def yX7_one : MethodName := ⟨RX7, "one", "(II)I"⟩
abbrev cX7_harm : ByteArray := prog_9_method_50_code
def yX7_harm : MethodName := ⟨RX7, "harm", "(II)I"⟩
abbrev cX7_seen : ByteArray := prog_9_method_51_code
def yX7_seen : MethodName := ⟨RX7, "seen", "(IIII)I"⟩
abbrev cX7_forget : ByteArray := prog_9_method_52_code
def yX7_forget : MethodName := ⟨RX7, "forget", "()I"⟩
abbrev cX7_isSo : ByteArray := prog_9_method_53_code
def yX7_isSo : MethodName := ⟨RX7, "isSo", "()Z"⟩
abbrev cX7_kinds : ByteArray := prog_9_method_54_code
def yX7_kinds : MethodName := ⟨RX7, "kinds", "(I)I"⟩
abbrev cX7_stood : ByteArray := prog_9_method_55_code
def yX7_stood : MethodName := ⟨RX7, "stood", "(I)I"⟩
abbrev cX7_rowBehind : ByteArray := prog_9_method_56_code
def yX7_rowBehind : MethodName := ⟨RX7, "rowBehind", "(II)I"⟩
abbrev cX7_unlike : ByteArray := prog_9_method_57_code
def yX7_unlike : MethodName := ⟨RX7, "unlike", "(III)I"⟩
abbrev cX7_tells : ByteArray := prog_9_method_58_code
def yX7_tells : MethodName := ⟨RX7, "tells", "(III)I"⟩
abbrev cX7_common : ByteArray := prog_9_method_59_code
def yX7_common : MethodName := ⟨RX7, "common", "(JJ)J"⟩
abbrev cX7_likely : ByteArray := prog_9_method_60_code
def yX7_likely : MethodName := ⟨RX7, "likely", "(IIIII)I"⟩
abbrev cX7_century : ByteArray := prog_9_method_61_code
def yX7_century : MethodName := ⟨RX7, "century", "(III)I"⟩
abbrev cX7_keep : ByteArray := prog_9_method_62_code
def yX7_keep : MethodName := ⟨RX7, "keep", "()I"⟩
abbrev cX7_back : ByteArray := prog_9_method_63_code
def yX7_back : MethodName := ⟨RX7, "back", "()I"⟩
abbrev cX7_count : ByteArray := prog_9_method_64_code
def yX7_count : MethodName := ⟨RX7, "count", "(I)I"⟩
def RJ6 : String := "java/lang/Integer"
abbrev cJ6_bitCount_0f7a4 : ByteArray := prog_10_method_49_code
def yJ6_bitCount_0f7a4 : MethodName := ⟨RJ6, "bitCount", "(I)I"⟩
def RJ7 : String := "java/util/Arrays"
abbrev cJ7_fill_53178 : ByteArray := prog_16_method_103_code
def yJ7_fill_53178 : MethodName := ⟨RJ7, "fill", "([II)V"⟩
def RJ0 : String := "java/lang/String"
abbrev cJ0_length_8abf5 : ByteArray := prog_12_method_54_code
def yJ0_length_8abf5 : MethodName := ⟨RJ0, "length", "()I"⟩
abbrev cJ0_charAt_5068e : ByteArray := prog_12_method_56_code
def yJ0_charAt_5068e : MethodName := ⟨RJ0, "charAt", "(I)C"⟩
end
section
/-! THE PURE MACHINE: cells as rows and objects with addresses counted from 0 within a method's own world; an instruction is a transformer of predicates -/
abbrev aC : Type := (Nat × (Nat → Int32)) ⊕ ((Nat × (Nat → Option Nat)) ⊕ (Nat × List Value))
abbrev ai (n : Nat) (f : Nat → Int32) : aC := .inl (n, f)
abbrev aq (n : Nat) (g : Nat → Option Nat) : aC := .inr (.inl (n, g))
abbrev ao (ci : Nat) (fs : List Value) : aC := .inr (.inr (ci, fs))
/-- a value under a renaming of its world's addresses -/
def rv (f : Nat → Nat) : Value → Value
  | .ref k => .ref (f k)
  | .int x => .int x
  | .long x => .long x
  | .float x => .float x
  | .double x => .double x
  | .null => .null
  | .retAddr x => .retAddr x
/-- the machine's own value: what lies outside the world (the script, a text) is told by retAddr -/
def tv (ad ex : Nat → Nat) : Value → Value
  | .ref k => .ref (ad k)
  | .int x => .int x
  | .long x => .long x
  | .float x => .float x
  | .double x => .double x
  | .null => .null
  | .retAddr x => .ref (ex x)
def rc (f : Nat → Nat) : aC → aC
  | .inl a => .inl a
  | .inr (.inl (n, g)) => .inr (.inl (n, fun i => (g i).map f))
  | .inr (.inr (ci, fs)) => .inr (.inr (ci, fs.map (rv f)))
def tc (cI cN : ClassId) (ad ex : Nat → Nat) : aC → va_E
  | .inl (n, f) => .inl (cI, n, .inl f)
  | .inr (.inl (n, g)) => .inl (cN, n, .inr (.inr (.inr (.inr (fun i => (g i).map ad)))))
  | .inr (.inr (ci, fs)) => .inr (ci, fs.map (tv ad ex))
theorem tv_comp (ad ex r : Nat → Nat) (v : Value) : tv (fun k => ad (r k)) ex v = tv ad ex (rv r v) := by cases v <;> rfl
theorem tc_comp (cI cN : ClassId) (ad ex r : Nat → Nat) (c : aC) : tc cI cN (fun k => ad (r k)) ex c = tc cI cN ad ex (rc r c) := by
  rcases c with ⟨n, f⟩ | ⟨n, g⟩ | ⟨ci, fs⟩
  · rfl
  · simp only [tc, rc, Option.map_map]
    rfl
  · simp only [tc, rc, List.map_map]
    congr 2
    exact List.map_congr_left (fun v _ => tv_comp ad ex r v)
def wF (cI cN : ClassId) (ad ex : Nat → Nat) (h : List aC) : va_W := h.mapIdx (fun k c => (ad k, tc cI cN ad ex c))
theorem wF_get {cI cN : ClassId} {ad ex : Nat → Nat} {h : List aC} {k : Nat} : (wF cI cN ad ex h)[k]? = (h[k]?).map (fun c => (ad k, tc cI cN ad ex c)) := by
  simp [wF, List.getElem?_mapIdx]
theorem wF_at {cI cN : ClassId} {ad ex : Nat → Nat} {h : List aC} {k : Nat} {c : aC} (hk : h[k]? = some c) : (wF cI cN ad ex h)[k]? = some (ad k, tc cI cN ad ex c) := by
  rw [wF_get, hk]; rfl
theorem wF_set {cI cN : ClassId} {ad ex : Nat → Nat} {h : List aC} {k : Nat} {c : aC} : wF cI cN ad ex (h.set k c) = (wF cI cN ad ex h).set k (ad k, tc cI cN ad ex c) := by
  apply List.ext_getElem?
  intro j
  rw [wF_get, List.getElem?_set, List.getElem?_set, wF_get]
  by_cases hj : k = j
  · subst hj
    simp only [if_true, wF, List.length_mapIdx]
    by_cases hl : k < h.length <;> simp [hl]
  · simp [hj]
theorem wF_D {cI cN : ClassId} {ad ex : Nat → Nat} {h : List aC} {A : Nat → Prop} (hi : ∀ i j, ad i = ad j → i = j) (hA : ∀ k, A (ad k)) : va_D A (wF cI cN ad ex h) := by
  refine ⟨fun i j x y hx hy hxy => ?_, fun k q hk => ?_⟩
  · rw [wF_get] at hx hy
    obtain ⟨a, -, rfl⟩ := Option.map_eq_some_iff.mp hx
    obtain ⟨b, -, rfl⟩ := Option.map_eq_some_iff.mp hy
    exact hi i j hxy
  · rw [wF_get] at hk
    obtain ⟨a, -, rfl⟩ := Option.map_eq_some_iff.mp hk
    exact hA k
/-- the classes of the worlds, the array classes -/
abbrev cls : List vw_C := [(RX0, TX0, 1), (RX1, TX1, 2), (RX2, TX2, 7), (RX3, TX3, 3), (RX4, TX4, 2), (RX5, TX5, 5), (RX6, TX6, 8), (RX7, TX7, 28)]
abbrev tys (cI cN : ClassId) : List (ClassId × FieldType) := [(cI, .int), (cN, .object RX2)]
/-- the tables' words that hold in every later state -/
def gtbl : List Cond := lw_tbl.filter goodWord
theorem gt_in {w : Cond} (h : w ∈ lw_tbl) (hg : goodWord w = true) : w ∈ gtbl := List.mem_filter.mpr ⟨h, hg⟩
theorem gt_good {w : Cond} (h : w ∈ gtbl) : goodWord w = true := (List.mem_filter.mp h).2
abbrev aP : Type := Nat → List (Option Value) → List Value → List aC → Nat → Nat → Prop
abbrev aR : Type := Option Value → List aC → Nat → Nat → Prop
abbrev callP : Type := Nat → Nat → Nat → List Value → List aC → (Option Value → List aC → Prop) → Prop
/-- the room for new cells, for their slots; the calls -/
abbrev aK : Type := Nat × Nat × callP
abbrev aI : Type := aK → aP → aR → aP
def MonoC (C : callP) : Prop := ∀ y mc ms av h (Q Q' : Option Value → List aC → Prop), (∀ v h', Q v h' → Q' v h') → C y mc ms av h Q → C y mc ms av h Q'
def Mono (i : aI) : Prop := ∀ (K : aK) (X Y : aP) (Q Q' : aR), MonoC K.2.2 → (∀ pc lo st h c s, X pc lo st h c s → Y pc lo st h c s) → (∀ v h c s, Q v h c s → Q' v h c s) → ∀ pc lo st h c s, i K X Q pc lo st h c s → i K Y Q' pc lo st h c s
/-- the weakest that leads to Q -/
def wp (K : aK) (tb : List (Nat × aI)) (Q : aR) : aP := fun pc lo st h c s => ∀ X : aP, (∀ pc i lo st h c s, tb.lookup pc = some i → i K X Q pc lo st h c s → X pc lo st h c s) → X pc lo st h c s
def runN (K : aK) (tb : List (Nat × aI)) (Q : aR) : Nat → aP
  | 0 => wp K tb Q
  | n + 1 => fun pc lo st h c s => match tb.lookup pc with
    | some i => i K (runN K tb Q n) Q pc lo st h c s
    | none => False
theorem lookup_mem {α : Type} {l : List (Nat × α)} {k : Nat} {a : α} (h : l.lookup k = some a) : (k, a) ∈ l := by
  induction l with
  | nil => cases h
  | cons q t ih =>
    obtain ⟨j, b⟩ := q
    rw [List.lookup_cons] at h
    by_cases e : k == j
    · rw [e] at h
      have ek : k = j := by simpa using e
      cases h
      subst ek
      exact List.mem_cons_self
    · have e' : (k == j) = false := by simpa using e
      rw [e'] at h
      exact List.mem_cons_of_mem _ (ih h)
theorem wp_step {K : aK} {tb : List (Nat × aI)} {Q : aR} (hm : ∀ e ∈ tb, Mono e.2) (hC : MonoC K.2.2) {pc : Nat} {i : aI} {lo : List (Option Value)} {st : List Value} {h : List aC} {c s : Nat} (hl : tb.lookup pc = some i) (hi : i K (wp K tb Q) Q pc lo st h c s) : wp K tb Q pc lo st h c s := by
  intro X hX
  refine hX pc i lo st h c s hl ?_
  exact hm _ (lookup_mem hl) K _ X Q Q hC (fun pc lo st h c s w => w X hX) (fun _ _ _ _ q => q) _ _ _ _ _ _ hi
theorem runN_wp {K : aK} {tb : List (Nat × aI)} {Q : aR} (hm : ∀ e ∈ tb, Mono e.2) (hC : MonoC K.2.2) : ∀ (n : Nat) (pc : Nat) (lo : List (Option Value)) (st : List Value) (h : List aC) (c s : Nat), runN K tb Q n pc lo st h c s → wp K tb Q pc lo st h c s
  | 0, _, _, _, _, _, _, w => w
  | n + 1, pc, lo, st, h, c, s, w => by
    unfold runN at w
    cases e : tb.lookup pc with
    | none => rw [e] at w; exact w.elim
    | some i =>
      rw [e] at w
      exact wp_step hm hC e (hm _ (lookup_mem e) K _ _ Q Q hC (runN_wp hm hC n) (fun _ _ _ _ q => q) _ _ _ _ _ _ w)
theorem wp_mono {K : aK} {tb : List (Nat × aI)} {Q Q' : aR} (hm : ∀ e ∈ tb, Mono e.2) (hC : MonoC K.2.2) (hQ : ∀ v h c s, Q v h c s → Q' v h c s) {pc : Nat} {lo : List (Option Value)} {st : List Value} {h : List aC} {c s : Nat} (w : wp K tb Q pc lo st h c s) : wp K tb Q' pc lo st h c s := by
  intro X hX
  refine w X fun pc i lo st h c s hl hi => hX pc i lo st h c s hl ?_
  exact hm _ (lookup_mem hl) K X X Q Q' hC (fun _ _ _ _ _ _ q => q) hQ _ _ _ _ _ _ hi
/-! instructions -/
def okS (lo : List (Option Value)) (i : Nat) : Bool := decide (i < lo.length) && (match i with
  | 0 => true
  | j + 1 => match lo[j]? with
    | some (some (.long _)) => false
    | some (some (.double _)) => false
    | _ => true)
def i_push (v : Value) (n : Nat) : aI := fun _ X _ pc lo st h c s => X (pc + n) lo (v :: st) h c s
def i_iload (i n : Nat) : aI := fun _ X _ pc lo st h c s => match lo[i]? with
  | some (some (.int x)) => X (pc + n) lo (.int x :: st) h c s
  | _ => False
def i_lload (i n : Nat) : aI := fun _ X _ pc lo st h c s => match lo[i]? with
  | some (some (.long x)) => X (pc + n) lo (.long x :: st) h c s
  | _ => False
def i_aload (i n : Nat) : aI := fun _ X _ pc lo st h c s => match lo[i]? with
  | some (some (.ref x)) => X (pc + n) lo (.ref x :: st) h c s
  | some (some (.retAddr x)) => X (pc + n) lo (.retAddr x :: st) h c s
  | _ => False
def i_istore (i n : Nat) : aI := fun _ X _ pc lo st h c s => match st, okS lo i with
  | .int x :: t, true => X (pc + n) (lo.set i (some (.int x))) t h c s
  | _, _ => False
def i_astore (i n : Nat) : aI := fun _ X _ pc lo st h c s => match st, okS lo i with
  | .ref x :: t, true => X (pc + n) (lo.set i (some (.ref x))) t h c s
  | _, _ => False
def i_lstore (i n : Nat) : aI := fun _ X _ pc lo st h c s => match st, okS lo i && decide (i + 1 < lo.length) with
  | .long x :: t, true => X (pc + n) ((lo.set i (some (.long x))).set (i + 1) none) t h c s
  | _, _ => False
def i_iinc (i : Nat) (n : Int32) : aI := fun _ X _ pc lo st h c s => match lo[i]?, okS lo i with
  | some (some (.int x)), true => X (pc + 3) (lo.set i (some (.int (x + n)))) st h c s
  | _, _ => False
def i_bin (f : Int32 → Int32 → Int32) : aI := fun _ X _ pc lo st h c s => match st with
  | .int y :: .int x :: t => X (pc + 1) lo (.int (f x y) :: t) h c s
  | _ => False
def i_div (f : Int32 → Int32 → Int32) : aI := fun _ X _ pc lo st h c s => match st with
  | .int y :: .int x :: t => ¬ y = 0 ∧ X (pc + 1) lo (.int (f x y) :: t) h c s
  | _ => False
def i_lbin (f : Int64 → Int64 → Int64) : aI := fun _ X _ pc lo st h c s => match st with
  | .long y :: .long x :: t => X (pc + 1) lo (.long (f x y) :: t) h c s
  | _ => False
def i_ldiv (f : Int64 → Int64 → Int64) : aI := fun _ X _ pc lo st h c s => match st with
  | .long y :: .long x :: t => ¬ y = 0 ∧ X (pc + 1) lo (.long (f x y) :: t) h c s
  | _ => False
def i_lcmp : aI := fun _ X _ pc lo st h c s => match st with
  | .long y :: .long x :: t => X (pc + 1) lo (.int (lg_cmp x y) :: t) h c s
  | _ => False
def i_i2l : aI := fun _ X _ pc lo st h c s => match st with
  | .int x :: t => X (pc + 1) lo (.long x.toInt64 :: t) h c s
  | _ => False
def i_l2i : aI := fun _ X _ pc lo st h c s => match st with
  | .long x :: t => X (pc + 1) lo (.int x.toInt32 :: t) h c s
  | _ => False
def i_dup : aI := fun _ X _ pc lo st h c s => match st with
  | .int x :: t => X (pc + 1) lo (.int x :: .int x :: t) h c s
  | .ref x :: t => X (pc + 1) lo (.ref x :: .ref x :: t) h c s
  | _ => False
def i_pop : aI := fun _ X _ pc lo st h c s => match st with
  | .int _ :: t => X (pc + 1) lo t h c s
  | _ => False
def i_dup2 : aI := fun _ X _ pc lo st h c s => match st with
  | .int y :: .ref x :: t => X (pc + 1) lo (.int y :: .ref x :: .int y :: .ref x :: t) h c s
  | _ => False
/-- to a where P holds, to b where it doesn't -/
def i_if (P : Int32 → Prop) (a b : Nat) : aI := fun _ X _ _ lo st h c s => match st with
  | .int x :: t => (P x → X a lo t h c s) ∧ (¬ P x → X b lo t h c s)
  | _ => False
def i_icmp (P : Int32 → Int32 → Prop) (a b : Nat) : aI := fun _ X _ _ lo st h c s => match st with
  | .int y :: .int x :: t => (P x y → X a lo t h c s) ∧ (¬ P x y → X b lo t h c s)
  | _ => False
def i_goto (tgt : Nat) : aI := fun _ X _ _ lo st h c s => X tgt lo st h c s
def i_tsw (lw hi : Int) (tg : List Nat) (df : Nat) : aI := fun _ X _ _ lo st h c s => match st with
  | .int x :: t => (x.toInt < lw ∨ hi < x.toInt → X df lo t h c s) ∧ ∀ j a : Nat, tg[j]? = some a → x.toInt = lw + j → X a lo t h c s
  | _ => False
def i_lsw (ps : List (Int × Nat)) (df : Nat) : aI := fun _ X _ _ lo st h c s => match st with
  | .int x :: t => ((∀ q ∈ ps, x.toInt ≠ q.1) → X df lo t h c s) ∧ ∀ q ∈ ps, x.toInt = q.1 → X q.2 lo t h c s
  | _ => False
def i_get (ci k : Nat) : aI := fun _ X _ pc lo st h c s => match st with
  | .ref a :: t => match h[a]? with
    | some (.inr (.inr (cj, fs))) => match decide (cj = ci), fs[k]? with
      | true, some v => X (pc + 3) lo (v :: t) h c s
      | _, _ => False
    | _ => False
  | _ => False
def i_put (ci k : Nat) : aI := fun _ X _ pc lo st h c s => match st with
  | .int x :: .ref a :: t => match h[a]? with
    | some (.inr (.inr (cj, fs))) => match decide (cj = ci), decide (k < fs.length) with
      | true, true => X (pc + 3) lo t (h.set a (ao ci (fs.set k (.int x)))) c s
      | _, _ => False
    | _ => False
  | _ => False
def i_putR (ci k : Nat) : aI := fun _ X _ pc lo st h c s => match st with
  | .ref x :: .ref a :: t => match h[a]? with
    | some (.inr (.inr (cj, fs))) => match decide (cj = ci), decide (k < fs.length) with
      | true, true => X (pc + 3) lo t (h.set a (ao ci (fs.set k (.ref x)))) c s
      | _, _ => False
    | _ => False
  | _ => False
def i_iald : aI := fun _ X _ pc lo st h c s => match st with
  | .int i :: .ref a :: t => match h[a]? with
    | some (.inl (n, f)) => vp_in i n ∧ X (pc + 1) lo (.int (f i.toNatClampNeg) :: t) h c s
    | _ => False
  | _ => False
def i_iast : aI := fun _ X _ pc lo st h c s => match st with
  | .int x :: .int i :: .ref a :: t => match h[a]? with
    | some (.inl (n, f)) => vp_in i n ∧ X (pc + 1) lo t (h.set a (ai n (upd f i.toNatClampNeg x))) c s
    | _ => False
  | _ => False
def i_alen : aI := fun _ X _ pc lo st h c s => match st with
  | .ref a :: t => match h[a]? with
    | some (.inl (n, _)) => X (pc + 1) lo (.int (nI n) :: t) h c s
    | some (.inr (.inl (n, _))) => X (pc + 1) lo (.int (nI n) :: t) h c s
    | _ => False
  | _ => False
def i_aald : aI := fun _ X _ pc lo st h c s => match st with
  | .int i :: .ref a :: t => match h[a]? with
    | some (.inr (.inl (n, g))) => vp_in i n ∧ ∃ r, g i.toNatClampNeg = some r ∧ X (pc + 1) lo (.ref r :: t) h c s
    | _ => False
  | _ => False
def i_aast : aI := fun _ X _ pc lo st h c s => match st with
  | .ref v :: .int i :: .ref a :: t => match h[a]? with
    | some (.inr (.inl (n, g))) => vp_in i n ∧ (∃ fs, h[v]? = some (ao 2 fs)) ∧ X (pc + 1) lo t (h.set a (aq n (va_up g i.toNatClampNeg (some v)))) c s
    | _ => False
  | _ => False
def i_new (ci N : Nat) (fs : List Value) : aI := fun K X _ pc lo st h c s => c + 1 ≤ K.1 ∧ s + N ≤ K.2.1 ∧ X (pc + 3) lo (.ref h.length :: st) (h ++ [ao ci fs]) (c + 1) (s + N)
def i_newI : aI := fun K X _ pc lo st h c s => match st with
  | .int n :: t => (¬ n < 0 ∧ n.toNatClampNeg ≤ 1000) ∧ c + 1 ≤ K.1 ∧ s + n.toNatClampNeg ≤ K.2.1 ∧ X (pc + 2) lo (.ref h.length :: t) (h ++ [ai n.toNatClampNeg (fun _ => 0)]) (c + 1) (s + n.toNatClampNeg)
  | _ => False
def i_newQ : aI := fun K X _ pc lo st h c s => match st with
  | .int n :: t => (¬ n < 0 ∧ n.toNatClampNeg ≤ 1000) ∧ c + 1 ≤ K.1 ∧ s + n.toNatClampNeg ≤ K.2.1 ∧ X (pc + 3) lo (.ref h.length :: t) (h ++ [aq n.toNatClampNeg (fun _ => none)]) (c + 1) (s + n.toNatClampNeg)
  | _ => False
def i_obj : aI := fun _ X _ pc lo st h c s => match st with
  | .ref _ :: t => (t.map fun v => v.category).sum ≤ 8 ∧ X (pc + 3) lo t h c s
  | _ => False
def i_iret : aI := fun _ _ Q _ _ st h c s => match st with
  | [.int x] => Q (some (.int x)) h c s
  | _ => False
def i_zret : aI := fun _ _ Q _ _ st h c s => match st with
  | [.int x] => (x = 0 ∨ x = 1) ∧ Q (some (.int x)) h c s
  | _ => False
def i_lret : aI := fun _ _ Q _ _ st h c s => match st with
  | [.long x] => Q (some (.long x)) h c s
  | _ => False
def i_vret : aI := fun _ _ Q _ _ st h c s => match st with
  | [] => Q none h c s
  | _ => False
/-- int rows copied whole in part -/
def i_copy : aI := fun _ X _ pc lo st h c s => match st with
  | .int n :: .int dp :: .ref b :: .int sp :: .ref a :: t => match h[a]?, h[b]? with
    | some (.inl (n0, f)), some (.inl (n1, g)) => (¬ sp < 0 ∧ ¬ dp < 0 ∧ ¬ n < 0 ∧ sp.toNatClampNeg + n.toNatClampNeg ≤ n0 ∧ dp.toNatClampNeg + n.toNatClampNeg ≤ n1 ∧ (t.map fun v => v.category).sum ≤ 8) ∧ X (pc + 3) lo t (h.set b (ai n1 (va_cpy f g sp.toNatClampNeg dp.toNatClampNeg n.toNatClampNeg))) c s
    | _, _ => False
  | _ => False
def i_max : aI := fun K X _ pc lo st h c s => match st with
  | .int y :: .int x :: t => ((t.map fun v => v.category).sum ≤ 8 ∧ c ≤ K.1 ∧ s ≤ K.2.1) ∧ X (pc + 3) lo (.int (if x < y then y else x) :: t) h c s
  | _ => False
/-- where a callee's cell lies in its caller's world -/
def rho (is : List Nat) (n k : Nat) : Nat := match is[k]? with
  | some i => i
  | none => n + (k - is.length)
def put : List aC → List Nat → List aC → List aC
  | h, [], cs => h ++ cs
  | h, _ :: _, [] => h
  | h, i :: is, c :: cs => put (h.set i c) is cs
/-- a call of method y with n values on the stack: its world is the cells 'is' of the caller's -/
def i_call (y n : Nat) (B : List Value → List aC → Prop) : aI := fun K X _ pc lo st h c s =>
  ∃ (is : List Nat) (av : List Value) (hc : List aC) (mc ms : Nat), (st.take n = (av.map (rv (rho is h.length))).reverse ∧ av.length = n ∧ ((st.drop n).map fun v => v.category).sum ≤ 8 ∧ va_nd is = true ∧ is.all (fun i => decide (i < h.length)) = true ∧ is.map (fun i => h[i]?) = hc.map (fun x => some (rc (rho is h.length) x)) ∧ B av hc) ∧ c + mc ≤ K.1 ∧ s + ms ≤ K.2.1 ∧
    K.2.2 y mc ms av hc (fun v hc' => X (pc + 3) lo ((v.map (rv (rho is h.length))).toList ++ st.drop n) (put h is (hc'.map (rc (rho is h.length)))) (c + mc) (s + ms))
def recv (ci : Nat) (av : List Value) (hc : List aC) : Prop := ∃ r fs, av.head? = some (.ref r) ∧ hc[r]? = some (ao ci fs)
abbrev i_callV (y n ci : Nat) : aI := i_call y n (recv ci)
abbrev i_callS (y n : Nat) : aI := i_call y n (fun _ _ => True)
abbrev i_callI (y n : Nat) : aI := i_call y n (fun av _ => ∃ r, av.head? = some (.ref r))
/-! each grows with what it is told -/
theorem mo_push (v : Value) (n : Nat) : Mono (i_push v n) := fun _ _ _ _ _ _ hX _ _ _ _ _ _ _ w => hX _ _ _ _ _ _ w
theorem mo_iload (i n : Nat) : Mono (i_iload i n) := by
  intro K X Y Q Q' hC hX hQ pc lo st h c s
  unfold i_iload
  split <;> first | exact fun w => hX _ _ _ _ _ _ w | exact fun w => w
theorem mo_lload (i n : Nat) : Mono (i_lload i n) := by
  intro K X Y Q Q' hC hX hQ pc lo st h c s
  unfold i_lload
  split <;> first | exact fun w => hX _ _ _ _ _ _ w | exact fun w => w
theorem mo_aload (i n : Nat) : Mono (i_aload i n) := by
  intro K X Y Q Q' hC hX hQ pc lo st h c s
  unfold i_aload
  split <;> first | exact fun w => hX _ _ _ _ _ _ w | exact fun w => w
theorem mo_istore (i n : Nat) : Mono (i_istore i n) := by
  intro K X Y Q Q' hC hX hQ pc lo st h c s
  unfold i_istore
  split <;> first | exact fun w => hX _ _ _ _ _ _ w | exact fun w => w
theorem mo_astore (i n : Nat) : Mono (i_astore i n) := by
  intro K X Y Q Q' hC hX hQ pc lo st h c s
  unfold i_astore
  split <;> first | exact fun w => hX _ _ _ _ _ _ w | exact fun w => w
theorem mo_lstore (i n : Nat) : Mono (i_lstore i n) := by
  intro K X Y Q Q' hC hX hQ pc lo st h c s
  unfold i_lstore
  split <;> first | exact fun w => hX _ _ _ _ _ _ w | exact fun w => w
theorem mo_iinc (i : Nat) (n : Int32) : Mono (i_iinc i n) := by
  intro K X Y Q Q' hC hX hQ pc lo st h c s
  unfold i_iinc
  split <;> first | exact fun w => hX _ _ _ _ _ _ w | exact fun w => w
theorem mo_bin (f : Int32 → Int32 → Int32) : Mono (i_bin f) := by
  intro K X Y Q Q' hC hX hQ pc lo st h c s
  unfold i_bin
  split <;> first | exact fun w => hX _ _ _ _ _ _ w | exact fun w => w
theorem mo_lbin (f : Int64 → Int64 → Int64) : Mono (i_lbin f) := by
  intro K X Y Q Q' hC hX hQ pc lo st h c s
  unfold i_lbin
  split <;> first | exact fun w => hX _ _ _ _ _ _ w | exact fun w => w
theorem mo_lcmp  : Mono (i_lcmp ) := by
  intro K X Y Q Q' hC hX hQ pc lo st h c s
  unfold i_lcmp
  split <;> first | exact fun w => hX _ _ _ _ _ _ w | exact fun w => w
theorem mo_i2l  : Mono (i_i2l ) := by
  intro K X Y Q Q' hC hX hQ pc lo st h c s
  unfold i_i2l
  split <;> first | exact fun w => hX _ _ _ _ _ _ w | exact fun w => w
theorem mo_l2i  : Mono (i_l2i ) := by
  intro K X Y Q Q' hC hX hQ pc lo st h c s
  unfold i_l2i
  split <;> first | exact fun w => hX _ _ _ _ _ _ w | exact fun w => w
theorem mo_dup  : Mono (i_dup ) := by
  intro K X Y Q Q' hC hX hQ pc lo st h c s
  unfold i_dup
  split <;> first | exact fun w => hX _ _ _ _ _ _ w | exact fun w => w
theorem mo_pop  : Mono (i_pop ) := by
  intro K X Y Q Q' hC hX hQ pc lo st h c s
  unfold i_pop
  split <;> first | exact fun w => hX _ _ _ _ _ _ w | exact fun w => w
theorem mo_dup2  : Mono (i_dup2 ) := by
  intro K X Y Q Q' hC hX hQ pc lo st h c s
  unfold i_dup2
  split <;> first | exact fun w => hX _ _ _ _ _ _ w | exact fun w => w
theorem mo_div (f : Int32 → Int32 → Int32) : Mono (i_div f) := by
  intro K X Y Q Q' hC hX hQ pc lo st h c s
  unfold i_div
  split <;> first | exact fun w => ⟨w.1, hX _ _ _ _ _ _ w.2⟩ | exact fun w => w
theorem mo_ldiv (f : Int64 → Int64 → Int64) : Mono (i_ldiv f) := by
  intro K X Y Q Q' hC hX hQ pc lo st h c s
  unfold i_ldiv
  split <;> first | exact fun w => ⟨w.1, hX _ _ _ _ _ _ w.2⟩ | exact fun w => w
theorem mo_obj  : Mono (i_obj ) := by
  intro K X Y Q Q' hC hX hQ pc lo st h c s
  unfold i_obj
  split <;> first | exact fun w => ⟨w.1, hX _ _ _ _ _ _ w.2⟩ | exact fun w => w
theorem mo_max  : Mono (i_max ) := by
  intro K X Y Q Q' hC hX hQ pc lo st h c s
  unfold i_max
  split <;> first | exact fun w => ⟨w.1, hX _ _ _ _ _ _ w.2⟩ | exact fun w => w
theorem mo_if (P : Int32 → Prop) (a b : Nat) : Mono (i_if P a b) := by
  intro K X Y Q Q' hC hX hQ pc lo st h c s
  unfold i_if
  split <;> first | exact fun w => ⟨fun z => hX _ _ _ _ _ _ (w.1 z), fun z => hX _ _ _ _ _ _ (w.2 z)⟩ | exact fun w => w
theorem mo_icmp (P : Int32 → Int32 → Prop) (a b : Nat) : Mono (i_icmp P a b) := by
  intro K X Y Q Q' hC hX hQ pc lo st h c s
  unfold i_icmp
  split <;> first | exact fun w => ⟨fun z => hX _ _ _ _ _ _ (w.1 z), fun z => hX _ _ _ _ _ _ (w.2 z)⟩ | exact fun w => w
theorem mo_goto (tgt : Nat) : Mono (i_goto tgt) := by
  intro K X Y Q Q' hC hX hQ pc lo st h c s
  unfold i_goto
  exact fun w => hX _ _ _ _ _ _ w
theorem mo_tsw (lw hi : Int) (tg : List Nat) (df : Nat) : Mono (i_tsw lw hi tg df) := by
  intro K X Y Q Q' hC hX hQ pc lo st h c s
  unfold i_tsw
  split <;> first | exact fun w => ⟨fun z => hX _ _ _ _ _ _ (w.1 z), fun j a z1 z2 => hX _ _ _ _ _ _ (w.2 j a z1 z2)⟩ | exact fun w => w
theorem mo_lsw (ps : List (Int × Nat)) (df : Nat) : Mono (i_lsw ps df) := by
  intro K X Y Q Q' hC hX hQ pc lo st h c s
  unfold i_lsw
  split <;> first | exact fun w => ⟨fun z => hX _ _ _ _ _ _ (w.1 z), fun q z1 z2 => hX _ _ _ _ _ _ (w.2 q z1 z2)⟩ | exact fun w => w
theorem mo_get (ci k : Nat) : Mono (i_get ci k) := by
  intro K X Y Q Q' hC hX hQ pc lo st h c s
  unfold i_get
  repeat' (split)
  all_goals first | exact fun w => hX _ _ _ _ _ _ w | exact fun w => ⟨w.1, hX _ _ _ _ _ _ w.2⟩ | exact fun w => w | exact fun ⟨a, r, b, w⟩ => ⟨a, r, b, hX _ _ _ _ _ _ w⟩ | exact fun ⟨a, b, w⟩ => ⟨a, b, hX _ _ _ _ _ _ w⟩
theorem mo_put (ci k : Nat) : Mono (i_put ci k) := by
  intro K X Y Q Q' hC hX hQ pc lo st h c s
  unfold i_put
  repeat' (split)
  all_goals first | exact fun w => hX _ _ _ _ _ _ w | exact fun w => ⟨w.1, hX _ _ _ _ _ _ w.2⟩ | exact fun w => w | exact fun ⟨a, r, b, w⟩ => ⟨a, r, b, hX _ _ _ _ _ _ w⟩ | exact fun ⟨a, b, w⟩ => ⟨a, b, hX _ _ _ _ _ _ w⟩
theorem mo_putR (ci k : Nat) : Mono (i_putR ci k) := by
  intro K X Y Q Q' hC hX hQ pc lo st h c s
  unfold i_putR
  repeat' (split)
  all_goals first | exact fun w => hX _ _ _ _ _ _ w | exact fun w => ⟨w.1, hX _ _ _ _ _ _ w.2⟩ | exact fun w => w | exact fun ⟨a, r, b, w⟩ => ⟨a, r, b, hX _ _ _ _ _ _ w⟩ | exact fun ⟨a, b, w⟩ => ⟨a, b, hX _ _ _ _ _ _ w⟩
theorem mo_iald  : Mono (i_iald ) := by
  intro K X Y Q Q' hC hX hQ pc lo st h c s
  unfold i_iald
  repeat' (split)
  all_goals first | exact fun w => hX _ _ _ _ _ _ w | exact fun w => ⟨w.1, hX _ _ _ _ _ _ w.2⟩ | exact fun w => w | exact fun ⟨a, r, b, w⟩ => ⟨a, r, b, hX _ _ _ _ _ _ w⟩ | exact fun ⟨a, b, w⟩ => ⟨a, b, hX _ _ _ _ _ _ w⟩
theorem mo_iast  : Mono (i_iast ) := by
  intro K X Y Q Q' hC hX hQ pc lo st h c s
  unfold i_iast
  repeat' (split)
  all_goals first | exact fun w => hX _ _ _ _ _ _ w | exact fun w => ⟨w.1, hX _ _ _ _ _ _ w.2⟩ | exact fun w => w | exact fun ⟨a, r, b, w⟩ => ⟨a, r, b, hX _ _ _ _ _ _ w⟩ | exact fun ⟨a, b, w⟩ => ⟨a, b, hX _ _ _ _ _ _ w⟩
theorem mo_alen  : Mono (i_alen ) := by
  intro K X Y Q Q' hC hX hQ pc lo st h c s
  unfold i_alen
  repeat' (split)
  all_goals first | exact fun w => hX _ _ _ _ _ _ w | exact fun w => ⟨w.1, hX _ _ _ _ _ _ w.2⟩ | exact fun w => w | exact fun ⟨a, r, b, w⟩ => ⟨a, r, b, hX _ _ _ _ _ _ w⟩ | exact fun ⟨a, b, w⟩ => ⟨a, b, hX _ _ _ _ _ _ w⟩
theorem mo_aald  : Mono (i_aald ) := by
  intro K X Y Q Q' hC hX hQ pc lo st h c s
  unfold i_aald
  repeat' (split)
  all_goals first | exact fun w => hX _ _ _ _ _ _ w | exact fun w => ⟨w.1, hX _ _ _ _ _ _ w.2⟩ | exact fun w => w | exact fun ⟨a, r, b, w⟩ => ⟨a, r, b, hX _ _ _ _ _ _ w⟩ | exact fun ⟨a, b, w⟩ => ⟨a, b, hX _ _ _ _ _ _ w⟩
theorem mo_aast  : Mono (i_aast ) := by
  intro K X Y Q Q' hC hX hQ pc lo st h c s
  unfold i_aast
  repeat' (split)
  all_goals first | exact fun w => hX _ _ _ _ _ _ w | exact fun w => ⟨w.1, hX _ _ _ _ _ _ w.2⟩ | exact fun w => w | exact fun ⟨a, r, b, w⟩ => ⟨a, r, b, hX _ _ _ _ _ _ w⟩ | exact fun ⟨a, b, w⟩ => ⟨a, b, hX _ _ _ _ _ _ w⟩
theorem mo_copy  : Mono (i_copy ) := by
  intro K X Y Q Q' hC hX hQ pc lo st h c s
  unfold i_copy
  repeat' (split)
  all_goals first | exact fun w => hX _ _ _ _ _ _ w | exact fun w => ⟨w.1, hX _ _ _ _ _ _ w.2⟩ | exact fun w => w | exact fun ⟨a, r, b, w⟩ => ⟨a, r, b, hX _ _ _ _ _ _ w⟩ | exact fun ⟨a, b, w⟩ => ⟨a, b, hX _ _ _ _ _ _ w⟩
theorem mo_new (ci N : Nat) (fs : List Value) : Mono (i_new ci N fs) := by
  intro K X Y Q Q' hC hX hQ pc lo st h c s
  unfold i_new
  exact fun w => ⟨w.1, w.2.1, hX _ _ _ _ _ _ w.2.2⟩
theorem mo_newI  : Mono (i_newI ) := by
  intro K X Y Q Q' hC hX hQ pc lo st h c s
  unfold i_newI
  split <;> first | exact fun w => ⟨w.1, w.2.1, w.2.2.1, hX _ _ _ _ _ _ w.2.2.2⟩ | exact fun w => w
theorem mo_newQ  : Mono (i_newQ ) := by
  intro K X Y Q Q' hC hX hQ pc lo st h c s
  unfold i_newQ
  split <;> first | exact fun w => ⟨w.1, w.2.1, w.2.2.1, hX _ _ _ _ _ _ w.2.2.2⟩ | exact fun w => w
theorem mo_iret  : Mono (i_iret ) := by
  intro K X Y Q Q' hC hX hQ pc lo st h c s
  unfold i_iret
  split <;> first | exact fun w => hQ _ _ _ _ w | exact fun w => w
theorem mo_lret  : Mono (i_lret ) := by
  intro K X Y Q Q' hC hX hQ pc lo st h c s
  unfold i_lret
  split <;> first | exact fun w => hQ _ _ _ _ w | exact fun w => w
theorem mo_vret  : Mono (i_vret ) := by
  intro K X Y Q Q' hC hX hQ pc lo st h c s
  unfold i_vret
  split <;> first | exact fun w => hQ _ _ _ _ w | exact fun w => w
theorem mo_zret  : Mono (i_zret ) := by
  intro K X Y Q Q' hC hX hQ pc lo st h c s
  unfold i_zret
  split <;> first | exact fun w => ⟨w.1, hQ _ _ _ _ w.2⟩ | exact fun w => w
theorem mo_call (y n : Nat) (B : List Value → List aC → Prop) : Mono (i_call y n B) := by
  intro K X Y Q Q' hC hX hQ pc lo st h c s
  unfold i_call
  rintro ⟨is, av, hc, mc, ms, a, b, d, w⟩
  exact ⟨is, av, hc, mc, ms, a, b, d, hC _ _ _ _ _ _ _ (fun v h' z => hX _ _ _ _ _ _ z) w⟩
end
section
/-! the methods by number; what holds of the machine while one runs -/
def MT : List (MethodName × ByteArray × Nat × Option FieldType) := [(yX0_init, cX0_init, 1, none),
  (yX0_tellingDays, cX0_tellingDays, 2, (some .int)),
  (yX0_waysOf, cX0_waysOf, 11, (some .int)),
  (yX0_topBehind, cX0_topBehind, 6, (some .int)),
  (yX0_liveCentury, cX0_liveCentury, 4, none),
  (yX0_draw, cX0_draw, 4, (some .int)),
  (yX0_actBy, cX0_actBy, 4, none),
  (yX0_modulo, cX0_modulo, 2, (some .int)),
  (yX1_init, cX1_init, 1, none),
  (yX1_length, cX1_length, 1, (some .int)),
  (yX1_clear, cX1_clear, 1, none),
  (yX1_append, cX1_append, 2, (some .boolean)),
  (yX1_readInto, cX1_readInto, 5, (some .int)),
  (yX1_itemEnd, cX1_itemEnd, 3, (some .int)),
  (yX1_houseEnd, cX1_houseEnd, 7, (some .int)),
  (yX1_mouseEnd, cX1_mouseEnd, 4, (some .int)),
  (yX1_wishEnd, cX1_wishEnd, 5, (some .int)),
  (yX1_figuresFrom, cX1_figuresFrom, 3, (some .int)),
  (yX1_figureAt, cX1_figureAt, 3, (some .int)),
  (yX1_letterAt, cX1_letterAt, 2, (some .int)),
  (yX2_init, cX2_init, 1, none),
  (yX2_clear, cX2_clear, 1, none),
  (yX2_become, cX2_become, 2, none),
  (yX2_fits, cX2_fits, 2, (some .boolean)),
  (yX2_addHouse, cX2_addHouse, 3, none),
  (yX2_houses, cX2_houses, 1, (some .int)),
  (yX2_rooms, cX2_rooms, 1, (some .int)),
  (yX2_bottom, cX2_bottom, 1, (some .int)),
  (yX2_hasHouse, cX2_hasHouse, 2, (some .boolean)),
  (yX2_hasRoom, cX2_hasRoom, 2, (some .boolean)),
  (yX2_thing, cX2_thing, 4, (some .int)),
  (yX2_place, cX2_place, 5, none),
  (yX2_placeAll, cX2_placeAll, 4, none),
  (yX2_kind, cX2_kind, 2, (some .int)),
  (yX2_setKind, cX2_setKind, 3, none),
  (yX2_hasMouse, cX2_hasMouse, 2, (some .boolean)),
  (yX2_toggleMouse, cX2_toggleMouse, 2, none),
  (yX2_mice, cX2_mice, 1, (some .int)),
  (yX2_wish, cX2_wish, 2, (some .int)),
  (yX2_setWish, cX2_setWish, 3, none),
  (yX2_wishes, cX2_wishes, 3, (some .int)),
  (yX2_metRooms, cX2_metRooms, 3, (some .int)),
  (yX2_day, cX2_day, 1, (some .int)),
  (yX2_addDays, cX2_addDays, 2, none),
  (yX2_shift, cX2_shift, 4, none),
  (yX2_comeUp, cX2_comeUp, 3, (some .boolean)),
  (yX2_live, cX2_live, 4, none),
  (yX2_takeFromWithin, cX2_takeFromWithin, 5, (some .boolean)),
  (yX2_nextThing, cX2_nextThing, 5, (some .int)),
  (yX2_nearer, cX2_nearer, 2, (some .int)),
  (yX2_roomAfter, cX2_roomAfter, 2, (some .int)),
  (yX2_roomAbove, cX2_roomAbove, 6, (some .int)),
  (yX3_init, cX3_init, 1, none),
  (yX3_thingBehind, cX3_thingBehind, 5, (some .int)),
  (yX3_metBehind, cX3_metBehind, 3, (some .int)),
  (yX3_firstDayOf, cX3_firstDayOf, 5, (some .int)),
  (yX3_firstQuietDay, cX3_firstQuietDay, 3, (some .int)),
  (yX3_fewestPins, cX3_fewestPins, 11, (some .int)),
  (yX3_leastThingFor, cX3_leastThingFor, 3, (some .int)),
  (yX3_bestPin, cX3_bestPin, 12, (some .int)),
  (yX3_tryThings, cX3_tryThings, 5, none),
  (yX3_worstMouse, cX3_worstMouse, 8, (some .int)),
  (yX3_mostTelling, cX3_mostTelling, 9, (some .int)),
  (yX3_gatherValues, cX3_gatherValues, 7, none),
  (yX3_hasBit, cX3_hasBit, 2, (some .boolean)),
  (yX4_init, cX4_init, 3, none),
  (yX4_clear, cX4_clear, 1, none),
  (yX4_size, cX4_size, 1, (some .int)),
  (yX4_isFull, cX4_isFull, 1, (some .boolean)),
  (yX4_put, cX4_put, 2, none),
  (yX4_takeInto, cX4_takeInto, 2, (some .boolean)),
  (yX4_dropOldest, cX4_dropOldest, 3, none),
  (yX5_init, cX5_init, 1, none),
  (yX5_size, cX5_size, 1, (some .int)),
  (yX5_clear, cX5_clear, 1, none),
  (yX5_add, cX5_add, 5, (some .boolean)),
  (yX5_comeTrueIn, cX5_comeTrueIn, 4, (some .boolean)),
  (yX5_furthestDay, cX5_furthestDay, 3, (some .int)),
  (yX5_areSo, cX5_areSo, 4, (some .boolean)),
  (yX6_init, cX6_init, 2, none),
  (yX6_write, cX6_write, 2, (some .int)),
  (yX6_wipe, cX6_wipe, 2, (some .int)),
  (yX6_fault, cX6_fault, 1, (some .int)),
  (yX6_lay, cX6_lay, 1, (some .int)),
  (yX6_room, cX6_room, 3, (some .int)),
  (yX6_house, cX6_house, 3, (some .int)),
  (yX6_wanted, cX6_wanted, 2, (some .int)),
  (yX6_pass, cX6_pass, 2, (some .int)),
  (yX6_pin, cX6_pin, 5, (some .int)),
  (yX6_sneeze, cX6_sneeze, 2, (some .int)),
  (yX6_mouse, cX6_mouse, 2, (some .int)),
  (yX6_chase, cX6_chase, 2, (some .int)),
  (yX6_want, cX6_want, 4, (some .int)),
  (yX6_undo, cX6_undo, 1, (some .int)),
  (yX6_behind, cX6_behind, 4, (some .int)),
  (yX6_when, cX6_when, 3, (some .int)),
  (yX6_rest, cX6_rest, 1, (some .int)),
  (yX6_met, cX6_met, 2, (some .int)),
  (yX6_pins, cX6_pins, 3, (some .int)),
  (yX6_one, cX6_one, 3, (some .int)),
  (yX6_harm, cX6_harm, 3, (some .int)),
  (yX6_seen, cX6_seen, 5, (some .int)),
  (yX6_forget, cX6_forget, 2, (some .int)),
  (yX6_kinds, cX6_kinds, 4, (some .int)),
  (yX6_stood, cX6_stood, 4, (some .int)),
  (yX6_tells, cX6_tells, 4, (some .int)),
  (yX6_likely, cX6_likely, 10, (some .int)),
  (yX6_century, cX6_century, 4, (some .int)),
  (yX6_keep, cX6_keep, 1, (some .int)),
  (yX6_back, cX6_back, 1, (some .int)),
  (yX6_count, cX6_count, 2, (some .int)),
  (yX6_setMouse, cX6_setMouse, 3, (some .int)),
  (yX6_orNone, cX6_orNone, 1, (some .int)),
  (yX6_isThing, cX6_isThing, 1, (some .boolean)),
  (yX6_within, cX6_within, 3, (some .boolean)),
  (yX6_power, cX6_power, 4, (some .int)),
  (yX6_commonDivisor, cX6_commonDivisor, 6, (some .int)),
  (yX7_in, cX7_in, 3, (some .boolean)),
  (yX7_has, cX7_has, 2, (some .boolean)),
  (yX7_bits, cX7_bits, 3, (some .int)),
  (yX7_init, cX7_init, 1, none),
  (yX7_first, cX7_first, 5, none),
  (yX7_isHouse, cX7_isHouse, 2, (some .boolean)),
  (yX7_isRoom, cX7_isRoom, 2, (some .boolean)),
  (yX7_write, cX7_write, 2, (some .int)),
  (yX7_wipe, cX7_wipe, 2, (some .int)),
  (yX7_here, cX7_here, 1, (some .int)),
  (yX7_figure, cX7_figure, 3, (some .int)),
  (yX7_sign, cX7_sign, 2, (some .boolean)),
  (yX7_readsHouse, cX7_readsHouse, 3, (some .boolean)),
  (yX7_readsMouse, cX7_readsMouse, 2, (some .boolean)),
  (yX7_readsWant, cX7_readsWant, 3, (some .boolean)),
  (yX7_readsItem, cX7_readsItem, 2, (some .boolean)),
  (yX7_fault, cX7_fault, 2, (some .int)),
  (yX7_lay, cX7_lay, 2, (some .int)),
  (yX7_room, cX7_room, 3, (some .int)),
  (yX7_house, cX7_house, 3, (some .int)),
  (yX7_wanted, cX7_wanted, 2, (some .int)),
  (yX7_thingThen, cX7_thingThen, 5, (some .int)),
  (yX7_passes, cX7_passes, 4, (some .boolean)),
  (yX7_goesOn, cX7_goesOn, 3, none),
  (yX7_metNow, cX7_metNow, 3, (some .int)),
  (yX7_wantedAll, cX7_wantedAll, 3, (some .int)),
  (yX7_mouseMany, cX7_mouseMany, 3, (some .int)),
  (yX7_lays, cX7_lays, 4, none),
  (yX7_takes, cX7_takes, 4, none),
  (yX7_notes, cX7_notes, 2, none),
  (yX7_pass, cX7_pass, 2, (some .int)),
  (yX7_pin, cX7_pin, 5, (some .int)),
  (yX7_sneezes, cX7_sneezes, 4, none),
  (yX7_sneeze, cX7_sneeze, 2, (some .int)),
  (yX7_mousing, cX7_mousing, 3, (some .int)),
  (yX7_mouse, cX7_mouse, 2, (some .int)),
  (yX7_chase, cX7_chase, 2, (some .int)),
  (yX7_want, cX7_want, 4, (some .int)),
  (yX7_undo, cX7_undo, 1, (some .int)),
  (yX7_puts, cX7_puts, 1, none),
  (yX7_puttingBack, cX7_puttingBack, 1, none),
  (yX7_behind, cX7_behind, 5, (some .int)),
  (yX7_when, cX7_when, 5, (some .int)),
  (yX7_rest, cX7_rest, 2, (some .int)),
  (yX7_metBehind, cX7_metBehind, 3, (some .int)),
  (yX7_met, cX7_met, 2, (some .int)),
  (yX7_pinsFor, cX7_pinsFor, 11, (some .int)),
  (yX7_pins, cX7_pins, 4, (some .int)),
  (yX7_one, cX7_one, 11, (some .int)),
  (yX7_harm, cX7_harm, 7, (some .int)),
  (yX7_seen, cX7_seen, 5, (some .int)),
  (yX7_forget, cX7_forget, 2, (some .int)),
  (yX7_isSo, cX7_isSo, 4, (some .boolean)),
  (yX7_kinds, cX7_kinds, 5, (some .int)),
  (yX7_stood, cX7_stood, 6, (some .int)),
  (yX7_rowBehind, cX7_rowBehind, 5, (some .int)),
  (yX7_unlike, cX7_unlike, 10, (some .int)),
  (yX7_tells, cX7_tells, 8, (some .int)),
  (yX7_common, cX7_common, 10, (some .long)),
  (yX7_likely, cX7_likely, 14, (some .int)),
  (yX7_century, cX7_century, 10, (some .int)),
  (yX7_keep, cX7_keep, 1, (some .int)),
  (yX7_back, cX7_back, 1, (some .int)),
  (yX7_count, cX7_count, 2, (some .int)),
  (yJ6_bitCount_0f7a4, cJ6_bitCount_0f7a4, 1, (some .int)),
  (yJ7_fill_53178, cJ7_fill_53178, 4, none)]
def mt (y : Nat) : MethodName × ByteArray × Nat × Option FieldType := MT.getD y (yX0_init, cX0_init, 1, none)
def nestL : List (String × Nat × MethodName × String) := [(RX6, 9, yX1_init, RX6), (RX6, 18, yX2_init, RX6), (RX4, 21, yX2_init, RX6), (RX6, 40, yX5_init, RX6), (RX6, 47, yX3_init, RX6), (RX3, 11, yX2_init, RX6), (RX6, 54, yX0_init, RX6), (RX0, 11, yX2_init, RX6), (RX1, 47, yX6_within, RX6), (RX2, 46, yX6_within, RX6), (RX1, 80, yX6_isThing, RX6), (RX0, 38, yX6_power, RX6)]
/-- what a state must hold beside the tables: links among nest mates, the class of rows of nurseries -/
def XF (U : State) : Prop := (∀ q ∈ nestL, va_Nw (.methodLinkNest q.1 q.2.1 q.2.2.1 q.2.2.2) U) ∧ va_AO RX2 U
theorem XF.warm {s U : State} (hW : s.WarmedH U.vm) (h : XF s) : XF U := ⟨fun q hq => va_Nw.warmM hW (h.1 q hq), va_AO.moved hW.alike h.2⟩
theorem XF.same {s U : State} (hv : s.vm = U.vm) (h : XF s) : XF U := ⟨fun q hq => va_Nw.same rfl hv (h.1 q hq), va_AO.moved (by rw [hv]; exact Vm.Alike.refl _) h.2⟩
def rmD (d mc ms : Nat) : Room := { frames := d, cells := mc, slots := ms, locals := 40 * d }
def PcA (D : va_G) (cI cN : ClassId) (ad ex : Nat → Nat) (sz : Nat) (av : List Value) (h : List aC) : Array Value → State → Prop := va_Pc (av.map (tv ad ex)) (fun U => U.heap.size = sz ∧ va_P D cls (wF cI cN ad ex h) U.heap ∧ va_K D cls (tys cI cN) U ∧ XF U)
def QcA (D : va_G) (cI cN : ClassId) (ad ex : Nat → Nat) (n0 : Nat) (Q : Option Value → List aC → Prop) : Array Value → State → Outcome → State → Prop := fun _ st oc t => (∃ v h', oc = .returned (v.map (tv ad ex)) ∧ Q v h' ∧ h'.length = n0 ∧ va_P D cls (wF cI cN ad ex h') t.heap) ∧ va_F (fun q => ∃ k, q = ad k) st t
abbrev mws (y : Nat) : List Cond := .code (mt y).1 (mt y).2.1 (mt y).2.2.1 (mt y).2.2.2 :: gtbl
def Cok (l : Launch) (D : va_G) (cI cN : ClassId) (ex : Nat → Nat) (d : Nat) (C : callP) : Prop := ∀ y mc ms av h Q, C y mc ms av h Q → ∀ (ad : Nat → Nat) (sz : Nat), (∀ i j, ad i = ad j → i = j) → (∀ k, h.length ≤ k → ad k + h.length = sz + k) →
  Met l (mt y).1 (mws y) (rmD d mc ms) (PcA D cI cN ad ex sz av h) (QcA D cI cN ad ex (h.length + mc) Q) mc ms (fun q => ∃ k, q = ad k)
/-- the locals -/
def lvR (ad ex : Nat → Nat) (ls : Array Slot) (nL : Nat) (lo : List (Option Value)) : Prop := lo.length = nL ∧ ls.size = nL ∧ lv_wf ls ∧ ∀ (i : Nat) (v : Value), lo[i]? = some (some v) → ls[i]? = some (Slot.val (tv ad ex v))
def la (ad ex : Nat → Nat) (lo : List (Option Value)) : List (Nat × Value) := (List.range lo.length).filterMap (fun i => match lo[i]? with
  | some (some v) => some (i, tv ad ex v)
  | _ => none)
theorem la_mem {ad ex : Nat → Nat} {lo : List (Option Value)} {q : Nat × Value} (h : q ∈ la ad ex lo) : ∃ v, lo[q.1]? = some (some v) ∧ q.2 = tv ad ex v := by
  obtain ⟨i, -, hi⟩ := List.mem_filterMap.mp h
  split at hi
  · rename_i v e
    cases hi
    exact ⟨v, e, rfl⟩
  · cases hi
theorem la_in {ad ex : Nat → Nat} {lo : List (Option Value)} {i : Nat} {v : Value} (h : lo[i]? = some (some v)) : (i, tv ad ex v) ∈ la ad ex lo := by
  refine List.mem_filterMap.mpr ⟨i, List.mem_range.mpr (List.getElem?_eq_some_iff.mp h).1, ?_⟩
  rw [h]
theorem lvR.has {ad ex : Nat → Nat} {ls : Array Slot} {nL : Nat} {lo : List (Option Value)} (h : lvR ad ex ls nL lo) : lv_has ls nL (la ad ex lo) := by
  refine ⟨h.2.1, h.2.2.1, fun q hq => ?_⟩
  obtain ⟨v, h1, h2⟩ := la_mem hq
  rw [h2]
  exact h.2.2.2 _ _ h1
theorem lvR.place {ad ex : Nat → Nat} {ls : Array Slot} {nL i : Nat} {x : Int32} {lo : List (Option Value)} (_ : lvR ad ex ls nL lo) (e : lo[i]? = some (some (.int x))) : ∃ j : Nat, (la ad ex lo)[j]? = some (i, .int x) := List.getElem?_of_mem (la_in (ad := ad) (ex := ex) e)
theorem okS_lt {lo : List (Option Value)} {i : Nat} (h : okS lo i = true) : i < lo.length := by
  unfold okS at h
  simp only [Bool.and_eq_true, decide_eq_true_eq] at h
  exact h.1
theorem okS_prev {ad ex : Nat → Nat} {lo : List (Option Value)} {j : Nat} {v : Value} (h : okS lo (j + 1) = true) (e : lo[j]? = some (some v)) : (tv ad ex v).category = 1 := by
  unfold okS at h
  simp only [Bool.and_eq_true, decide_eq_true_eq, e] at h
  cases v <;> first | rfl | (exact Bool.noConfusion h.2)
theorem lvR.lt {ad ex : Nat → Nat} {ls : Array Slot} {nL i : Nat} {lo : List (Option Value)} (h : lvR ad ex ls nL lo) (e : okS lo i = true) : i < nL := by rw [← h.1]; exact okS_lt e
theorem lvR.lt2 {ad ex : Nat → Nat} {ls : Array Slot} {nL i : Nat} {lo : List (Option Value)} (h : lvR ad ex ls nL lo) (e : (okS lo i && decide (i + 1 < lo.length)) = true) : i + 1 < nL := by
  simp only [Bool.and_eq_true, decide_eq_true_eq] at e
  rw [← h.1]; exact e.2
theorem lvR.st1 {ad ex : Nat → Nat} {ls ls' : Array Slot} {nL i : Nat} {v : Value} {lo : List (Option Value)} (h : lvR ad ex ls nL lo) (e : okS lo i = true) (h' : lv_has ls' nL ((i, tv ad ex v) :: (la ad ex lo).filter (fun q => !(q.1 == i) && !(q.1 + 1 == i && q.2.category == 2)))) : lvR ad ex ls' nL (lo.set i (some v)) := by
  refine ⟨by rw [List.length_set]; exact h.1, h'.1, h'.2.1, fun j w hj => ?_⟩
  rw [List.getElem?_set] at hj
  by_cases hij : i = j
  · subst hij
    rw [if_pos rfl, if_pos (okS_lt e)] at hj
    cases hj
    exact h'.2.2 (i, tv ad ex v) List.mem_cons_self
  · rw [if_neg hij] at hj
    refine h'.2.2 (j, tv ad ex w) (List.mem_cons_of_mem _ (List.mem_filter.mpr ⟨la_in hj, ?_⟩))
    have h1 : (j == i) = false := by simpa using fun z => hij z.symm
    by_cases hp : j + 1 = i
    · subst hp
      have h2 := okS_prev (ad := ad) (ex := ex) e hj
      simp [h1, h2]
    · have h2 : (j + 1 == i) = false := by simpa using hp
      simp [h1, h2]
theorem lvR.st2 {ad ex : Nat → Nat} {ls ls' : Array Slot} {nL i : Nat} {v : Value} {lo : List (Option Value)} (h : lvR ad ex ls nL lo) (e : (okS lo i && decide (i + 1 < lo.length)) = true) (h' : lv_has ls' nL ((i, tv ad ex v) :: (la ad ex lo).filter (fun q => !(q.1 == i) && (!(q.1 == i + 1) && !(q.1 + 1 == i && q.2.category == 2))))) : lvR ad ex ls' nL ((lo.set i (some v)).set (i + 1) none) := by
  simp only [Bool.and_eq_true, decide_eq_true_eq] at e
  obtain ⟨e, -⟩ := e
  refine ⟨by rw [List.length_set, List.length_set]; exact h.1, h'.1, h'.2.1, fun j w hj => ?_⟩
  rw [List.getElem?_set] at hj
  by_cases hq : i + 1 = j
  · rw [if_pos hq] at hj
    split at hj <;> cases hj
  · rw [if_neg hq, List.getElem?_set] at hj
    by_cases hij : i = j
    · subst hij
      rw [if_pos rfl, if_pos (okS_lt e)] at hj
      cases hj
      exact h'.2.2 (i, tv ad ex v) List.mem_cons_self
    · rw [if_neg hij] at hj
      refine h'.2.2 (j, tv ad ex w) (List.mem_cons_of_mem _ (List.mem_filter.mpr ⟨la_in hj, ?_⟩))
      have h1 : (j == i) = false := by simpa using fun z => hij z.symm
      have h3 : (j == i + 1) = false := by simpa using fun z => hq z.symm
      by_cases hp : j + 1 = i
      · subst hp
        have h2 := okS_prev (ad := ad) (ex := ex) e hj
        simp [h1, h2, h3]
      · have h2 : (j + 1 == i) = false := by simpa using hp
        simp [h1, h2, h3]
/-- the heap -/
def Rl (s : State) (D : va_G) (cI cN : ClassId) (ad ex : Nat → Nat) (n0 : Nat) (A : Nat → Prop) (h : List aC) (c0 : Nat) (H : Heap) (locs : List Loc) : Prop := va_P D cls (wF cI cN ad ex h) H ∧ h.length = n0 + c0 ∧ va_S A s.heap H locs
def Sm (p : Program) (l : Launch) (e : Env) (R : Room) (s : State) (m : MethodId) (args : Array Value) (below : List Frame) (meth : Method) (c : Code) (D : va_G) (cI cN : ClassId) (ad ex : Nat → Nat) (n0 : Nat) (A : Nat → Prop) (nL : Nat) (Qw : State → Prop) : aP :=
  fun pc lo st h c0 s0 => ∀ (H : Heap) (locs : List Loc) (ls : Array Slot), Rl s D cI cN ad ex n0 A h c0 H locs → lvR ad ex ls nL lo → W p l e R s m args below meth c H locs c0 s0 Qw (F0 m pc ls (st.map (tv ad ex)))
def FX (p : Program) (R : Room) (s : State) (m : MethodId) (args : Array Value) (meth : Method) (c : Code) (D : va_G) (cI cN : ClassId) (ad : Nat → Nat) (n0 : Nat) (A : Nat → Prop) (nL : Nat) (own : String) (cc : ByteArray) (ini : Bool) (K : aK) (d : Nat) : Prop :=
  p.tables.exec = Jvm.exec ∧ c.code = cc ∧ c.maxLocals = nL ∧ s.vm.findClass own = some m.cls ∧ (∀ w ∈ gtbl, w.before args s = true) ∧ va_K D cls (tys cI cN) s ∧ XF s ∧ (∀ i j, ad i = ad j → i = j) ∧ (∀ k, n0 ≤ k → ad k + n0 = s.heap.size + k) ∧ (∀ k, A (ad k)) ∧ (∀ q, s.heap.size ≤ q → A q) ∧ (ini = true → meth.name = "<init>") ∧ d + 1 ≤ R.frames ∧ 40 * d + 40 ≤ R.locals ∧ K.1 ≤ R.cells ∧ K.2.1 ≤ R.slots
def RT (p : Program) (l : Launch) (e : Env) (R : Room) (s : State) (m : MethodId) (args : Array Value) (below : List Frame) (meth : Method) (c : Code) (D : va_G) (cI cN : ClassId) (ad ex : Nat → Nat) (n0 : Nat) (A : Nat → Prop) (Qw : State → Prop) (cc : ByteArray) (rt : Option FieldType) (Q : aR) : Prop :=
  (∀ (x : Int32) h c0 s0 H locs ls pc, (rt = some .int ∨ (rt = some .boolean ∧ (x = 0 ∨ x = 1))) → decode cc pc = .ok (.ireturn, 1) → Q (some (.int x)) h c0 s0 → Rl s D cI cN ad ex n0 A h c0 H locs → W p l e R s m args below meth c H locs c0 s0 Qw (F0 m pc ls [.int x])) ∧
  (∀ h c0 s0 H locs ls pc, rt = none → decode cc pc = .ok (.return_, 1) → Q none h c0 s0 → Rl s D cI cN ad ex n0 A h c0 H locs → W p l e R s m args below meth c H locs c0 s0 Qw (F0 m pc ls [])) ∧
  (∀ (x : Int64) h c0 s0 H locs ls pc, rt = some .long → decode cc pc = .ok (.lreturn, 1) → Q (some (.long x)) h c0 s0 → Rl s D cI cN ad ex n0 A h c0 H locs → W p l e R s m args below meth c H locs c0 s0 Qw (F0 m pc ls [.long x]))
/-- the machine does what the pure instruction says -/
def Snd (own : String) (cc : ByteArray) (rt : Option FieldType) (ini : Bool) (pc : Nat) (i : aI) : Prop :=
  ∀ (p : Program) (l : Launch) (e : Env) (R : Room) (s : State) (m : MethodId) (args : Array Value) (below : List Frame) (meth : Method) (c : Code) (D : va_G) (cI cN : ClassId) (ad ex : Nat → Nat) (n0 : Nat) (A : Nat → Prop) (nL : Nat) (Qw : State → Prop) (K : aK) (Q : aR) (d : Nat),
    FX p R s m args meth c D cI cN ad n0 A nL own cc ini K d → Cok l D cI cN ex d K.2.2 → RT p l e R s m args below meth c D cI cN ad ex n0 A Qw cc rt Q →
    ∀ lo st h c0 s0, i K (Sm p l e R s m args below meth c D cI cN ad ex n0 A nL Qw) Q pc lo st h c0 s0 → Sm p l e R s m args below meth c D cI cN ad ex n0 A nL Qw pc lo st h c0 s0

theorem snd_iconst {own : String} {cc : ByteArray} {rt : Option FieldType} {ini : Bool} {pc : Nat} {k : Int} {v : Int32} (hd : decode cc pc = .ok (.iconst k, 1)) (hv : Int32.ofInt k = v) : Snd own cc rt ini pc (i_push (.int v) 1) := by
  intro p l e R s m args below meth c D cI cN ad ex n0 A nL Qw K Q d F hC hT lo st h c0 s0 w
  unfold i_push at w
  intro H locs ls hr hl
  exact lv_iconst F.1 F.2.1 hd hv (w H locs ls hr hl)
theorem snd_bipush {own : String} {cc : ByteArray} {rt : Option FieldType} {ini : Bool} {pc : Nat} {k : Int} {v : Int32} (hd : decode cc pc = .ok (.bipush k, 2)) (hv : (Int8.ofInt k).toInt32 = v) : Snd own cc rt ini pc (i_push (.int v) 2) := by
  intro p l e R s m args below meth c D cI cN ad ex n0 A nL Qw K Q d F hC hT lo st h c0 s0 w
  unfold i_push at w
  intro H locs ls hr hl
  exact lv_bipush F.1 F.2.1 hd hv (w H locs ls hr hl)
theorem snd_sipush {own : String} {cc : ByteArray} {rt : Option FieldType} {ini : Bool} {pc : Nat} {k : Int} {v : Int32} (hd : decode cc pc = .ok (.sipush k, 3)) (hv : (Int16.ofInt k).toInt32 = v) : Snd own cc rt ini pc (i_push (.int v) 3) := by
  intro p l e R s m args below meth c D cI cN ad ex n0 A nL Qw K Q d F hC hT lo st h c0 s0 w
  unfold i_push at w
  intro H locs ls hr hl
  exact lv_sipush F.1 F.2.1 hd hv (w H locs ls hr hl)
theorem snd_lconst {own : String} {cc : ByteArray} {rt : Option FieldType} {ini : Bool} {pc : Nat} {k : Fin 2} {v : Int64} (hd : decode cc pc = .ok (.lconst k, 1)) (hv : Int64.ofNat (k : Nat) = v) : Snd own cc rt ini pc (i_push (.long v) 1) := by
  intro p l e R s m args below meth c D cI cN ad ex n0 A nL Qw K Q d F hC hT lo st h c0 s0 w
  unfold i_push at w
  intro H locs ls hr hl
  exact lv_lconst F.1 F.2.1 hd hv (w H locs ls hr hl)
theorem snd_ldcw {own : String} {cc : ByteArray} {rt : Option FieldType} {ini : Bool} {pc : Nat} {k : Nat} {v : Int32} (hd : decode cc pc = .ok (.ldc_w k, 3)) (hw : Cond.constant own k v ∈ lw_tbl) : Snd own cc rt ini pc (i_push (.int v) 3) := by
  intro p l e R s m args below meth c D cI cN ad ex n0 A nL Qw K Q d F hC hT lo st h c0 s0 w
  unfold i_push at w
  intro H locs ls hr hl
  exact lv_ldcw F.1 F.2.1 F.2.2.2.1 (F.2.2.2.2.1 _ (gt_in hw rfl)) hd (w H locs ls hr hl)
theorem snd_ldc {own : String} {cc : ByteArray} {rt : Option FieldType} {ini : Bool} {pc : Nat} {k : Nat} {v : Int32} (hd : decode cc pc = .ok (.ldc k, 2)) (hw : Cond.constant own k v ∈ lw_tbl) : Snd own cc rt ini pc (i_push (.int v) 2) := by
  intro p l e R s m args below meth c D cI cN ad ex n0 A nL Qw K Q d F hC hT lo st h c0 s0 w
  unfold i_push at w
  intro H locs ls hr hl
  exact lv_ldc F.1 F.2.1 F.2.2.2.1 (F.2.2.2.2.1 _ (gt_in hw rfl)) hd (w H locs ls hr hl)
theorem snd_ldc2 {own : String} {cc : ByteArray} {rt : Option FieldType} {ini : Bool} {pc : Nat} {k : Nat} {v : Int64} (hd : decode cc pc = .ok (.ldc2_w k, 3)) (hw : Cond.constantLong own k v ∈ lw_tbl) : Snd own cc rt ini pc (i_push (.long v) 3) := by
  intro p l e R s m args below meth c D cI cN ad ex n0 A nL Qw K Q d F hC hT lo st h c0 s0 w
  unfold i_push at w
  intro H locs ls hr hl
  exact lv_ldc2 F.1 F.2.1 F.2.2.2.1 (F.2.2.2.2.1 _ (gt_in hw rfl)) hd (w H locs ls hr hl)
theorem snd_iload_n {own : String} {cc : ByteArray} {rt : Option FieldType} {ini : Bool} {pc : Nat} {i : Nat} {k : Fin 4} (hd : decode cc pc = .ok (.iload_n k, 1)) (hk : (k : Nat) = i) : Snd own cc rt ini pc (i_iload i 1) := by
  intro p l e R s m args below meth c D cI cN ad ex n0 A nL Qw K Q d F hC hT lo st h c0 s0 w
  unfold i_iload at w
  split at w
  · rename_i x e1
    intro H locs ls hr hl
    exact lv_iload_n F.1 F.2.1 hd hk (hl.2.2.2 _ _ e1) (w H locs ls hr hl)
  · exact w.elim
theorem snd_iload {own : String} {cc : ByteArray} {rt : Option FieldType} {ini : Bool} {pc : Nat} {i : Nat} (hd : decode cc pc = .ok (.iload i, 2)) : Snd own cc rt ini pc (i_iload i 2) := by
  intro p l e R s m args below meth c D cI cN ad ex n0 A nL Qw K Q d F hC hT lo st h c0 s0 w
  unfold i_iload at w
  split at w
  · rename_i x e1
    intro H locs ls hr hl
    exact lv_iload F.1 F.2.1 hd (hl.2.2.2 _ _ e1) (w H locs ls hr hl)
  · exact w.elim
theorem snd_lload_n {own : String} {cc : ByteArray} {rt : Option FieldType} {ini : Bool} {pc : Nat} {i : Nat} {k : Fin 4} (hd : decode cc pc = .ok (.lload_n k, 1)) (hk : (k : Nat) = i) : Snd own cc rt ini pc (i_lload i 1) := by
  intro p l e R s m args below meth c D cI cN ad ex n0 A nL Qw K Q d F hC hT lo st h c0 s0 w
  unfold i_lload at w
  split at w
  · rename_i x e1
    intro H locs ls hr hl
    exact lv_lload_n F.1 F.2.1 hd hk (hl.2.2.2 _ _ e1) (w H locs ls hr hl)
  · exact w.elim
theorem snd_lload {own : String} {cc : ByteArray} {rt : Option FieldType} {ini : Bool} {pc : Nat} {i : Nat} (hd : decode cc pc = .ok (.lload i, 2)) : Snd own cc rt ini pc (i_lload i 2) := by
  intro p l e R s m args below meth c D cI cN ad ex n0 A nL Qw K Q d F hC hT lo st h c0 s0 w
  unfold i_lload at w
  split at w
  · rename_i x e1
    intro H locs ls hr hl
    exact lv_lload F.1 F.2.1 hd (hl.2.2.2 _ _ e1) (w H locs ls hr hl)
  · exact w.elim
theorem snd_aload_n {own : String} {cc : ByteArray} {rt : Option FieldType} {ini : Bool} {pc : Nat} {i : Nat} {k : Fin 4} (hd : decode cc pc = .ok (.aload_n k, 1)) (hk : (k : Nat) = i) : Snd own cc rt ini pc (i_aload i 1) := by
  intro p l e R s m args below meth c D cI cN ad ex n0 A nL Qw K Q d F hC hT lo st h c0 s0 w
  unfold i_aload at w
  split at w
  · rename_i x e1
    intro H locs ls hr hl
    exact lv_aload_n F.1 F.2.1 hd hk (hl.2.2.2 _ _ e1) (w H locs ls hr hl)
  · rename_i x e1
    intro H locs ls hr hl
    exact lv_aload_n F.1 F.2.1 hd hk (hl.2.2.2 _ _ e1) (w H locs ls hr hl)
  · exact w.elim
theorem snd_aload {own : String} {cc : ByteArray} {rt : Option FieldType} {ini : Bool} {pc : Nat} {i : Nat} (hd : decode cc pc = .ok (.aload i, 2)) : Snd own cc rt ini pc (i_aload i 2) := by
  intro p l e R s m args below meth c D cI cN ad ex n0 A nL Qw K Q d F hC hT lo st h c0 s0 w
  unfold i_aload at w
  split at w
  · rename_i x e1
    intro H locs ls hr hl
    exact lv_aload F.1 F.2.1 hd (hl.2.2.2 _ _ e1) (w H locs ls hr hl)
  · rename_i x e1
    intro H locs ls hr hl
    exact lv_aload F.1 F.2.1 hd (hl.2.2.2 _ _ e1) (w H locs ls hr hl)
  · exact w.elim
theorem snd_istore_n {own : String} {cc : ByteArray} {rt : Option FieldType} {ini : Bool} {pc : Nat} {i : Nat} {k : Fin 4} (hd : decode cc pc = .ok (.istore_n k, 1)) (hk : (k : Nat) = i) : Snd own cc rt ini pc (i_istore i 1) := by
  intro p l e R s m args below meth c D cI cN ad ex n0 A nL Qw K Q d F hC hT lo st h c0 s0 w
  unfold i_istore at w
  split at w
  · rename_i x t e1
    intro H locs ls hr hl
    exact lv_istore_n F.1 F.2.1 hd hk hl.has (hl.lt e1) rfl (fun ls' h' => w H locs ls' hr (hl.st1 e1 h'))
  · exact w.elim
theorem snd_istore {own : String} {cc : ByteArray} {rt : Option FieldType} {ini : Bool} {pc : Nat} {i : Nat} (hd : decode cc pc = .ok (.istore i, 2)) : Snd own cc rt ini pc (i_istore i 2) := by
  intro p l e R s m args below meth c D cI cN ad ex n0 A nL Qw K Q d F hC hT lo st h c0 s0 w
  unfold i_istore at w
  split at w
  · rename_i x t e1
    intro H locs ls hr hl
    exact lv_istore F.1 F.2.1 hd hl.has (hl.lt e1) rfl (fun ls' h' => w H locs ls' hr (hl.st1 e1 h'))
  · exact w.elim
theorem snd_astore_n {own : String} {cc : ByteArray} {rt : Option FieldType} {ini : Bool} {pc : Nat} {i : Nat} {k : Fin 4} (hd : decode cc pc = .ok (.astore_n k, 1)) (hk : (k : Nat) = i) : Snd own cc rt ini pc (i_astore i 1) := by
  intro p l e R s m args below meth c D cI cN ad ex n0 A nL Qw K Q d F hC hT lo st h c0 s0 w
  unfold i_astore at w
  split at w
  · rename_i x t e1
    intro H locs ls hr hl
    exact lv_astore_n F.1 F.2.1 hd hk hl.has (hl.lt e1) rfl (fun ls' h' => w H locs ls' hr (hl.st1 e1 h'))
  · exact w.elim
theorem snd_astore {own : String} {cc : ByteArray} {rt : Option FieldType} {ini : Bool} {pc : Nat} {i : Nat} (hd : decode cc pc = .ok (.astore i, 2)) : Snd own cc rt ini pc (i_astore i 2) := by
  intro p l e R s m args below meth c D cI cN ad ex n0 A nL Qw K Q d F hC hT lo st h c0 s0 w
  unfold i_astore at w
  split at w
  · rename_i x t e1
    intro H locs ls hr hl
    exact lv_astore F.1 F.2.1 hd hl.has (hl.lt e1) rfl (fun ls' h' => w H locs ls' hr (hl.st1 e1 h'))
  · exact w.elim
theorem snd_lstore_n {own : String} {cc : ByteArray} {rt : Option FieldType} {ini : Bool} {pc : Nat} {i : Nat} {k : Fin 4} (hd : decode cc pc = .ok (.lstore_n k, 1)) (hk : (k : Nat) = i) : Snd own cc rt ini pc (i_lstore i 1) := by
  intro p l e R s m args below meth c D cI cN ad ex n0 A nL Qw K Q d F hC hT lo st h c0 s0 w
  unfold i_lstore at w
  split at w
  · rename_i x t e1
    intro H locs ls hr hl
    exact lv_lstore_n F.1 F.2.1 hd hk hl.has (hl.lt2 e1) rfl (fun ls' h' => w H locs ls' hr (hl.st2 e1 h'))
  · exact w.elim
theorem snd_lstore {own : String} {cc : ByteArray} {rt : Option FieldType} {ini : Bool} {pc : Nat} {i : Nat} (hd : decode cc pc = .ok (.lstore i, 2)) : Snd own cc rt ini pc (i_lstore i 2) := by
  intro p l e R s m args below meth c D cI cN ad ex n0 A nL Qw K Q d F hC hT lo st h c0 s0 w
  unfold i_lstore at w
  split at w
  · rename_i x t e1
    intro H locs ls hr hl
    exact lv_lstore F.1 F.2.1 hd hl.has (hl.lt2 e1) rfl (fun ls' h' => w H locs ls' hr (hl.st2 e1 h'))
  · exact w.elim
theorem snd_iinc {own : String} {cc : ByteArray} {rt : Option FieldType} {ini : Bool} {pc : Nat} {i : Nat} {k : Int} {n : Int32} (hd : decode cc pc = .ok (.iinc i k, 3)) (hn : Int32.ofInt k = n) : Snd own cc rt ini pc (i_iinc i n) := by
  intro p l e R s m args below meth c D cI cN ad ex n0 A nL Qw K Q d F hC hT lo st h c0 s0 w
  unfold i_iinc at w
  split at w
  · rename_i x e1 e2
    intro H locs ls hr hl
    obtain ⟨j, hj⟩ := hl.place e1
    exact lv_iinc F.1 F.2.1 hd hl.has hj (by rw [hn]) (hl.lt e2) rfl (fun ls' h' => w H locs ls' hr (hl.st1 e2 h'))
  · exact w.elim
theorem snd_iadd {own : String} {cc : ByteArray} {rt : Option FieldType} {ini : Bool} {pc : Nat}  (hd : decode cc pc = .ok (.iadd, 1)) : Snd own cc rt ini pc (i_bin (fun x y => x + y)) := by
  intro p l e R s m args below meth c D cI cN ad ex n0 A nL Qw K Q d F hC hT lo st h c0 s0 w
  unfold i_bin at w
  split at w
  · intro H locs ls hr hl
    exact lv_iadd F.1 F.2.1 hd (w H locs ls hr hl)
  · exact w.elim
theorem snd_isub {own : String} {cc : ByteArray} {rt : Option FieldType} {ini : Bool} {pc : Nat}  (hd : decode cc pc = .ok (.isub, 1)) : Snd own cc rt ini pc (i_bin (fun x y => x - y)) := by
  intro p l e R s m args below meth c D cI cN ad ex n0 A nL Qw K Q d F hC hT lo st h c0 s0 w
  unfold i_bin at w
  split at w
  · intro H locs ls hr hl
    exact lv_isub F.1 F.2.1 hd (w H locs ls hr hl)
  · exact w.elim
theorem snd_imul {own : String} {cc : ByteArray} {rt : Option FieldType} {ini : Bool} {pc : Nat}  (hd : decode cc pc = .ok (.imul, 1)) : Snd own cc rt ini pc (i_bin (fun x y => x * y)) := by
  intro p l e R s m args below meth c D cI cN ad ex n0 A nL Qw K Q d F hC hT lo st h c0 s0 w
  unfold i_bin at w
  split at w
  · intro H locs ls hr hl
    exact lv_imul F.1 F.2.1 hd (w H locs ls hr hl)
  · exact w.elim
theorem snd_iand {own : String} {cc : ByteArray} {rt : Option FieldType} {ini : Bool} {pc : Nat}  (hd : decode cc pc = .ok (.iand, 1)) : Snd own cc rt ini pc (i_bin (fun x y => x &&& y)) := by
  intro p l e R s m args below meth c D cI cN ad ex n0 A nL Qw K Q d F hC hT lo st h c0 s0 w
  unfold i_bin at w
  split at w
  · intro H locs ls hr hl
    exact lv_iand F.1 F.2.1 hd (w H locs ls hr hl)
  · exact w.elim
theorem snd_ior {own : String} {cc : ByteArray} {rt : Option FieldType} {ini : Bool} {pc : Nat}  (hd : decode cc pc = .ok (.ior, 1)) : Snd own cc rt ini pc (i_bin (fun x y => x ||| y)) := by
  intro p l e R s m args below meth c D cI cN ad ex n0 A nL Qw K Q d F hC hT lo st h c0 s0 w
  unfold i_bin at w
  split at w
  · intro H locs ls hr hl
    exact lv_ior F.1 F.2.1 hd (w H locs ls hr hl)
  · exact w.elim
theorem snd_ixor {own : String} {cc : ByteArray} {rt : Option FieldType} {ini : Bool} {pc : Nat}  (hd : decode cc pc = .ok (.ixor, 1)) : Snd own cc rt ini pc (i_bin (fun x y => x ^^^ y)) := by
  intro p l e R s m args below meth c D cI cN ad ex n0 A nL Qw K Q d F hC hT lo st h c0 s0 w
  unfold i_bin at w
  split at w
  · intro H locs ls hr hl
    exact lv_ixor F.1 F.2.1 hd (w H locs ls hr hl)
  · exact w.elim
theorem snd_ishl {own : String} {cc : ByteArray} {rt : Option FieldType} {ini : Bool} {pc : Nat}  (hd : decode cc pc = .ok (.ishl, 1)) : Snd own cc rt ini pc (i_bin (fun x y => x <<< (y &&& 31))) := by
  intro p l e R s m args below meth c D cI cN ad ex n0 A nL Qw K Q d F hC hT lo st h c0 s0 w
  unfold i_bin at w
  split at w
  · intro H locs ls hr hl
    exact lv_ishl F.1 F.2.1 hd (w H locs ls hr hl)
  · exact w.elim
theorem snd_ishr {own : String} {cc : ByteArray} {rt : Option FieldType} {ini : Bool} {pc : Nat}  (hd : decode cc pc = .ok (.ishr, 1)) : Snd own cc rt ini pc (i_bin (fun x y => x >>> (y &&& 31))) := by
  intro p l e R s m args below meth c D cI cN ad ex n0 A nL Qw K Q d F hC hT lo st h c0 s0 w
  unfold i_bin at w
  split at w
  · intro H locs ls hr hl
    exact lv_ishr F.1 F.2.1 hd (w H locs ls hr hl)
  · exact w.elim
theorem snd_iushr {own : String} {cc : ByteArray} {rt : Option FieldType} {ini : Bool} {pc : Nat}  (hd : decode cc pc = .ok (.iushr, 1)) : Snd own cc rt ini pc (i_bin (fun x y => (x.toUInt32 >>> (y.toUInt32 &&& Int32.toUInt32 31)).toInt32)) := by
  intro p l e R s m args below meth c D cI cN ad ex n0 A nL Qw K Q d F hC hT lo st h c0 s0 w
  unfold i_bin at w
  split at w
  · intro H locs ls hr hl
    exact lv_iushr F.1 F.2.1 hd rfl (w H locs ls hr hl)
  · exact w.elim
theorem snd_idiv {own : String} {cc : ByteArray} {rt : Option FieldType} {ini : Bool} {pc : Nat}  (hd : decode cc pc = .ok (.idiv, 1)) : Snd own cc rt ini pc (i_div (fun x y => x / y)) := by
  intro p l e R s m args below meth c D cI cN ad ex n0 A nL Qw K Q d F hC hT lo st h c0 s0 w
  unfold i_div at w
  split at w
  · intro H locs ls hr hl
    exact lv_idiv F.1 F.2.1 hd w.1 (w.2 H locs ls hr hl)
  · exact w.elim
theorem snd_irem {own : String} {cc : ByteArray} {rt : Option FieldType} {ini : Bool} {pc : Nat}  (hd : decode cc pc = .ok (.irem, 1)) : Snd own cc rt ini pc (i_div (fun x y => x - x / y * y)) := by
  intro p l e R s m args below meth c D cI cN ad ex n0 A nL Qw K Q d F hC hT lo st h c0 s0 w
  unfold i_div at w
  split at w
  · intro H locs ls hr hl
    exact lv_irem F.1 F.2.1 hd w.1 (w.2 H locs ls hr hl)
  · exact w.elim
theorem snd_ladd {own : String} {cc : ByteArray} {rt : Option FieldType} {ini : Bool} {pc : Nat}  (hd : decode cc pc = .ok (.ladd, 1)) : Snd own cc rt ini pc (i_lbin (fun x y => x + y)) := by
  intro p l e R s m args below meth c D cI cN ad ex n0 A nL Qw K Q d F hC hT lo st h c0 s0 w
  unfold i_lbin at w
  split at w
  · intro H locs ls hr hl
    exact lv_ladd F.1 F.2.1 hd (w H locs ls hr hl)
  · exact w.elim
theorem snd_lmul {own : String} {cc : ByteArray} {rt : Option FieldType} {ini : Bool} {pc : Nat}  (hd : decode cc pc = .ok (.lmul, 1)) : Snd own cc rt ini pc (i_lbin (fun x y => x * y)) := by
  intro p l e R s m args below meth c D cI cN ad ex n0 A nL Qw K Q d F hC hT lo st h c0 s0 w
  unfold i_lbin at w
  split at w
  · intro H locs ls hr hl
    exact lv_lmul F.1 F.2.1 hd (w H locs ls hr hl)
  · exact w.elim
theorem snd_ldiv {own : String} {cc : ByteArray} {rt : Option FieldType} {ini : Bool} {pc : Nat}  (hd : decode cc pc = .ok (.ldiv, 1)) : Snd own cc rt ini pc (i_ldiv (fun x y => x / y)) := by
  intro p l e R s m args below meth c D cI cN ad ex n0 A nL Qw K Q d F hC hT lo st h c0 s0 w
  unfold i_ldiv at w
  split at w
  · intro H locs ls hr hl
    exact lv_ldiv F.1 F.2.1 hd w.1 (w.2 H locs ls hr hl)
  · exact w.elim
theorem snd_lrem {own : String} {cc : ByteArray} {rt : Option FieldType} {ini : Bool} {pc : Nat}  (hd : decode cc pc = .ok (.lrem, 1)) : Snd own cc rt ini pc (i_ldiv (fun x y => x - x / y * y)) := by
  intro p l e R s m args below meth c D cI cN ad ex n0 A nL Qw K Q d F hC hT lo st h c0 s0 w
  unfold i_ldiv at w
  split at w
  · intro H locs ls hr hl
    exact lv_lrem F.1 F.2.1 hd w.1 (w.2 H locs ls hr hl)
  · exact w.elim
theorem snd_lcmp {own : String} {cc : ByteArray} {rt : Option FieldType} {ini : Bool} {pc : Nat}  (hd : decode cc pc = .ok (.lcmp, 1)) : Snd own cc rt ini pc (i_lcmp) := by
  intro p l e R s m args below meth c D cI cN ad ex n0 A nL Qw K Q d F hC hT lo st h c0 s0 w
  unfold i_lcmp at w
  split at w
  · intro H locs ls hr hl
    exact W.lcmp F.1 F.2.1 hd (w H locs ls hr hl)
  · exact w.elim
theorem snd_i2l {own : String} {cc : ByteArray} {rt : Option FieldType} {ini : Bool} {pc : Nat}  (hd : decode cc pc = .ok (.i2l, 1)) : Snd own cc rt ini pc (i_i2l) := by
  intro p l e R s m args below meth c D cI cN ad ex n0 A nL Qw K Q d F hC hT lo st h c0 s0 w
  unfold i_i2l at w
  split at w
  · intro H locs ls hr hl
    exact lv_i2l F.1 F.2.1 hd rfl (w H locs ls hr hl)
  · exact w.elim
theorem snd_l2i {own : String} {cc : ByteArray} {rt : Option FieldType} {ini : Bool} {pc : Nat}  (hd : decode cc pc = .ok (.l2i, 1)) : Snd own cc rt ini pc (i_l2i) := by
  intro p l e R s m args below meth c D cI cN ad ex n0 A nL Qw K Q d F hC hT lo st h c0 s0 w
  unfold i_l2i at w
  split at w
  · intro H locs ls hr hl
    exact lv_l2i F.1 F.2.1 hd rfl (w H locs ls hr hl)
  · exact w.elim
theorem snd_dup {own : String} {cc : ByteArray} {rt : Option FieldType} {ini : Bool} {pc : Nat}  (hd : decode cc pc = .ok (.dup, 1)) : Snd own cc rt ini pc (i_dup) := by
  intro p l e R s m args below meth c D cI cN ad ex n0 A nL Qw K Q d F hC hT lo st h c0 s0 w
  unfold i_dup at w
  split at w
  · intro H locs ls hr hl
    exact lv_dup F.1 F.2.1 hd rfl (w H locs ls hr hl)
  · intro H locs ls hr hl
    exact lv_dup F.1 F.2.1 hd rfl (w H locs ls hr hl)
  · exact w.elim
theorem snd_pop {own : String} {cc : ByteArray} {rt : Option FieldType} {ini : Bool} {pc : Nat}  (hd : decode cc pc = .ok (.pop, 1)) : Snd own cc rt ini pc (i_pop) := by
  intro p l e R s m args below meth c D cI cN ad ex n0 A nL Qw K Q d F hC hT lo st h c0 s0 w
  unfold i_pop at w
  split at w
  · intro H locs ls hr hl
    exact lv_pop F.1 F.2.1 hd rfl (w H locs ls hr hl)
  · exact w.elim
theorem snd_dup2 {own : String} {cc : ByteArray} {rt : Option FieldType} {ini : Bool} {pc : Nat}  (hd : decode cc pc = .ok (.dup2, 1)) : Snd own cc rt ini pc (i_dup2) := by
  intro p l e R s m args below meth c D cI cN ad ex n0 A nL Qw K Q d F hC hT lo st h c0 s0 w
  unfold i_dup2 at w
  split at w
  · intro H locs ls hr hl
    exact lv_dup2_11 F.1 F.2.1 hd rfl rfl (w H locs ls hr hl)
  · exact w.elim
theorem snd_if_eq {own : String} {cc : ByteArray} {rt : Option FieldType} {ini : Bool} {pc : Nat} {k : Int} {tgt : Nat} (hd : decode cc pc = .ok (.ifCond .eq k, 3)) (ht : (pc : Int) + k = (tgt : Int)) : Snd own cc rt ini pc (i_if (fun x => x = 0) tgt (pc + 3)) := by
  intro p l e R s m args below meth c D cI cN ad ex n0 A nL Qw K Q d F hC hT lo st h c0 s0 w
  unfold i_if at w
  split at w
  · intro H locs ls hr hl
    exact lv_if_eq F.1 F.2.1 hd ht (fun z => w.1 z H locs ls hr hl) (fun z => w.2 z H locs ls hr hl)
  · exact w.elim
theorem snd_if_ne {own : String} {cc : ByteArray} {rt : Option FieldType} {ini : Bool} {pc : Nat} {k : Int} {tgt : Nat} (hd : decode cc pc = .ok (.ifCond .ne k, 3)) (ht : (pc : Int) + k = (tgt : Int)) : Snd own cc rt ini pc (i_if (fun x => x = 0) (pc + 3) tgt) := by
  intro p l e R s m args below meth c D cI cN ad ex n0 A nL Qw K Q d F hC hT lo st h c0 s0 w
  unfold i_if at w
  split at w
  · intro H locs ls hr hl
    exact lv_if_ne F.1 F.2.1 hd ht (fun z => w.2 z H locs ls hr hl) (fun z => w.1 z H locs ls hr hl)
  · exact w.elim
theorem snd_if_lt {own : String} {cc : ByteArray} {rt : Option FieldType} {ini : Bool} {pc : Nat} {k : Int} {tgt : Nat} (hd : decode cc pc = .ok (.ifCond .lt k, 3)) (ht : (pc : Int) + k = (tgt : Int)) : Snd own cc rt ini pc (i_if (fun x => x < 0) tgt (pc + 3)) := by
  intro p l e R s m args below meth c D cI cN ad ex n0 A nL Qw K Q d F hC hT lo st h c0 s0 w
  unfold i_if at w
  split at w
  · intro H locs ls hr hl
    exact lv_if_lt F.1 F.2.1 hd ht (fun z => w.1 z H locs ls hr hl) (fun z => w.2 z H locs ls hr hl)
  · exact w.elim
theorem snd_if_ge {own : String} {cc : ByteArray} {rt : Option FieldType} {ini : Bool} {pc : Nat} {k : Int} {tgt : Nat} (hd : decode cc pc = .ok (.ifCond .ge k, 3)) (ht : (pc : Int) + k = (tgt : Int)) : Snd own cc rt ini pc (i_if (fun x => x < 0) (pc + 3) tgt) := by
  intro p l e R s m args below meth c D cI cN ad ex n0 A nL Qw K Q d F hC hT lo st h c0 s0 w
  unfold i_if at w
  split at w
  · intro H locs ls hr hl
    exact lv_if_ge F.1 F.2.1 hd ht (fun z => w.2 (Int32.not_lt.mpr z) H locs ls hr hl) (fun z => w.1 (Int32.not_le.mp z) H locs ls hr hl)
  · exact w.elim
theorem snd_if_gt {own : String} {cc : ByteArray} {rt : Option FieldType} {ini : Bool} {pc : Nat} {k : Int} {tgt : Nat} (hd : decode cc pc = .ok (.ifCond .gt k, 3)) (ht : (pc : Int) + k = (tgt : Int)) : Snd own cc rt ini pc (i_if (fun x => 0 < x) tgt (pc + 3)) := by
  intro p l e R s m args below meth c D cI cN ad ex n0 A nL Qw K Q d F hC hT lo st h c0 s0 w
  unfold i_if at w
  split at w
  · intro H locs ls hr hl
    exact lv_if_gt F.1 F.2.1 hd ht (fun z => w.1 z H locs ls hr hl) (fun z => w.2 z H locs ls hr hl)
  · exact w.elim
theorem snd_if_le {own : String} {cc : ByteArray} {rt : Option FieldType} {ini : Bool} {pc : Nat} {k : Int} {tgt : Nat} (hd : decode cc pc = .ok (.ifCond .le k, 3)) (ht : (pc : Int) + k = (tgt : Int)) : Snd own cc rt ini pc (i_if (fun x => 0 < x) (pc + 3) tgt) := by
  intro p l e R s m args below meth c D cI cN ad ex n0 A nL Qw K Q d F hC hT lo st h c0 s0 w
  unfold i_if at w
  split at w
  · intro H locs ls hr hl
    exact lv_if_le F.1 F.2.1 hd ht (fun z => w.2 (Int32.not_lt.mpr z) H locs ls hr hl) (fun z => w.1 (Int32.not_le.mp z) H locs ls hr hl)
  · exact w.elim
theorem snd_icmp_eq {own : String} {cc : ByteArray} {rt : Option FieldType} {ini : Bool} {pc : Nat} {k : Int} {tgt : Nat} (hd : decode cc pc = .ok (.if_icmp .eq k, 3)) (ht : (pc : Int) + k = (tgt : Int)) : Snd own cc rt ini pc (i_icmp (fun x y => x = y) tgt (pc + 3)) := by
  intro p l e R s m args below meth c D cI cN ad ex n0 A nL Qw K Q d F hC hT lo st h c0 s0 w
  unfold i_icmp at w
  split at w
  · intro H locs ls hr hl
    exact lv_icmp_eq F.1 F.2.1 hd ht (fun z => w.1 z H locs ls hr hl) (fun z => w.2 z H locs ls hr hl)
  · exact w.elim
theorem snd_icmp_ne {own : String} {cc : ByteArray} {rt : Option FieldType} {ini : Bool} {pc : Nat} {k : Int} {tgt : Nat} (hd : decode cc pc = .ok (.if_icmp .ne k, 3)) (ht : (pc : Int) + k = (tgt : Int)) : Snd own cc rt ini pc (i_icmp (fun x y => x = y) (pc + 3) tgt) := by
  intro p l e R s m args below meth c D cI cN ad ex n0 A nL Qw K Q d F hC hT lo st h c0 s0 w
  unfold i_icmp at w
  split at w
  · intro H locs ls hr hl
    exact lv_icmp_ne F.1 F.2.1 hd ht (fun z => w.2 z H locs ls hr hl) (fun z => w.1 z H locs ls hr hl)
  · exact w.elim
theorem snd_icmp_lt {own : String} {cc : ByteArray} {rt : Option FieldType} {ini : Bool} {pc : Nat} {k : Int} {tgt : Nat} (hd : decode cc pc = .ok (.if_icmp .lt k, 3)) (ht : (pc : Int) + k = (tgt : Int)) : Snd own cc rt ini pc (i_icmp (fun x y => x < y) tgt (pc + 3)) := by
  intro p l e R s m args below meth c D cI cN ad ex n0 A nL Qw K Q d F hC hT lo st h c0 s0 w
  unfold i_icmp at w
  split at w
  · intro H locs ls hr hl
    exact lv_icmp_lt F.1 F.2.1 hd ht (fun z => w.1 z H locs ls hr hl) (fun z => w.2 z H locs ls hr hl)
  · exact w.elim
theorem snd_icmp_ge {own : String} {cc : ByteArray} {rt : Option FieldType} {ini : Bool} {pc : Nat} {k : Int} {tgt : Nat} (hd : decode cc pc = .ok (.if_icmp .ge k, 3)) (ht : (pc : Int) + k = (tgt : Int)) : Snd own cc rt ini pc (i_icmp (fun x y => x < y) (pc + 3) tgt) := by
  intro p l e R s m args below meth c D cI cN ad ex n0 A nL Qw K Q d F hC hT lo st h c0 s0 w
  unfold i_icmp at w
  split at w
  · intro H locs ls hr hl
    exact lv_icmp_ge F.1 F.2.1 hd ht (fun z => w.2 (Int32.not_lt.mpr z) H locs ls hr hl) (fun z => w.1 (Int32.not_le.mp z) H locs ls hr hl)
  · exact w.elim
theorem snd_icmp_gt {own : String} {cc : ByteArray} {rt : Option FieldType} {ini : Bool} {pc : Nat} {k : Int} {tgt : Nat} (hd : decode cc pc = .ok (.if_icmp .gt k, 3)) (ht : (pc : Int) + k = (tgt : Int)) : Snd own cc rt ini pc (i_icmp (fun x y => y < x) tgt (pc + 3)) := by
  intro p l e R s m args below meth c D cI cN ad ex n0 A nL Qw K Q d F hC hT lo st h c0 s0 w
  unfold i_icmp at w
  split at w
  · intro H locs ls hr hl
    exact lv_icmp_gt F.1 F.2.1 hd ht (fun z => w.1 z H locs ls hr hl) (fun z => w.2 z H locs ls hr hl)
  · exact w.elim
theorem snd_icmp_le {own : String} {cc : ByteArray} {rt : Option FieldType} {ini : Bool} {pc : Nat} {k : Int} {tgt : Nat} (hd : decode cc pc = .ok (.if_icmp .le k, 3)) (ht : (pc : Int) + k = (tgt : Int)) : Snd own cc rt ini pc (i_icmp (fun x y => y < x) (pc + 3) tgt) := by
  intro p l e R s m args below meth c D cI cN ad ex n0 A nL Qw K Q d F hC hT lo st h c0 s0 w
  unfold i_icmp at w
  split at w
  · intro H locs ls hr hl
    exact lv_icmp_le F.1 F.2.1 hd ht (fun z => w.2 (Int32.not_lt.mpr z) H locs ls hr hl) (fun z => w.1 (Int32.not_le.mp z) H locs ls hr hl)
  · exact w.elim
theorem snd_goto {own : String} {cc : ByteArray} {rt : Option FieldType} {ini : Bool} {pc : Nat} {k : Int} {tgt : Nat} (hd : decode cc pc = .ok (.goto k, 3)) (ht : (pc : Int) + k = (tgt : Int)) : Snd own cc rt ini pc (i_goto tgt) := by
  intro p l e R s m args below meth c D cI cN ad ex n0 A nL Qw K Q d F hC hT lo st h c0 s0 w
  unfold i_goto at w
  intro H locs ls hr hl
  exact lv_goto F.1 F.2.1 hd ht (w H locs ls hr hl)
theorem snd_tsw {own : String} {cc : ByteArray} {rt : Option FieldType} {ini : Bool} {pc : Nat} {dk lw hi : Int} {offs : Array Int} {len df : Nat} {tg : List Nat} (hd : decode cc pc = .ok (.tableswitch dk lw hi offs, len)) (h1 : (pc : Int) + dk = (df : Int)) (h2 : offs.toList.map (fun o => (pc : Int) + o) = tg.map (fun (a : Nat) => (a : Int))) (h3 : hi - lw + 1 = tg.length) : Snd own cc rt ini pc (i_tsw lw hi tg df) := by
  intro p l e R s m args below meth c D cI cN ad ex n0 A nL Qw K Q d F hC hT lo st h c0 s0 w
  unfold i_tsw at w
  split at w
  · rename_i x t
    intro H locs ls hr hl
    by_cases ho : x.toInt < lw ∨ hi < x.toInt
    · exact lv_tableOut F.1 F.2.1 hd ho h1 (w.1 ho H locs ls hr hl)
    · have g1 : ¬ x.toInt < lw := fun z => ho (Or.inl z)
      have g2 : ¬ hi < x.toInt := fun z => ho (Or.inr z)
      have hj : (x.toInt - lw).toNat < tg.length := by omega
      have e1 : tg[(x.toInt - lw).toNat]? = some tg[(x.toInt - lw).toNat] := List.getElem?_eq_getElem hj
      have e2 : (offs.toList.map (fun o => (pc : Int) + o))[(x.toInt - lw).toNat]? = some ((tg[(x.toInt - lw).toNat] : Nat) : Int) := by rw [h2, List.getElem?_map, e1]; rfl
      rw [List.getElem?_map] at e2
      obtain ⟨o, e3, e4⟩ := Option.map_eq_some_iff.mp e2
      exact lv_tableIn F.1 F.2.1 hd g1 g2 (by rw [← Array.getElem?_toList]; exact e3) e4 (w.2 _ _ e1 (by omega) H locs ls hr hl)
  · exact w.elim
theorem lsw_off {x : Int} : ∀ (ps : List (Int × Int)) (dk : Int) (pc : Nat), (∃ q ∈ ps, x = q.1 ∧ Op.lookupswitch.offset ps dk x = q.2) ∨ ((∀ q ∈ ps, x ≠ q.1) ∧ Op.lookupswitch.offset ps dk x = dk)
  | [], dk, pc => Or.inr ⟨fun q h => absurd h List.not_mem_nil, rfl⟩
  | (a, o) :: r, dk, pc => by
    rw [Op.lookupswitch.offset_cons]
    by_cases h : a = x
    · rw [if_pos h]
      exact Or.inl ⟨(a, o), List.mem_cons_self, h.symm, rfl⟩
    · rw [if_neg h]
      rcases lsw_off r dk pc with ⟨q, h1, h2, h3⟩ | ⟨h1, h2⟩
      · exact Or.inl ⟨q, List.mem_cons_of_mem _ h1, h2, h3⟩
      · refine Or.inr ⟨fun q hq => ?_, h2⟩
        rcases List.mem_cons.mp hq with rfl | hq
        · exact fun z => h z.symm
        · exact h1 q hq
theorem snd_lsw {own : String} {cc : ByteArray} {rt : Option FieldType} {ini : Bool} {pc : Nat} {dk : Int} {prs : Array (Int × Int)} {len df : Nat} {ps : List (Int × Nat)} (hd : decode cc pc = .ok (.lookupswitch dk prs, len)) (hp : (prs.toList.zip (prs.toList.drop 1)).all (fun (a, next) => a.1 < next.1) = true) (h1 : (pc : Int) + dk = (df : Int)) (h2 : prs.toList.map (fun o => (o.1, (pc : Int) + o.2)) = ps.map (fun a => (a.1, (a.2 : Int)))) : Snd own cc rt ini pc (i_lsw ps df) := by
  intro p l e R s m args below meth c D cI cN ad ex n0 A nL Qw K Q d F hC hT lo st h c0 s0 w
  unfold i_lsw at w
  split at w
  · rename_i x t
    intro H locs ls hr hl
    rcases lsw_off (x := x.toInt) prs.toList dk pc with ⟨q, g1, g2, g3⟩ | ⟨g1, g2⟩
    · have e1 : (q.1, (pc : Int) + q.2) ∈ ps.map (fun a => (a.1, (a.2 : Int))) := by rw [← h2]; exact List.mem_map.mpr ⟨q, g1, rfl⟩
      obtain ⟨a, ha, e2⟩ := List.mem_map.mp e1
      have e3 : a.1 = q.1 := (Prod.mk.inj e2).1
      have e4 : (a.2 : Int) = (pc : Int) + q.2 := (Prod.mk.inj e2).2
      exact lv_lookup F.1 F.2.1 hd hp g3 e4.symm (w.2 a ha (by rw [e3]; exact g2) H locs ls hr hl)
    · refine lv_lookup F.1 F.2.1 hd hp g2 h1 (w.1 (fun a ha z => ?_) H locs ls hr hl)
      have e1 : (a.1, (a.2 : Int)) ∈ prs.toList.map (fun o => (o.1, (pc : Int) + o.2)) := by rw [h2]; exact List.mem_map.mpr ⟨a, ha, rfl⟩
      obtain ⟨q, hq, e2⟩ := List.mem_map.mp e1
      exact g1 q hq (by rw [z]; exact (Prod.mk.inj e2).1.symm)
  · exact w.elim
/-- what a class's fields need -/
def Fld (ci k : Nat) (own : String) (idx : Nat) (fin : Bool) (ty : FieldType) : Prop := ∃ (C : String) (T : u_T) (N : Nat) (ty0 : Nat → FieldType), cls[ci]? = some (C, T, N) ∧ k < N ∧ Cond.fieldLink own idx (T k).1 (T k).2.1 (T k).2.2.1 ∈ lw_tbl ∧ (∀ w ∈ u_ws C T N, w ∈ gtbl) ∧ (∀ k, k < N → parseFieldDescriptor (T k).2.2.1 = some (ty0 k)) ∧ (∀ a, a < N → ∀ b, b < N → a ≠ b → (T a).2.1 ≠ (T b).2.1) ∧ (T k).2.2.2 = fin ∧ (T k).1 = own ∧ parseFieldDescriptor (T k).2.2.1 = some ty
theorem Rl.set {s : State} {D : va_G} {cI cN : ClassId} {ad ex : Nat → Nat} {n0 c0 : Nat} {A : Nat → Prop} {h : List aC} {H H1 : Heap} {locs locs1 : List Loc} {k : Nat} {c : aC} (hr : Rl s D cI cN ad ex n0 A h c0 H locs) (hP : va_P D cls ((wF cI cN ad ex h).set k (ad k, tc cI cN ad ex c)) H1) (hS : va_S A s.heap H1 locs1) : Rl s D cI cN ad ex n0 A (h.set k c) c0 H1 locs1 :=
  ⟨by rw [wF_set]; exact hP, by rw [List.length_set]; exact hr.2.1, hS⟩
theorem Rl.D {p : Program} {R : Room} {s : State} {m : MethodId} {args : Array Value} {meth : Method} {c : Code} {D : va_G} {cI cN : ClassId} {ad ex : Nat → Nat} {n0 nL d : Nat} {A : Nat → Prop} {own : String} {cc : ByteArray} {ini : Bool} {K : aK} {h : List aC} (F : FX p R s m args meth c D cI cN ad n0 A nL own cc ini K d) : va_D A (wF cI cN ad ex h) := wF_D F.2.2.2.2.2.2.2.1 F.2.2.2.2.2.2.2.2.2.1
theorem tc_ao_set {cI cN : ClassId} {ad ex : Nat → Nat} {ci k : Nat} {fs : List Value} {v : Value} : tc cI cN ad ex (ao ci (fs.set k v)) = .inr (ci, (fs.map (tv ad ex)).set k (tv ad ex v)) := by
  show Sum.inr (ci, (fs.set k v).map (tv ad ex)) = _
  rw [List.map_set]
theorem snd_get {own : String} {cc : ByteArray} {rt : Option FieldType} {ini : Bool} {pc ci k idx : Nat} {fin : Bool} {ty : FieldType} (hf : Fld ci k own idx fin ty) (hd : decode cc pc = .ok (.getfield idx, 3)) : Snd own cc rt ini pc (i_get ci k) := by
  obtain ⟨C, T, N, ty0, f1, f2, f3, f4, f5, f6, f7, f8, f9⟩ := hf
  intro p l e R s m args below meth c D cI cN ad ex n0 A nL Qw K Q d F hC hT lo st h c0 s0 w
  unfold i_get at w
  split at w
  · rename_i a t
    split at w
    · rename_i cj fs e1
      split at w
      · rename_i v e2 e3
        have e2 : cj = ci := by simpa using e2
        subst e2
        intro H locs ls hr hl
        exact va_get (v := tv ad ex v) F.1 F.2.1 F.2.2.2.2.1 f4 F.2.2.2.1 F.2.2.2.2.2.1 hr.1 a (wF_at e1) f1 k f2 (F.2.2.2.2.1 _ (gt_in f3 rfl)) (fun _ z => z) (by rw [List.getElem?_map, e3]; rfl) hd (w H locs ls hr hl)
      · exact w.elim
    · exact w.elim
  · exact w.elim
theorem snd_put {own : String} {cc : ByteArray} {rt : Option FieldType} {ini : Bool} {pc ci k idx : Nat} (hf : Fld ci k own idx false .int) (hd : decode cc pc = .ok (.putfield idx, 3)) : Snd own cc rt ini pc (i_put ci k) := by
  obtain ⟨C, T, N, ty0, f1, f2, f3, f4, f5, f6, f7, f8, f9⟩ := hf
  intro p l e R s m args below meth c D cI cN ad ex n0 A nL Qw K Q d F hC hT lo st h c0 s0 w
  unfold i_put at w
  split at w
  · rename_i x a t
    split at w
    · rename_i cj fs e1
      split at w
      · rename_i e2 e3
        have e2 : cj = ci := by simpa using e2
        have e3 : k < fs.length := by simpa using e3
        subst e2
        intro H locs ls hr hl
        exact va_put (v := .int x) (ty := .int) F.1 F.2.1 F.2.2.2.2.1 f4 ty0 f5 f6 F.2.2.2.1 F.2.2.2.2.2.1 hr.1 (Rl.D F) hr.2.2 a (wF_at e1) f1 k f2 (F.2.2.2.2.1 _ (gt_in f3 rfl)) (fun _ z => z) f7 f9 rfl rfl (by rw [List.length_map]; exact e3) hd (fun H1 locs1 hP hD hS => w H1 locs1 ls (hr.set (by rw [tc_ao_set]; exact hP) hS) hl)
      · exact w.elim
    · exact w.elim
  · exact w.elim
theorem snd_putR {own : String} {cc : ByteArray} {rt : Option FieldType} {pc ci k idx : Nat} {ty : FieldType} (hf : Fld ci k own idx true ty) (hty : (∃ n, ty = .object n) ∨ ∃ t, ty = .array t) (hd : decode cc pc = .ok (.putfield idx, 3)) : Snd own cc rt true pc (i_putR ci k) := by
  obtain ⟨C, T, N, ty0, f1, f2, f3, f4, f5, f6, f7, f8, f9⟩ := hf
  intro p l e R s m args below meth c D cI cN ad ex n0 A nL Qw K Q d F hC hT lo st h c0 s0 w
  unfold i_putR at w
  split at w
  · rename_i x a t
    split at w
    · rename_i cj fs e1
      split at w
      · rename_i e2 e3
        have e2 : cj = ci := by simpa using e2
        have e3 : k < fs.length := by simpa using e3
        subst e2
        intro H locs ls hr hl
        exact va_putF (v := .ref (ad x)) (ty := ty) F.1 F.2.1 F.2.2.2.2.1 f4 ty0 f5 f6 F.2.2.2.1 F.2.2.2.2.2.1 hr.1 (Rl.D F) hr.2.2 a (wF_at e1) f1 k f2 (F.2.2.2.2.1 _ (gt_in f3 rfl)) (fun _ z => z) f7 (F.2.2.2.2.2.2.2.2.2.2.2.1 rfl) f8 f9 (by rcases hty with ⟨n, rfl⟩ | ⟨n, rfl⟩ <;> rfl) (by rcases hty with ⟨n, rfl⟩ | ⟨n, rfl⟩ <;> rfl) (by rw [List.length_map]; exact e3) hd (fun H1 locs1 hP hD hS => w H1 locs1 ls (hr.set (by rw [tc_ao_set]; exact hP) hS) hl)
      · exact w.elim
    · exact w.elim
  · exact w.elim
theorem snd_iald {own : String} {cc : ByteArray} {rt : Option FieldType} {ini : Bool} {pc : Nat} (hd : decode cc pc = .ok (.iaload, 1)) : Snd own cc rt ini pc i_iald := by
  intro p l e R s m args below meth c D cI cN ad ex n0 A nL Qw K Q d F hC hT lo st h c0 s0 w
  unfold i_iald at w
  split at w
  · rename_i i a t
    split at w
    · rename_i n f e1
      intro H locs ls hr hl
      exact va_iald F.1 F.2.1 F.2.2.2.2.2.1 hr.1 a 0 (wF_at e1) rfl w.1 hd (w.2 H locs ls hr hl)
    · exact w.elim
  · exact w.elim
theorem snd_iast {own : String} {cc : ByteArray} {rt : Option FieldType} {ini : Bool} {pc : Nat} (hd : decode cc pc = .ok (.iastore, 1)) : Snd own cc rt ini pc i_iast := by
  intro p l e R s m args below meth c D cI cN ad ex n0 A nL Qw K Q d F hC hT lo st h c0 s0 w
  unfold i_iast at w
  split at w
  · rename_i x i a t
    split at w
    · rename_i n f e1
      intro H locs ls hr hl
      exact va_iast F.1 F.2.1 F.2.2.2.2.2.1 hr.1 (Rl.D F) hr.2.2 a 0 (wF_at e1) rfl w.1 hd (fun H1 locs1 hP hD hS => w.2 H1 locs1 ls (hr.set hP hS) hl)
    · exact w.elim
  · exact w.elim
theorem snd_alen {own : String} {cc : ByteArray} {rt : Option FieldType} {ini : Bool} {pc : Nat} (hd : decode cc pc = .ok (.arraylength, 1)) : Snd own cc rt ini pc i_alen := by
  intro p l e R s m args below meth c D cI cN ad ex n0 A nL Qw K Q d F hC hT lo st h c0 s0 w
  unfold i_alen at w
  split at w
  · rename_i a t
    split at w
    · rename_i n f e1
      intro H locs ls hr hl
      exact va_alen F.1 F.2.1 F.2.2.2.2.2.1 hr.1 a 0 (wF_at e1) rfl rfl hd (w H locs ls hr hl)
    · rename_i n f e1
      intro H locs ls hr hl
      exact va_alen F.1 F.2.1 F.2.2.2.2.2.1 hr.1 a 1 (wF_at e1) rfl rfl hd (w H locs ls hr hl)
    · exact w.elim
  · exact w.elim
theorem snd_aald {own : String} {cc : ByteArray} {rt : Option FieldType} {ini : Bool} {pc : Nat} (hd : decode cc pc = .ok (.aaload, 1)) : Snd own cc rt ini pc i_aald := by
  intro p l e R s m args below meth c D cI cN ad ex n0 A nL Qw K Q d F hC hT lo st h c0 s0 w
  unfold i_aald at w
  split at w
  · rename_i i a t
    split at w
    · rename_i n g e1
      obtain ⟨w1, r, hg, w2⟩ := w
      intro H locs ls hr hl
      refine va_aldq F.1 F.2.1 F.2.2.2.2.2.1 hr.1 a 1 (wF_at e1) rfl w1 hd ?_
      have e2 : va_rf ((g i.toNatClampNeg).map ad) = .ref (ad r) := by rw [hg]; rfl
      show W _ _ _ _ _ _ _ _ _ _ _ _ _ _ _ (F0 m (pc + 1) ls (va_rf ((g i.toNatClampNeg).map ad) :: t.map (tv ad ex)))
      rw [e2]
      exact w2 H locs ls hr hl
    · exact w.elim
  · exact w.elim
theorem snd_aast {own : String} {cc : ByteArray} {rt : Option FieldType} {ini : Bool} {pc : Nat} (hd : decode cc pc = .ok (.aastore, 1)) : Snd own cc rt ini pc i_aast := by
  intro p l e R s m args below meth c D cI cN ad ex n0 A nL Qw K Q d F hC hT lo st h c0 s0 w
  unfold i_aast at w
  split at w
  · rename_i v i a t
    split at w
    · rename_i n g e1
      obtain ⟨w1, ⟨fs, e2⟩, w2⟩ := w
      intro H locs ls hr hl
      refine va_astq (r := (RX2, TX2, 7)) F.1 F.2.1 F.2.2.2.2.2.1 hr.1 (Rl.D F) hr.2.2 a 1 v 2 (wF_at e1) rfl (wF_at e2) rfl w1 hd (fun H1 locs1 hP hD hS => w2 H1 locs1 ls (hr.set ?_ hS) hl)
      have e3 : (fun j => (va_up g i.toNatClampNeg (some v) j).map ad) = va_up (fun j => (g j).map ad) i.toNatClampNeg (some (ad v)) := by
        funext j
        unfold va_up
        by_cases hj : j = i.toNatClampNeg
        · simp [hj]
        · simp [hj]
      show va_P D cls ((wF cI cN ad ex h).set a (ad a, .inl (cN, n, .inr (.inr (.inr (.inr (fun j => (va_up g i.toNatClampNeg (some v) j).map ad))))))) H1
      rw [e3]
      exact hP
    · exact w.elim
  · exact w.elim
theorem cat_tv (ad ex : Nat → Nat) (v : Value) : (tv ad ex v).category = v.category := by cases v <;> rfl
theorem cats_tv (ad ex : Nat → Nat) (t : List Value) : ((t.map (tv ad ex)).map fun v => v.category).sum = (t.map fun v => v.category).sum := by
  rw [List.map_map]
  congr 1
  exact List.map_congr_left (fun v _ => cat_tv ad ex v)
theorem snd_copy {own : String} {cc : ByteArray} {rt : Option FieldType} {ini : Bool} {pc idx : Nat} (h1 : Cond.methodLink own idx arraycopyName ∈ lw_tbl) (h2 : Cond.native arraycopyName ∈ lw_tbl) (h3 : Cond.static arraycopyName ∈ lw_tbl) (h4 : Cond.initialized "java/lang/System" ∈ lw_tbl) (hd : decode cc pc = .ok (.invokestatic idx, 3)) : Snd own cc rt ini pc i_copy := by
  intro p l e R s m args below meth c D cI cN ad ex n0 A nL Qw K Q d F hC hT lo st h c0 s0 w
  unfold i_copy at w
  split at w
  · rename_i n dp b sp a t
    split at w
    · rename_i n0' f n1 g e1 e2
      obtain ⟨⟨g1, g2, g3, g4, g5, g6⟩, w⟩ := w
      intro H locs ls hr hl
      have h9 := F.2.2.2.2.2.2.2.2.2.2.2.2.2.1
      have h7 := F.2.2.2.2.2.2.2.2.2.2.2.2.1
      have h8 : nativeFrameWords "java/lang/System" "arraycopy" 5 = 7 := by decide
      exact va_copyi (ty := .int) F.1 F.2.1 (by rw [F.2.2.1, hl.2.1]) F.2.2.2.1 (F.2.2.2.2.1 _ (gt_in h1 rfl)) (F.2.2.2.2.1 _ (gt_in h2 rfl)) (F.2.2.2.2.1 _ (gt_in h3 rfl)) (F.2.2.2.2.1 _ (gt_in h4 rfl)) F.2.2.2.2.2.1 hr.1 (Rl.D F) hr.2.2 a b 0 0 (wF_at e1) (wF_at e2) rfl rfl rfl g1 g2 g3 g4 g5 (fun _ _ => rfl) (by omega) (by rw [cats_tv, h8]; omega) hd (fun H1 locs1 hP hD hS => w H1 locs1 ls (hr.set hP hS) hl)
    · exact w.elim
  · exact w.elim
theorem snd_max {own : String} {cc : ByteArray} {rt : Option FieldType} {ini : Bool} {pc idx : Nat} (h1 : Cond.methodLink own idx Lib.Math.max.name ∈ lw_tbl) (h2 : Cond.static Lib.Math.max.name ∈ lw_tbl) (h3 : Cond.initialized "java/lang/Math" ∈ lw_tbl) (h4 : Cond.code Lib.Math.max.name Lib.Math.max.code 2 (some .int) ∈ lw_tbl) (hd : decode cc pc = .ok (.invokestatic idx, 3)) : Snd own cc rt ini pc i_max := by
  intro p l e R s m args below meth c D cI cN ad ex n0 A nL Qw K Q d F hC hT lo st h c0 s0 w
  unfold i_max at w
  split at w
  · obtain ⟨⟨w1, w2, w3⟩, w⟩ := w
    intro H locs ls hr hl
    have h9 := F.2.2.2.2.2.2.2.2.2.2.2.2.2.1
    have h7 := F.2.2.2.2.2.2.2.2.2.2.2.2.1
    have h5 := F.2.2.2.2.2.2.2.2.2.2.2.2.2.2
    exact va_mmax F.1 F.2.1 (by rw [F.2.2.1, hl.2.1]) F.2.2.2.1 (F.2.2.2.2.1 _ (gt_in h1 rfl)) (F.2.2.2.2.1 _ (gt_in h2 rfl)) (F.2.2.2.2.1 _ (gt_in h3 rfl)) (F.2.2.2.2.1 _ (gt_in h4 rfl)) (by omega) (by rw [cats_tv]; omega) (Nat.le_trans w2 h5.1) (Nat.le_trans w3 h5.2) hd (w H locs ls hr hl)
  · exact w.elim
theorem snd_obj {own : String} {cc : ByteArray} {rt : Option FieldType} {ini : Bool} {pc idx : Nat} (h1 : Cond.methodLink own idx objectInit ∈ lw_tbl) (h2 : Cond.instanceMethod objectInit ∈ lw_tbl) (h3 : Cond.code objectInit ⟨#[0xb1]⟩ 1 none ∈ lw_tbl) (hd : decode cc pc = .ok (.invokespecial idx, 3)) : Snd own cc rt ini pc i_obj := by
  intro p l e R s m args below meth c D cI cN ad ex n0 A nL Qw K Q d F hC hT lo st h c0 s0 w
  unfold i_obj at w
  split at w
  · obtain ⟨w1, w⟩ := w
    intro H locs ls hr hl
    exact W.objInit F.1 F.2.1 F.2.2.2.1 (F.2.2.2.2.1 _ (gt_in h1 rfl)) (F.2.2.2.2.1 _ (gt_in h2 rfl)) (F.2.2.2.2.1 _ (gt_in h3 rfl)) rfl (by rw [F.2.2.1]; exact hl.2.1) rfl hd (by have := F.2.2.2.2.2.2.2.2.2.2.2.2.1; omega) (by have h9 := F.2.2.2.2.2.2.2.2.2.2.2.2.2.1; show 2 * 0 + _ + 12 ≤ _; rw [cats_tv]; omega) (w H locs ls hr hl)
  · exact w.elim
end
section
/-! new cells, ends, calls; what a pure method does the machine's method does -/
section SZ
variable {p : Program} {l : Launch} {e : Env} {R : Room} {s : State} {m : MethodId} {args : Array Value} {below : List Frame} {meth : Method} {c : Code} {D : va_G} {cI cN : ClassId} {ad ex : Nat → Nat} {n0 nL d c0 s0 : Nat} {A : Nat → Prop} {own : String} {cc : ByteArray} {ini : Bool} {K : aK} {h : List aC} {H : Heap} {locs : List Loc} {T : State}
theorem Rl.size (hr : Rl s D cI cN ad ex n0 A h c0 H locs) (F : FX p R s m args meth c D cI cN ad n0 A nL own cc ini K d) (hT : T.heap = H) (X : Stand p l e R s m args below meth c T locs c0 s0) : H.size + n0 = s.heap.size + h.length := by
  have h1 : H.size ≤ s.heap.size + c0 := by rw [← hT]; exact X.heapSize
  have h2 := hr.2.1
  have h3 := hr.2.2.1
  by_cases hc : c0 = 0
  · omega
  · have hk : h.length - 1 < h.length := by omega
    have h4 : ad (h.length - 1) < H.size := (hr.1 (h.length - 1) _ (wF_at (List.getElem?_eq_getElem hk))).lt
    have h5 := F.2.2.2.2.2.2.2.2.1 (h.length - 1) (by omega)
    omega
theorem Rl.push (hr : Rl s D cI cN ad ex n0 A h c0 H locs) {H1 : Heap} {x : aC} (hx : va_at D cls (ad h.length, tc cI cN ad ex x) H1) (z1 : H1.size = H.size + 1) (o1 : ∀ q, q < H.size → H1[q]? = H[q]?) : Rl s D cI cN ad ex n0 A (h ++ [x]) (c0 + 1) H1 locs := by
  refine ⟨fun k q hk => ?_, by rw [List.length_append]; have := hr.2.1; simp; omega, ⟨by have := hr.2.2.1; omega, fun q h1 h2 => (o1 q (Nat.lt_of_lt_of_le h1 hr.2.2.1)).trans (hr.2.2.2.1 q h1 h2), hr.2.2.2.2⟩⟩
  rw [wF_get] at hk
  obtain ⟨a, ha, rfl⟩ := Option.map_eq_some_iff.mp hk
  by_cases hl : k < h.length
  · rw [List.getElem?_append_left hl] at ha
    have h4 := hr.1 k _ (wF_at ha)
    exact h4.kept (o1 _ h4.lt)
  · rw [List.getElem?_append_right (by omega)] at ha
    have hz : k - h.length < 1 := (List.getElem?_eq_some_iff.mp ha).1
    have hk0 : k = h.length := by omega
    subst hk0
    rw [Nat.sub_self] at ha
    cases ha
    exact hx
end SZ
/-- what a class needs whose objects are made -/
def Cls (ci : Nat) (own : String) (idx N : Nat) (fs : List Value) : Prop := ∃ (C : String) (T : u_T) (ty0 : Nat → FieldType), cls[ci]? = some (C, T, N) ∧ Cond.classLink own idx C ∈ lw_tbl ∧ Cond.instantiable C N ∈ lw_tbl ∧ Cond.initialized C ∈ lw_tbl ∧ (∀ w ∈ u_ws C T N, w ∈ gtbl) ∧ (∀ k, k < N → parseFieldDescriptor (T k).2.2.1 = some (ty0 k)) ∧ (∀ j, j < N → defaultValue (ty0 j) = vp_V fs j) ∧ ∀ ad ex, fs.map (tv ad ex) = fs
theorem snd_new {own : String} {cc : ByteArray} {rt : Option FieldType} {ini : Bool} {pc ci idx N : Nat} {fs : List Value} (hc : Cls ci own idx N fs) (hd : decode cc pc = .ok (.new idx, 3)) : Snd own cc rt ini pc (i_new ci N fs) := by
  obtain ⟨C, T, ty0, f1, f2, f3, f4, f5, f6, f7, f8⟩ := hc
  intro p l e R s m args below meth c D cI cN ad ex n0 A nL Qw K Q d F hC hT lo st h c0 s0 w
  obtain ⟨w1, w2, w⟩ := w
  intro H locs ls hr hl T0 hT0 X
  have hz := hr.size F hT0 X
  have hKn := F.2.2.2.2.2.1.1 ci _ f1
  have h5 := F.2.2.2.2.2.2.2.2.2.2.2.2.2.2
  have had : ad h.length = H.size := by
    have h6 := hr.2.1
    have := F.2.2.2.2.2.2.2.2.1 h.length (by omega)
    omega
  suffices key : W p l e R s m args below meth c H locs c0 s0 Qw (F0 m pc ls (st.map (tv ad ex))) from key T0 hT0 X
  refine W.newcK F.1 F.2.1 F.2.2.2.1 (F.2.2.2.2.1 _ (gt_in f2 rfl)) (F.2.2.2.2.1 _ (gt_in f3 rfl)) (F.2.2.2.2.1 _ (gt_in f4 rfl)) rfl hd (Nat.le_trans w1 h5.1) (Nat.le_trans w2 h5.2) hKn.2.1 rfl (fun H1 kC hkC e1 z1 o1 => ?_)
  have w3 := w H1 locs ls (hr.push (x := ao ci fs) ⟨_, f1, (u_born ty0 F.2.2.2.2.1 f5 hKn hkC (by rw [had]; exact e1) f6).to (fun j hj => by rw [f7 j hj]; show _ = vp_V (fs.map (tv ad ex)) j; rw [f8])⟩ z1 o1) hl
  have e2 : (Value.ref h.length :: st).map (tv ad ex) = .ref H.size :: st.map (tv ad ex) := by rw [← had]; rfl
  rw [e2] at w3
  exact w3
theorem snd_newI {own : String} {cc : ByteArray} {rt : Option FieldType} {ini : Bool} {pc : Nat} (ha : Cond.arrayClass .int ∈ lw_tbl) (hd : decode cc pc = .ok (.newarray .int, 2)) : Snd own cc rt ini pc i_newI := by
  intro p l e R s m args below meth c D cI cN ad ex n0 A nL Qw K Q d F hC hT lo st h c0 s0 w
  unfold i_newI at w
  split at w
  · rename_i n t
    obtain ⟨⟨w0, w0'⟩, w1, w2, w⟩ := w
    intro H locs ls hr hl T0 hT0 X
    have hz := hr.size F hT0 X
    have h5 := F.2.2.2.2.2.2.2.2.2.2.2.2.2.2
    have had : ad h.length = H.size := by
      have h6 := hr.2.1
      have := F.2.2.2.2.2.2.2.2.1 h.length (by omega)
      omega
    suffices key : W p l e R s m args below meth c H locs c0 s0 Qw (F0 m pc ls (.int n :: t.map (tv ad ex))) from key T0 hT0 X
    refine va_newaK (atype := .int) F.1 F.2.1 (F.2.2.2.2.1 _ (gt_in ha rfl)) rfl hd rfl w0 rfl (by show _ * 4 ≤ _; omega) (Nat.le_trans w1 h5.1) (Nat.le_trans w2 h5.2) rfl (fun H1 cA e1 z1 o1 hAr hNm => ?_)
    have hcA : cA = cI := Option.some.inj (hNm.symm.trans (F.2.2.2.2.2.1.2 0 _ rfl).2)
    subst hcA
    have w3 := w H1 locs ls (hr.push (x := ai n.toNatClampNeg (fun _ => 0)) (by rw [had]; exact e1) z1 o1) hl
    have e2 : (Value.ref h.length :: t).map (tv ad ex) = .ref H.size :: t.map (tv ad ex) := by rw [← had]; rfl
    rw [e2] at w3
    exact w3
  · exact w.elim
theorem snd_newQ {own : String} {cc : ByteArray} {rt : Option FieldType} {ini : Bool} {pc idx : Nat} (ha : Cond.classLink own idx RX2 ∈ lw_tbl) (hd : decode cc pc = .ok (.anewarray idx, 3)) : Snd own cc rt ini pc i_newQ := by
  intro p l e R s m args below meth c D cI cN ad ex n0 A nL Qw K Q d F hC hT lo st h c0 s0 w
  unfold i_newQ at w
  split at w
  · rename_i n t
    obtain ⟨⟨w0, w0'⟩, w1, w2, w⟩ := w
    intro H locs ls hr hl T0 hT0 X
    have hz := hr.size F hT0 X
    have h5 := F.2.2.2.2.2.2.2.2.2.2.2.2.2.2
    have had : ad h.length = H.size := by
      have h6 := hr.2.1
      have := F.2.2.2.2.2.2.2.2.1 h.length (by omega)
      omega
    suffices key : W p l e R s m args below meth c H locs c0 s0 Qw (F0 m pc ls (.int n :: t.map (tv ad ex))) from key T0 hT0 X
    refine W.anew F.1 F.2.1 F.2.2.2.1 (F.2.2.2.2.1 _ (gt_in ha rfl)) (va_AO.use F.2.2.2.2.2.2.1.2) rfl hd rfl w0 (by omega) (Nat.le_trans w1 h5.1) (Nat.le_trans w2 h5.2) (fun cA kA comp g1 g2 g3 g4 => ?_)
    obtain ⟨kA', comp', k1, k2, k3, k4⟩ := (F.2.2.2.2.2.1.2 1 _ rfl).2
    have hcA : cA = cN := Option.some.inj (g1.symm.trans k4)
    subst hcA
    have w3 := w _ locs ls (hr.push (H1 := H.push { cls := cA, slots := Array.replicate n.toNatClampNeg .null, vm := .none }) (x := aq n.toNatClampNeg (fun _ => none)) (by
      rw [had]
      show (H.push _)[H.size]? = some (vp_cell _ _)
      rw [Array.getElem?_push_size, vp_cell_q]
      exact congrArg some (arrV_new _ _ _)) (by simp) (fun q hq => by rw [Array.getElem?_push, if_neg (Nat.ne_of_lt hq)])) hl
    have e2 : (Value.ref h.length :: t).map (tv ad ex) = .ref H.size :: t.map (tv ad ex) := by rw [← had]; rfl
    rw [e2] at w3
    exact w3
  · exact w.elim
theorem snd_iret {own : String} {cc : ByteArray} {ini : Bool} {pc : Nat} (hd : decode cc pc = .ok (.ireturn, 1)) : Snd own cc (some .int) ini pc i_iret := by
  intro p l e R s m args below meth c D cI cN ad ex n0 A nL Qw K Q d F hC hT lo st h c0 s0 w
  unfold i_iret at w
  split at w
  · intro H locs ls hr hl
    exact hT.1 _ h c0 s0 H locs ls pc (Or.inl rfl) hd w hr
  · exact w.elim
theorem snd_zret {own : String} {cc : ByteArray} {ini : Bool} {pc : Nat} (hd : decode cc pc = .ok (.ireturn, 1)) : Snd own cc (some .boolean) ini pc i_zret := by
  intro p l e R s m args below meth c D cI cN ad ex n0 A nL Qw K Q d F hC hT lo st h c0 s0 w
  unfold i_zret at w
  split at w
  · intro H locs ls hr hl
    exact hT.1 _ h c0 s0 H locs ls pc (Or.inr ⟨rfl, w.1⟩) hd w.2 hr
  · exact w.elim
theorem snd_vret {own : String} {cc : ByteArray} {ini : Bool} {pc : Nat} (hd : decode cc pc = .ok (.return_, 1)) : Snd own cc none ini pc i_vret := by
  intro p l e R s m args below meth c D cI cN ad ex n0 A nL Qw K Q d F hC hT lo st h c0 s0 w
  unfold i_vret at w
  split at w
  · intro H locs ls hr hl
    exact hT.2.1 h c0 s0 H locs ls pc rfl hd w hr
  · exact w.elim
theorem snd_lret {own : String} {cc : ByteArray} {ini : Bool} {pc : Nat} (hd : decode cc pc = .ok (.lreturn, 1)) : Snd own cc (some .long) ini pc i_lret := by
  intro p l e R s m args below meth c D cI cN ad ex n0 A nL Qw K Q d F hC hT lo st h c0 s0 w
  unfold i_lret at w
  split at w
  · intro H locs ls hr hl
    exact hT.2.2 _ h c0 s0 H locs ls pc rfl hd w hr
  · exact w.elim
/-! what a callee's cells are in its caller's world -/
theorem rho_in {is : List Nat} {n j i : Nat} (h : is[j]? = some i) : rho is n j = i := by unfold rho; rw [h]
theorem rho_out {is : List Nat} {n j : Nat} (h : is.length ≤ j) : rho is n j = n + (j - is.length) := by unfold rho; rw [List.getElem?_eq_none h]
theorem rho_cons {i n j : Nat} {is : List Nat} : rho (i :: is) n (j + 1) = rho is n j := by
  unfold rho
  rw [List.getElem?_cons_succ, List.length_cons]
  cases is[j]? with
  | some x => rfl
  | none => show n + (j + 1 - (is.length + 1)) = n + (j - is.length); omega
theorem rho_inj {is : List Nat} {n : Nat} (hn : va_nd is = true) (hl : ∀ i ∈ is, i < n) : ∀ a b, rho is n a = rho is n b → a = b := by
  intro a b h
  rcases Nat.lt_or_ge a is.length with ha | ha <;> rcases Nat.lt_or_ge b is.length with hb | hb
  · have e1 := List.getElem?_eq_getElem ha
    have e2 := List.getElem?_eq_getElem hb
    rw [rho_in e1, rho_in e2] at h
    rw [h] at e1
    exact va_nd_inj is hn a b _ e1 e2
  · have e1 := List.getElem?_eq_getElem ha
    rw [rho_in e1, rho_out hb] at h
    have := hl _ (List.mem_of_getElem? e1)
    omega
  · have e2 := List.getElem?_eq_getElem hb
    rw [rho_in e2, rho_out ha] at h
    have := hl _ (List.mem_of_getElem? e2)
    omega
  · rw [rho_out ha, rho_out hb] at h
    omega
theorem put_len : ∀ (is : List Nat) (h cs : List aC), is.length ≤ cs.length → (put h is cs).length = h.length + (cs.length - is.length)
  | [], h, cs, _ => by simp [put]
  | i :: is, h, [], hl => by simp at hl
  | i :: is, h, c :: cs, hl => by
    rw [put, put_len is _ cs (by simpa using hl), List.length_set]
    simp
theorem put_get : ∀ (is : List Nat) (h cs : List aC) (k : Nat) (x : aC), is.length ≤ cs.length → (put h is cs)[k]? = some x → (∃ j, rho is h.length j = k ∧ cs[j]? = some x) ∨ (k < h.length ∧ h[k]? = some x ∧ k ∉ is)
  | [], h, cs, k, x, _, hk => by
    rw [put] at hk
    by_cases hl : k < h.length
    · rw [List.getElem?_append_left hl] at hk
      exact Or.inr ⟨hl, hk, List.not_mem_nil⟩
    · rw [List.getElem?_append_right (by omega)] at hk
      refine Or.inl ⟨k - h.length, ?_, hk⟩
      rw [rho_out (Nat.zero_le _)]
      simp
      omega
  | i :: is, h, [], k, x, hl, hk => by simp at hl
  | i :: is, h, c :: cs, k, x, hl, hk => by
    rw [put] at hk
    rcases put_get is (h.set i c) cs k x (by simpa using hl) hk with ⟨j, h1, h2⟩ | ⟨h1, h2, h3⟩
    · rw [List.length_set] at h1
      exact Or.inl ⟨j + 1, by rw [rho_cons]; exact h1, by rw [List.getElem?_cons_succ]; exact h2⟩
    · rw [List.length_set] at h1
      by_cases hki : k = i
      · subst hki
        rw [List.getElem?_set_self h1] at h2
        cases h2
        exact Or.inl ⟨0, rho_in rfl, rfl⟩
      · rw [List.getElem?_set_ne (Ne.symm hki)] at h2
        exact Or.inr ⟨h1, h2, fun z => (List.mem_cons.mp z).elim hki h3⟩
section CALL
variable {p : Program} {l : Launch} {e : Env} {R : Room} {s : State} {m : MethodId} {args : Array Value} {below : List Frame} {meth : Method} {c : Code} {D : va_G} {cI cN : ClassId} {ad ex : Nat → Nat} {n0 nL d c0 s0 : Nat} {A : Nat → Prop} {own : String} {cc : ByteArray} {ini : Bool} {K : aK} {h : List aC} {H : Heap} {locs : List Loc} {Qw : State → Prop} {ls : Array Slot} {lo : List (Option Value)} {st : List Value} {pc n mc ms : Nat} {is : List Nat} {av : List Value} {hc : List aC} {Qn : Option Value → List aC → Prop} {arr : Array Value}
theorem call_core (F : FX p R s m args meth c D cI cN ad n0 A nL own cc ini K d) (hr : Rl s D cI cN ad ex n0 A h c0 H locs) (hl : lvR ad ex ls nL lo) (hn : va_nd is = true) (hi : ∀ i ∈ is, i < h.length) (hcs : is.map (fun i => h[i]?) = hc.map (fun x => some (rc (rho is h.length) x)))
    (run : va_Run p l e R s m args below meth c H locs c0 s0 mc ms (F0 m pc ls (st.map (tv ad ex))) ((st.drop n).map (tv ad ex)) (QcA D cI cN (fun k => ad (rho is h.length k)) ex (hc.length + mc) Qn arr) (fun q => ∃ k, q = ad (rho is h.length k)))
    (w : ∀ v hc', Qn v hc' → Sm p l e R s m args below meth c D cI cN ad ex n0 A nL Qw (pc + 3) lo ((v.map (rv (rho is h.length))).toList ++ st.drop n) (put h is (hc'.map (rc (rho is h.length)))) (c0 + mc) (s0 + ms)) :
    W p l e R s m args below meth c H locs c0 s0 Qw (F0 m pc ls (st.map (tv ad ex))) := by
  intro T hT X
  obtain ⟨v, st₀, t, T', L, h0, X', hL, e1, e2, ⟨⟨v', hc', ho, hq, hlen, hP'⟩, hF⟩, go⟩ := run T hT X
  have hv : v = v'.map (tv (fun k => ad (rho is h.length k)) ex) := by cases ho; rfl
  subst hv
  have hisl : is.length = hc.length := by have := congrArg List.length hcs; simpa using this
  have hle : is.length ≤ (hc'.map (rc (rho is h.length))).length := by rw [List.length_map, hlen, hisl]; omega
  have hA := F.2.2.2.2.2.2.2.2.2.1
  have w2 := w v' hc' hq T'.heap (locs ++ L) ls ⟨fun k q hk => ?_, ?_, ?_⟩ hl
  · obtain ⟨t2, a1, b1⟩ := w2 T' rfl X'
    refine ⟨t2, go t2 ?_, b1⟩
    have es : (v'.map (tv (fun k => ad (rho is h.length k)) ex)).toList ++ (st.drop n).map (tv ad ex) = ((v'.map (rv (rho is h.length))).toList ++ st.drop n).map (tv ad ex) := by
      cases v' with
      | none => rfl
      | some x => simp [tv_comp]
    show Steps p.tables e below (T'.setTop (F0 m (pc + 3) ls ((v'.map (tv (fun k => ad (rho is h.length k)) ex)).toList ++ (st.drop n).map (tv ad ex)))) t2
    rw [es]
    exact a1
  · rw [wF_get] at hk
    obtain ⟨x, hx, rfl⟩ := Option.map_eq_some_iff.mp hk
    rcases put_get is h _ k x hle hx with ⟨j, g1, g2⟩ | ⟨g1, g2, g3⟩
    · rw [List.getElem?_map] at g2
      obtain ⟨x', hx', rfl⟩ := Option.map_eq_some_iff.mp g2
      have h4 := hP' j _ (wF_at hx')
      rw [tc_comp] at h4
      rw [← g1, e1]
      exact h4
    · have h4 := hr.1 k _ (wF_at g2)
      refine h4.kept ?_
      rw [e1]
      show t.heap[ad k]? = H[ad k]?
      rw [hF.2 (ad k) (by rw [h0]; exact h4.lt) (fun ⟨j, hj⟩ => ?_), h0]
      have hkj := F.2.2.2.2.2.2.2.1 _ _ hj
      rcases Nat.lt_or_ge j is.length with hj1 | hj1
      · rw [rho_in (List.getElem?_eq_getElem hj1)] at hkj
        exact g3 (by rw [hkj]; exact List.getElem_mem hj1)
      · rw [rho_out hj1] at hkj
        omega
  · rw [put_len is h _ hle, List.length_map, hlen, hr.2.1, hisl]
    omega
  · refine ⟨?_, fun q g1 g2 => ?_, fun q hq => ?_⟩
    · rw [e1]
      have h5 := hF.1
      rw [h0] at h5
      exact Nat.le_trans hr.2.2.1 h5
    · rw [e1, hF.2 q (by rw [h0]; exact Nat.lt_of_lt_of_le g1 hr.2.2.1) (fun ⟨j, hj⟩ => g2 (by rw [hj]; exact hA _)), h0]
      exact hr.2.2.2.1 q g1 g2
    · rcases List.mem_append.mp hq with g | g
      · exact hr.2.2.2.2 q g
      · obtain ⟨k, hk⟩ := hL q g
        rw [hk]
        exact hA _
/-- the callee's start -/
theorem call_pre (F : FX p R s m args meth c D cI cN ad n0 A nL own cc ini K d) (hr : Rl s D cI cN ad ex n0 A h c0 H locs) (hcs : is.map (fun i => h[i]?) = hc.map (fun x => some (rc (rho is h.length) x))) : PreS s H (PcA D cI cN (fun k => ad (rho is h.length k)) ex H.size av hc) (av.map (tv (fun k => ad (rho is h.length k)) ex)) := by
  refine ⟨fun a U g mk q => ⟨q.1, q.2.1, q.2.2.1, va_K.moved (u := U) (U := U.calling g mk a) (Vm.Alike.refl U.vm) q.2.2.2.1, XF.same (s := U) (U := U.calling g mk a) rfl q.2.2.2.2⟩, fun U hU hW => ⟨rfl, by rw [hU], ?_, va_K.moved hW.alike F.2.2.2.2.2.1, XF.warm hW F.2.2.2.2.2.2.1⟩⟩
  rw [hU]
  intro j q hj
  rw [wF_get] at hj
  obtain ⟨x, hx, rfl⟩ := Option.map_eq_some_iff.mp hj
  have e1 : (is.map (fun i => h[i]?))[j]? = some (some (rc (rho is h.length) x)) := by rw [hcs, List.getElem?_map, hx]; rfl
  rw [List.getElem?_map] at e1
  obtain ⟨i, hi, e2⟩ := Option.map_eq_some_iff.mp e1
  have h4 := hr.1 i _ (wF_at e2)
  rw [← tc_comp, ← rho_in (n := h.length) hi] at h4
  exact h4
theorem call_new (F : FX p R s m args meth c D cI cN ad n0 A nL own cc ini K d) (hr : Rl s D cI cN ad ex n0 A h c0 H locs) (hz : H.size + n0 = s.heap.size + h.length) (hisl : is.length = hc.length) : ∀ k, hc.length ≤ k → ad (rho is h.length k) + hc.length = H.size + k := by
  intro k hk
  rw [rho_out (by omega)]
  have h2 := hr.2.1
  have := F.2.2.2.2.2.2.2.2.1 (h.length + (k - is.length)) (by omega)
  omega
theorem call_stack (h1 : st.take n = (av.map (rv (rho is h.length))).reverse) : st.map (tv ad ex) = (av.map (tv (fun k => ad (rho is h.length k)) ex)).reverse ++ (st.drop n).map (tv ad ex) := by
  have e1 : st = st.take n ++ st.drop n := (List.take_append_drop n st).symm
  conv => lhs; rw [e1]
  rw [List.map_append, h1, ← List.map_reverse, List.map_map, ← List.map_reverse]
  congr 1
  exact List.map_congr_left (fun v _ => (tv_comp ad ex (rho is h.length) v).symm)
end CALL
theorem gi {ws : List Cond} (h : ∀ w ∈ ws, w ∈ gtbl) : GoodIn gtbl ws := fun w hw => ⟨h w hw, good_of_word (gt_good (h w hw))⟩
theorem mws_in {y : Nat} (h : Cond.code (mt y).1 (mt y).2.1 (mt y).2.2.1 (mt y).2.2.2 ∈ lw_tbl) : ∀ w ∈ mws y, w ∈ gtbl := fun w hw => (List.mem_cons.mp hw).elim (fun e => by rw [e]; exact gt_in h rfl) (fun z => z)
/-- what a method needs to be called: its words, its locals, its values -/
def MOK (y n : Nat) : Prop := Cond.code (mt y).1 (mt y).2.1 (mt y).2.2.1 (mt y).2.2.2 ∈ lw_tbl ∧ Cond.initialized (mt y).1.cls ∈ lw_tbl ∧ (mt y).2.2.1 ≤ 21 ∧ (mt y).1.cls ≠ "java/lang/invoke/MethodHandle" ∧ (mt y).1.cls ≠ "java/lang/invoke/VarHandle" ∧ (parseMethodDescriptor (mt y).1.desc).map (fun d => d.parameters.length) = some n
theorem snd_callV {own : String} {cc : ByteArray} {rt : Option FieldType} {ini : Bool} {pc y n ci idx : Nat} {q : vw_C} (hy : MOK y n) (h1 : Cond.methodLink own idx (mt y).1 ∈ lw_tbl) (h2 : Cond.instanceMethod (mt y).1 ∈ lw_tbl) (h3 : Cond.selects (mt y).1.cls (mt y).1 (mt y).1 ∈ lw_tbl) (h4 : cls[ci]? = some q) (h5 : q.1 = (mt y).1.cls) (hd : decode cc pc = .ok (.invokevirtual idx, 3)) : Snd own cc rt ini pc (i_callV y (n + 1) ci) := by
  intro p l e R s m args below meth c D cI cN ad ex n0 A nL Qw K Q d F hC hT lo st h c0 s0 w
  obtain ⟨is, av, hc, mc, ms, ⟨g1, g2, g3, g4, g5, g6, r, fs, g7, g8⟩, w1, w2, w⟩ := w
  obtain ⟨y1, y2, y3, y4, y5, y6⟩ := hy
  have g5 : ∀ i ∈ is, i < h.length := fun i hi => by simpa using List.all_eq_true.mp g5 i hi
  intro H locs ls hr hl T0 hT0 X
  have hz := hr.size F hT0 X
  have hF := F.2.2.2.2.2.2.2.2.2.2.2.2
  have hisl : is.length = hc.length := by have := congrArg List.length g6; simpa using this
  have hM := hC y mc ms av hc _ w (fun k => ad (rho is h.length k)) H.size (fun i j z => rho_inj g4 g5 i j (F.2.2.2.2.2.2.2.1 _ _ z)) (call_new F hr hz hisl)
  obtain ⟨av', rfl⟩ : ∃ av', av = .ref r :: av' := by
    cases av with
    | nil => cases g7
    | cons v t => cases g7; exact ⟨t, rfl⟩
  have hpre := call_pre (av := .ref r :: av') F hr g6
  have hrec : ∃ cell : Cell, H[ad (rho is h.length r)]? = some cell ∧ cell.vm.isStatics = false ∧ s.vm.findClass (mt y).1.cls = some cell.cls := by
    rw [← h5]
    exact va_recv (ws := wF cI cN (fun k => ad (rho is h.length k)) ex hc) F.2.2.2.2.2.1 (by have := (call_pre (av := []) F hr g6); exact (this.2 T0 hT0 X.warmed).2.2.1 |> fun z => by rw [hT0] at z; exact z) h4 (wF_at g8)
  refine call_core (n := n + 1) F hr hl g4 g5 g6 (va_runV (As := av'.map (tv (fun k => ad (rho is h.length k)) ex)) ⟨F.1, F.2.1, F.2.2.1, F.2.2.2.1, F.2.2.2.2.1⟩ hM (cwV n F.2.2.2.2.1 (gi (fun w hw => ?_)) rfl rfl rfl ⟨rfl, y4, y5, y6⟩ ⟨hF.1, ?_⟩) ⟨hpre.1, hrec, hpre.2⟩ rfl (by rw [List.length_map]; simpa using g2) hl.2.1 ?_ ?_ hd ⟨Nat.le_trans w1 hF.2.2.1, Nat.le_trans w2 hF.2.2.2⟩) (fun v hc' z => z) T0 hT0 X
  · rcases List.mem_append.mp hw with z | z
    · simp only [List.mem_cons, List.not_mem_nil, or_false] at z
      rcases z with rfl | rfl | rfl | rfl
      · exact gt_in h1 rfl
      · exact gt_in h2 rfl
      · exact gt_in h3 rfl
      · exact gt_in y2 rfl
    · exact mws_in y1 w z
  · show 8 + ((mt y).2.2.1 + 11) + 40 * d ≤ R.locals
    omega
  · have e9 := call_stack (ad := ad) (ex := ex) g1
    show st.map (tv ad ex) = _
    rw [e9]
    simp [tv]
  · show 2 * 0 + _ ≤ 8
    rw [cats_tv]
    omega
theorem snd_callS {own : String} {cc : ByteArray} {rt : Option FieldType} {ini : Bool} {pc y n idx : Nat} (hy : MOK y n) (h1 : Cond.methodLink own idx (mt y).1 ∈ lw_tbl) (h2 : Cond.static (mt y).1 ∈ lw_tbl) (hd : decode cc pc = .ok (.invokestatic idx, 3)) : Snd own cc rt ini pc (i_callS y n) := by
  intro p l e R s m args below meth c D cI cN ad ex n0 A nL Qw K Q d F hC hT lo st h c0 s0 w
  obtain ⟨is, av, hc, mc, ms, ⟨g1, g2, g3, g4, g5, g6, -⟩, w1, w2, w⟩ := w
  obtain ⟨y1, y2, y3, y4, y5, y6⟩ := hy
  have g5 : ∀ i ∈ is, i < h.length := fun i hi => by simpa using List.all_eq_true.mp g5 i hi
  intro H locs ls hr hl T0 hT0 X
  have hz := hr.size F hT0 X
  have hF := F.2.2.2.2.2.2.2.2.2.2.2.2
  have hisl : is.length = hc.length := by have := congrArg List.length g6; simpa using this
  have hM := hC y mc ms av hc _ w (fun k => ad (rho is h.length k)) H.size (fun i j z => rho_inj g4 g5 i j (F.2.2.2.2.2.2.2.1 _ _ z)) (call_new F hr hz hisl)
  refine call_core (n := n) F hr hl g4 g5 g6 (va_runS (As := av.map (tv (fun k => ad (rho is h.length k)) ex)) ⟨F.1, F.2.1, F.2.2.1, F.2.2.2.1, F.2.2.2.2.1⟩ hM (va_cwS n F.2.2.2.2.1 (gi (fun w hw => ?_)) rfl rfl rfl ⟨y4, y5, y6⟩ ⟨hF.1, ?_⟩) (call_pre F hr g6) rfl (by rw [List.length_map]; exact g2) hl.2.1 (call_stack g1) ?_ hd ⟨Nat.le_trans w1 hF.2.2.1, Nat.le_trans w2 hF.2.2.2⟩) (fun v hc' z => z) T0 hT0 X
  · rcases List.mem_append.mp hw with z | z
    · simp only [List.mem_cons, List.not_mem_nil, or_false] at z
      rcases z with rfl | rfl | rfl
      · exact gt_in h1 rfl
      · exact gt_in h2 rfl
      · exact gt_in y2 rfl
    · exact mws_in y1 w z
  · show 8 + ((mt y).2.2.1 + 11) + 40 * d ≤ R.locals
    omega
  · show 2 * 0 + _ ≤ 8
    rw [cats_tv]
    omega
theorem snd_callSN {own : String} {cc : ByteArray} {rt : Option FieldType} {ini : Bool} {pc y n idx : Nat} {host : String} (hy : MOK y n) (h1 : (own, idx, (mt y).1, host) ∈ nestL) (h2 : Cond.static (mt y).1 ∈ lw_tbl) (hd : decode cc pc = .ok (.invokestatic idx, 3)) : Snd own cc rt ini pc (i_callS y n) := by
  intro p l e R s m args below meth c D cI cN ad ex n0 A nL Qw K Q d F hC hT lo st h c0 s0 w
  obtain ⟨is, av, hc, mc, ms, ⟨g1, g2, g3, g4, g5, g6, -⟩, w1, w2, w⟩ := w
  obtain ⟨y1, y2, y3, y4, y5, y6⟩ := hy
  have g5 : ∀ i ∈ is, i < h.length := fun i hi => by simpa using List.all_eq_true.mp g5 i hi
  intro H locs ls hr hl T0 hT0 X
  have hz := hr.size F hT0 X
  have hF := F.2.2.2.2.2.2.2.2.2.2.2.2
  have hisl : is.length = hc.length := by have := congrArg List.length g6; simpa using this
  have hM := hC y mc ms av hc _ w (fun k => ad (rho is h.length k)) H.size (fun i j z => rho_inj g4 g5 i j (F.2.2.2.2.2.2.2.1 _ _ z)) (call_new F hr hz hisl)
  refine call_core (n := n) F hr hl g4 g5 g6 (va_runSN (host := host) (As := av.map (tv (fun k => ad (rho is h.length k)) ex)) ⟨F.1, F.2.1, F.2.2.1, F.2.2.2.1, F.2.2.2.2.1⟩ hM ⟨va_cnB n F.2.2.2.2.1 (gi (mws_in y1)) rfl rfl rfl (F.2.2.2.2.2.2.1.1 _ h1) (F.2.2.2.2.1 _ (gt_in y2 rfl)) ⟨y4, y5, y6⟩ ⟨hF.1, ?_⟩, F.2.2.2.2.1 _ (gt_in h2 rfl), trivial⟩ (call_pre F hr g6) rfl (by rw [List.length_map]; exact g2) hl.2.1 (call_stack g1) ?_ hd ⟨Nat.le_trans w1 hF.2.2.1, Nat.le_trans w2 hF.2.2.2⟩) (fun v hc' z => z) T0 hT0 X
  · show 8 + ((mt y).2.2.1 + 11) + 40 * d ≤ R.locals
    omega
  · show 2 * 0 + _ ≤ 8
    rw [cats_tv]
    omega
theorem snd_callI {own : String} {cc : ByteArray} {rt : Option FieldType} {ini : Bool} {pc y n idx : Nat} (h1 : Cond.methodLink own idx (mt y).1 ∈ lw_tbl) (hy : MOK y n) (h2 : Cond.instanceMethod (mt y).1 ∈ lw_tbl) (h3 : (mt y).1.name = "<init>") (h4 : (mt y).2.2.2 = none) (hd : decode cc pc = .ok (.invokespecial idx, 3)) : Snd own cc rt ini pc (i_callI y (n + 1)) := by
  intro p l e R s m args below meth c D cI cN ad ex n0 A nL Qw K Q d F hC hT lo st h c0 s0 w
  obtain ⟨is, av, hc, mc, ms, ⟨g1, g2, g3, g4, g5, g6, r, g7⟩, w1, w2, w⟩ := w
  obtain ⟨y1, y2, y3, y4, y5, y6⟩ := hy
  have g5 : ∀ i ∈ is, i < h.length := fun i hi => by simpa using List.all_eq_true.mp g5 i hi
  intro H locs ls hr hl T0 hT0 X
  have hz := hr.size F hT0 X
  have hF := F.2.2.2.2.2.2.2.2.2.2.2.2
  have hisl : is.length = hc.length := by have := congrArg List.length g6; simpa using this
  have hM := hC y mc ms av hc _ w (fun k => ad (rho is h.length k)) H.size (fun i j z => rho_inj g4 g5 i j (F.2.2.2.2.2.2.2.1 _ _ z)) (call_new F hr hz hisl)
  obtain ⟨av', rfl⟩ : ∃ av', av = .ref r :: av' := by
    cases av with
    | nil => cases g7
    | cons v t => cases g7; exact ⟨t, rfl⟩
  refine call_core (n := n + 1) F hr hl g4 g5 g6 (va_runI (b := ad (rho is h.length r)) (As := av'.map (tv (fun k => ad (rho is h.length k)) ex)) (maxL := (mt y).2.2.1) (bytes := (mt y).2.1) ⟨F.1, F.2.1, F.2.2.1, F.2.2.2.1, F.2.2.2.2.1⟩ hM (cwI n F.2.2.2.2.1 (gi (mws_in y1)) (by show mws y = _; rw [← h4]) rfl rfl (F.2.2.2.2.1 _ (gt_in y2 rfl)) (F.2.2.2.2.1 _ (gt_in h1 rfl)) (F.2.2.2.2.1 _ (gt_in h2 rfl)) h3 ⟨y4, y5, y6⟩ ⟨hF.1, ?_⟩) (call_pre (av := .ref r :: av') F hr g6) rfl (by rw [List.length_map]; simpa using g2) hl.2.1 ?_ ?_ hd ⟨Nat.le_trans w1 hF.2.2.1, Nat.le_trans w2 hF.2.2.2⟩) (fun v hc' z => z) T0 hT0 X
  · show 8 + ((mt y).2.2.1 + 11) + 40 * d ≤ R.locals
    omega
  · have e9 := call_stack (ad := ad) (ex := ex) g1
    show st.map (tv ad ex) = _
    rw [e9]
    simp [tv]
  · show 2 * 0 + _ ≤ 8
    rw [cats_tv]
    omega
theorem snd_callIN {own : String} {cc : ByteArray} {rt : Option FieldType} {ini : Bool} {pc y n idx : Nat} {host : String} (h1 : (own, idx, (mt y).1, host) ∈ nestL) (hy : MOK y n) (h2 : Cond.instanceMethod (mt y).1 ∈ lw_tbl) (h3 : (mt y).1.name = "<init>") (h4 : (mt y).2.2.2 = none) (hd : decode cc pc = .ok (.invokespecial idx, 3)) : Snd own cc rt ini pc (i_callI y (n + 1)) := by
  intro p l e R s m args below meth c D cI cN ad ex n0 A nL Qw K Q d F hC hT lo st h c0 s0 w
  obtain ⟨is, av, hc, mc, ms, ⟨g1, g2, g3, g4, g5, g6, r, g7⟩, w1, w2, w⟩ := w
  obtain ⟨y1, y2, y3, y4, y5, y6⟩ := hy
  have g5 : ∀ i ∈ is, i < h.length := fun i hi => by simpa using List.all_eq_true.mp g5 i hi
  intro H locs ls hr hl T0 hT0 X
  have hz := hr.size F hT0 X
  have hF := F.2.2.2.2.2.2.2.2.2.2.2.2
  have hisl : is.length = hc.length := by have := congrArg List.length g6; simpa using this
  have hM := hC y mc ms av hc _ w (fun k => ad (rho is h.length k)) H.size (fun i j z => rho_inj g4 g5 i j (F.2.2.2.2.2.2.2.1 _ _ z)) (call_new F hr hz hisl)
  obtain ⟨av', rfl⟩ : ∃ av', av = .ref r :: av' := by
    cases av with
    | nil => cases g7
    | cons v t => cases g7; exact ⟨t, rfl⟩
  refine call_core (n := n + 1) F hr hl g4 g5 g6 (va_runIN (host := host) (b := ad (rho is h.length r)) (As := av'.map (tv (fun k => ad (rho is h.length k)) ex)) (maxL := (mt y).2.2.1) (bytes := (mt y).2.1) ⟨F.1, F.2.1, F.2.2.1, F.2.2.2.1, F.2.2.2.2.1⟩ hM ⟨va_cnB n F.2.2.2.2.1 (gi (mws_in y1)) (by show mws y = _; rw [← h4]) rfl rfl (F.2.2.2.2.2.2.1.1 _ h1) (F.2.2.2.2.1 _ (gt_in y2 rfl)) ⟨y4, y5, y6⟩ ⟨hF.1, ?_⟩, h3, F.2.2.2.2.1 _ (gt_in h2 rfl)⟩ (call_pre (av := .ref r :: av') F hr g6) rfl (by rw [List.length_map]; simpa using g2) hl.2.1 ?_ ?_ hd ⟨Nat.le_trans w1 hF.2.2.1, Nat.le_trans w2 hF.2.2.2⟩) (fun v hc' z => z) T0 hT0 X
  · show 8 + ((mt y).2.2.1 + 11) + 40 * d ≤ R.locals
    omega
  · have e9 := call_stack (ad := ad) (ex := ex) g1
    show st.map (tv ad ex) = _
    rw [e9]
    simp [tv]
  · show 2 * 0 + _ ≤ 8
    rw [cats_tv]
    omega
/-! a method's start; the calls by depth -/
def argL : List Value → List (Option Value)
  | [] => []
  | .long x :: t => some (.long x) :: none :: argL t
  | .double x :: t => some (.double x) :: none :: argL t
  | v :: t => some v :: argL t
def entryL (n : Nat) (av : List Value) : List (Option Value) := argL av ++ List.replicate (n - (argL av).length) none
theorem argL_len (ad ex : Nat → Nat) : ∀ av : List Value, (lg_sl (av.map (tv ad ex))).length = (argL av).length
  | [] => rfl
  | v :: t => by
    have ih := argL_len ad ex t
    cases v <;> simp [lg_sl, argL, tv, Value.category] at ih ⊢ <;> omega
theorem argL_mem (ad ex : Nat → Nat) : ∀ (av : List Value) (k i : Nat) (v : Value), (argL av)[i]? = some (some v) → (k + i, tv ad ex v) ∈ lv_args k (av.map (tv ad ex))
  | [], k, i, v, h => by simp [argL] at h
  | u :: t, k, i, v, h => by
    have two : ∀ x : Value, x.category = 2 → argL (x :: t) = some x :: none :: argL t → argL (u :: t) = argL (x :: t) → u = x → (k + i, tv ad ex v) ∈ lv_args k ((u :: t).map (tv ad ex)) := by
      intro x hx e1 e2 e3
      subst e3
      rw [e1] at h
      rw [List.map_cons, lv_args, if_pos (by rw [cat_tv]; exact hx)]
      match i, h with
      | 0, h => cases h; exact List.mem_cons_self
      | 1, h => cases h
      | j + 2, h =>
        have := argL_mem ad ex t (k + 2) j v h
        rw [show k + (j + 2) = k + 2 + j by omega]
        exact List.mem_cons_of_mem _ this
    have one : u.category ≠ 2 → argL (u :: t) = some u :: argL t → (k + i, tv ad ex v) ∈ lv_args k ((u :: t).map (tv ad ex)) := by
      intro hx e1
      rw [e1] at h
      rw [List.map_cons, lv_args, if_neg (by rw [cat_tv]; exact hx)]
      match i, h with
      | 0, h => cases h; exact List.mem_cons_self
      | j + 1, h =>
        have := argL_mem ad ex t (k + 1) j v h
        rw [show k + (j + 1) = k + 1 + j by omega]
        exact List.mem_cons_of_mem _ this
    cases u with
    | long x => exact two (.long x) rfl rfl rfl rfl
    | double x => exact two (.double x) rfl rfl rfl rfl
    | int x => exact one (fun z => by cases z) rfl
    | float x => exact one (fun z => by cases z) rfl
    | null => exact one (by decide) rfl
    | ref x => exact one (fun z => by cases z) rfl
    | retAddr x => exact one (fun z => by cases z) rfl
theorem entry_lv {ad ex : Nat → Nat} {n : Nat} {av : List Value} (h : (argL av).length ≤ n) : lvR ad ex ((lg_sl (av.map (tv ad ex)) ++ List.replicate (n - (lg_sl (av.map (tv ad ex))).length) Slot.unset).toArray) n (entryL n av) := by
  have h1 := lv_entry (av.map (tv ad ex)) (n := n) (by rw [argL_len]; exact h)
  refine ⟨by simp [entryL]; omega, h1.1, h1.2.1, fun i v hi => ?_⟩
  unfold entryL at hi
  by_cases hl : i < (argL av).length
  · rw [List.getElem?_append_left hl] at hi
    have := argL_mem ad ex av 0 i v hi
    rw [Nat.zero_add] at this
    exact h1.2.2 _ this
  · rw [List.getElem?_append_right (by omega), List.getElem?_replicate] at hi
    split at hi <;> cases hi
def stepC (code : Nat → List (Nat × aI)) (C : callP) : callP := fun y mc ms av h Q => (argL av).length ≤ (mt y).2.2.1 ∧ wp (mc, ms, C) (code y) (fun v h' c s => c = mc ∧ s ≤ ms ∧ Q v h') 0 (entryL (mt y).2.2.1 av) [] h 0 0
theorem Cok_step {l : Launch} {D : va_G} {cI cN : ClassId} {ex : Nat → Nat} {d : Nat} {C : callP} {code : Nat → List (Nat × aI)} (hp : ∀ y, plainName (mt y).1.cls = true) (hs : ∀ y, ∃ ini : Bool, (ini = true → (mt y).1.name = "<init>") ∧ ∀ q ∈ code y, Snd (mt y).1.cls (mt y).2.1 (mt y).2.2.2 ini q.1 q.2) (hC : Cok l D cI cN ex d C) : Cok l D cI cN ex (d + 1) (stepC code C) := by
  intro y mc ms av h Q w ad sz hinj hnew
  obtain ⟨ini, hini, hs⟩ := hs y
  obtain ⟨hlen, w⟩ := w
  refine Met.ofW (cc := (mt y).2.1) (maxL := (mt y).2.2.1) (ret := (mt y).2.2.2) (hp y) rfl ?_
  intro p e s m args below meth c s₁ B hml hv
  obtain ⟨rfl, hsz, hP, hK, hX⟩ := hv
  have hlocks := B.notSynchronized
  subst hsz
  have hA : ∀ q : Nat, s.heap.size ≤ q → (fun q => ∃ k, q = ad k) q := fun q hq => ⟨h.length + (q - s.heap.size), by have := hnew (h.length + (q - s.heap.size)) (by omega); omega⟩
  have F : FX p (headSpec (mws y) (rmD (d + 1) mc ms)).room s m (av.map (tv ad ex)).toArray meth c D cI cN ad h.length (fun q => ∃ k, q = ad k) (mt y).2.2.1 (mt y).1.cls (mt y).2.1 ini (mc, ms, C) d :=
    ⟨B.exec, B.bytes, hml, findClass_of_methodNamed B.named, fun w hw => atoms_spec (ws := mws y) B.pre w (List.mem_cons_of_mem _ hw), hK, hX, hinj, hnew, fun k => ⟨k, rfl⟩, hA, fun z => (name_of_methodNamed B.named B.method).1.trans (hini z), Nat.le_refl _, Nat.le_of_eq (Nat.mul_succ 40 d).symm, Nat.le_refl _, Nat.le_refl _⟩
  have hT : RT p l e (headSpec (mws y) (rmD (d + 1) mc ms)).room s m (av.map (tv ad ex)).toArray below meth c D cI cN ad ex h.length (fun q => ∃ k, q = ad k) (MQ below (QcA D cI cN ad ex (h.length + mc) Q) (av.map (tv ad ex)).toArray s mc ms (fun q => ∃ k, q = ad k)) (mt y).2.1 (mt y).2.2.2 (fun v h' c s => c = mc ∧ s ≤ ms ∧ Q v h') := by
    refine ⟨?_, ?_, ?_⟩
    · rintro x h' c0 s0 H locs ls pc hrt hd ⟨rfl, hs0, hq⟩ hr
      refine W.widen (k := c0) (n := ms) (Nat.le_refl _) hs0 ?_
      rcases hrt with hrt | ⟨hrt, hx⟩
      · exact W.iret B.exec B.bytes (B.returns.trans hrt) (fun t ht hW => ⟨⟨some (.int x), h', rfl, hq, hr.2.1, by rw [ht]; exact hr.1⟩, hr.2.2.F ht⟩) hr.2.2.2.2 hd
      · exact W.zret B.exec B.bytes (B.returns.trans hrt) (by rcases hx with rfl | rfl <;> decide) (fun t ht hW => ⟨⟨some (.int x), h', rfl, hq, hr.2.1, by rw [ht]; exact hr.1⟩, hr.2.2.F ht⟩) hr.2.2.2.2 hd
    · rintro h' c0 s0 H locs ls pc hrt hd ⟨rfl, hs0, hq⟩ hr
      refine W.widen (k := c0) (n := ms) (Nat.le_refl _) hs0 ?_
      exact W.vret B.exec B.bytes (B.returns.trans hrt) (fun t ht hW => ⟨⟨none, h', rfl, hq, hr.2.1, by rw [ht]; exact hr.1⟩, hr.2.2.F ht⟩) hr.2.2.2.2 hd
    · rintro x h' c0 s0 H locs ls pc hrt hd ⟨rfl, hs0, hq⟩ hr
      refine W.widen (k := c0) (n := ms) (Nat.le_refl _) hs0 ?_
      exact W.lret B.exec B.bytes (B.returns.trans hrt) (fun t ht hW => ⟨⟨some (.long x), h', rfl, hq, hr.2.1, by rw [ht]; exact hr.1⟩, hr.2.2.F ht⟩) hr.2.2.2.2 hd
  rw [lg_entry_eq]
  exact w (Sm p l e (headSpec (mws y) (rmD (d + 1) mc ms)).room s m (av.map (tv ad ex)).toArray below meth c D cI cN ad ex h.length (fun q => ∃ k, q = ad k) (mt y).2.2.1 (MQ below (QcA D cI cN ad ex (h.length + mc) Q) (av.map (tv ad ex)).toArray s mc ms (fun q => ∃ k, q = ad k))) (fun pc i lo st h' c0 s0 hl hi => hs (pc, i) (lookup_mem hl) p l e _ s m _ below meth c D cI cN ad ex _ _ _ _ _ _ d F hC hT lo st h' c0 s0 hi) s.heap [] _ ⟨hP, rfl, va_S.rf⟩ (entry_lv hlen)
end
section
theorem wd_0 : Cond.methodLink RX0 3 objectInit ∈ lw_tbl := List.mem_of_getElem? (i := 177) (by decide +kernel)
theorem wd_1 : Cond.instanceMethod objectInit ∈ lw_tbl := List.mem_of_getElem? (i := 69) (by decide +kernel)
theorem wd_2 : Cond.code objectInit ⟨#[0xb1]⟩ 1 none ∈ lw_tbl := List.mem_of_getElem? (i := 70) (by decide +kernel)
theorem wd_3 : Cond.classLink RX0 9 RX2 ∈ lw_tbl := List.mem_of_getElem? (i := 178) (by decide +kernel)
theorem wd_4 : Cond.instantiable RX2 7 ∈ lw_tbl := List.mem_of_getElem? (i := 86) (by decide +kernel)
theorem wd_5 : Cond.initialized RX2 ∈ lw_tbl := List.mem_of_getElem? (i := 49) (by decide +kernel)
theorem inw_2 : ∀ w ∈ u_ws RX2 TX2 7, w ∈ gtbl := by
  have e : u_ws RX2 TX2 7 = [98, 100, 102, 104, 106, 108, 110].filterMap (fun i => lw_tbl[i]?) := by decide +kernel
  have g : (u_ws RX2 TX2 7).all goodWord = true := by decide +kernel
  intro w hw
  refine gt_in ?_ (List.all_eq_true.mp g w hw)
  rw [e] at hw
  obtain ⟨i, -, hi⟩ := List.mem_filterMap.mp hw
  exact List.mem_of_getElem? hi
theorem cl_0_9 : Cls 2 RX0 9 7 [.null, .null, .null, .int 0, .int 0, .int 0, .int 0] := ⟨RX2, TX2, tyX2, rfl, wd_3, wd_4, wd_5, inw_2, tyX2_ok, by decide +kernel, fun _ _ => rfl⟩
theorem wd_6 : Cond.code (mt 20).1 (mt 20).2.1 (mt 20).2.2.1 (mt 20).2.2.2 ∈ lw_tbl := List.mem_of_getElem? (i := 89) (by decide +kernel)
theorem wd_7 : Cond.initialized (mt 20).1.cls ∈ lw_tbl := List.mem_of_getElem? (i := 49) (by decide +kernel)
theorem mok_20 : MOK 20 0 := ⟨wd_6, wd_7, by decide +kernel, by decide +kernel, by decide +kernel, by decide +kernel⟩
theorem wd_8 : Cond.instanceMethod (mt 20).1 ∈ lw_tbl := List.mem_of_getElem? (i := 88) (by decide +kernel)
theorem wd_9 : Cond.fieldLink RX0 12 (TX0 0).1 (TX0 0).2.1 (TX0 0).2.2.1 ∈ lw_tbl := List.mem_of_getElem? (i := 180) (by decide +kernel)
theorem inw_0 : ∀ w ∈ u_ws RX0 TX0 1, w ∈ gtbl := by
  have e : u_ws RX0 TX0 1 = [181].filterMap (fun i => lw_tbl[i]?) := by decide +kernel
  have g : (u_ws RX0 TX0 1).all goodWord = true := by decide +kernel
  intro w hw
  refine gt_in ?_ (List.all_eq_true.mp g w hw)
  rw [e] at hw
  obtain ⟨i, -, hi⟩ := List.mem_filterMap.mp hw
  exact List.mem_of_getElem? hi
theorem fl_0_12 : Fld 0 0 RX0 12 true (.object "DollsVote$Nursery") := ⟨RX0, TX0, 1, tyX0, rfl, by decide, wd_9, inw_0, tyX0_ok, nmX0, rfl, rfl, by decide +kernel⟩
theorem wd_10 : Cond.methodLink RX0 18 (mt 25).1 ∈ lw_tbl := List.mem_of_getElem? (i := 689) (by decide +kernel)
theorem wd_11 : Cond.code (mt 25).1 (mt 25).2.1 (mt 25).2.2.1 (mt 25).2.2.2 ∈ lw_tbl := List.mem_of_getElem? (i := 375) (by decide +kernel)
theorem wd_12 : Cond.initialized (mt 25).1.cls ∈ lw_tbl := List.mem_of_getElem? (i := 49) (by decide +kernel)
theorem mok_25 : MOK 25 0 := ⟨wd_11, wd_12, by decide +kernel, by decide +kernel, by decide +kernel, by decide +kernel⟩
theorem wd_13 : Cond.instanceMethod (mt 25).1 ∈ lw_tbl := List.mem_of_getElem? (i := 373) (by decide +kernel)
theorem wd_14 : Cond.selects (mt 25).1.cls (mt 25).1 (mt 25).1 ∈ lw_tbl := List.mem_of_getElem? (i := 374) (by decide +kernel)
theorem wd_15 : Cond.methodLink RX0 22 Lib.Math.max.name ∈ lw_tbl := List.mem_of_getElem? (i := 690) (by decide +kernel)
theorem wd_16 : Cond.static Lib.Math.max.name ∈ lw_tbl := List.mem_of_getElem? (i := 120) (by decide +kernel)
theorem wd_17 : Cond.initialized "java/lang/Math" ∈ lw_tbl := List.mem_of_getElem? (i := 51) (by decide +kernel)
theorem wd_18 : Cond.code Lib.Math.max.name Lib.Math.max.code 2 (some .int) ∈ lw_tbl := List.mem_of_getElem? (i := 121) (by decide +kernel)
theorem wd_19 : Cond.methodLink RX0 28 (mt 1).1 ∈ lw_tbl := List.mem_of_getElem? (i := 686) (by decide +kernel)
theorem wd_20 : Cond.code (mt 1).1 (mt 1).2.1 (mt 1).2.2.1 (mt 1).2.2.2 ∈ lw_tbl := List.mem_of_getElem? (i := 688) (by decide +kernel)
theorem wd_21 : Cond.initialized (mt 1).1.cls ∈ lw_tbl := List.mem_of_getElem? (i := 54) (by decide +kernel)
theorem mok_1 : MOK 1 2 := ⟨wd_20, wd_21, by decide +kernel, by decide +kernel, by decide +kernel, by decide +kernel⟩
theorem wd_22 : Cond.static (mt 1).1 ∈ lw_tbl := List.mem_of_getElem? (i := 687) (by decide +kernel)
theorem wd_23 : Cond.methodLink RX0 32 (mt 181).1 ∈ lw_tbl := List.mem_of_getElem? (i := 691) (by decide +kernel)
theorem wd_24 : Cond.code (mt 181).1 (mt 181).2.1 (mt 181).2.2.1 (mt 181).2.2.2 ∈ lw_tbl := List.mem_of_getElem? (i := 502) (by decide +kernel)
theorem wd_25 : Cond.initialized (mt 181).1.cls ∈ lw_tbl := List.mem_of_getElem? (i := 62) (by decide +kernel)
theorem mok_181 : MOK 181 1 := ⟨wd_24, wd_25, by decide +kernel, by decide +kernel, by decide +kernel, by decide +kernel⟩
theorem wd_26 : Cond.static (mt 181).1 ∈ lw_tbl := List.mem_of_getElem? (i := 501) (by decide +kernel)
theorem wd_27 : Cond.code (mt 115).1 (mt 115).2.1 (mt 115).2.2.1 (mt 115).2.2.2 ∈ lw_tbl := List.mem_of_getElem? (i := 694) (by decide +kernel)
theorem wd_28 : Cond.initialized (mt 115).1.cls ∈ lw_tbl := List.mem_of_getElem? (i := 47) (by decide +kernel)
theorem mok_115 : MOK 115 2 := ⟨wd_27, wd_28, by decide +kernel, by decide +kernel, by decide +kernel, by decide +kernel⟩
theorem wd_29 : Cond.static (mt 115).1 ∈ lw_tbl := List.mem_of_getElem? (i := 693) (by decide +kernel)
theorem wd_30 : Cond.methodLink RX0 41 (mt 3).1 ∈ lw_tbl := List.mem_of_getElem? (i := 695) (by decide +kernel)
theorem wd_31 : Cond.code (mt 3).1 (mt 3).2.1 (mt 3).2.2.1 (mt 3).2.2.2 ∈ lw_tbl := List.mem_of_getElem? (i := 698) (by decide +kernel)
theorem wd_32 : Cond.initialized (mt 3).1.cls ∈ lw_tbl := List.mem_of_getElem? (i := 54) (by decide +kernel)
theorem mok_3 : MOK 3 4 := ⟨wd_31, wd_32, by decide +kernel, by decide +kernel, by decide +kernel, by decide +kernel⟩
theorem wd_33 : Cond.instanceMethod (mt 3).1 ∈ lw_tbl := List.mem_of_getElem? (i := 697) (by decide +kernel)
theorem wd_34 : Cond.selects (mt 3).1.cls (mt 3).1 (mt 3).1 ∈ lw_tbl := List.mem_of_getElem? (i := 17) (by decide +kernel)
theorem wd_35 : Cond.methodLink RX0 45 (mt 22).1 ∈ lw_tbl := List.mem_of_getElem? (i := 699) (by decide +kernel)
theorem wd_36 : Cond.code (mt 22).1 (mt 22).2.1 (mt 22).2.2.1 (mt 22).2.2.2 ∈ lw_tbl := List.mem_of_getElem? (i := 379) (by decide +kernel)
theorem wd_37 : Cond.initialized (mt 22).1.cls ∈ lw_tbl := List.mem_of_getElem? (i := 49) (by decide +kernel)
theorem mok_22 : MOK 22 1 := ⟨wd_36, wd_37, by decide +kernel, by decide +kernel, by decide +kernel, by decide +kernel⟩
theorem wd_38 : Cond.instanceMethod (mt 22).1 ∈ lw_tbl := List.mem_of_getElem? (i := 377) (by decide +kernel)
theorem wd_39 : Cond.selects (mt 22).1.cls (mt 22).1 (mt 22).1 ∈ lw_tbl := List.mem_of_getElem? (i := 378) (by decide +kernel)
theorem wd_40 : Cond.methodLink RX0 49 (mt 27).1 ∈ lw_tbl := List.mem_of_getElem? (i := 700) (by decide +kernel)
theorem wd_41 : Cond.code (mt 27).1 (mt 27).2.1 (mt 27).2.2.1 (mt 27).2.2.2 ∈ lw_tbl := List.mem_of_getElem? (i := 284) (by decide +kernel)
theorem wd_42 : Cond.initialized (mt 27).1.cls ∈ lw_tbl := List.mem_of_getElem? (i := 49) (by decide +kernel)
theorem mok_27 : MOK 27 0 := ⟨wd_41, wd_42, by decide +kernel, by decide +kernel, by decide +kernel, by decide +kernel⟩
theorem wd_43 : Cond.instanceMethod (mt 27).1 ∈ lw_tbl := List.mem_of_getElem? (i := 282) (by decide +kernel)
theorem wd_44 : Cond.selects (mt 27).1.cls (mt 27).1 (mt 27).1 ∈ lw_tbl := List.mem_of_getElem? (i := 283) (by decide +kernel)
theorem wd_45 : Cond.methodLink RX0 52 (mt 44).1 ∈ lw_tbl := List.mem_of_getElem? (i := 701) (by decide +kernel)
theorem wd_46 : Cond.code (mt 44).1 (mt 44).2.1 (mt 44).2.2.1 (mt 44).2.2.2 ∈ lw_tbl := List.mem_of_getElem? (i := 486) (by decide +kernel)
theorem wd_47 : Cond.initialized (mt 44).1.cls ∈ lw_tbl := List.mem_of_getElem? (i := 49) (by decide +kernel)
theorem mok_44 : MOK 44 1 := ⟨wd_46, wd_47, by decide +kernel, by decide +kernel, by decide +kernel, by decide +kernel⟩
theorem wd_48 : Cond.instanceMethod (mt 44).1 ∈ lw_tbl := List.mem_of_getElem? (i := 484) (by decide +kernel)
theorem wd_49 : Cond.selects (mt 44).1.cls (mt 44).1 (mt 44).1 ∈ lw_tbl := List.mem_of_getElem? (i := 485) (by decide +kernel)
theorem wd_50 : Cond.methodLink RX0 56 (mt 45).1 ∈ lw_tbl := List.mem_of_getElem? (i := 702) (by decide +kernel)
theorem wd_51 : Cond.code (mt 45).1 (mt 45).2.1 (mt 45).2.2.1 (mt 45).2.2.2 ∈ lw_tbl := List.mem_of_getElem? (i := 450) (by decide +kernel)
theorem wd_52 : Cond.initialized (mt 45).1.cls ∈ lw_tbl := List.mem_of_getElem? (i := 49) (by decide +kernel)
theorem mok_45 : MOK 45 0 := ⟨wd_51, wd_52, by decide +kernel, by decide +kernel, by decide +kernel, by decide +kernel⟩
theorem wd_53 : Cond.instanceMethod (mt 45).1 ∈ lw_tbl := List.mem_of_getElem? (i := 448) (by decide +kernel)
theorem wd_54 : Cond.selects (mt 45).1.cls (mt 45).1 (mt 45).1 ∈ lw_tbl := List.mem_of_getElem? (i := 449) (by decide +kernel)
theorem wd_55 : Cond.methodLink RX0 60 (mt 30).1 ∈ lw_tbl := List.mem_of_getElem? (i := 703) (by decide +kernel)
theorem wd_56 : Cond.code (mt 30).1 (mt 30).2.1 (mt 30).2.2.1 (mt 30).2.2.2 ∈ lw_tbl := List.mem_of_getElem? (i := 400) (by decide +kernel)
theorem wd_57 : Cond.initialized (mt 30).1.cls ∈ lw_tbl := List.mem_of_getElem? (i := 49) (by decide +kernel)
theorem mok_30 : MOK 30 2 := ⟨wd_56, wd_57, by decide +kernel, by decide +kernel, by decide +kernel, by decide +kernel⟩
theorem wd_58 : Cond.instanceMethod (mt 30).1 ∈ lw_tbl := List.mem_of_getElem? (i := 398) (by decide +kernel)
theorem wd_59 : Cond.selects (mt 30).1.cls (mt 30).1 (mt 30).1 ∈ lw_tbl := List.mem_of_getElem? (i := 399) (by decide +kernel)
theorem wd_60 : Cond.methodLink RX0 63 (mt 5).1 ∈ lw_tbl := List.mem_of_getElem? (i := 716) (by decide +kernel)
theorem wd_61 : Cond.code (mt 5).1 (mt 5).2.1 (mt 5).2.2.1 (mt 5).2.2.2 ∈ lw_tbl := List.mem_of_getElem? (i := 718) (by decide +kernel)
theorem wd_62 : Cond.initialized (mt 5).1.cls ∈ lw_tbl := List.mem_of_getElem? (i := 54) (by decide +kernel)
theorem mok_5 : MOK 5 2 := ⟨wd_61, wd_62, by decide +kernel, by decide +kernel, by decide +kernel, by decide +kernel⟩
theorem wd_63 : Cond.static (mt 5).1 ∈ lw_tbl := List.mem_of_getElem? (i := 717) (by decide +kernel)
theorem wd_64 : Cond.methodLink RX0 66 (mt 6).1 ∈ lw_tbl := List.mem_of_getElem? (i := 723) (by decide +kernel)
theorem wd_65 : Cond.code (mt 6).1 (mt 6).2.1 (mt 6).2.2.1 (mt 6).2.2.2 ∈ lw_tbl := List.mem_of_getElem? (i := 725) (by decide +kernel)
theorem wd_66 : Cond.initialized (mt 6).1.cls ∈ lw_tbl := List.mem_of_getElem? (i := 54) (by decide +kernel)
theorem mok_6 : MOK 6 2 := ⟨wd_65, wd_66, by decide +kernel, by decide +kernel, by decide +kernel, by decide +kernel⟩
theorem wd_67 : Cond.static (mt 6).1 ∈ lw_tbl := List.mem_of_getElem? (i := 724) (by decide +kernel)
theorem wd_68 : Cond.constantLong RX0 70 7919 ∈ lw_tbl := List.mem_of_getElem? (i := 719) (by decide +kernel)
theorem wd_69 : Cond.constantLong RX0 72 6151 ∈ lw_tbl := List.mem_of_getElem? (i := 720) (by decide +kernel)
theorem wd_70 : Cond.constantLong RX0 74 65521 ∈ lw_tbl := List.mem_of_getElem? (i := 721) (by decide +kernel)
theorem wd_71 : Cond.constantLong RX0 76 2 ∈ lw_tbl := List.mem_of_getElem? (i := 722) (by decide +kernel)
theorem wd_72 : Cond.methodLink RX0 78 (mt 7).1 ∈ lw_tbl := List.mem_of_getElem? (i := 726) (by decide +kernel)
theorem wd_73 : Cond.code (mt 7).1 (mt 7).2.1 (mt 7).2.2.1 (mt 7).2.2.2 ∈ lw_tbl := List.mem_of_getElem? (i := 728) (by decide +kernel)
theorem wd_74 : Cond.initialized (mt 7).1.cls ∈ lw_tbl := List.mem_of_getElem? (i := 54) (by decide +kernel)
theorem mok_7 : MOK 7 2 := ⟨wd_73, wd_74, by decide +kernel, by decide +kernel, by decide +kernel, by decide +kernel⟩
theorem wd_75 : Cond.static (mt 7).1 ∈ lw_tbl := List.mem_of_getElem? (i := 727) (by decide +kernel)
theorem wd_76 : Cond.methodLink RX0 81 (mt 26).1 ∈ lw_tbl := List.mem_of_getElem? (i := 729) (by decide +kernel)
theorem wd_77 : Cond.code (mt 26).1 (mt 26).2.1 (mt 26).2.2.1 (mt 26).2.2.2 ∈ lw_tbl := List.mem_of_getElem? (i := 588) (by decide +kernel)
theorem wd_78 : Cond.initialized (mt 26).1.cls ∈ lw_tbl := List.mem_of_getElem? (i := 49) (by decide +kernel)
theorem mok_26 : MOK 26 0 := ⟨wd_77, wd_78, by decide +kernel, by decide +kernel, by decide +kernel, by decide +kernel⟩
theorem wd_79 : Cond.instanceMethod (mt 26).1 ∈ lw_tbl := List.mem_of_getElem? (i := 586) (by decide +kernel)
theorem wd_80 : Cond.selects (mt 26).1.cls (mt 26).1 (mt 26).1 ∈ lw_tbl := List.mem_of_getElem? (i := 587) (by decide +kernel)
theorem wd_81 : Cond.methodLink RX0 84 (mt 31).1 ∈ lw_tbl := List.mem_of_getElem? (i := 730) (by decide +kernel)
theorem wd_82 : Cond.code (mt 31).1 (mt 31).2.1 (mt 31).2.2.1 (mt 31).2.2.2 ∈ lw_tbl := List.mem_of_getElem? (i := 288) (by decide +kernel)
theorem wd_83 : Cond.initialized (mt 31).1.cls ∈ lw_tbl := List.mem_of_getElem? (i := 49) (by decide +kernel)
theorem mok_31 : MOK 31 3 := ⟨wd_82, wd_83, by decide +kernel, by decide +kernel, by decide +kernel, by decide +kernel⟩
theorem wd_84 : Cond.instanceMethod (mt 31).1 ∈ lw_tbl := List.mem_of_getElem? (i := 286) (by decide +kernel)
theorem wd_85 : Cond.selects (mt 31).1.cls (mt 31).1 (mt 31).1 ∈ lw_tbl := List.mem_of_getElem? (i := 287) (by decide +kernel)
theorem wd_86 : Cond.methodLink RX0 88 (mt 36).1 ∈ lw_tbl := List.mem_of_getElem? (i := 731) (by decide +kernel)
theorem wd_87 : Cond.code (mt 36).1 (mt 36).2.1 (mt 36).2.2.1 (mt 36).2.2.2 ∈ lw_tbl := List.mem_of_getElem? (i := 304) (by decide +kernel)
theorem wd_88 : Cond.initialized (mt 36).1.cls ∈ lw_tbl := List.mem_of_getElem? (i := 49) (by decide +kernel)
theorem mok_36 : MOK 36 1 := ⟨wd_87, wd_88, by decide +kernel, by decide +kernel, by decide +kernel, by decide +kernel⟩
theorem wd_89 : Cond.instanceMethod (mt 36).1 ∈ lw_tbl := List.mem_of_getElem? (i := 302) (by decide +kernel)
theorem wd_90 : Cond.selects (mt 36).1.cls (mt 36).1 (mt 36).1 ∈ lw_tbl := List.mem_of_getElem? (i := 303) (by decide +kernel)
theorem wd_91 : Cond.methodLink RX1 3 objectInit ∈ lw_tbl := List.mem_of_getElem? (i := 76) (by decide +kernel)
theorem wd_92 : Cond.arrayClass .int ∈ lw_tbl := List.mem_of_getElem? (i := 84) (by decide +kernel)
theorem wd_93 : Cond.fieldLink RX1 9 (TX1 0).1 (TX1 0).2.1 (TX1 0).2.2.1 ∈ lw_tbl := List.mem_of_getElem? (i := 77) (by decide +kernel)
theorem inw_1 : ∀ w ∈ u_ws RX1 TX1 2, w ∈ gtbl := by
  have e : u_ws RX1 TX1 2 = [79, 81].filterMap (fun i => lw_tbl[i]?) := by decide +kernel
  have g : (u_ws RX1 TX1 2).all goodWord = true := by decide +kernel
  intro w hw
  refine gt_in ?_ (List.all_eq_true.mp g w hw)
  rw [e] at hw
  obtain ⟨i, -, hi⟩ := List.mem_filterMap.mp hw
  exact List.mem_of_getElem? hi
theorem fl_1_9 : Fld 1 0 RX1 9 true (.array .int) := ⟨RX1, TX1, 2, tyX1, rfl, by decide, wd_93, inw_1, tyX1_ok, nmX1, rfl, rfl, by decide +kernel⟩
theorem wd_94 : Cond.fieldLink RX1 15 (TX1 1).1 (TX1 1).2.1 (TX1 1).2.2.1 ∈ lw_tbl := List.mem_of_getElem? (i := 78) (by decide +kernel)
theorem fl_1_15 : Fld 1 1 RX1 15 false (.int) := ⟨RX1, TX1, 2, tyX1, rfl, by decide, wd_94, inw_1, tyX1_ok, nmX1, rfl, rfl, by decide +kernel⟩
theorem wd_95 : Cond.methodLink RX1 19 (mt 21).1 ∈ lw_tbl := List.mem_of_getElem? (i := 241) (by decide +kernel)
theorem wd_96 : Cond.code (mt 21).1 (mt 21).2.1 (mt 21).2.2.1 (mt 21).2.2.2 ∈ lw_tbl := List.mem_of_getElem? (i := 244) (by decide +kernel)
theorem wd_97 : Cond.initialized (mt 21).1.cls ∈ lw_tbl := List.mem_of_getElem? (i := 49) (by decide +kernel)
theorem mok_21 : MOK 21 0 := ⟨wd_96, wd_97, by decide +kernel, by decide +kernel, by decide +kernel, by decide +kernel⟩
theorem wd_98 : Cond.instanceMethod (mt 21).1 ∈ lw_tbl := List.mem_of_getElem? (i := 242) (by decide +kernel)
theorem wd_99 : Cond.selects (mt 21).1.cls (mt 21).1 (mt 21).1 ∈ lw_tbl := List.mem_of_getElem? (i := 243) (by decide +kernel)
theorem wd_100 : Cond.methodLink RX1 24 (mt 13).1 ∈ lw_tbl := List.mem_of_getElem? (i := 248) (by decide +kernel)
theorem wd_101 : Cond.code (mt 13).1 (mt 13).2.1 (mt 13).2.2.1 (mt 13).2.2.2 ∈ lw_tbl := List.mem_of_getElem? (i := 251) (by decide +kernel)
theorem wd_102 : Cond.initialized (mt 13).1.cls ∈ lw_tbl := List.mem_of_getElem? (i := 48) (by decide +kernel)
theorem mok_13 : MOK 13 2 := ⟨wd_101, wd_102, by decide +kernel, by decide +kernel, by decide +kernel, by decide +kernel⟩
theorem wd_103 : Cond.instanceMethod (mt 13).1 ∈ lw_tbl := List.mem_of_getElem? (i := 250) (by decide +kernel)
theorem wd_104 : Cond.selects (mt 13).1.cls (mt 13).1 (mt 13).1 ∈ lw_tbl := List.mem_of_getElem? (i := 0) (by decide +kernel)
theorem wd_105 : Cond.methodLink RX1 28 (mt 19).1 ∈ lw_tbl := List.mem_of_getElem? (i := 252) (by decide +kernel)
theorem wd_106 : Cond.code (mt 19).1 (mt 19).2.1 (mt 19).2.2.1 (mt 19).2.2.2 ∈ lw_tbl := List.mem_of_getElem? (i := 255) (by decide +kernel)
theorem wd_107 : Cond.initialized (mt 19).1.cls ∈ lw_tbl := List.mem_of_getElem? (i := 48) (by decide +kernel)
theorem mok_19 : MOK 19 1 := ⟨wd_106, wd_107, by decide +kernel, by decide +kernel, by decide +kernel, by decide +kernel⟩
theorem wd_108 : Cond.instanceMethod (mt 19).1 ∈ lw_tbl := List.mem_of_getElem? (i := 254) (by decide +kernel)
theorem wd_109 : Cond.selects (mt 19).1.cls (mt 19).1 (mt 19).1 ∈ lw_tbl := List.mem_of_getElem? (i := 1) (by decide +kernel)
theorem wd_110 : Cond.methodLink RX1 32 (mt 14).1 ∈ lw_tbl := List.mem_of_getElem? (i := 256) (by decide +kernel)
theorem wd_111 : Cond.code (mt 14).1 (mt 14).2.1 (mt 14).2.2.1 (mt 14).2.2.2 ∈ lw_tbl := List.mem_of_getElem? (i := 259) (by decide +kernel)
theorem wd_112 : Cond.initialized (mt 14).1.cls ∈ lw_tbl := List.mem_of_getElem? (i := 48) (by decide +kernel)
theorem mok_14 : MOK 14 2 := ⟨wd_111, wd_112, by decide +kernel, by decide +kernel, by decide +kernel, by decide +kernel⟩
theorem wd_113 : Cond.instanceMethod (mt 14).1 ∈ lw_tbl := List.mem_of_getElem? (i := 258) (by decide +kernel)
theorem wd_114 : Cond.selects (mt 14).1.cls (mt 14).1 (mt 14).1 ∈ lw_tbl := List.mem_of_getElem? (i := 2) (by decide +kernel)
theorem wd_115 : Cond.methodLink RX1 35 (mt 15).1 ∈ lw_tbl := List.mem_of_getElem? (i := 289) (by decide +kernel)
theorem wd_116 : Cond.code (mt 15).1 (mt 15).2.1 (mt 15).2.2.1 (mt 15).2.2.2 ∈ lw_tbl := List.mem_of_getElem? (i := 292) (by decide +kernel)
theorem wd_117 : Cond.initialized (mt 15).1.cls ∈ lw_tbl := List.mem_of_getElem? (i := 48) (by decide +kernel)
theorem mok_15 : MOK 15 2 := ⟨wd_116, wd_117, by decide +kernel, by decide +kernel, by decide +kernel, by decide +kernel⟩
theorem wd_118 : Cond.instanceMethod (mt 15).1 ∈ lw_tbl := List.mem_of_getElem? (i := 291) (by decide +kernel)
theorem wd_119 : Cond.selects (mt 15).1.cls (mt 15).1 (mt 15).1 ∈ lw_tbl := List.mem_of_getElem? (i := 5) (by decide +kernel)
theorem wd_120 : Cond.methodLink RX1 38 (mt 16).1 ∈ lw_tbl := List.mem_of_getElem? (i := 305) (by decide +kernel)
theorem wd_121 : Cond.code (mt 16).1 (mt 16).2.1 (mt 16).2.2.1 (mt 16).2.2.2 ∈ lw_tbl := List.mem_of_getElem? (i := 308) (by decide +kernel)
theorem wd_122 : Cond.initialized (mt 16).1.cls ∈ lw_tbl := List.mem_of_getElem? (i := 48) (by decide +kernel)
theorem mok_16 : MOK 16 2 := ⟨wd_121, wd_122, by decide +kernel, by decide +kernel, by decide +kernel, by decide +kernel⟩
theorem wd_123 : Cond.instanceMethod (mt 16).1 ∈ lw_tbl := List.mem_of_getElem? (i := 307) (by decide +kernel)
theorem wd_124 : Cond.selects (mt 16).1.cls (mt 16).1 (mt 16).1 ∈ lw_tbl := List.mem_of_getElem? (i := 6) (by decide +kernel)
theorem wd_125 : Cond.methodLink RX1 41 (mt 18).1 ∈ lw_tbl := List.mem_of_getElem? (i := 260) (by decide +kernel)
theorem wd_126 : Cond.code (mt 18).1 (mt 18).2.1 (mt 18).2.2.1 (mt 18).2.2.2 ∈ lw_tbl := List.mem_of_getElem? (i := 263) (by decide +kernel)
theorem wd_127 : Cond.initialized (mt 18).1.cls ∈ lw_tbl := List.mem_of_getElem? (i := 48) (by decide +kernel)
theorem mok_18 : MOK 18 1 := ⟨wd_126, wd_127, by decide +kernel, by decide +kernel, by decide +kernel, by decide +kernel⟩
theorem wd_128 : Cond.instanceMethod (mt 18).1 ∈ lw_tbl := List.mem_of_getElem? (i := 262) (by decide +kernel)
theorem wd_129 : Cond.selects (mt 18).1.cls (mt 18).1 (mt 18).1 ∈ lw_tbl := List.mem_of_getElem? (i := 3) (by decide +kernel)
theorem wd_130 : Cond.methodLink RX1 44 (mt 17).1 ∈ lw_tbl := List.mem_of_getElem? (i := 267) (by decide +kernel)
theorem wd_131 : Cond.code (mt 17).1 (mt 17).2.1 (mt 17).2.2.1 (mt 17).2.2.2 ∈ lw_tbl := List.mem_of_getElem? (i := 270) (by decide +kernel)
theorem wd_132 : Cond.initialized (mt 17).1.cls ∈ lw_tbl := List.mem_of_getElem? (i := 48) (by decide +kernel)
theorem mok_17 : MOK 17 1 := ⟨wd_131, wd_132, by decide +kernel, by decide +kernel, by decide +kernel, by decide +kernel⟩
theorem wd_133 : Cond.instanceMethod (mt 17).1 ∈ lw_tbl := List.mem_of_getElem? (i := 269) (by decide +kernel)
theorem wd_134 : Cond.selects (mt 17).1.cls (mt 17).1 (mt 17).1 ∈ lw_tbl := List.mem_of_getElem? (i := 4) (by decide +kernel)
theorem wd_135 : Cond.code (mt 114).1 (mt 114).2.1 (mt 114).2.2.1 (mt 114).2.2.2 ∈ lw_tbl := List.mem_of_getElem? (i := 266) (by decide +kernel)
theorem wd_136 : Cond.initialized (mt 114).1.cls ∈ lw_tbl := List.mem_of_getElem? (i := 47) (by decide +kernel)
theorem mok_114 : MOK 114 3 := ⟨wd_135, wd_136, by decide +kernel, by decide +kernel, by decide +kernel, by decide +kernel⟩
theorem wd_137 : Cond.static (mt 114).1 ∈ lw_tbl := List.mem_of_getElem? (i := 265) (by decide +kernel)
theorem wd_138 : Cond.methodLink RX1 51 (mt 23).1 ∈ lw_tbl := List.mem_of_getElem? (i := 271) (by decide +kernel)
theorem wd_139 : Cond.code (mt 23).1 (mt 23).2.1 (mt 23).2.2.1 (mt 23).2.2.2 ∈ lw_tbl := List.mem_of_getElem? (i := 274) (by decide +kernel)
theorem wd_140 : Cond.initialized (mt 23).1.cls ∈ lw_tbl := List.mem_of_getElem? (i := 49) (by decide +kernel)
theorem mok_23 : MOK 23 1 := ⟨wd_139, wd_140, by decide +kernel, by decide +kernel, by decide +kernel, by decide +kernel⟩
theorem wd_141 : Cond.instanceMethod (mt 23).1 ∈ lw_tbl := List.mem_of_getElem? (i := 272) (by decide +kernel)
theorem wd_142 : Cond.selects (mt 23).1.cls (mt 23).1 (mt 23).1 ∈ lw_tbl := List.mem_of_getElem? (i := 273) (by decide +kernel)
theorem wd_143 : Cond.methodLink RX1 55 (mt 24).1 ∈ lw_tbl := List.mem_of_getElem? (i := 276) (by decide +kernel)
theorem wd_144 : Cond.code (mt 24).1 (mt 24).2.1 (mt 24).2.2.1 (mt 24).2.2.2 ∈ lw_tbl := List.mem_of_getElem? (i := 279) (by decide +kernel)
theorem wd_145 : Cond.initialized (mt 24).1.cls ∈ lw_tbl := List.mem_of_getElem? (i := 49) (by decide +kernel)
theorem mok_24 : MOK 24 2 := ⟨wd_144, wd_145, by decide +kernel, by decide +kernel, by decide +kernel, by decide +kernel⟩
theorem wd_146 : Cond.instanceMethod (mt 24).1 ∈ lw_tbl := List.mem_of_getElem? (i := 277) (by decide +kernel)
theorem wd_147 : Cond.selects (mt 24).1.cls (mt 24).1 (mt 24).1 ∈ lw_tbl := List.mem_of_getElem? (i := 278) (by decide +kernel)
theorem wd_148 : Cond.methodLink RX1 59 (mt 27).1 ∈ lw_tbl := List.mem_of_getElem? (i := 281) (by decide +kernel)
theorem wd_149 : Cond.methodLink RX1 63 (mt 31).1 ∈ lw_tbl := List.mem_of_getElem? (i := 285) (by decide +kernel)
theorem wd_150 : Cond.methodLink RX1 67 (mt 28).1 ∈ lw_tbl := List.mem_of_getElem? (i := 293) (by decide +kernel)
theorem wd_151 : Cond.code (mt 28).1 (mt 28).2.1 (mt 28).2.2.1 (mt 28).2.2.2 ∈ lw_tbl := List.mem_of_getElem? (i := 296) (by decide +kernel)
theorem wd_152 : Cond.initialized (mt 28).1.cls ∈ lw_tbl := List.mem_of_getElem? (i := 49) (by decide +kernel)
theorem mok_28 : MOK 28 1 := ⟨wd_151, wd_152, by decide +kernel, by decide +kernel, by decide +kernel, by decide +kernel⟩
theorem wd_153 : Cond.instanceMethod (mt 28).1 ∈ lw_tbl := List.mem_of_getElem? (i := 294) (by decide +kernel)
theorem wd_154 : Cond.selects (mt 28).1.cls (mt 28).1 (mt 28).1 ∈ lw_tbl := List.mem_of_getElem? (i := 295) (by decide +kernel)
theorem wd_155 : Cond.methodLink RX1 70 (mt 35).1 ∈ lw_tbl := List.mem_of_getElem? (i := 297) (by decide +kernel)
theorem wd_156 : Cond.code (mt 35).1 (mt 35).2.1 (mt 35).2.2.1 (mt 35).2.2.2 ∈ lw_tbl := List.mem_of_getElem? (i := 300) (by decide +kernel)
theorem wd_157 : Cond.initialized (mt 35).1.cls ∈ lw_tbl := List.mem_of_getElem? (i := 49) (by decide +kernel)
theorem mok_35 : MOK 35 1 := ⟨wd_156, wd_157, by decide +kernel, by decide +kernel, by decide +kernel, by decide +kernel⟩
theorem wd_158 : Cond.instanceMethod (mt 35).1 ∈ lw_tbl := List.mem_of_getElem? (i := 298) (by decide +kernel)
theorem wd_159 : Cond.selects (mt 35).1.cls (mt 35).1 (mt 35).1 ∈ lw_tbl := List.mem_of_getElem? (i := 299) (by decide +kernel)
theorem wd_160 : Cond.methodLink RX1 73 (mt 36).1 ∈ lw_tbl := List.mem_of_getElem? (i := 301) (by decide +kernel)
theorem wd_161 : Cond.methodLink RX1 77 (mt 29).1 ∈ lw_tbl := List.mem_of_getElem? (i := 309) (by decide +kernel)
theorem wd_162 : Cond.code (mt 29).1 (mt 29).2.1 (mt 29).2.2.1 (mt 29).2.2.2 ∈ lw_tbl := List.mem_of_getElem? (i := 312) (by decide +kernel)
theorem wd_163 : Cond.initialized (mt 29).1.cls ∈ lw_tbl := List.mem_of_getElem? (i := 49) (by decide +kernel)
theorem mok_29 : MOK 29 1 := ⟨wd_162, wd_163, by decide +kernel, by decide +kernel, by decide +kernel, by decide +kernel⟩
theorem wd_164 : Cond.instanceMethod (mt 29).1 ∈ lw_tbl := List.mem_of_getElem? (i := 310) (by decide +kernel)
theorem wd_165 : Cond.selects (mt 29).1.cls (mt 29).1 (mt 29).1 ∈ lw_tbl := List.mem_of_getElem? (i := 311) (by decide +kernel)
theorem wd_166 : Cond.code (mt 113).1 (mt 113).2.1 (mt 113).2.2.1 (mt 113).2.2.2 ∈ lw_tbl := List.mem_of_getElem? (i := 315) (by decide +kernel)
theorem wd_167 : Cond.initialized (mt 113).1.cls ∈ lw_tbl := List.mem_of_getElem? (i := 47) (by decide +kernel)
theorem mok_113 : MOK 113 1 := ⟨wd_166, wd_167, by decide +kernel, by decide +kernel, by decide +kernel, by decide +kernel⟩
theorem wd_168 : Cond.static (mt 113).1 ∈ lw_tbl := List.mem_of_getElem? (i := 314) (by decide +kernel)
theorem wd_169 : Cond.methodLink RX1 83 (mt 39).1 ∈ lw_tbl := List.mem_of_getElem? (i := 317) (by decide +kernel)
theorem wd_170 : Cond.code (mt 39).1 (mt 39).2.1 (mt 39).2.2.1 (mt 39).2.2.2 ∈ lw_tbl := List.mem_of_getElem? (i := 320) (by decide +kernel)
theorem wd_171 : Cond.initialized (mt 39).1.cls ∈ lw_tbl := List.mem_of_getElem? (i := 49) (by decide +kernel)
theorem mok_39 : MOK 39 2 := ⟨wd_170, wd_171, by decide +kernel, by decide +kernel, by decide +kernel, by decide +kernel⟩
theorem wd_172 : Cond.instanceMethod (mt 39).1 ∈ lw_tbl := List.mem_of_getElem? (i := 318) (by decide +kernel)
theorem wd_173 : Cond.selects (mt 39).1.cls (mt 39).1 (mt 39).1 ∈ lw_tbl := List.mem_of_getElem? (i := 319) (by decide +kernel)
theorem wd_174 : Cond.methodLink RX2 3 objectInit ∈ lw_tbl := List.mem_of_getElem? (i := 90) (by decide +kernel)
theorem wd_175 : Cond.fieldLink RX2 9 (TX2 0).1 (TX2 0).2.1 (TX2 0).2.2.1 ∈ lw_tbl := List.mem_of_getElem? (i := 91) (by decide +kernel)
theorem fl_2_9 : Fld 2 0 RX2 9 true (.array .int) := ⟨RX2, TX2, 7, tyX2, rfl, by decide, wd_175, inw_2, tyX2_ok, nmX2, rfl, rfl, by decide +kernel⟩
theorem wd_176 : Cond.fieldLink RX2 15 (TX2 1).1 (TX2 1).2.1 (TX2 1).2.2.1 ∈ lw_tbl := List.mem_of_getElem? (i := 92) (by decide +kernel)
theorem fl_2_15 : Fld 2 1 RX2 15 true (.array .int) := ⟨RX2, TX2, 7, tyX2, rfl, by decide, wd_176, inw_2, tyX2_ok, nmX2, rfl, rfl, by decide +kernel⟩
theorem wd_177 : Cond.fieldLink RX2 18 (TX2 2).1 (TX2 2).2.1 (TX2 2).2.2.1 ∈ lw_tbl := List.mem_of_getElem? (i := 93) (by decide +kernel)
theorem fl_2_18 : Fld 2 2 RX2 18 true (.array .int) := ⟨RX2, TX2, 7, tyX2, rfl, by decide, wd_177, inw_2, tyX2_ok, nmX2, rfl, rfl, by decide +kernel⟩
theorem wd_178 : Cond.fieldLink RX2 21 (TX2 3).1 (TX2 3).2.1 (TX2 3).2.2.1 ∈ lw_tbl := List.mem_of_getElem? (i := 94) (by decide +kernel)
theorem fl_2_21 : Fld 2 3 RX2 21 false (.int) := ⟨RX2, TX2, 7, tyX2, rfl, by decide, wd_178, inw_2, tyX2_ok, nmX2, rfl, rfl, by decide +kernel⟩
theorem wd_179 : Cond.fieldLink RX2 25 (TX2 4).1 (TX2 4).2.1 (TX2 4).2.2.1 ∈ lw_tbl := List.mem_of_getElem? (i := 95) (by decide +kernel)
theorem fl_2_25 : Fld 2 4 RX2 25 false (.int) := ⟨RX2, TX2, 7, tyX2, rfl, by decide, wd_179, inw_2, tyX2_ok, nmX2, rfl, rfl, by decide +kernel⟩
theorem wd_180 : Cond.fieldLink RX2 28 (TX2 5).1 (TX2 5).2.1 (TX2 5).2.2.1 ∈ lw_tbl := List.mem_of_getElem? (i := 96) (by decide +kernel)
theorem fl_2_28 : Fld 2 5 RX2 28 false (.int) := ⟨RX2, TX2, 7, tyX2, rfl, by decide, wd_180, inw_2, tyX2_ok, nmX2, rfl, rfl, by decide +kernel⟩
theorem wd_181 : Cond.fieldLink RX2 31 (TX2 6).1 (TX2 6).2.1 (TX2 6).2.2.1 ∈ lw_tbl := List.mem_of_getElem? (i := 97) (by decide +kernel)
theorem fl_2_31 : Fld 2 6 RX2 31 false (.int) := ⟨RX2, TX2, 7, tyX2, rfl, by decide, wd_181, inw_2, tyX2_ok, nmX2, rfl, rfl, by decide +kernel⟩
theorem wd_182 : Cond.methodLink RX2 34 (mt 182).1 ∈ lw_tbl := List.mem_of_getElem? (i := 245) (by decide +kernel)
theorem wd_183 : Cond.code (mt 182).1 (mt 182).2.1 (mt 182).2.2.1 (mt 182).2.2.2 ∈ lw_tbl := List.mem_of_getElem? (i := 247) (by decide +kernel)
theorem wd_184 : Cond.initialized (mt 182).1.cls ∈ lw_tbl := List.mem_of_getElem? (i := 59) (by decide +kernel)
theorem mok_182 : MOK 182 2 := ⟨wd_183, wd_184, by decide +kernel, by decide +kernel, by decide +kernel, by decide +kernel⟩
theorem wd_185 : Cond.static (mt 182).1 ∈ lw_tbl := List.mem_of_getElem? (i := 246) (by decide +kernel)
theorem wd_186 : Cond.methodLink RX2 40 arraycopyName ∈ lw_tbl := List.mem_of_getElem? (i := 380) (by decide +kernel)
theorem wd_187 : Cond.native arraycopyName ∈ lw_tbl := List.mem_of_getElem? (i := 382) (by decide +kernel)
theorem wd_188 : Cond.static arraycopyName ∈ lw_tbl := List.mem_of_getElem? (i := 381) (by decide +kernel)
theorem wd_189 : Cond.initialized "java/lang/System" ∈ lw_tbl := List.mem_of_getElem? (i := 61) (by decide +kernel)
theorem wd_190 : Cond.methodLink RX2 50 (mt 23).1 ∈ lw_tbl := List.mem_of_getElem? (i := 280) (by decide +kernel)
theorem wd_191 : Cond.methodLink RX2 54 (mt 31).1 ∈ lw_tbl := List.mem_of_getElem? (i := 468) (by decide +kernel)
theorem wd_192 : Cond.methodLink RX2 58 (mt 28).1 ∈ lw_tbl := List.mem_of_getElem? (i := 409) (by decide +kernel)
theorem wd_193 : Cond.methodLink RX2 61 (mt 181).1 ∈ lw_tbl := List.mem_of_getElem? (i := 500) (by decide +kernel)
theorem wd_194 : Cond.methodLink RX2 67 (mt 29).1 ∈ lw_tbl := List.mem_of_getElem? (i := 321) (by decide +kernel)
theorem wd_195 : Cond.methodLink RX2 70 (mt 30).1 ∈ lw_tbl := List.mem_of_getElem? (i := 464) (by decide +kernel)
theorem wd_196 : Cond.methodLink RX2 74 (mt 35).1 ∈ lw_tbl := List.mem_of_getElem? (i := 451) (by decide +kernel)
theorem wd_197 : Cond.methodLink RX2 77 (mt 47).1 ∈ lw_tbl := List.mem_of_getElem? (i := 452) (by decide +kernel)
theorem wd_198 : Cond.code (mt 47).1 (mt 47).2.1 (mt 47).2.2.1 (mt 47).2.2.2 ∈ lw_tbl := List.mem_of_getElem? (i := 455) (by decide +kernel)
theorem wd_199 : Cond.initialized (mt 47).1.cls ∈ lw_tbl := List.mem_of_getElem? (i := 49) (by decide +kernel)
theorem mok_47 : MOK 47 1 := ⟨wd_198, wd_199, by decide +kernel, by decide +kernel, by decide +kernel, by decide +kernel⟩
theorem wd_200 : Cond.instanceMethod (mt 47).1 ∈ lw_tbl := List.mem_of_getElem? (i := 454) (by decide +kernel)
theorem wd_201 : Cond.selects (mt 47).1.cls (mt 47).1 (mt 47).1 ∈ lw_tbl := List.mem_of_getElem? (i := 8) (by decide +kernel)
theorem wd_202 : Cond.methodLink RX2 80 (mt 45).1 ∈ lw_tbl := List.mem_of_getElem? (i := 447) (by decide +kernel)
theorem wd_203 : Cond.methodLink RX2 84 (mt 48).1 ∈ lw_tbl := List.mem_of_getElem? (i := 456) (by decide +kernel)
theorem wd_204 : Cond.code (mt 48).1 (mt 48).2.1 (mt 48).2.2.1 (mt 48).2.2.2 ∈ lw_tbl := List.mem_of_getElem? (i := 459) (by decide +kernel)
theorem wd_205 : Cond.initialized (mt 48).1.cls ∈ lw_tbl := List.mem_of_getElem? (i := 49) (by decide +kernel)
theorem mok_48 : MOK 48 2 := ⟨wd_204, wd_205, by decide +kernel, by decide +kernel, by decide +kernel, by decide +kernel⟩
theorem wd_206 : Cond.instanceMethod (mt 48).1 ∈ lw_tbl := List.mem_of_getElem? (i := 458) (by decide +kernel)
theorem wd_207 : Cond.selects (mt 48).1.cls (mt 48).1 (mt 48).1 ∈ lw_tbl := List.mem_of_getElem? (i := 9) (by decide +kernel)
theorem wd_208 : Cond.methodLink RX2 87 (mt 50).1 ∈ lw_tbl := List.mem_of_getElem? (i := 460) (by decide +kernel)
theorem wd_209 : Cond.code (mt 50).1 (mt 50).2.1 (mt 50).2.2.1 (mt 50).2.2.2 ∈ lw_tbl := List.mem_of_getElem? (i := 463) (by decide +kernel)
theorem wd_210 : Cond.initialized (mt 50).1.cls ∈ lw_tbl := List.mem_of_getElem? (i := 49) (by decide +kernel)
theorem mok_50 : MOK 50 1 := ⟨wd_209, wd_210, by decide +kernel, by decide +kernel, by decide +kernel, by decide +kernel⟩
theorem wd_211 : Cond.instanceMethod (mt 50).1 ∈ lw_tbl := List.mem_of_getElem? (i := 462) (by decide +kernel)
theorem wd_212 : Cond.selects (mt 50).1.cls (mt 50).1 (mt 50).1 ∈ lw_tbl := List.mem_of_getElem? (i := 10) (by decide +kernel)
theorem wd_213 : Cond.methodLink RX2 90 (mt 49).1 ∈ lw_tbl := List.mem_of_getElem? (i := 465) (by decide +kernel)
theorem wd_214 : Cond.code (mt 49).1 (mt 49).2.1 (mt 49).2.2.1 (mt 49).2.2.2 ∈ lw_tbl := List.mem_of_getElem? (i := 467) (by decide +kernel)
theorem wd_215 : Cond.initialized (mt 49).1.cls ∈ lw_tbl := List.mem_of_getElem? (i := 49) (by decide +kernel)
theorem mok_49 : MOK 49 2 := ⟨wd_214, wd_215, by decide +kernel, by decide +kernel, by decide +kernel, by decide +kernel⟩
theorem wd_216 : Cond.static (mt 49).1 ∈ lw_tbl := List.mem_of_getElem? (i := 466) (by decide +kernel)
theorem wd_217 : Cond.methodLink RX3 3 objectInit ∈ lw_tbl := List.mem_of_getElem? (i := 159) (by decide +kernel)
theorem wd_218 : Cond.classLink RX3 9 RX2 ∈ lw_tbl := List.mem_of_getElem? (i := 160) (by decide +kernel)
theorem cl_3_9 : Cls 2 RX3 9 7 [.null, .null, .null, .int 0, .int 0, .int 0, .int 0] := ⟨RX2, TX2, tyX2, rfl, wd_218, wd_4, wd_5, inw_2, tyX2_ok, by decide +kernel, fun _ _ => rfl⟩
theorem wd_219 : Cond.fieldLink RX3 12 (TX3 0).1 (TX3 0).2.1 (TX3 0).2.2.1 ∈ lw_tbl := List.mem_of_getElem? (i := 162) (by decide +kernel)
theorem inw_3 : ∀ w ∈ u_ws RX3 TX3 3, w ∈ gtbl := by
  have e : u_ws RX3 TX3 3 = [165, 167, 169].filterMap (fun i => lw_tbl[i]?) := by decide +kernel
  have g : (u_ws RX3 TX3 3).all goodWord = true := by decide +kernel
  intro w hw
  refine gt_in ?_ (List.all_eq_true.mp g w hw)
  rw [e] at hw
  obtain ⟨i, -, hi⟩ := List.mem_filterMap.mp hw
  exact List.mem_of_getElem? hi
theorem fl_3_12 : Fld 3 0 RX3 12 true (.object "DollsVote$Nursery") := ⟨RX3, TX3, 3, tyX3, rfl, by decide, wd_219, inw_3, tyX3_ok, nmX3, rfl, rfl, by decide +kernel⟩
theorem wd_220 : Cond.fieldLink RX3 18 (TX3 1).1 (TX3 1).2.1 (TX3 1).2.2.1 ∈ lw_tbl := List.mem_of_getElem? (i := 163) (by decide +kernel)
theorem fl_3_18 : Fld 3 1 RX3 18 true (.array .int) := ⟨RX3, TX3, 3, tyX3, rfl, by decide, wd_220, inw_3, tyX3_ok, nmX3, rfl, rfl, by decide +kernel⟩
theorem wd_221 : Cond.fieldLink RX3 22 (TX3 2).1 (TX3 2).2.1 (TX3 2).2.2.1 ∈ lw_tbl := List.mem_of_getElem? (i := 164) (by decide +kernel)
theorem fl_3_22 : Fld 3 2 RX3 22 true (.array .int) := ⟨RX3, TX3, 3, tyX3, rfl, by decide, wd_221, inw_3, tyX3_ok, nmX3, rfl, rfl, by decide +kernel⟩
theorem wd_222 : Cond.methodLink RX3 25 (mt 22).1 ∈ lw_tbl := List.mem_of_getElem? (i := 535) (by decide +kernel)
theorem wd_223 : Cond.methodLink RX3 29 (mt 46).1 ∈ lw_tbl := List.mem_of_getElem? (i := 536) (by decide +kernel)
theorem wd_224 : Cond.code (mt 46).1 (mt 46).2.1 (mt 46).2.2.1 (mt 46).2.2.2 ∈ lw_tbl := List.mem_of_getElem? (i := 446) (by decide +kernel)
theorem wd_225 : Cond.initialized (mt 46).1.cls ∈ lw_tbl := List.mem_of_getElem? (i := 49) (by decide +kernel)
theorem mok_46 : MOK 46 1 := ⟨wd_224, wd_225, by decide +kernel, by decide +kernel, by decide +kernel, by decide +kernel⟩
theorem wd_226 : Cond.instanceMethod (mt 46).1 ∈ lw_tbl := List.mem_of_getElem? (i := 444) (by decide +kernel)
theorem wd_227 : Cond.selects (mt 46).1.cls (mt 46).1 (mt 46).1 ∈ lw_tbl := List.mem_of_getElem? (i := 445) (by decide +kernel)
theorem wd_228 : Cond.methodLink RX3 33 (mt 30).1 ∈ lw_tbl := List.mem_of_getElem? (i := 537) (by decide +kernel)
theorem wd_229 : Cond.methodLink RX3 37 (mt 41).1 ∈ lw_tbl := List.mem_of_getElem? (i := 563) (by decide +kernel)
theorem wd_230 : Cond.code (mt 41).1 (mt 41).2.1 (mt 41).2.2.1 (mt 41).2.2.2 ∈ lw_tbl := List.mem_of_getElem? (i := 566) (by decide +kernel)
theorem wd_231 : Cond.initialized (mt 41).1.cls ∈ lw_tbl := List.mem_of_getElem? (i := 49) (by decide +kernel)
theorem mok_41 : MOK 41 0 := ⟨wd_230, wd_231, by decide +kernel, by decide +kernel, by decide +kernel, by decide +kernel⟩
theorem wd_232 : Cond.instanceMethod (mt 41).1 ∈ lw_tbl := List.mem_of_getElem? (i := 564) (by decide +kernel)
theorem wd_233 : Cond.selects (mt 41).1.cls (mt 41).1 (mt 41).1 ∈ lw_tbl := List.mem_of_getElem? (i := 565) (by decide +kernel)
theorem wd_234 : Cond.methodLink RX3 41 (mt 45).1 ∈ lw_tbl := List.mem_of_getElem? (i := 546) (by decide +kernel)
theorem wd_235 : Cond.methodLink RX3 45 (mt 27).1 ∈ lw_tbl := List.mem_of_getElem? (i := 575) (by decide +kernel)
theorem wd_236 : Cond.methodLink RX3 48 (mt 54).1 ∈ lw_tbl := List.mem_of_getElem? (i := 576) (by decide +kernel)
theorem wd_237 : Cond.code (mt 54).1 (mt 54).2.1 (mt 54).2.2.1 (mt 54).2.2.2 ∈ lw_tbl := List.mem_of_getElem? (i := 562) (by decide +kernel)
theorem wd_238 : Cond.initialized (mt 54).1.cls ∈ lw_tbl := List.mem_of_getElem? (i := 53) (by decide +kernel)
theorem mok_54 : MOK 54 2 := ⟨wd_237, wd_238, by decide +kernel, by decide +kernel, by decide +kernel, by decide +kernel⟩
theorem wd_239 : Cond.instanceMethod (mt 54).1 ∈ lw_tbl := List.mem_of_getElem? (i := 560) (by decide +kernel)
theorem wd_240 : Cond.selects (mt 54).1.cls (mt 54).1 (mt 54).1 ∈ lw_tbl := List.mem_of_getElem? (i := 561) (by decide +kernel)
theorem wd_241 : Cond.methodLink RX3 52 (mt 60).1 ∈ lw_tbl := List.mem_of_getElem? (i := 577) (by decide +kernel)
theorem wd_242 : Cond.code (mt 60).1 (mt 60).2.1 (mt 60).2.2.1 (mt 60).2.2.2 ∈ lw_tbl := List.mem_of_getElem? (i := 580) (by decide +kernel)
theorem wd_243 : Cond.initialized (mt 60).1.cls ∈ lw_tbl := List.mem_of_getElem? (i := 53) (by decide +kernel)
theorem mok_60 : MOK 60 3 := ⟨wd_242, wd_243, by decide +kernel, by decide +kernel, by decide +kernel, by decide +kernel⟩
theorem wd_244 : Cond.instanceMethod (mt 60).1 ∈ lw_tbl := List.mem_of_getElem? (i := 579) (by decide +kernel)
theorem wd_245 : Cond.selects (mt 60).1.cls (mt 60).1 (mt 60).1 ∈ lw_tbl := List.mem_of_getElem? (i := 12) (by decide +kernel)
theorem wd_246 : Cond.methodLink RX3 56 (mt 26).1 ∈ lw_tbl := List.mem_of_getElem? (i := 585) (by decide +kernel)
theorem wd_247 : Cond.methodLink RX3 59 (mt 51).1 ∈ lw_tbl := List.mem_of_getElem? (i := 589) (by decide +kernel)
theorem wd_248 : Cond.code (mt 51).1 (mt 51).2.1 (mt 51).2.2.1 (mt 51).2.2.2 ∈ lw_tbl := List.mem_of_getElem? (i := 592) (by decide +kernel)
theorem wd_249 : Cond.initialized (mt 51).1.cls ∈ lw_tbl := List.mem_of_getElem? (i := 49) (by decide +kernel)
theorem mok_51 : MOK 51 3 := ⟨wd_248, wd_249, by decide +kernel, by decide +kernel, by decide +kernel, by decide +kernel⟩
theorem wd_250 : Cond.instanceMethod (mt 51).1 ∈ lw_tbl := List.mem_of_getElem? (i := 590) (by decide +kernel)
theorem wd_251 : Cond.selects (mt 51).1.cls (mt 51).1 (mt 51).1 ∈ lw_tbl := List.mem_of_getElem? (i := 591) (by decide +kernel)
theorem wd_252 : Cond.methodLink RX3 63 (mt 38).1 ∈ lw_tbl := List.mem_of_getElem? (i := 593) (by decide +kernel)
theorem wd_253 : Cond.code (mt 38).1 (mt 38).2.1 (mt 38).2.2.1 (mt 38).2.2.2 ∈ lw_tbl := List.mem_of_getElem? (i := 418) (by decide +kernel)
theorem wd_254 : Cond.initialized (mt 38).1.cls ∈ lw_tbl := List.mem_of_getElem? (i := 49) (by decide +kernel)
theorem mok_38 : MOK 38 1 := ⟨wd_253, wd_254, by decide +kernel, by decide +kernel, by decide +kernel, by decide +kernel⟩
theorem wd_255 : Cond.instanceMethod (mt 38).1 ∈ lw_tbl := List.mem_of_getElem? (i := 416) (by decide +kernel)
theorem wd_256 : Cond.selects (mt 38).1.cls (mt 38).1 (mt 38).1 ∈ lw_tbl := List.mem_of_getElem? (i := 417) (by decide +kernel)
theorem wd_257 : Cond.methodLink RX3 67 (mt 64).1 ∈ lw_tbl := List.mem_of_getElem? (i := 594) (by decide +kernel)
theorem wd_258 : Cond.code (mt 64).1 (mt 64).2.1 (mt 64).2.2.1 (mt 64).2.2.2 ∈ lw_tbl := List.mem_of_getElem? (i := 596) (by decide +kernel)
theorem wd_259 : Cond.initialized (mt 64).1.cls ∈ lw_tbl := List.mem_of_getElem? (i := 53) (by decide +kernel)
theorem mok_64 : MOK 64 2 := ⟨wd_258, wd_259, by decide +kernel, by decide +kernel, by decide +kernel, by decide +kernel⟩
theorem wd_260 : Cond.static (mt 64).1 ∈ lw_tbl := List.mem_of_getElem? (i := 595) (by decide +kernel)
theorem wd_261 : Cond.methodLink RX3 71 (mt 58).1 ∈ lw_tbl := List.mem_of_getElem? (i := 597) (by decide +kernel)
theorem wd_262 : Cond.code (mt 58).1 (mt 58).2.1 (mt 58).2.2.1 (mt 58).2.2.2 ∈ lw_tbl := List.mem_of_getElem? (i := 600) (by decide +kernel)
theorem wd_263 : Cond.initialized (mt 58).1.cls ∈ lw_tbl := List.mem_of_getElem? (i := 53) (by decide +kernel)
theorem mok_58 : MOK 58 1 := ⟨wd_262, wd_263, by decide +kernel, by decide +kernel, by decide +kernel, by decide +kernel⟩
theorem wd_264 : Cond.instanceMethod (mt 58).1 ∈ lw_tbl := List.mem_of_getElem? (i := 599) (by decide +kernel)
theorem wd_265 : Cond.selects (mt 58).1.cls (mt 58).1 (mt 58).1 ∈ lw_tbl := List.mem_of_getElem? (i := 13) (by decide +kernel)
theorem wd_266 : Cond.methodLink RX3 74 (mt 25).1 ∈ lw_tbl := List.mem_of_getElem? (i := 609) (by decide +kernel)
theorem wd_267 : Cond.methodLink RX3 77 (mt 181).1 ∈ lw_tbl := List.mem_of_getElem? (i := 610) (by decide +kernel)
theorem wd_268 : Cond.methodLink RX3 82 (mt 32).1 ∈ lw_tbl := List.mem_of_getElem? (i := 581) (by decide +kernel)
theorem wd_269 : Cond.code (mt 32).1 (mt 32).2.1 (mt 32).2.2.1 (mt 32).2.2.2 ∈ lw_tbl := List.mem_of_getElem? (i := 584) (by decide +kernel)
theorem wd_270 : Cond.initialized (mt 32).1.cls ∈ lw_tbl := List.mem_of_getElem? (i := 49) (by decide +kernel)
theorem mok_32 : MOK 32 2 := ⟨wd_269, wd_270, by decide +kernel, by decide +kernel, by decide +kernel, by decide +kernel⟩
theorem wd_271 : Cond.instanceMethod (mt 32).1 ∈ lw_tbl := List.mem_of_getElem? (i := 582) (by decide +kernel)
theorem wd_272 : Cond.selects (mt 32).1.cls (mt 32).1 (mt 32).1 ∈ lw_tbl := List.mem_of_getElem? (i := 583) (by decide +kernel)
theorem wd_273 : Cond.methodLink RX3 86 (mt 35).1 ∈ lw_tbl := List.mem_of_getElem? (i := 619) (by decide +kernel)
theorem wd_274 : Cond.methodLink RX3 90 (mt 36).1 ∈ lw_tbl := List.mem_of_getElem? (i := 620) (by decide +kernel)
theorem wd_275 : Cond.methodLink RX3 93 (mt 63).1 ∈ lw_tbl := List.mem_of_getElem? (i := 673) (by decide +kernel)
theorem wd_276 : Cond.code (mt 63).1 (mt 63).2.1 (mt 63).2.2.1 (mt 63).2.2.2 ∈ lw_tbl := List.mem_of_getElem? (i := 676) (by decide +kernel)
theorem wd_277 : Cond.initialized (mt 63).1.cls ∈ lw_tbl := List.mem_of_getElem? (i := 53) (by decide +kernel)
theorem mok_63 : MOK 63 3 := ⟨wd_276, wd_277, by decide +kernel, by decide +kernel, by decide +kernel, by decide +kernel⟩
theorem wd_278 : Cond.instanceMethod (mt 63).1 ∈ lw_tbl := List.mem_of_getElem? (i := 675) (by decide +kernel)
theorem wd_279 : Cond.selects (mt 63).1.cls (mt 63).1 (mt 63).1 ∈ lw_tbl := List.mem_of_getElem? (i := 16) (by decide +kernel)
theorem wd_280 : Cond.methodLink RX3 96 (mt 182).1 ∈ lw_tbl := List.mem_of_getElem? (i := 677) (by decide +kernel)
theorem wd_281 : Cond.methodLink RX4 1 objectInit ∈ lw_tbl := List.mem_of_getElem? (i := 118) (by decide +kernel)
theorem wd_282 : Cond.methodLink RX4 7 Lib.Math.max.name ∈ lw_tbl := List.mem_of_getElem? (i := 119) (by decide +kernel)
theorem wd_283 : Cond.classLink RX4 13 RX2 ∈ lw_tbl := List.mem_of_getElem? (i := 122) (by decide +kernel)
theorem wd_284 : Cond.fieldLink RX4 15 (TX4 0).1 (TX4 0).2.1 (TX4 0).2.2.1 ∈ lw_tbl := List.mem_of_getElem? (i := 125) (by decide +kernel)
theorem inw_4 : ∀ w ∈ u_ws RX4 TX4 2, w ∈ gtbl := by
  have e : u_ws RX4 TX4 2 = [127, 129].filterMap (fun i => lw_tbl[i]?) := by decide +kernel
  have g : (u_ws RX4 TX4 2).all goodWord = true := by decide +kernel
  intro w hw
  refine gt_in ?_ (List.all_eq_true.mp g w hw)
  rw [e] at hw
  obtain ⟨i, -, hi⟩ := List.mem_filterMap.mp hw
  exact List.mem_of_getElem? hi
theorem fl_4_15 : Fld 4 0 RX4 15 true (.array (.object "DollsVote$Nursery")) := ⟨RX4, TX4, 2, tyX4, rfl, by decide, wd_284, inw_4, tyX4_ok, nmX4, rfl, rfl, by decide +kernel⟩
theorem cl_4_13 : Cls 2 RX4 13 7 [.null, .null, .null, .int 0, .int 0, .int 0, .int 0] := ⟨RX2, TX2, tyX2, rfl, wd_283, wd_4, wd_5, inw_2, tyX2_ok, by decide +kernel, fun _ _ => rfl⟩
theorem wd_285 : Cond.fieldLink RX4 22 (TX4 1).1 (TX4 1).2.1 (TX4 1).2.2.1 ∈ lw_tbl := List.mem_of_getElem? (i := 126) (by decide +kernel)
theorem fl_4_22 : Fld 4 1 RX4 22 false (.int) := ⟨RX4, TX4, 2, tyX4, rfl, by decide, wd_285, inw_4, tyX4_ok, nmX4, rfl, rfl, by decide +kernel⟩
theorem wd_286 : Cond.methodLink RX4 26 (mt 68).1 ∈ lw_tbl := List.mem_of_getElem? (i := 434) (by decide +kernel)
theorem wd_287 : Cond.code (mt 68).1 (mt 68).2.1 (mt 68).2.2.1 (mt 68).2.2.2 ∈ lw_tbl := List.mem_of_getElem? (i := 437) (by decide +kernel)
theorem wd_288 : Cond.initialized (mt 68).1.cls ∈ lw_tbl := List.mem_of_getElem? (i := 50) (by decide +kernel)
theorem mok_68 : MOK 68 0 := ⟨wd_287, wd_288, by decide +kernel, by decide +kernel, by decide +kernel, by decide +kernel⟩
theorem wd_289 : Cond.instanceMethod (mt 68).1 ∈ lw_tbl := List.mem_of_getElem? (i := 435) (by decide +kernel)
theorem wd_290 : Cond.selects (mt 68).1.cls (mt 68).1 (mt 68).1 ∈ lw_tbl := List.mem_of_getElem? (i := 436) (by decide +kernel)
theorem wd_291 : Cond.methodLink RX4 30 (mt 71).1 ∈ lw_tbl := List.mem_of_getElem? (i := 438) (by decide +kernel)
theorem wd_292 : Cond.code (mt 71).1 (mt 71).2.1 (mt 71).2.2.1 (mt 71).2.2.2 ∈ lw_tbl := List.mem_of_getElem? (i := 441) (by decide +kernel)
theorem wd_293 : Cond.initialized (mt 71).1.cls ∈ lw_tbl := List.mem_of_getElem? (i := 50) (by decide +kernel)
theorem mok_71 : MOK 71 0 := ⟨wd_292, wd_293, by decide +kernel, by decide +kernel, by decide +kernel, by decide +kernel⟩
theorem wd_294 : Cond.instanceMethod (mt 71).1 ∈ lw_tbl := List.mem_of_getElem? (i := 440) (by decide +kernel)
theorem wd_295 : Cond.selects (mt 71).1.cls (mt 71).1 (mt 71).1 ∈ lw_tbl := List.mem_of_getElem? (i := 7) (by decide +kernel)
theorem wd_296 : Cond.methodLink RX4 33 (mt 22).1 ∈ lw_tbl := List.mem_of_getElem? (i := 442) (by decide +kernel)
theorem wd_297 : Cond.methodLink RX5 3 objectInit ∈ lw_tbl := List.mem_of_getElem? (i := 137) (by decide +kernel)
theorem wd_298 : Cond.fieldLink RX5 9 (TX5 0).1 (TX5 0).2.1 (TX5 0).2.2.1 ∈ lw_tbl := List.mem_of_getElem? (i := 138) (by decide +kernel)
theorem inw_5 : ∀ w ∈ u_ws RX5 TX5 5, w ∈ gtbl := by
  have e : u_ws RX5 TX5 5 = [143, 145, 147, 149, 151].filterMap (fun i => lw_tbl[i]?) := by decide +kernel
  have g : (u_ws RX5 TX5 5).all goodWord = true := by decide +kernel
  intro w hw
  refine gt_in ?_ (List.all_eq_true.mp g w hw)
  rw [e] at hw
  obtain ⟨i, -, hi⟩ := List.mem_filterMap.mp hw
  exact List.mem_of_getElem? hi
theorem fl_5_9 : Fld 5 0 RX5 9 true (.array .int) := ⟨RX5, TX5, 5, tyX5, rfl, by decide, wd_298, inw_5, tyX5_ok, nmX5, rfl, rfl, by decide +kernel⟩
theorem wd_299 : Cond.fieldLink RX5 15 (TX5 1).1 (TX5 1).2.1 (TX5 1).2.2.1 ∈ lw_tbl := List.mem_of_getElem? (i := 139) (by decide +kernel)
theorem fl_5_15 : Fld 5 1 RX5 15 true (.array .int) := ⟨RX5, TX5, 5, tyX5, rfl, by decide, wd_299, inw_5, tyX5_ok, nmX5, rfl, rfl, by decide +kernel⟩
theorem wd_300 : Cond.fieldLink RX5 18 (TX5 2).1 (TX5 2).2.1 (TX5 2).2.2.1 ∈ lw_tbl := List.mem_of_getElem? (i := 140) (by decide +kernel)
theorem fl_5_18 : Fld 5 2 RX5 18 true (.array .int) := ⟨RX5, TX5, 5, tyX5, rfl, by decide, wd_300, inw_5, tyX5_ok, nmX5, rfl, rfl, by decide +kernel⟩
theorem wd_301 : Cond.fieldLink RX5 21 (TX5 3).1 (TX5 3).2.1 (TX5 3).2.2.1 ∈ lw_tbl := List.mem_of_getElem? (i := 141) (by decide +kernel)
theorem fl_5_21 : Fld 5 3 RX5 21 true (.array .int) := ⟨RX5, TX5, 5, tyX5, rfl, by decide, wd_301, inw_5, tyX5_ok, nmX5, rfl, rfl, by decide +kernel⟩
theorem wd_302 : Cond.fieldLink RX5 24 (TX5 4).1 (TX5 4).2.1 (TX5 4).2.2.1 ∈ lw_tbl := List.mem_of_getElem? (i := 142) (by decide +kernel)
theorem fl_5_24 : Fld 5 4 RX5 24 false (.int) := ⟨RX5, TX5, 5, tyX5, rfl, by decide, wd_302, inw_5, tyX5_ok, nmX5, rfl, rfl, by decide +kernel⟩
theorem wd_303 : Cond.methodLink RX5 28 (mt 77).1 ∈ lw_tbl := List.mem_of_getElem? (i := 649) (by decide +kernel)
theorem wd_304 : Cond.code (mt 77).1 (mt 77).2.1 (mt 77).2.2.1 (mt 77).2.2.2 ∈ lw_tbl := List.mem_of_getElem? (i := 652) (by decide +kernel)
theorem wd_305 : Cond.initialized (mt 77).1.cls ∈ lw_tbl := List.mem_of_getElem? (i := 52) (by decide +kernel)
theorem mok_77 : MOK 77 0 := ⟨wd_304, wd_305, by decide +kernel, by decide +kernel, by decide +kernel, by decide +kernel⟩
theorem wd_306 : Cond.instanceMethod (mt 77).1 ∈ lw_tbl := List.mem_of_getElem? (i := 651) (by decide +kernel)
theorem wd_307 : Cond.selects (mt 77).1.cls (mt 77).1 (mt 77).1 ∈ lw_tbl := List.mem_of_getElem? (i := 14) (by decide +kernel)
theorem wd_308 : Cond.methodLink RX5 32 (mt 78).1 ∈ lw_tbl := List.mem_of_getElem? (i := 654) (by decide +kernel)
theorem wd_309 : Cond.code (mt 78).1 (mt 78).2.1 (mt 78).2.2.1 (mt 78).2.2.2 ∈ lw_tbl := List.mem_of_getElem? (i := 657) (by decide +kernel)
theorem wd_310 : Cond.initialized (mt 78).1.cls ∈ lw_tbl := List.mem_of_getElem? (i := 52) (by decide +kernel)
theorem mok_78 : MOK 78 2 := ⟨wd_309, wd_310, by decide +kernel, by decide +kernel, by decide +kernel, by decide +kernel⟩
theorem wd_311 : Cond.instanceMethod (mt 78).1 ∈ lw_tbl := List.mem_of_getElem? (i := 656) (by decide +kernel)
theorem wd_312 : Cond.selects (mt 78).1.cls (mt 78).1 (mt 78).1 ∈ lw_tbl := List.mem_of_getElem? (i := 15) (by decide +kernel)
theorem wd_313 : Cond.methodLink RX5 36 (mt 45).1 ∈ lw_tbl := List.mem_of_getElem? (i := 659) (by decide +kernel)
theorem wd_314 : Cond.methodLink RX5 42 Lib.Math.max.name ∈ lw_tbl := List.mem_of_getElem? (i := 653) (by decide +kernel)
theorem wd_315 : Cond.methodLink RX5 48 (mt 30).1 ∈ lw_tbl := List.mem_of_getElem? (i := 658) (by decide +kernel)
theorem wd_316 : Cond.methodLink RX6 1 objectInit ∈ lw_tbl := List.mem_of_getElem? (i := 68) (by decide +kernel)
theorem wd_317 : Cond.classLink RX6 7 RX1 ∈ lw_tbl := List.mem_of_getElem? (i := 71) (by decide +kernel)
theorem wd_318 : Cond.instantiable RX1 2 ∈ lw_tbl := List.mem_of_getElem? (i := 72) (by decide +kernel)
theorem wd_319 : Cond.initialized RX1 ∈ lw_tbl := List.mem_of_getElem? (i := 48) (by decide +kernel)
theorem cl_6_7 : Cls 1 RX6 7 2 [.null, .int 0] := ⟨RX1, TX1, tyX1, rfl, wd_317, wd_318, wd_319, inw_1, tyX1_ok, by decide +kernel, fun _ _ => rfl⟩
theorem wd_320 : Cond.code (mt 8).1 (mt 8).2.1 (mt 8).2.2.1 (mt 8).2.2.2 ∈ lw_tbl := List.mem_of_getElem? (i := 75) (by decide +kernel)
theorem wd_321 : Cond.initialized (mt 8).1.cls ∈ lw_tbl := List.mem_of_getElem? (i := 48) (by decide +kernel)
theorem mok_8 : MOK 8 0 := ⟨wd_320, wd_321, by decide +kernel, by decide +kernel, by decide +kernel, by decide +kernel⟩
theorem wd_322 : Cond.instanceMethod (mt 8).1 ∈ lw_tbl := List.mem_of_getElem? (i := 74) (by decide +kernel)
theorem wd_323 : Cond.fieldLink RX6 10 (TX6 0).1 (TX6 0).2.1 (TX6 0).2.2.1 ∈ lw_tbl := List.mem_of_getElem? (i := 326) (by decide +kernel)
theorem inw_6 : ∀ w ∈ u_ws RX6 TX6 8, w ∈ gtbl := by
  have e : u_ws RX6 TX6 8 = [334, 336, 338, 340, 342, 344, 346, 348].filterMap (fun i => lw_tbl[i]?) := by decide +kernel
  have g : (u_ws RX6 TX6 8).all goodWord = true := by decide +kernel
  intro w hw
  refine gt_in ?_ (List.all_eq_true.mp g w hw)
  rw [e] at hw
  obtain ⟨i, -, hi⟩ := List.mem_filterMap.mp hw
  exact List.mem_of_getElem? hi
theorem fl_6_10 : Fld 6 0 RX6 10 true (.object "DollsVote$Letters") := ⟨RX6, TX6, 8, tyX6, rfl, by decide, wd_323, inw_6, tyX6_ok, nmX6, rfl, rfl, by decide +kernel⟩
theorem wd_324 : Cond.classLink RX6 16 RX2 ∈ lw_tbl := List.mem_of_getElem? (i := 85) (by decide +kernel)
theorem cl_6_16 : Cls 2 RX6 16 7 [.null, .null, .null, .int 0, .int 0, .int 0, .int 0] := ⟨RX2, TX2, tyX2, rfl, wd_324, wd_4, wd_5, inw_2, tyX2_ok, by decide +kernel, fun _ _ => rfl⟩
theorem wd_325 : Cond.fieldLink RX6 19 (TX6 1).1 (TX6 1).2.1 (TX6 1).2.2.1 ∈ lw_tbl := List.mem_of_getElem? (i := 327) (by decide +kernel)
theorem fl_6_19 : Fld 6 1 RX6 19 true (.object "DollsVote$Nursery") := ⟨RX6, TX6, 8, tyX6, rfl, by decide, wd_325, inw_6, tyX6_ok, nmX6, rfl, rfl, by decide +kernel⟩
theorem wd_326 : Cond.fieldLink RX6 23 (TX6 2).1 (TX6 2).2.1 (TX6 2).2.2.1 ∈ lw_tbl := List.mem_of_getElem? (i := 328) (by decide +kernel)
theorem fl_6_23 : Fld 6 2 RX6 23 true (.object "DollsVote$Nursery") := ⟨RX6, TX6, 8, tyX6, rfl, by decide, wd_326, inw_6, tyX6_ok, nmX6, rfl, rfl, by decide +kernel⟩
theorem wd_327 : Cond.classLink RX6 26 RX4 ∈ lw_tbl := List.mem_of_getElem? (i := 113) (by decide +kernel)
theorem wd_328 : Cond.instantiable RX4 2 ∈ lw_tbl := List.mem_of_getElem? (i := 114) (by decide +kernel)
theorem wd_329 : Cond.initialized RX4 ∈ lw_tbl := List.mem_of_getElem? (i := 50) (by decide +kernel)
theorem cl_6_26 : Cls 4 RX6 26 2 [.null, .int 0] := ⟨RX4, TX4, tyX4, rfl, wd_327, wd_328, wd_329, inw_4, tyX4_ok, by decide +kernel, fun _ _ => rfl⟩
theorem wd_330 : Cond.methodLink RX6 28 (mt 65).1 ∈ lw_tbl := List.mem_of_getElem? (i := 115) (by decide +kernel)
theorem wd_331 : Cond.code (mt 65).1 (mt 65).2.1 (mt 65).2.2.1 (mt 65).2.2.2 ∈ lw_tbl := List.mem_of_getElem? (i := 117) (by decide +kernel)
theorem wd_332 : Cond.initialized (mt 65).1.cls ∈ lw_tbl := List.mem_of_getElem? (i := 50) (by decide +kernel)
theorem mok_65 : MOK 65 1 := ⟨wd_331, wd_332, by decide +kernel, by decide +kernel, by decide +kernel, by decide +kernel⟩
theorem wd_333 : Cond.instanceMethod (mt 65).1 ∈ lw_tbl := List.mem_of_getElem? (i := 116) (by decide +kernel)
theorem wd_334 : Cond.fieldLink RX6 31 (TX6 3).1 (TX6 3).2.1 (TX6 3).2.2.1 ∈ lw_tbl := List.mem_of_getElem? (i := 329) (by decide +kernel)
theorem fl_6_31 : Fld 6 3 RX6 31 true (.object "DollsVote$Pile") := ⟨RX6, TX6, 8, tyX6, rfl, by decide, wd_334, inw_6, tyX6_ok, nmX6, rfl, rfl, by decide +kernel⟩
theorem wd_335 : Cond.fieldLink RX6 35 (TX6 4).1 (TX6 4).2.1 (TX6 4).2.2.1 ∈ lw_tbl := List.mem_of_getElem? (i := 330) (by decide +kernel)
theorem fl_6_35 : Fld 6 4 RX6 35 true (.object "DollsVote$Pile") := ⟨RX6, TX6, 8, tyX6, rfl, by decide, wd_335, inw_6, tyX6_ok, nmX6, rfl, rfl, by decide +kernel⟩
theorem wd_336 : Cond.classLink RX6 38 RX5 ∈ lw_tbl := List.mem_of_getElem? (i := 132) (by decide +kernel)
theorem wd_337 : Cond.instantiable RX5 5 ∈ lw_tbl := List.mem_of_getElem? (i := 133) (by decide +kernel)
theorem wd_338 : Cond.initialized RX5 ∈ lw_tbl := List.mem_of_getElem? (i := 52) (by decide +kernel)
theorem cl_6_38 : Cls 5 RX6 38 5 [.null, .null, .null, .null, .int 0] := ⟨RX5, TX5, tyX5, rfl, wd_336, wd_337, wd_338, inw_5, tyX5_ok, by decide +kernel, fun _ _ => rfl⟩
theorem wd_339 : Cond.code (mt 72).1 (mt 72).2.1 (mt 72).2.2.1 (mt 72).2.2.2 ∈ lw_tbl := List.mem_of_getElem? (i := 136) (by decide +kernel)
theorem wd_340 : Cond.initialized (mt 72).1.cls ∈ lw_tbl := List.mem_of_getElem? (i := 52) (by decide +kernel)
theorem mok_72 : MOK 72 0 := ⟨wd_339, wd_340, by decide +kernel, by decide +kernel, by decide +kernel, by decide +kernel⟩
theorem wd_341 : Cond.instanceMethod (mt 72).1 ∈ lw_tbl := List.mem_of_getElem? (i := 135) (by decide +kernel)
theorem wd_342 : Cond.fieldLink RX6 41 (TX6 5).1 (TX6 5).2.1 (TX6 5).2.2.1 ∈ lw_tbl := List.mem_of_getElem? (i := 331) (by decide +kernel)
theorem fl_6_41 : Fld 6 5 RX6 41 true (.object "DollsVote$Sightings") := ⟨RX6, TX6, 8, tyX6, rfl, by decide, wd_342, inw_6, tyX6_ok, nmX6, rfl, rfl, by decide +kernel⟩
theorem wd_343 : Cond.classLink RX6 45 RX3 ∈ lw_tbl := List.mem_of_getElem? (i := 154) (by decide +kernel)
theorem wd_344 : Cond.instantiable RX3 3 ∈ lw_tbl := List.mem_of_getElem? (i := 155) (by decide +kernel)
theorem wd_345 : Cond.initialized RX3 ∈ lw_tbl := List.mem_of_getElem? (i := 53) (by decide +kernel)
theorem cl_6_45 : Cls 3 RX6 45 3 [.null, .null, .null] := ⟨RX3, TX3, tyX3, rfl, wd_343, wd_344, wd_345, inw_3, tyX3_ok, by decide +kernel, fun _ _ => rfl⟩
theorem wd_346 : Cond.code (mt 52).1 (mt 52).2.1 (mt 52).2.2.1 (mt 52).2.2.2 ∈ lw_tbl := List.mem_of_getElem? (i := 158) (by decide +kernel)
theorem wd_347 : Cond.initialized (mt 52).1.cls ∈ lw_tbl := List.mem_of_getElem? (i := 53) (by decide +kernel)
theorem mok_52 : MOK 52 0 := ⟨wd_346, wd_347, by decide +kernel, by decide +kernel, by decide +kernel, by decide +kernel⟩
theorem wd_348 : Cond.instanceMethod (mt 52).1 ∈ lw_tbl := List.mem_of_getElem? (i := 157) (by decide +kernel)
theorem wd_349 : Cond.fieldLink RX6 48 (TX6 6).1 (TX6 6).2.1 (TX6 6).2.2.1 ∈ lw_tbl := List.mem_of_getElem? (i := 332) (by decide +kernel)
theorem fl_6_48 : Fld 6 6 RX6 48 true (.object "DollsVote$Outlook") := ⟨RX6, TX6, 8, tyX6, rfl, by decide, wd_349, inw_6, tyX6_ok, nmX6, rfl, rfl, by decide +kernel⟩
theorem wd_350 : Cond.classLink RX6 52 RX0 ∈ lw_tbl := List.mem_of_getElem? (i := 172) (by decide +kernel)
theorem wd_351 : Cond.instantiable RX0 1 ∈ lw_tbl := List.mem_of_getElem? (i := 173) (by decide +kernel)
theorem wd_352 : Cond.initialized RX0 ∈ lw_tbl := List.mem_of_getElem? (i := 54) (by decide +kernel)
theorem cl_6_52 : Cls 0 RX6 52 1 [.null] := ⟨RX0, TX0, tyX0, rfl, wd_350, wd_351, wd_352, inw_0, tyX0_ok, by decide +kernel, fun _ _ => rfl⟩
theorem wd_353 : Cond.code (mt 0).1 (mt 0).2.1 (mt 0).2.2.1 (mt 0).2.2.2 ∈ lw_tbl := List.mem_of_getElem? (i := 176) (by decide +kernel)
theorem wd_354 : Cond.initialized (mt 0).1.cls ∈ lw_tbl := List.mem_of_getElem? (i := 54) (by decide +kernel)
theorem mok_0 : MOK 0 0 := ⟨wd_353, wd_354, by decide +kernel, by decide +kernel, by decide +kernel, by decide +kernel⟩
theorem wd_355 : Cond.instanceMethod (mt 0).1 ∈ lw_tbl := List.mem_of_getElem? (i := 175) (by decide +kernel)
theorem wd_356 : Cond.fieldLink RX6 55 (TX6 7).1 (TX6 7).2.1 (TX6 7).2.2.1 ∈ lw_tbl := List.mem_of_getElem? (i := 333) (by decide +kernel)
theorem fl_6_55 : Fld 6 7 RX6 55 true (.object "DollsVote$Chances") := ⟨RX6, TX6, 8, tyX6, rfl, by decide, wd_356, inw_6, tyX6_ok, nmX6, rfl, rfl, by decide +kernel⟩
theorem wd_357 : Cond.methodLink RX6 71 (mt 11).1 ∈ lw_tbl := List.mem_of_getElem? (i := 233) (by decide +kernel)
theorem wd_358 : Cond.code (mt 11).1 (mt 11).2.1 (mt 11).2.2.1 (mt 11).2.2.2 ∈ lw_tbl := List.mem_of_getElem? (i := 236) (by decide +kernel)
theorem wd_359 : Cond.initialized (mt 11).1.cls ∈ lw_tbl := List.mem_of_getElem? (i := 48) (by decide +kernel)
theorem mok_11 : MOK 11 1 := ⟨wd_358, wd_359, by decide +kernel, by decide +kernel, by decide +kernel, by decide +kernel⟩
theorem wd_360 : Cond.instanceMethod (mt 11).1 ∈ lw_tbl := List.mem_of_getElem? (i := 234) (by decide +kernel)
theorem wd_361 : Cond.selects (mt 11).1.cls (mt 11).1 (mt 11).1 ∈ lw_tbl := List.mem_of_getElem? (i := 235) (by decide +kernel)
theorem wd_362 : Cond.methodLink RX6 75 (mt 12).1 ∈ lw_tbl := List.mem_of_getElem? (i := 237) (by decide +kernel)
theorem wd_363 : Cond.code (mt 12).1 (mt 12).2.1 (mt 12).2.2.1 (mt 12).2.2.2 ∈ lw_tbl := List.mem_of_getElem? (i := 240) (by decide +kernel)
theorem wd_364 : Cond.initialized (mt 12).1.cls ∈ lw_tbl := List.mem_of_getElem? (i := 48) (by decide +kernel)
theorem mok_12 : MOK 12 1 := ⟨wd_363, wd_364, by decide +kernel, by decide +kernel, by decide +kernel, by decide +kernel⟩
theorem wd_365 : Cond.instanceMethod (mt 12).1 ∈ lw_tbl := List.mem_of_getElem? (i := 238) (by decide +kernel)
theorem wd_366 : Cond.selects (mt 12).1.cls (mt 12).1 (mt 12).1 ∈ lw_tbl := List.mem_of_getElem? (i := 239) (by decide +kernel)
theorem wd_367 : Cond.methodLink RX6 79 (mt 10).1 ∈ lw_tbl := List.mem_of_getElem? (i := 322) (by decide +kernel)
theorem wd_368 : Cond.code (mt 10).1 (mt 10).2.1 (mt 10).2.2.1 (mt 10).2.2.2 ∈ lw_tbl := List.mem_of_getElem? (i := 325) (by decide +kernel)
theorem wd_369 : Cond.initialized (mt 10).1.cls ∈ lw_tbl := List.mem_of_getElem? (i := 48) (by decide +kernel)
theorem mok_10 : MOK 10 0 := ⟨wd_368, wd_369, by decide +kernel, by decide +kernel, by decide +kernel, by decide +kernel⟩
theorem wd_370 : Cond.instanceMethod (mt 10).1 ∈ lw_tbl := List.mem_of_getElem? (i := 323) (by decide +kernel)
theorem wd_371 : Cond.selects (mt 10).1.cls (mt 10).1 (mt 10).1 ∈ lw_tbl := List.mem_of_getElem? (i := 324) (by decide +kernel)
theorem wd_372 : Cond.methodLink RX6 82 (mt 114).1 ∈ lw_tbl := List.mem_of_getElem? (i := 316) (by decide +kernel)
theorem wd_373 : Cond.methodLink RX6 86 (mt 9).1 ∈ lw_tbl := List.mem_of_getElem? (i := 356) (by decide +kernel)
theorem wd_374 : Cond.code (mt 9).1 (mt 9).2.1 (mt 9).2.2.1 (mt 9).2.2.2 ∈ lw_tbl := List.mem_of_getElem? (i := 359) (by decide +kernel)
theorem wd_375 : Cond.initialized (mt 9).1.cls ∈ lw_tbl := List.mem_of_getElem? (i := 48) (by decide +kernel)
theorem mok_9 : MOK 9 0 := ⟨wd_374, wd_375, by decide +kernel, by decide +kernel, by decide +kernel, by decide +kernel⟩
theorem wd_376 : Cond.instanceMethod (mt 9).1 ∈ lw_tbl := List.mem_of_getElem? (i := 357) (by decide +kernel)
theorem wd_377 : Cond.selects (mt 9).1.cls (mt 9).1 (mt 9).1 ∈ lw_tbl := List.mem_of_getElem? (i := 358) (by decide +kernel)
theorem wd_378 : Cond.methodLink RX6 87 (mt 25).1 ∈ lw_tbl := List.mem_of_getElem? (i := 372) (by decide +kernel)
theorem wd_379 : Cond.methodLink RX6 90 (mt 22).1 ∈ lw_tbl := List.mem_of_getElem? (i := 376) (by decide +kernel)
theorem wd_380 : Cond.methodLink RX6 94 (mt 66).1 ∈ lw_tbl := List.mem_of_getElem? (i := 383) (by decide +kernel)
theorem wd_381 : Cond.code (mt 66).1 (mt 66).2.1 (mt 66).2.2.1 (mt 66).2.2.2 ∈ lw_tbl := List.mem_of_getElem? (i := 386) (by decide +kernel)
theorem wd_382 : Cond.initialized (mt 66).1.cls ∈ lw_tbl := List.mem_of_getElem? (i := 50) (by decide +kernel)
theorem mok_66 : MOK 66 0 := ⟨wd_381, wd_382, by decide +kernel, by decide +kernel, by decide +kernel, by decide +kernel⟩
theorem wd_383 : Cond.instanceMethod (mt 66).1 ∈ lw_tbl := List.mem_of_getElem? (i := 384) (by decide +kernel)
theorem wd_384 : Cond.selects (mt 66).1.cls (mt 66).1 (mt 66).1 ∈ lw_tbl := List.mem_of_getElem? (i := 385) (by decide +kernel)
theorem wd_385 : Cond.methodLink RX6 95 (mt 74).1 ∈ lw_tbl := List.mem_of_getElem? (i := 387) (by decide +kernel)
theorem wd_386 : Cond.code (mt 74).1 (mt 74).2.1 (mt 74).2.2.1 (mt 74).2.2.2 ∈ lw_tbl := List.mem_of_getElem? (i := 390) (by decide +kernel)
theorem wd_387 : Cond.initialized (mt 74).1.cls ∈ lw_tbl := List.mem_of_getElem? (i := 52) (by decide +kernel)
theorem mok_74 : MOK 74 0 := ⟨wd_386, wd_387, by decide +kernel, by decide +kernel, by decide +kernel, by decide +kernel⟩
theorem wd_388 : Cond.instanceMethod (mt 74).1 ∈ lw_tbl := List.mem_of_getElem? (i := 388) (by decide +kernel)
theorem wd_389 : Cond.selects (mt 74).1.cls (mt 74).1 (mt 74).1 ∈ lw_tbl := List.mem_of_getElem? (i := 389) (by decide +kernel)
theorem wd_390 : Cond.methodLink RX6 96 (mt 28).1 ∈ lw_tbl := List.mem_of_getElem? (i := 395) (by decide +kernel)
theorem wd_391 : Cond.methodLink RX6 99 (mt 29).1 ∈ lw_tbl := List.mem_of_getElem? (i := 396) (by decide +kernel)
theorem wd_392 : Cond.methodLink RX6 102 (mt 30).1 ∈ lw_tbl := List.mem_of_getElem? (i := 397) (by decide +kernel)
theorem wd_393 : Cond.methodLink RX6 106 (mt 33).1 ∈ lw_tbl := List.mem_of_getElem? (i := 405) (by decide +kernel)
theorem wd_394 : Cond.code (mt 33).1 (mt 33).2.1 (mt 33).2.2.1 (mt 33).2.2.2 ∈ lw_tbl := List.mem_of_getElem? (i := 408) (by decide +kernel)
theorem wd_395 : Cond.initialized (mt 33).1.cls ∈ lw_tbl := List.mem_of_getElem? (i := 49) (by decide +kernel)
theorem mok_33 : MOK 33 1 := ⟨wd_394, wd_395, by decide +kernel, by decide +kernel, by decide +kernel, by decide +kernel⟩
theorem wd_396 : Cond.instanceMethod (mt 33).1 ∈ lw_tbl := List.mem_of_getElem? (i := 406) (by decide +kernel)
theorem wd_397 : Cond.selects (mt 33).1.cls (mt 33).1 (mt 33).1 ∈ lw_tbl := List.mem_of_getElem? (i := 407) (by decide +kernel)
theorem wd_398 : Cond.methodLink RX6 110 (mt 35).1 ∈ lw_tbl := List.mem_of_getElem? (i := 410) (by decide +kernel)
theorem wd_399 : Cond.methodLink RX6 113 (mt 38).1 ∈ lw_tbl := List.mem_of_getElem? (i := 415) (by decide +kernel)
theorem wd_400 : Cond.methodLink RX6 116 (mt 112).1 ∈ lw_tbl := List.mem_of_getElem? (i := 419) (by decide +kernel)
theorem wd_401 : Cond.code (mt 112).1 (mt 112).2.1 (mt 112).2.2.1 (mt 112).2.2.2 ∈ lw_tbl := List.mem_of_getElem? (i := 421) (by decide +kernel)
theorem wd_402 : Cond.initialized (mt 112).1.cls ∈ lw_tbl := List.mem_of_getElem? (i := 47) (by decide +kernel)
theorem mok_112 : MOK 112 1 := ⟨wd_401, wd_402, by decide +kernel, by decide +kernel, by decide +kernel, by decide +kernel⟩
theorem wd_403 : Cond.static (mt 112).1 ∈ lw_tbl := List.mem_of_getElem? (i := 420) (by decide +kernel)
theorem wd_404 : Cond.methodLink RX6 119 (mt 42).1 ∈ lw_tbl := List.mem_of_getElem? (i := 426) (by decide +kernel)
theorem wd_405 : Cond.code (mt 42).1 (mt 42).2.1 (mt 42).2.2.1 (mt 42).2.2.2 ∈ lw_tbl := List.mem_of_getElem? (i := 429) (by decide +kernel)
theorem wd_406 : Cond.initialized (mt 42).1.cls ∈ lw_tbl := List.mem_of_getElem? (i := 49) (by decide +kernel)
theorem mok_42 : MOK 42 0 := ⟨wd_405, wd_406, by decide +kernel, by decide +kernel, by decide +kernel, by decide +kernel⟩
theorem wd_407 : Cond.instanceMethod (mt 42).1 ∈ lw_tbl := List.mem_of_getElem? (i := 427) (by decide +kernel)
theorem wd_408 : Cond.selects (mt 42).1.cls (mt 42).1 (mt 42).1 ∈ lw_tbl := List.mem_of_getElem? (i := 428) (by decide +kernel)
theorem wd_409 : Cond.methodLink RX6 122 (mt 69).1 ∈ lw_tbl := List.mem_of_getElem? (i := 430) (by decide +kernel)
theorem wd_410 : Cond.code (mt 69).1 (mt 69).2.1 (mt 69).2.2.1 (mt 69).2.2.2 ∈ lw_tbl := List.mem_of_getElem? (i := 433) (by decide +kernel)
theorem wd_411 : Cond.initialized (mt 69).1.cls ∈ lw_tbl := List.mem_of_getElem? (i := 50) (by decide +kernel)
theorem mok_69 : MOK 69 1 := ⟨wd_410, wd_411, by decide +kernel, by decide +kernel, by decide +kernel, by decide +kernel⟩
theorem wd_412 : Cond.instanceMethod (mt 69).1 ∈ lw_tbl := List.mem_of_getElem? (i := 431) (by decide +kernel)
theorem wd_413 : Cond.selects (mt 69).1.cls (mt 69).1 (mt 69).1 ∈ lw_tbl := List.mem_of_getElem? (i := 432) (by decide +kernel)
theorem wd_414 : Cond.methodLink RX6 125 (mt 46).1 ∈ lw_tbl := List.mem_of_getElem? (i := 443) (by decide +kernel)
theorem wd_415 : Cond.methodLink RX6 128 (mt 43).1 ∈ lw_tbl := List.mem_of_getElem? (i := 469) (by decide +kernel)
theorem wd_416 : Cond.code (mt 43).1 (mt 43).2.1 (mt 43).2.2.1 (mt 43).2.2.2 ∈ lw_tbl := List.mem_of_getElem? (i := 472) (by decide +kernel)
theorem wd_417 : Cond.initialized (mt 43).1.cls ∈ lw_tbl := List.mem_of_getElem? (i := 49) (by decide +kernel)
theorem mok_43 : MOK 43 1 := ⟨wd_416, wd_417, by decide +kernel, by decide +kernel, by decide +kernel, by decide +kernel⟩
theorem wd_418 : Cond.instanceMethod (mt 43).1 ∈ lw_tbl := List.mem_of_getElem? (i := 470) (by decide +kernel)
theorem wd_419 : Cond.selects (mt 43).1.cls (mt 43).1 (mt 43).1 ∈ lw_tbl := List.mem_of_getElem? (i := 471) (by decide +kernel)
theorem wd_420 : Cond.methodLink RX6 131 (mt 113).1 ∈ lw_tbl := List.mem_of_getElem? (i := 477) (by decide +kernel)
theorem wd_421 : Cond.methodLink RX6 134 (mt 31).1 ∈ lw_tbl := List.mem_of_getElem? (i := 478) (by decide +kernel)
theorem wd_422 : Cond.methodLink RX6 138 (mt 44).1 ∈ lw_tbl := List.mem_of_getElem? (i := 483) (by decide +kernel)
theorem wd_423 : Cond.methodLink RX6 141 (mt 111).1 ∈ lw_tbl := List.mem_of_getElem? (i := 491) (by decide +kernel)
theorem wd_424 : Cond.code (mt 111).1 (mt 111).2.1 (mt 111).2.2.1 (mt 111).2.2.2 ∈ lw_tbl := List.mem_of_getElem? (i := 494) (by decide +kernel)
theorem wd_425 : Cond.initialized (mt 111).1.cls ∈ lw_tbl := List.mem_of_getElem? (i := 47) (by decide +kernel)
theorem mok_111 : MOK 111 2 := ⟨wd_424, wd_425, by decide +kernel, by decide +kernel, by decide +kernel, by decide +kernel⟩
theorem wd_426 : Cond.instanceMethod (mt 111).1 ∈ lw_tbl := List.mem_of_getElem? (i := 493) (by decide +kernel)
theorem wd_427 : Cond.selects (mt 111).1.cls (mt 111).1 (mt 111).1 ∈ lw_tbl := List.mem_of_getElem? (i := 11) (by decide +kernel)
theorem wd_428 : Cond.methodLink RX6 145 (mt 39).1 ∈ lw_tbl := List.mem_of_getElem? (i := 514) (by decide +kernel)
theorem wd_429 : Cond.methodLink RX6 149 (mt 70).1 ∈ lw_tbl := List.mem_of_getElem? (i := 519) (by decide +kernel)
theorem wd_430 : Cond.code (mt 70).1 (mt 70).2.1 (mt 70).2.2.1 (mt 70).2.2.2 ∈ lw_tbl := List.mem_of_getElem? (i := 522) (by decide +kernel)
theorem wd_431 : Cond.initialized (mt 70).1.cls ∈ lw_tbl := List.mem_of_getElem? (i := 50) (by decide +kernel)
theorem mok_70 : MOK 70 1 := ⟨wd_430, wd_431, by decide +kernel, by decide +kernel, by decide +kernel, by decide +kernel⟩
theorem wd_432 : Cond.instanceMethod (mt 70).1 ∈ lw_tbl := List.mem_of_getElem? (i := 520) (by decide +kernel)
theorem wd_433 : Cond.selects (mt 70).1.cls (mt 70).1 (mt 70).1 ∈ lw_tbl := List.mem_of_getElem? (i := 521) (by decide +kernel)
theorem wd_434 : Cond.methodLink RX6 153 (mt 67).1 ∈ lw_tbl := List.mem_of_getElem? (i := 523) (by decide +kernel)
theorem wd_435 : Cond.code (mt 67).1 (mt 67).2.1 (mt 67).2.2.1 (mt 67).2.2.2 ∈ lw_tbl := List.mem_of_getElem? (i := 526) (by decide +kernel)
theorem wd_436 : Cond.initialized (mt 67).1.cls ∈ lw_tbl := List.mem_of_getElem? (i := 50) (by decide +kernel)
theorem mok_67 : MOK 67 0 := ⟨wd_435, wd_436, by decide +kernel, by decide +kernel, by decide +kernel, by decide +kernel⟩
theorem wd_437 : Cond.instanceMethod (mt 67).1 ∈ lw_tbl := List.mem_of_getElem? (i := 524) (by decide +kernel)
theorem wd_438 : Cond.selects (mt 67).1.cls (mt 67).1 (mt 67).1 ∈ lw_tbl := List.mem_of_getElem? (i := 525) (by decide +kernel)
theorem wd_439 : Cond.methodLink RX6 156 (mt 53).1 ∈ lw_tbl := List.mem_of_getElem? (i := 531) (by decide +kernel)
theorem wd_440 : Cond.code (mt 53).1 (mt 53).2.1 (mt 53).2.2.1 (mt 53).2.2.2 ∈ lw_tbl := List.mem_of_getElem? (i := 534) (by decide +kernel)
theorem wd_441 : Cond.initialized (mt 53).1.cls ∈ lw_tbl := List.mem_of_getElem? (i := 53) (by decide +kernel)
theorem mok_53 : MOK 53 4 := ⟨wd_440, wd_441, by decide +kernel, by decide +kernel, by decide +kernel, by decide +kernel⟩
theorem wd_442 : Cond.instanceMethod (mt 53).1 ∈ lw_tbl := List.mem_of_getElem? (i := 532) (by decide +kernel)
theorem wd_443 : Cond.selects (mt 53).1.cls (mt 53).1 (mt 53).1 ∈ lw_tbl := List.mem_of_getElem? (i := 533) (by decide +kernel)
theorem wd_444 : Cond.methodLink RX6 160 (mt 55).1 ∈ lw_tbl := List.mem_of_getElem? (i := 542) (by decide +kernel)
theorem wd_445 : Cond.code (mt 55).1 (mt 55).2.1 (mt 55).2.2.1 (mt 55).2.2.2 ∈ lw_tbl := List.mem_of_getElem? (i := 545) (by decide +kernel)
theorem wd_446 : Cond.initialized (mt 55).1.cls ∈ lw_tbl := List.mem_of_getElem? (i := 53) (by decide +kernel)
theorem mok_55 : MOK 55 3 := ⟨wd_445, wd_446, by decide +kernel, by decide +kernel, by decide +kernel, by decide +kernel⟩
theorem wd_447 : Cond.instanceMethod (mt 55).1 ∈ lw_tbl := List.mem_of_getElem? (i := 543) (by decide +kernel)
theorem wd_448 : Cond.selects (mt 55).1.cls (mt 55).1 (mt 55).1 ∈ lw_tbl := List.mem_of_getElem? (i := 544) (by decide +kernel)
theorem wd_449 : Cond.methodLink RX6 164 (mt 56).1 ∈ lw_tbl := List.mem_of_getElem? (i := 551) (by decide +kernel)
theorem wd_450 : Cond.code (mt 56).1 (mt 56).2.1 (mt 56).2.2.1 (mt 56).2.2.2 ∈ lw_tbl := List.mem_of_getElem? (i := 554) (by decide +kernel)
theorem wd_451 : Cond.initialized (mt 56).1.cls ∈ lw_tbl := List.mem_of_getElem? (i := 53) (by decide +kernel)
theorem mok_56 : MOK 56 1 := ⟨wd_450, wd_451, by decide +kernel, by decide +kernel, by decide +kernel, by decide +kernel⟩
theorem wd_452 : Cond.instanceMethod (mt 56).1 ∈ lw_tbl := List.mem_of_getElem? (i := 552) (by decide +kernel)
theorem wd_453 : Cond.selects (mt 56).1.cls (mt 56).1 (mt 56).1 ∈ lw_tbl := List.mem_of_getElem? (i := 553) (by decide +kernel)
theorem wd_454 : Cond.methodLink RX6 167 (mt 54).1 ∈ lw_tbl := List.mem_of_getElem? (i := 559) (by decide +kernel)
theorem wd_455 : Cond.methodLink RX6 171 (mt 57).1 ∈ lw_tbl := List.mem_of_getElem? (i := 571) (by decide +kernel)
theorem wd_456 : Cond.code (mt 57).1 (mt 57).2.1 (mt 57).2.2.1 (mt 57).2.2.2 ∈ lw_tbl := List.mem_of_getElem? (i := 574) (by decide +kernel)
theorem wd_457 : Cond.initialized (mt 57).1.cls ∈ lw_tbl := List.mem_of_getElem? (i := 53) (by decide +kernel)
theorem mok_57 : MOK 57 3 := ⟨wd_456, wd_457, by decide +kernel, by decide +kernel, by decide +kernel, by decide +kernel⟩
theorem wd_458 : Cond.instanceMethod (mt 57).1 ∈ lw_tbl := List.mem_of_getElem? (i := 572) (by decide +kernel)
theorem wd_459 : Cond.selects (mt 57).1.cls (mt 57).1 (mt 57).1 ∈ lw_tbl := List.mem_of_getElem? (i := 573) (by decide +kernel)
theorem wd_460 : Cond.methodLink RX6 174 (mt 59).1 ∈ lw_tbl := List.mem_of_getElem? (i := 605) (by decide +kernel)
theorem wd_461 : Cond.code (mt 59).1 (mt 59).2.1 (mt 59).2.2.1 (mt 59).2.2.2 ∈ lw_tbl := List.mem_of_getElem? (i := 608) (by decide +kernel)
theorem wd_462 : Cond.initialized (mt 59).1.cls ∈ lw_tbl := List.mem_of_getElem? (i := 53) (by decide +kernel)
theorem mok_59 : MOK 59 3 := ⟨wd_461, wd_462, by decide +kernel, by decide +kernel, by decide +kernel, by decide +kernel⟩
theorem wd_463 : Cond.instanceMethod (mt 59).1 ∈ lw_tbl := List.mem_of_getElem? (i := 606) (by decide +kernel)
theorem wd_464 : Cond.selects (mt 59).1.cls (mt 59).1 (mt 59).1 ∈ lw_tbl := List.mem_of_getElem? (i := 607) (by decide +kernel)
theorem wd_465 : Cond.methodLink RX6 178 (mt 61).1 ∈ lw_tbl := List.mem_of_getElem? (i := 615) (by decide +kernel)
theorem wd_466 : Cond.code (mt 61).1 (mt 61).2.1 (mt 61).2.2.1 (mt 61).2.2.2 ∈ lw_tbl := List.mem_of_getElem? (i := 618) (by decide +kernel)
theorem wd_467 : Cond.initialized (mt 61).1.cls ∈ lw_tbl := List.mem_of_getElem? (i := 53) (by decide +kernel)
theorem mok_61 : MOK 61 3 := ⟨wd_466, wd_467, by decide +kernel, by decide +kernel, by decide +kernel, by decide +kernel⟩
theorem wd_468 : Cond.instanceMethod (mt 61).1 ∈ lw_tbl := List.mem_of_getElem? (i := 616) (by decide +kernel)
theorem wd_469 : Cond.selects (mt 61).1.cls (mt 61).1 (mt 61).1 ∈ lw_tbl := List.mem_of_getElem? (i := 617) (by decide +kernel)
theorem wd_470 : Cond.methodLink RX6 181 (mt 75).1 ∈ lw_tbl := List.mem_of_getElem? (i := 625) (by decide +kernel)
theorem wd_471 : Cond.code (mt 75).1 (mt 75).2.1 (mt 75).2.2.1 (mt 75).2.2.2 ∈ lw_tbl := List.mem_of_getElem? (i := 628) (by decide +kernel)
theorem wd_472 : Cond.initialized (mt 75).1.cls ∈ lw_tbl := List.mem_of_getElem? (i := 52) (by decide +kernel)
theorem mok_75 : MOK 75 4 := ⟨wd_471, wd_472, by decide +kernel, by decide +kernel, by decide +kernel, by decide +kernel⟩
theorem wd_473 : Cond.instanceMethod (mt 75).1 ∈ lw_tbl := List.mem_of_getElem? (i := 626) (by decide +kernel)
theorem wd_474 : Cond.selects (mt 75).1.cls (mt 75).1 (mt 75).1 ∈ lw_tbl := List.mem_of_getElem? (i := 627) (by decide +kernel)
theorem wd_475 : Cond.methodLink RX6 185 (mt 73).1 ∈ lw_tbl := List.mem_of_getElem? (i := 629) (by decide +kernel)
theorem wd_476 : Cond.code (mt 73).1 (mt 73).2.1 (mt 73).2.2.1 (mt 73).2.2.2 ∈ lw_tbl := List.mem_of_getElem? (i := 632) (by decide +kernel)
theorem wd_477 : Cond.initialized (mt 73).1.cls ∈ lw_tbl := List.mem_of_getElem? (i := 52) (by decide +kernel)
theorem mok_73 : MOK 73 0 := ⟨wd_476, wd_477, by decide +kernel, by decide +kernel, by decide +kernel, by decide +kernel⟩
theorem wd_478 : Cond.instanceMethod (mt 73).1 ∈ lw_tbl := List.mem_of_getElem? (i := 630) (by decide +kernel)
theorem wd_479 : Cond.selects (mt 73).1.cls (mt 73).1 (mt 73).1 ∈ lw_tbl := List.mem_of_getElem? (i := 631) (by decide +kernel)
theorem wd_480 : Cond.methodLink RX6 186 (mt 34).1 ∈ lw_tbl := List.mem_of_getElem? (i := 641) (by decide +kernel)
theorem wd_481 : Cond.code (mt 34).1 (mt 34).2.1 (mt 34).2.2.1 (mt 34).2.2.2 ∈ lw_tbl := List.mem_of_getElem? (i := 644) (by decide +kernel)
theorem wd_482 : Cond.initialized (mt 34).1.cls ∈ lw_tbl := List.mem_of_getElem? (i := 49) (by decide +kernel)
theorem mok_34 : MOK 34 2 := ⟨wd_481, wd_482, by decide +kernel, by decide +kernel, by decide +kernel, by decide +kernel⟩
theorem wd_483 : Cond.instanceMethod (mt 34).1 ∈ lw_tbl := List.mem_of_getElem? (i := 642) (by decide +kernel)
theorem wd_484 : Cond.selects (mt 34).1.cls (mt 34).1 (mt 34).1 ∈ lw_tbl := List.mem_of_getElem? (i := 643) (by decide +kernel)
theorem wd_485 : Cond.methodLink RX6 189 (mt 76).1 ∈ lw_tbl := List.mem_of_getElem? (i := 645) (by decide +kernel)
theorem wd_486 : Cond.code (mt 76).1 (mt 76).2.1 (mt 76).2.2.1 (mt 76).2.2.2 ∈ lw_tbl := List.mem_of_getElem? (i := 648) (by decide +kernel)
theorem wd_487 : Cond.initialized (mt 76).1.cls ∈ lw_tbl := List.mem_of_getElem? (i := 52) (by decide +kernel)
theorem mok_76 : MOK 76 1 := ⟨wd_486, wd_487, by decide +kernel, by decide +kernel, by decide +kernel, by decide +kernel⟩
theorem wd_488 : Cond.instanceMethod (mt 76).1 ∈ lw_tbl := List.mem_of_getElem? (i := 646) (by decide +kernel)
theorem wd_489 : Cond.selects (mt 76).1.cls (mt 76).1 (mt 76).1 ∈ lw_tbl := List.mem_of_getElem? (i := 647) (by decide +kernel)
theorem wd_490 : Cond.methodLink RX6 192 (mt 27).1 ∈ lw_tbl := List.mem_of_getElem? (i := 664) (by decide +kernel)
theorem wd_491 : Cond.methodLink RX6 195 (mt 62).1 ∈ lw_tbl := List.mem_of_getElem? (i := 669) (by decide +kernel)
theorem wd_492 : Cond.code (mt 62).1 (mt 62).2.1 (mt 62).2.2.1 (mt 62).2.2.2 ∈ lw_tbl := List.mem_of_getElem? (i := 672) (by decide +kernel)
theorem wd_493 : Cond.initialized (mt 62).1.cls ∈ lw_tbl := List.mem_of_getElem? (i := 53) (by decide +kernel)
theorem mok_62 : MOK 62 4 := ⟨wd_492, wd_493, by decide +kernel, by decide +kernel, by decide +kernel, by decide +kernel⟩
theorem wd_494 : Cond.instanceMethod (mt 62).1 ∈ lw_tbl := List.mem_of_getElem? (i := 670) (by decide +kernel)
theorem wd_495 : Cond.selects (mt 62).1.cls (mt 62).1 (mt 62).1 ∈ lw_tbl := List.mem_of_getElem? (i := 671) (by decide +kernel)
theorem wd_496 : Cond.methodLink RX6 199 (mt 2).1 ∈ lw_tbl := List.mem_of_getElem? (i := 682) (by decide +kernel)
theorem wd_497 : Cond.code (mt 2).1 (mt 2).2.1 (mt 2).2.2.1 (mt 2).2.2.2 ∈ lw_tbl := List.mem_of_getElem? (i := 685) (by decide +kernel)
theorem wd_498 : Cond.initialized (mt 2).1.cls ∈ lw_tbl := List.mem_of_getElem? (i := 54) (by decide +kernel)
theorem mok_2 : MOK 2 5 := ⟨wd_497, wd_498, by decide +kernel, by decide +kernel, by decide +kernel, by decide +kernel⟩
theorem wd_499 : Cond.instanceMethod (mt 2).1 ∈ lw_tbl := List.mem_of_getElem? (i := 683) (by decide +kernel)
theorem wd_500 : Cond.selects (mt 2).1.cls (mt 2).1 (mt 2).1 ∈ lw_tbl := List.mem_of_getElem? (i := 684) (by decide +kernel)
theorem wd_501 : Cond.methodLink RX6 203 (mt 1).1 ∈ lw_tbl := List.mem_of_getElem? (i := 704) (by decide +kernel)
theorem wd_502 : Cond.methodLink RX6 206 (mt 115).1 ∈ lw_tbl := List.mem_of_getElem? (i := 705) (by decide +kernel)
theorem wd_503 : Cond.methodLink RX6 209 (mt 116).1 ∈ lw_tbl := List.mem_of_getElem? (i := 706) (by decide +kernel)
theorem wd_504 : Cond.code (mt 116).1 (mt 116).2.1 (mt 116).2.2.1 (mt 116).2.2.2 ∈ lw_tbl := List.mem_of_getElem? (i := 708) (by decide +kernel)
theorem wd_505 : Cond.initialized (mt 116).1.cls ∈ lw_tbl := List.mem_of_getElem? (i := 47) (by decide +kernel)
theorem mok_116 : MOK 116 2 := ⟨wd_504, wd_505, by decide +kernel, by decide +kernel, by decide +kernel, by decide +kernel⟩
theorem wd_506 : Cond.static (mt 116).1 ∈ lw_tbl := List.mem_of_getElem? (i := 707) (by decide +kernel)
theorem wd_507 : Cond.methodLink RX6 212 (mt 4).1 ∈ lw_tbl := List.mem_of_getElem? (i := 713) (by decide +kernel)
theorem wd_508 : Cond.code (mt 4).1 (mt 4).2.1 (mt 4).2.2.1 (mt 4).2.2.2 ∈ lw_tbl := List.mem_of_getElem? (i := 715) (by decide +kernel)
theorem wd_509 : Cond.initialized (mt 4).1.cls ∈ lw_tbl := List.mem_of_getElem? (i := 54) (by decide +kernel)
theorem mok_4 : MOK 4 3 := ⟨wd_508, wd_509, by decide +kernel, by decide +kernel, by decide +kernel, by decide +kernel⟩
theorem wd_510 : Cond.static (mt 4).1 ∈ lw_tbl := List.mem_of_getElem? (i := 714) (by decide +kernel)
theorem wd_511 : Cond.methodLink RX6 216 (mt 41).1 ∈ lw_tbl := List.mem_of_getElem? (i := 732) (by decide +kernel)
theorem wd_512 : Cond.methodLink RX6 219 (mt 181).1 ∈ lw_tbl := List.mem_of_getElem? (i := 733) (by decide +kernel)
theorem wd_513 : Cond.methodLink RX6 224 (mt 37).1 ∈ lw_tbl := List.mem_of_getElem? (i := 496) (by decide +kernel)
theorem wd_514 : Cond.code (mt 37).1 (mt 37).2.1 (mt 37).2.2.1 (mt 37).2.2.2 ∈ lw_tbl := List.mem_of_getElem? (i := 499) (by decide +kernel)
theorem wd_515 : Cond.initialized (mt 37).1.cls ∈ lw_tbl := List.mem_of_getElem? (i := 49) (by decide +kernel)
theorem mok_37 : MOK 37 0 := ⟨wd_514, wd_515, by decide +kernel, by decide +kernel, by decide +kernel, by decide +kernel⟩
theorem wd_516 : Cond.instanceMethod (mt 37).1 ∈ lw_tbl := List.mem_of_getElem? (i := 497) (by decide +kernel)
theorem wd_517 : Cond.selects (mt 37).1.cls (mt 37).1 (mt 37).1 ∈ lw_tbl := List.mem_of_getElem? (i := 498) (by decide +kernel)
theorem wd_518 : Cond.methodLink RX6 227 (mt 68).1 ∈ lw_tbl := List.mem_of_getElem? (i := 738) (by decide +kernel)
theorem wd_519 : Cond.methodLink RX6 231 (mt 26).1 ∈ lw_tbl := List.mem_of_getElem? (i := 747) (by decide +kernel)
theorem wd_520 : Cond.methodLink RX6 234 (mt 40).1 ∈ lw_tbl := List.mem_of_getElem? (i := 748) (by decide +kernel)
theorem wd_521 : Cond.code (mt 40).1 (mt 40).2.1 (mt 40).2.2.1 (mt 40).2.2.2 ∈ lw_tbl := List.mem_of_getElem? (i := 751) (by decide +kernel)
theorem wd_522 : Cond.initialized (mt 40).1.cls ∈ lw_tbl := List.mem_of_getElem? (i := 49) (by decide +kernel)
theorem mok_40 : MOK 40 0 := ⟨wd_521, wd_522, by decide +kernel, by decide +kernel, by decide +kernel, by decide +kernel⟩
theorem wd_523 : Cond.instanceMethod (mt 40).1 ∈ lw_tbl := List.mem_of_getElem? (i := 749) (by decide +kernel)
theorem wd_524 : Cond.selects (mt 40).1.cls (mt 40).1 (mt 40).1 ∈ lw_tbl := List.mem_of_getElem? (i := 750) (by decide +kernel)
theorem wd_525 : Cond.methodLink RX6 237 (mt 36).1 ∈ lw_tbl := List.mem_of_getElem? (i := 495) (by decide +kernel)
theorem wd_526 : Cond.methodLink RX7 3 objectInit ∈ lw_tbl := List.mem_of_getElem? (i := 757) (by decide +kernel)
theorem wd_527 : Cond.fieldLink RX7 9 (TX7 2).1 (TX7 2).2.1 (TX7 2).2.2.1 ∈ lw_tbl := List.mem_of_getElem? (i := 764) (by decide +kernel)
theorem inw_7 : ∀ w ∈ u_ws RX7 TX7 28, w ∈ gtbl := by
  have e : u_ws RX7 TX7 28 = [790, 792, 794, 796, 798, 800, 802, 804, 806, 808, 810, 812, 814, 816, 818, 820, 822, 824, 826, 828, 830, 832, 834, 836, 838, 840, 842, 844].filterMap (fun i => lw_tbl[i]?) := by decide +kernel
  have g : (u_ws RX7 TX7 28).all goodWord = true := by decide +kernel
  intro w hw
  refine gt_in ?_ (List.all_eq_true.mp g w hw)
  rw [e] at hw
  obtain ⟨i, -, hi⟩ := List.mem_filterMap.mp hw
  exact List.mem_of_getElem? hi
theorem fl_7_9 : Fld 7 2 RX7 9 true (.array .int) := ⟨RX7, TX7, 28, tyX7, rfl, by decide, wd_527, inw_7, tyX7_ok, nmX7, rfl, rfl, by decide +kernel⟩
theorem wd_528 : Cond.fieldLink RX7 13 (TX7 4).1 (TX7 4).2.1 (TX7 4).2.2.1 ∈ lw_tbl := List.mem_of_getElem? (i := 766) (by decide +kernel)
theorem fl_7_13 : Fld 7 4 RX7 13 true (.array .int) := ⟨RX7, TX7, 28, tyX7, rfl, by decide, wd_528, inw_7, tyX7_ok, nmX7, rfl, rfl, by decide +kernel⟩
theorem wd_529 : Cond.fieldLink RX7 16 (TX7 5).1 (TX7 5).2.1 (TX7 5).2.2.1 ∈ lw_tbl := List.mem_of_getElem? (i := 767) (by decide +kernel)
theorem fl_7_16 : Fld 7 5 RX7 16 true (.array .int) := ⟨RX7, TX7, 28, tyX7, rfl, by decide, wd_529, inw_7, tyX7_ok, nmX7, rfl, rfl, by decide +kernel⟩
theorem wd_530 : Cond.fieldLink RX7 19 (TX7 6).1 (TX7 6).2.1 (TX7 6).2.2.1 ∈ lw_tbl := List.mem_of_getElem? (i := 768) (by decide +kernel)
theorem fl_7_19 : Fld 7 6 RX7 19 true (.array .int) := ⟨RX7, TX7, 28, tyX7, rfl, by decide, wd_530, inw_7, tyX7_ok, nmX7, rfl, rfl, by decide +kernel⟩
theorem wd_531 : Cond.fieldLink RX7 22 (TX7 8).1 (TX7 8).2.1 (TX7 8).2.2.1 ∈ lw_tbl := List.mem_of_getElem? (i := 770) (by decide +kernel)
theorem fl_7_22 : Fld 7 8 RX7 22 true (.array .int) := ⟨RX7, TX7, 28, tyX7, rfl, by decide, wd_531, inw_7, tyX7_ok, nmX7, rfl, rfl, by decide +kernel⟩
theorem wd_532 : Cond.fieldLink RX7 25 (TX7 9).1 (TX7 9).2.1 (TX7 9).2.2.1 ∈ lw_tbl := List.mem_of_getElem? (i := 771) (by decide +kernel)
theorem fl_7_25 : Fld 7 9 RX7 25 true (.array .int) := ⟨RX7, TX7, 28, tyX7, rfl, by decide, wd_532, inw_7, tyX7_ok, nmX7, rfl, rfl, by decide +kernel⟩
theorem wd_533 : Cond.fieldLink RX7 28 (TX7 10).1 (TX7 10).2.1 (TX7 10).2.2.1 ∈ lw_tbl := List.mem_of_getElem? (i := 772) (by decide +kernel)
theorem fl_7_28 : Fld 7 10 RX7 28 true (.array .int) := ⟨RX7, TX7, 28, tyX7, rfl, by decide, wd_533, inw_7, tyX7_ok, nmX7, rfl, rfl, by decide +kernel⟩
theorem wd_534 : Cond.fieldLink RX7 31 (TX7 11).1 (TX7 11).2.1 (TX7 11).2.2.1 ∈ lw_tbl := List.mem_of_getElem? (i := 773) (by decide +kernel)
theorem fl_7_31 : Fld 7 11 RX7 31 true (.array .int) := ⟨RX7, TX7, 28, tyX7, rfl, by decide, wd_534, inw_7, tyX7_ok, nmX7, rfl, rfl, by decide +kernel⟩
theorem wd_535 : Cond.fieldLink RX7 34 (TX7 16).1 (TX7 16).2.1 (TX7 16).2.2.1 ∈ lw_tbl := List.mem_of_getElem? (i := 778) (by decide +kernel)
theorem fl_7_34 : Fld 7 16 RX7 34 true (.array .int) := ⟨RX7, TX7, 28, tyX7, rfl, by decide, wd_535, inw_7, tyX7_ok, nmX7, rfl, rfl, by decide +kernel⟩
theorem wd_536 : Cond.fieldLink RX7 37 (TX7 17).1 (TX7 17).2.1 (TX7 17).2.2.1 ∈ lw_tbl := List.mem_of_getElem? (i := 779) (by decide +kernel)
theorem fl_7_37 : Fld 7 17 RX7 37 true (.array .int) := ⟨RX7, TX7, 28, tyX7, rfl, by decide, wd_536, inw_7, tyX7_ok, nmX7, rfl, rfl, by decide +kernel⟩
theorem wd_537 : Cond.fieldLink RX7 40 (TX7 18).1 (TX7 18).2.1 (TX7 18).2.2.1 ∈ lw_tbl := List.mem_of_getElem? (i := 780) (by decide +kernel)
theorem fl_7_40 : Fld 7 18 RX7 40 true (.array .int) := ⟨RX7, TX7, 28, tyX7, rfl, by decide, wd_537, inw_7, tyX7_ok, nmX7, rfl, rfl, by decide +kernel⟩
theorem wd_538 : Cond.fieldLink RX7 43 (TX7 19).1 (TX7 19).2.1 (TX7 19).2.2.1 ∈ lw_tbl := List.mem_of_getElem? (i := 781) (by decide +kernel)
theorem fl_7_43 : Fld 7 19 RX7 43 true (.array .int) := ⟨RX7, TX7, 28, tyX7, rfl, by decide, wd_538, inw_7, tyX7_ok, nmX7, rfl, rfl, by decide +kernel⟩
theorem wd_539 : Cond.fieldLink RX7 46 (TX7 20).1 (TX7 20).2.1 (TX7 20).2.2.1 ∈ lw_tbl := List.mem_of_getElem? (i := 782) (by decide +kernel)
theorem fl_7_46 : Fld 7 20 RX7 46 true (.array .int) := ⟨RX7, TX7, 28, tyX7, rfl, by decide, wd_539, inw_7, tyX7_ok, nmX7, rfl, rfl, by decide +kernel⟩
theorem wd_540 : Cond.fieldLink RX7 49 (TX7 21).1 (TX7 21).2.1 (TX7 21).2.2.1 ∈ lw_tbl := List.mem_of_getElem? (i := 783) (by decide +kernel)
theorem fl_7_49 : Fld 7 21 RX7 49 true (.array .int) := ⟨RX7, TX7, 28, tyX7, rfl, by decide, wd_540, inw_7, tyX7_ok, nmX7, rfl, rfl, by decide +kernel⟩
theorem wd_541 : Cond.fieldLink RX7 52 (TX7 23).1 (TX7 23).2.1 (TX7 23).2.2.1 ∈ lw_tbl := List.mem_of_getElem? (i := 785) (by decide +kernel)
theorem fl_7_52 : Fld 7 23 RX7 52 true (.array .int) := ⟨RX7, TX7, 28, tyX7, rfl, by decide, wd_541, inw_7, tyX7_ok, nmX7, rfl, rfl, by decide +kernel⟩
theorem wd_542 : Cond.fieldLink RX7 55 (TX7 24).1 (TX7 24).2.1 (TX7 24).2.2.1 ∈ lw_tbl := List.mem_of_getElem? (i := 786) (by decide +kernel)
theorem fl_7_55 : Fld 7 24 RX7 55 true (.array .int) := ⟨RX7, TX7, 28, tyX7, rfl, by decide, wd_542, inw_7, tyX7_ok, nmX7, rfl, rfl, by decide +kernel⟩
theorem wd_543 : Cond.fieldLink RX7 58 (TX7 25).1 (TX7 25).2.1 (TX7 25).2.2.1 ∈ lw_tbl := List.mem_of_getElem? (i := 787) (by decide +kernel)
theorem fl_7_58 : Fld 7 25 RX7 58 true (.array .int) := ⟨RX7, TX7, 28, tyX7, rfl, by decide, wd_543, inw_7, tyX7_ok, nmX7, rfl, rfl, by decide +kernel⟩
theorem wd_544 : Cond.fieldLink RX7 61 (TX7 26).1 (TX7 26).2.1 (TX7 26).2.2.1 ∈ lw_tbl := List.mem_of_getElem? (i := 788) (by decide +kernel)
theorem fl_7_61 : Fld 7 26 RX7 61 true (.array .int) := ⟨RX7, TX7, 28, tyX7, rfl, by decide, wd_544, inw_7, tyX7_ok, nmX7, rfl, rfl, by decide +kernel⟩
theorem wd_545 : Cond.fieldLink RX7 64 (TX7 1).1 (TX7 1).2.1 (TX7 1).2.2.1 ∈ lw_tbl := List.mem_of_getElem? (i := 763) (by decide +kernel)
theorem fl_7_64 : Fld 7 1 RX7 64 false (.int) := ⟨RX7, TX7, 28, tyX7, rfl, by decide, wd_545, inw_7, tyX7_ok, nmX7, rfl, rfl, by decide +kernel⟩
theorem wd_546 : Cond.methodLink RX7 68 (mt 121).1 ∈ lw_tbl := List.mem_of_getElem? (i := 758) (by decide +kernel)
theorem wd_547 : Cond.code (mt 121).1 (mt 121).2.1 (mt 121).2.2.1 (mt 121).2.2.2 ∈ lw_tbl := List.mem_of_getElem? (i := 761) (by decide +kernel)
theorem wd_548 : Cond.initialized (mt 121).1.cls ∈ lw_tbl := List.mem_of_getElem? (i := 60) (by decide +kernel)
theorem mok_121 : MOK 121 2 := ⟨wd_547, wd_548, by decide +kernel, by decide +kernel, by decide +kernel, by decide +kernel⟩
theorem wd_549 : Cond.instanceMethod (mt 121).1 ∈ lw_tbl := List.mem_of_getElem? (i := 760) (by decide +kernel)
theorem wd_550 : Cond.selects (mt 121).1.cls (mt 121).1 (mt 121).1 ∈ lw_tbl := List.mem_of_getElem? (i := 18) (by decide +kernel)
theorem wd_551 : Cond.fieldLink RX7 72 (TX7 0).1 (TX7 0).2.1 (TX7 0).2.2.1 ∈ lw_tbl := List.mem_of_getElem? (i := 762) (by decide +kernel)
theorem fl_7_72 : Fld 7 0 RX7 72 false (.int) := ⟨RX7, TX7, 28, tyX7, rfl, by decide, wd_551, inw_7, tyX7_ok, nmX7, rfl, rfl, by decide +kernel⟩
theorem wd_552 : Cond.methodLink RX7 75 (mt 117).1 ∈ lw_tbl := List.mem_of_getElem? (i := 851) (by decide +kernel)
theorem wd_553 : Cond.code (mt 117).1 (mt 117).2.1 (mt 117).2.2.1 (mt 117).2.2.2 ∈ lw_tbl := List.mem_of_getElem? (i := 853) (by decide +kernel)
theorem wd_554 : Cond.initialized (mt 117).1.cls ∈ lw_tbl := List.mem_of_getElem? (i := 60) (by decide +kernel)
theorem mok_117 : MOK 117 3 := ⟨wd_553, wd_554, by decide +kernel, by decide +kernel, by decide +kernel, by decide +kernel⟩
theorem wd_555 : Cond.static (mt 117).1 ∈ lw_tbl := List.mem_of_getElem? (i := 852) (by decide +kernel)
theorem wd_556 : Cond.fieldLink RX7 79 (TX7 12).1 (TX7 12).2.1 (TX7 12).2.2.1 ∈ lw_tbl := List.mem_of_getElem? (i := 774) (by decide +kernel)
theorem fl_7_79 : Fld 7 12 RX7 79 false (.int) := ⟨RX7, TX7, 28, tyX7, rfl, by decide, wd_556, inw_7, tyX7_ok, nmX7, rfl, rfl, by decide +kernel⟩
theorem wd_557 : Cond.fieldLink RX7 82 (TX7 13).1 (TX7 13).2.1 (TX7 13).2.2.1 ∈ lw_tbl := List.mem_of_getElem? (i := 775) (by decide +kernel)
theorem fl_7_82 : Fld 7 13 RX7 82 false (.int) := ⟨RX7, TX7, 28, tyX7, rfl, by decide, wd_557, inw_7, tyX7_ok, nmX7, rfl, rfl, by decide +kernel⟩
theorem wd_558 : Cond.methodLink RX7 85 (mt 126).1 ∈ lw_tbl := List.mem_of_getElem? (i := 866) (by decide +kernel)
theorem wd_559 : Cond.code (mt 126).1 (mt 126).2.1 (mt 126).2.2.1 (mt 126).2.2.2 ∈ lw_tbl := List.mem_of_getElem? (i := 869) (by decide +kernel)
theorem wd_560 : Cond.initialized (mt 126).1.cls ∈ lw_tbl := List.mem_of_getElem? (i := 60) (by decide +kernel)
theorem mok_126 : MOK 126 0 := ⟨wd_559, wd_560, by decide +kernel, by decide +kernel, by decide +kernel, by decide +kernel⟩
theorem wd_561 : Cond.instanceMethod (mt 126).1 ∈ lw_tbl := List.mem_of_getElem? (i := 868) (by decide +kernel)
theorem wd_562 : Cond.selects (mt 126).1.cls (mt 126).1 (mt 126).1 ∈ lw_tbl := List.mem_of_getElem? (i := 20) (by decide +kernel)
theorem wd_563 : Cond.fieldLink RX7 89 (TX7 14).1 (TX7 14).2.1 (TX7 14).2.2.1 ∈ lw_tbl := List.mem_of_getElem? (i := 776) (by decide +kernel)
theorem fl_7_89 : Fld 7 14 RX7 89 false (.int) := ⟨RX7, TX7, 28, tyX7, rfl, by decide, wd_563, inw_7, tyX7_ok, nmX7, rfl, rfl, by decide +kernel⟩
theorem wd_564 : Cond.methodLink RX7 92 (mt 127).1 ∈ lw_tbl := List.mem_of_getElem? (i := 874) (by decide +kernel)
theorem wd_565 : Cond.code (mt 127).1 (mt 127).2.1 (mt 127).2.2.1 (mt 127).2.2.2 ∈ lw_tbl := List.mem_of_getElem? (i := 877) (by decide +kernel)
theorem wd_566 : Cond.initialized (mt 127).1.cls ∈ lw_tbl := List.mem_of_getElem? (i := 60) (by decide +kernel)
theorem mok_127 : MOK 127 1 := ⟨wd_565, wd_566, by decide +kernel, by decide +kernel, by decide +kernel, by decide +kernel⟩
theorem wd_567 : Cond.instanceMethod (mt 127).1 ∈ lw_tbl := List.mem_of_getElem? (i := 876) (by decide +kernel)
theorem wd_568 : Cond.selects (mt 127).1.cls (mt 127).1 (mt 127).1 ∈ lw_tbl := List.mem_of_getElem? (i := 22) (by decide +kernel)
theorem wd_569 : Cond.methodLink RX7 96 (mt 128).1 ∈ lw_tbl := List.mem_of_getElem? (i := 878) (by decide +kernel)
theorem wd_570 : Cond.code (mt 128).1 (mt 128).2.1 (mt 128).2.2.1 (mt 128).2.2.2 ∈ lw_tbl := List.mem_of_getElem? (i := 881) (by decide +kernel)
theorem wd_571 : Cond.initialized (mt 128).1.cls ∈ lw_tbl := List.mem_of_getElem? (i := 60) (by decide +kernel)
theorem mok_128 : MOK 128 1 := ⟨wd_570, wd_571, by decide +kernel, by decide +kernel, by decide +kernel, by decide +kernel⟩
theorem wd_572 : Cond.instanceMethod (mt 128).1 ∈ lw_tbl := List.mem_of_getElem? (i := 880) (by decide +kernel)
theorem wd_573 : Cond.selects (mt 128).1.cls (mt 128).1 (mt 128).1 ∈ lw_tbl := List.mem_of_getElem? (i := 23) (by decide +kernel)
theorem wd_574 : Cond.fieldLink RX7 100 (TX7 15).1 (TX7 15).2.1 (TX7 15).2.2.1 ∈ lw_tbl := List.mem_of_getElem? (i := 777) (by decide +kernel)
theorem fl_7_100 : Fld 7 15 RX7 100 false (.int) := ⟨RX7, TX7, 28, tyX7, rfl, by decide, wd_574, inw_7, tyX7_ok, nmX7, rfl, rfl, by decide +kernel⟩
theorem wd_575 : Cond.methodLink RX7 103 (mt 129).1 ∈ lw_tbl := List.mem_of_getElem? (i := 870) (by decide +kernel)
theorem wd_576 : Cond.code (mt 129).1 (mt 129).2.1 (mt 129).2.2.1 (mt 129).2.2.2 ∈ lw_tbl := List.mem_of_getElem? (i := 873) (by decide +kernel)
theorem wd_577 : Cond.initialized (mt 129).1.cls ∈ lw_tbl := List.mem_of_getElem? (i := 60) (by decide +kernel)
theorem mok_129 : MOK 129 0 := ⟨wd_576, wd_577, by decide +kernel, by decide +kernel, by decide +kernel, by decide +kernel⟩
theorem wd_578 : Cond.instanceMethod (mt 129).1 ∈ lw_tbl := List.mem_of_getElem? (i := 872) (by decide +kernel)
theorem wd_579 : Cond.selects (mt 129).1.cls (mt 129).1 (mt 129).1 ∈ lw_tbl := List.mem_of_getElem? (i := 21) (by decide +kernel)
theorem wd_580 : Cond.methodLink RX7 107 (mt 130).1 ∈ lw_tbl := List.mem_of_getElem? (i := 882) (by decide +kernel)
theorem wd_581 : Cond.code (mt 130).1 (mt 130).2.1 (mt 130).2.2.1 (mt 130).2.2.2 ∈ lw_tbl := List.mem_of_getElem? (i := 885) (by decide +kernel)
theorem wd_582 : Cond.initialized (mt 130).1.cls ∈ lw_tbl := List.mem_of_getElem? (i := 60) (by decide +kernel)
theorem mok_130 : MOK 130 0 := ⟨wd_581, wd_582, by decide +kernel, by decide +kernel, by decide +kernel, by decide +kernel⟩
theorem wd_583 : Cond.instanceMethod (mt 130).1 ∈ lw_tbl := List.mem_of_getElem? (i := 884) (by decide +kernel)
theorem wd_584 : Cond.selects (mt 130).1.cls (mt 130).1 (mt 130).1 ∈ lw_tbl := List.mem_of_getElem? (i := 24) (by decide +kernel)
theorem wd_585 : Cond.methodLink RX7 110 (mt 131).1 ∈ lw_tbl := List.mem_of_getElem? (i := 886) (by decide +kernel)
theorem wd_586 : Cond.code (mt 131).1 (mt 131).2.1 (mt 131).2.2.1 (mt 131).2.2.2 ∈ lw_tbl := List.mem_of_getElem? (i := 889) (by decide +kernel)
theorem wd_587 : Cond.initialized (mt 131).1.cls ∈ lw_tbl := List.mem_of_getElem? (i := 60) (by decide +kernel)
theorem mok_131 : MOK 131 0 := ⟨wd_586, wd_587, by decide +kernel, by decide +kernel, by decide +kernel, by decide +kernel⟩
theorem wd_588 : Cond.instanceMethod (mt 131).1 ∈ lw_tbl := List.mem_of_getElem? (i := 888) (by decide +kernel)
theorem wd_589 : Cond.selects (mt 131).1.cls (mt 131).1 (mt 131).1 ∈ lw_tbl := List.mem_of_getElem? (i := 25) (by decide +kernel)
theorem wd_590 : Cond.methodLink RX7 113 (mt 132).1 ∈ lw_tbl := List.mem_of_getElem? (i := 862) (by decide +kernel)
theorem wd_591 : Cond.code (mt 132).1 (mt 132).2.1 (mt 132).2.2.1 (mt 132).2.2.2 ∈ lw_tbl := List.mem_of_getElem? (i := 865) (by decide +kernel)
theorem wd_592 : Cond.initialized (mt 132).1.cls ∈ lw_tbl := List.mem_of_getElem? (i := 60) (by decide +kernel)
theorem mok_132 : MOK 132 0 := ⟨wd_591, wd_592, by decide +kernel, by decide +kernel, by decide +kernel, by decide +kernel⟩
theorem wd_593 : Cond.instanceMethod (mt 132).1 ∈ lw_tbl := List.mem_of_getElem? (i := 864) (by decide +kernel)
theorem wd_594 : Cond.selects (mt 132).1.cls (mt 132).1 (mt 132).1 ∈ lw_tbl := List.mem_of_getElem? (i := 19) (by decide +kernel)
theorem wd_595 : Cond.methodLink RX7 116 (mt 133).1 ∈ lw_tbl := List.mem_of_getElem? (i := 894) (by decide +kernel)
theorem wd_596 : Cond.code (mt 133).1 (mt 133).2.1 (mt 133).2.2.1 (mt 133).2.2.2 ∈ lw_tbl := List.mem_of_getElem? (i := 861) (by decide +kernel)
theorem wd_597 : Cond.initialized (mt 133).1.cls ∈ lw_tbl := List.mem_of_getElem? (i := 60) (by decide +kernel)
theorem mok_133 : MOK 133 0 := ⟨wd_596, wd_597, by decide +kernel, by decide +kernel, by decide +kernel, by decide +kernel⟩
theorem wd_598 : Cond.instanceMethod (mt 133).1 ∈ lw_tbl := List.mem_of_getElem? (i := 859) (by decide +kernel)
theorem wd_599 : Cond.selects (mt 133).1.cls (mt 133).1 (mt 133).1 ∈ lw_tbl := List.mem_of_getElem? (i := 860) (by decide +kernel)
theorem wd_600 : Cond.fieldLink RX7 119 (TX7 3).1 (TX7 3).2.1 (TX7 3).2.2.1 ∈ lw_tbl := List.mem_of_getElem? (i := 765) (by decide +kernel)
theorem fl_7_119 : Fld 7 3 RX7 119 false (.int) := ⟨RX7, TX7, 28, tyX7, rfl, by decide, wd_600, inw_7, tyX7_ok, nmX7, rfl, rfl, by decide +kernel⟩
theorem wd_601 : Cond.fieldLink RX7 122 (TX7 7).1 (TX7 7).2.1 (TX7 7).2.2.1 ∈ lw_tbl := List.mem_of_getElem? (i := 769) (by decide +kernel)
theorem fl_7_122 : Fld 7 7 RX7 122 false (.int) := ⟨RX7, TX7, 28, tyX7, rfl, by decide, wd_601, inw_7, tyX7_ok, nmX7, rfl, rfl, by decide +kernel⟩
theorem wd_602 : Cond.fieldLink RX7 125 (TX7 22).1 (TX7 22).2.1 (TX7 22).2.2.1 ∈ lw_tbl := List.mem_of_getElem? (i := 784) (by decide +kernel)
theorem fl_7_125 : Fld 7 22 RX7 125 false (.int) := ⟨RX7, TX7, 28, tyX7, rfl, by decide, wd_602, inw_7, tyX7_ok, nmX7, rfl, rfl, by decide +kernel⟩
theorem wd_603 : Cond.fieldLink RX7 128 (TX7 27).1 (TX7 27).2.1 (TX7 27).2.2.1 ∈ lw_tbl := List.mem_of_getElem? (i := 789) (by decide +kernel)
theorem fl_7_128 : Fld 7 27 RX7 128 false (.int) := ⟨RX7, TX7, 28, tyX7, rfl, by decide, wd_603, inw_7, tyX7_ok, nmX7, rfl, rfl, by decide +kernel⟩
theorem wd_604 : Cond.methodLink RX7 131 (mt 122).1 ∈ lw_tbl := List.mem_of_getElem? (i := 899) (by decide +kernel)
theorem wd_605 : Cond.code (mt 122).1 (mt 122).2.1 (mt 122).2.2.1 (mt 122).2.2.2 ∈ lw_tbl := List.mem_of_getElem? (i := 902) (by decide +kernel)
theorem wd_606 : Cond.initialized (mt 122).1.cls ∈ lw_tbl := List.mem_of_getElem? (i := 60) (by decide +kernel)
theorem mok_122 : MOK 122 1 := ⟨wd_605, wd_606, by decide +kernel, by decide +kernel, by decide +kernel, by decide +kernel⟩
theorem wd_607 : Cond.instanceMethod (mt 122).1 ∈ lw_tbl := List.mem_of_getElem? (i := 901) (by decide +kernel)
theorem wd_608 : Cond.selects (mt 122).1.cls (mt 122).1 (mt 122).1 ∈ lw_tbl := List.mem_of_getElem? (i := 26) (by decide +kernel)
theorem wd_609 : Cond.methodLink RX7 134 (mt 123).1 ∈ lw_tbl := List.mem_of_getElem? (i := 903) (by decide +kernel)
theorem wd_610 : Cond.code (mt 123).1 (mt 123).2.1 (mt 123).2.2.1 (mt 123).2.2.2 ∈ lw_tbl := List.mem_of_getElem? (i := 906) (by decide +kernel)
theorem wd_611 : Cond.initialized (mt 123).1.cls ∈ lw_tbl := List.mem_of_getElem? (i := 60) (by decide +kernel)
theorem mok_123 : MOK 123 1 := ⟨wd_610, wd_611, by decide +kernel, by decide +kernel, by decide +kernel, by decide +kernel⟩
theorem wd_612 : Cond.instanceMethod (mt 123).1 ∈ lw_tbl := List.mem_of_getElem? (i := 905) (by decide +kernel)
theorem wd_613 : Cond.selects (mt 123).1.cls (mt 123).1 (mt 123).1 ∈ lw_tbl := List.mem_of_getElem? (i := 27) (by decide +kernel)
theorem wd_614 : Cond.methodLink RX7 137 (mt 138).1 ∈ lw_tbl := List.mem_of_getElem? (i := 935) (by decide +kernel)
theorem wd_615 : Cond.code (mt 138).1 (mt 138).2.1 (mt 138).2.2.1 (mt 138).2.2.2 ∈ lw_tbl := List.mem_of_getElem? (i := 938) (by decide +kernel)
theorem wd_616 : Cond.initialized (mt 138).1.cls ∈ lw_tbl := List.mem_of_getElem? (i := 60) (by decide +kernel)
theorem mok_138 : MOK 138 2 := ⟨wd_615, wd_616, by decide +kernel, by decide +kernel, by decide +kernel, by decide +kernel⟩
theorem wd_617 : Cond.instanceMethod (mt 138).1 ∈ lw_tbl := List.mem_of_getElem? (i := 937) (by decide +kernel)
theorem wd_618 : Cond.selects (mt 138).1.cls (mt 138).1 (mt 138).1 ∈ lw_tbl := List.mem_of_getElem? (i := 32) (by decide +kernel)
theorem wd_619 : Cond.methodLink RX7 141 (mt 139).1 ∈ lw_tbl := List.mem_of_getElem? (i := 931) (by decide +kernel)
theorem wd_620 : Cond.code (mt 139).1 (mt 139).2.1 (mt 139).2.2.1 (mt 139).2.2.2 ∈ lw_tbl := List.mem_of_getElem? (i := 934) (by decide +kernel)
theorem wd_621 : Cond.initialized (mt 139).1.cls ∈ lw_tbl := List.mem_of_getElem? (i := 60) (by decide +kernel)
theorem mok_139 : MOK 139 0 := ⟨wd_620, wd_621, by decide +kernel, by decide +kernel, by decide +kernel, by decide +kernel⟩
theorem wd_622 : Cond.instanceMethod (mt 139).1 ∈ lw_tbl := List.mem_of_getElem? (i := 933) (by decide +kernel)
theorem wd_623 : Cond.selects (mt 139).1.cls (mt 139).1 (mt 139).1 ∈ lw_tbl := List.mem_of_getElem? (i := 31) (by decide +kernel)
theorem wd_624 : Cond.methodLink RX7 144 (mt 144).1 ∈ lw_tbl := List.mem_of_getElem? (i := 923) (by decide +kernel)
theorem wd_625 : Cond.code (mt 144).1 (mt 144).2.1 (mt 144).2.2.1 (mt 144).2.2.2 ∈ lw_tbl := List.mem_of_getElem? (i := 926) (by decide +kernel)
theorem wd_626 : Cond.initialized (mt 144).1.cls ∈ lw_tbl := List.mem_of_getElem? (i := 60) (by decide +kernel)
theorem mok_144 : MOK 144 2 := ⟨wd_625, wd_626, by decide +kernel, by decide +kernel, by decide +kernel, by decide +kernel⟩
theorem wd_627 : Cond.instanceMethod (mt 144).1 ∈ lw_tbl := List.mem_of_getElem? (i := 925) (by decide +kernel)
theorem wd_628 : Cond.selects (mt 144).1.cls (mt 144).1 (mt 144).1 ∈ lw_tbl := List.mem_of_getElem? (i := 29) (by decide +kernel)
theorem wd_629 : Cond.methodLink RX7 148 (mt 146).1 ∈ lw_tbl := List.mem_of_getElem? (i := 919) (by decide +kernel)
theorem wd_630 : Cond.code (mt 146).1 (mt 146).2.1 (mt 146).2.2.1 (mt 146).2.2.2 ∈ lw_tbl := List.mem_of_getElem? (i := 922) (by decide +kernel)
theorem wd_631 : Cond.initialized (mt 146).1.cls ∈ lw_tbl := List.mem_of_getElem? (i := 60) (by decide +kernel)
theorem mok_146 : MOK 146 0 := ⟨wd_630, wd_631, by decide +kernel, by decide +kernel, by decide +kernel, by decide +kernel⟩
theorem wd_632 : Cond.instanceMethod (mt 146).1 ∈ lw_tbl := List.mem_of_getElem? (i := 921) (by decide +kernel)
theorem wd_633 : Cond.selects (mt 146).1.cls (mt 146).1 (mt 146).1 ∈ lw_tbl := List.mem_of_getElem? (i := 28) (by decide +kernel)
theorem wd_634 : Cond.methodLink RX7 151 (mt 140).1 ∈ lw_tbl := List.mem_of_getElem? (i := 927) (by decide +kernel)
theorem wd_635 : Cond.code (mt 140).1 (mt 140).2.1 (mt 140).2.2.1 (mt 140).2.2.2 ∈ lw_tbl := List.mem_of_getElem? (i := 930) (by decide +kernel)
theorem wd_636 : Cond.initialized (mt 140).1.cls ∈ lw_tbl := List.mem_of_getElem? (i := 60) (by decide +kernel)
theorem mok_140 : MOK 140 1 := ⟨wd_635, wd_636, by decide +kernel, by decide +kernel, by decide +kernel, by decide +kernel⟩
theorem wd_637 : Cond.instanceMethod (mt 140).1 ∈ lw_tbl := List.mem_of_getElem? (i := 929) (by decide +kernel)
theorem wd_638 : Cond.selects (mt 140).1.cls (mt 140).1 (mt 140).1 ∈ lw_tbl := List.mem_of_getElem? (i := 30) (by decide +kernel)
theorem wd_639 : Cond.methodLink RX7 155 (mt 149).1 ∈ lw_tbl := List.mem_of_getElem? (i := 947) (by decide +kernel)
theorem wd_640 : Cond.code (mt 149).1 (mt 149).2.1 (mt 149).2.2.1 (mt 149).2.2.2 ∈ lw_tbl := List.mem_of_getElem? (i := 950) (by decide +kernel)
theorem wd_641 : Cond.initialized (mt 149).1.cls ∈ lw_tbl := List.mem_of_getElem? (i := 60) (by decide +kernel)
theorem mok_149 : MOK 149 1 := ⟨wd_640, wd_641, by decide +kernel, by decide +kernel, by decide +kernel, by decide +kernel⟩
theorem wd_642 : Cond.instanceMethod (mt 149).1 ∈ lw_tbl := List.mem_of_getElem? (i := 949) (by decide +kernel)
theorem wd_643 : Cond.selects (mt 149).1.cls (mt 149).1 (mt 149).1 ∈ lw_tbl := List.mem_of_getElem? (i := 33) (by decide +kernel)
theorem wd_644 : Cond.methodLink RX7 158 (mt 143).1 ∈ lw_tbl := List.mem_of_getElem? (i := 959) (by decide +kernel)
theorem wd_645 : Cond.code (mt 143).1 (mt 143).2.1 (mt 143).2.2.1 (mt 143).2.2.2 ∈ lw_tbl := List.mem_of_getElem? (i := 962) (by decide +kernel)
theorem wd_646 : Cond.initialized (mt 143).1.cls ∈ lw_tbl := List.mem_of_getElem? (i := 60) (by decide +kernel)
theorem mok_143 : MOK 143 0 := ⟨wd_645, wd_646, by decide +kernel, by decide +kernel, by decide +kernel, by decide +kernel⟩
theorem wd_647 : Cond.instanceMethod (mt 143).1 ∈ lw_tbl := List.mem_of_getElem? (i := 961) (by decide +kernel)
theorem wd_648 : Cond.selects (mt 143).1.cls (mt 143).1 (mt 143).1 ∈ lw_tbl := List.mem_of_getElem? (i := 35) (by decide +kernel)
theorem wd_649 : Cond.methodLink RX7 161 (mt 151).1 ∈ lw_tbl := List.mem_of_getElem? (i := 955) (by decide +kernel)
theorem wd_650 : Cond.code (mt 151).1 (mt 151).2.1 (mt 151).2.2.1 (mt 151).2.2.2 ∈ lw_tbl := List.mem_of_getElem? (i := 958) (by decide +kernel)
theorem wd_651 : Cond.initialized (mt 151).1.cls ∈ lw_tbl := List.mem_of_getElem? (i := 60) (by decide +kernel)
theorem mok_151 : MOK 151 2 := ⟨wd_650, wd_651, by decide +kernel, by decide +kernel, by decide +kernel, by decide +kernel⟩
theorem wd_652 : Cond.instanceMethod (mt 151).1 ∈ lw_tbl := List.mem_of_getElem? (i := 957) (by decide +kernel)
theorem wd_653 : Cond.selects (mt 151).1.cls (mt 151).1 (mt 151).1 ∈ lw_tbl := List.mem_of_getElem? (i := 34) (by decide +kernel)
theorem wd_654 : Cond.methodLink RX7 164 (mt 145).1 ∈ lw_tbl := List.mem_of_getElem? (i := 975) (by decide +kernel)
theorem wd_655 : Cond.code (mt 145).1 (mt 145).2.1 (mt 145).2.2.1 (mt 145).2.2.2 ∈ lw_tbl := List.mem_of_getElem? (i := 978) (by decide +kernel)
theorem wd_656 : Cond.initialized (mt 145).1.cls ∈ lw_tbl := List.mem_of_getElem? (i := 60) (by decide +kernel)
theorem mok_145 : MOK 145 2 := ⟨wd_655, wd_656, by decide +kernel, by decide +kernel, by decide +kernel, by decide +kernel⟩
theorem wd_657 : Cond.instanceMethod (mt 145).1 ∈ lw_tbl := List.mem_of_getElem? (i := 977) (by decide +kernel)
theorem wd_658 : Cond.selects (mt 145).1.cls (mt 145).1 (mt 145).1 ∈ lw_tbl := List.mem_of_getElem? (i := 36) (by decide +kernel)
theorem wd_659 : Cond.methodLink RX7 167 (mt 156).1 ∈ lw_tbl := List.mem_of_getElem? (i := 983) (by decide +kernel)
theorem wd_660 : Cond.code (mt 156).1 (mt 156).2.1 (mt 156).2.2.1 (mt 156).2.2.2 ∈ lw_tbl := List.mem_of_getElem? (i := 986) (by decide +kernel)
theorem wd_661 : Cond.initialized (mt 156).1.cls ∈ lw_tbl := List.mem_of_getElem? (i := 60) (by decide +kernel)
theorem mok_156 : MOK 156 0 := ⟨wd_660, wd_661, by decide +kernel, by decide +kernel, by decide +kernel, by decide +kernel⟩
theorem wd_662 : Cond.instanceMethod (mt 156).1 ∈ lw_tbl := List.mem_of_getElem? (i := 985) (by decide +kernel)
theorem wd_663 : Cond.selects (mt 156).1.cls (mt 156).1 (mt 156).1 ∈ lw_tbl := List.mem_of_getElem? (i := 37) (by decide +kernel)
theorem wd_664 : Cond.methodLink RX7 170 (mt 157).1 ∈ lw_tbl := List.mem_of_getElem? (i := 987) (by decide +kernel)
theorem wd_665 : Cond.code (mt 157).1 (mt 157).2.1 (mt 157).2.2.1 (mt 157).2.2.2 ∈ lw_tbl := List.mem_of_getElem? (i := 990) (by decide +kernel)
theorem wd_666 : Cond.initialized (mt 157).1.cls ∈ lw_tbl := List.mem_of_getElem? (i := 60) (by decide +kernel)
theorem mok_157 : MOK 157 0 := ⟨wd_665, wd_666, by decide +kernel, by decide +kernel, by decide +kernel, by decide +kernel⟩
theorem wd_667 : Cond.instanceMethod (mt 157).1 ∈ lw_tbl := List.mem_of_getElem? (i := 989) (by decide +kernel)
theorem wd_668 : Cond.selects (mt 157).1.cls (mt 157).1 (mt 157).1 ∈ lw_tbl := List.mem_of_getElem? (i := 38) (by decide +kernel)
theorem wd_669 : Cond.methodLink RX7 173 (mt 141).1 ∈ lw_tbl := List.mem_of_getElem? (i := 1007) (by decide +kernel)
theorem wd_670 : Cond.code (mt 141).1 (mt 141).2.1 (mt 141).2.2.1 (mt 141).2.2.2 ∈ lw_tbl := List.mem_of_getElem? (i := 1010) (by decide +kernel)
theorem wd_671 : Cond.initialized (mt 141).1.cls ∈ lw_tbl := List.mem_of_getElem? (i := 60) (by decide +kernel)
theorem mok_141 : MOK 141 0 := ⟨wd_670, wd_671, by decide +kernel, by decide +kernel, by decide +kernel, by decide +kernel⟩
theorem wd_672 : Cond.instanceMethod (mt 141).1 ∈ lw_tbl := List.mem_of_getElem? (i := 1009) (by decide +kernel)
theorem wd_673 : Cond.selects (mt 141).1.cls (mt 141).1 (mt 141).1 ∈ lw_tbl := List.mem_of_getElem? (i := 40) (by decide +kernel)
theorem wd_674 : Cond.methodLink RX7 176 (mt 161).1 ∈ lw_tbl := List.mem_of_getElem? (i := 1003) (by decide +kernel)
theorem wd_675 : Cond.code (mt 161).1 (mt 161).2.1 (mt 161).2.2.1 (mt 161).2.2.2 ∈ lw_tbl := List.mem_of_getElem? (i := 1006) (by decide +kernel)
theorem wd_676 : Cond.initialized (mt 161).1.cls ∈ lw_tbl := List.mem_of_getElem? (i := 60) (by decide +kernel)
theorem mok_161 : MOK 161 1 := ⟨wd_675, wd_676, by decide +kernel, by decide +kernel, by decide +kernel, by decide +kernel⟩
theorem wd_677 : Cond.instanceMethod (mt 161).1 ∈ lw_tbl := List.mem_of_getElem? (i := 1005) (by decide +kernel)
theorem wd_678 : Cond.selects (mt 161).1.cls (mt 161).1 (mt 161).1 ∈ lw_tbl := List.mem_of_getElem? (i := 39) (by decide +kernel)
theorem wd_679 : Cond.methodLink RX7 179 (mt 118).1 ∈ lw_tbl := List.mem_of_getElem? (i := 1019) (by decide +kernel)
theorem wd_680 : Cond.code (mt 118).1 (mt 118).2.1 (mt 118).2.2.1 (mt 118).2.2.2 ∈ lw_tbl := List.mem_of_getElem? (i := 1021) (by decide +kernel)
theorem wd_681 : Cond.initialized (mt 118).1.cls ∈ lw_tbl := List.mem_of_getElem? (i := 60) (by decide +kernel)
theorem mok_118 : MOK 118 2 := ⟨wd_680, wd_681, by decide +kernel, by decide +kernel, by decide +kernel, by decide +kernel⟩
theorem wd_682 : Cond.static (mt 118).1 ∈ lw_tbl := List.mem_of_getElem? (i := 1020) (by decide +kernel)
theorem wd_683 : Cond.methodLink RX7 183 (mt 163).1 ∈ lw_tbl := List.mem_of_getElem? (i := 1015) (by decide +kernel)
theorem wd_684 : Cond.code (mt 163).1 (mt 163).2.1 (mt 163).2.2.1 (mt 163).2.2.2 ∈ lw_tbl := List.mem_of_getElem? (i := 1018) (by decide +kernel)
theorem wd_685 : Cond.initialized (mt 163).1.cls ∈ lw_tbl := List.mem_of_getElem? (i := 60) (by decide +kernel)
theorem mok_163 : MOK 163 1 := ⟨wd_684, wd_685, by decide +kernel, by decide +kernel, by decide +kernel, by decide +kernel⟩
theorem wd_686 : Cond.instanceMethod (mt 163).1 ∈ lw_tbl := List.mem_of_getElem? (i := 1017) (by decide +kernel)
theorem wd_687 : Cond.selects (mt 163).1.cls (mt 163).1 (mt 163).1 ∈ lw_tbl := List.mem_of_getElem? (i := 41) (by decide +kernel)
theorem wd_688 : Cond.methodLink RX7 186 (mt 119).1 ∈ lw_tbl := List.mem_of_getElem? (i := 1026) (by decide +kernel)
theorem wd_689 : Cond.code (mt 119).1 (mt 119).2.1 (mt 119).2.2.1 (mt 119).2.2.2 ∈ lw_tbl := List.mem_of_getElem? (i := 1028) (by decide +kernel)
theorem wd_690 : Cond.initialized (mt 119).1.cls ∈ lw_tbl := List.mem_of_getElem? (i := 60) (by decide +kernel)
theorem mok_119 : MOK 119 1 := ⟨wd_689, wd_690, by decide +kernel, by decide +kernel, by decide +kernel, by decide +kernel⟩
theorem wd_691 : Cond.static (mt 119).1 ∈ lw_tbl := List.mem_of_getElem? (i := 1027) (by decide +kernel)
theorem wd_692 : Cond.constant RX7 189 1048576 ∈ lw_tbl := List.mem_of_getElem? (i := 1033) (by decide +kernel)
theorem wd_693 : Cond.methodLink RX7 190 (mt 169).1 ∈ lw_tbl := List.mem_of_getElem? (i := 1046) (by decide +kernel)
theorem wd_694 : Cond.code (mt 169).1 (mt 169).2.1 (mt 169).2.2.1 (mt 169).2.2.2 ∈ lw_tbl := List.mem_of_getElem? (i := 1049) (by decide +kernel)
theorem wd_695 : Cond.initialized (mt 169).1.cls ∈ lw_tbl := List.mem_of_getElem? (i := 60) (by decide +kernel)
theorem mok_169 : MOK 169 0 := ⟨wd_694, wd_695, by decide +kernel, by decide +kernel, by decide +kernel, by decide +kernel⟩
theorem wd_696 : Cond.instanceMethod (mt 169).1 ∈ lw_tbl := List.mem_of_getElem? (i := 1048) (by decide +kernel)
theorem wd_697 : Cond.selects (mt 169).1.cls (mt 169).1 (mt 169).1 ∈ lw_tbl := List.mem_of_getElem? (i := 42) (by decide +kernel)
theorem wd_698 : Cond.methodLink RX7 193 (mt 172).1 ∈ lw_tbl := List.mem_of_getElem? (i := 1062) (by decide +kernel)
theorem wd_699 : Cond.code (mt 172).1 (mt 172).2.1 (mt 172).2.2.1 (mt 172).2.2.2 ∈ lw_tbl := List.mem_of_getElem? (i := 1065) (by decide +kernel)
theorem wd_700 : Cond.initialized (mt 172).1.cls ∈ lw_tbl := List.mem_of_getElem? (i := 60) (by decide +kernel)
theorem mok_172 : MOK 172 2 := ⟨wd_699, wd_700, by decide +kernel, by decide +kernel, by decide +kernel, by decide +kernel⟩
theorem wd_701 : Cond.instanceMethod (mt 172).1 ∈ lw_tbl := List.mem_of_getElem? (i := 1064) (by decide +kernel)
theorem wd_702 : Cond.selects (mt 172).1.cls (mt 172).1 (mt 172).1 ∈ lw_tbl := List.mem_of_getElem? (i := 44) (by decide +kernel)
theorem wd_703 : Cond.methodLink RX7 196 (mt 173).1 ∈ lw_tbl := List.mem_of_getElem? (i := 1058) (by decide +kernel)
theorem wd_704 : Cond.code (mt 173).1 (mt 173).2.1 (mt 173).2.2.1 (mt 173).2.2.2 ∈ lw_tbl := List.mem_of_getElem? (i := 1061) (by decide +kernel)
theorem wd_705 : Cond.initialized (mt 173).1.cls ∈ lw_tbl := List.mem_of_getElem? (i := 60) (by decide +kernel)
theorem mok_173 : MOK 173 3 := ⟨wd_704, wd_705, by decide +kernel, by decide +kernel, by decide +kernel, by decide +kernel⟩
theorem wd_706 : Cond.instanceMethod (mt 173).1 ∈ lw_tbl := List.mem_of_getElem? (i := 1060) (by decide +kernel)
theorem wd_707 : Cond.selects (mt 173).1.cls (mt 173).1 (mt 173).1 ∈ lw_tbl := List.mem_of_getElem? (i := 43) (by decide +kernel)
theorem wd_708 : Cond.constantLong RX7 200 10 ∈ lw_tbl := List.mem_of_getElem? (i := 1070) (by decide +kernel)
theorem wd_709 : Cond.methodLink RX7 202 (mt 175).1 ∈ lw_tbl := List.mem_of_getElem? (i := 1071) (by decide +kernel)
theorem wd_710 : Cond.code (mt 175).1 (mt 175).2.1 (mt 175).2.2.1 (mt 175).2.2.2 ∈ lw_tbl := List.mem_of_getElem? (i := 1073) (by decide +kernel)
theorem wd_711 : Cond.initialized (mt 175).1.cls ∈ lw_tbl := List.mem_of_getElem? (i := 60) (by decide +kernel)
theorem mok_175 : MOK 175 2 := ⟨wd_710, wd_711, by decide +kernel, by decide +kernel, by decide +kernel, by decide +kernel⟩
theorem wd_712 : Cond.static (mt 175).1 ∈ lw_tbl := List.mem_of_getElem? (i := 1072) (by decide +kernel)
theorem wd_713 : Cond.constantLong RX7 206 7919 ∈ lw_tbl := List.mem_of_getElem? (i := 1078) (by decide +kernel)
theorem wd_714 : Cond.constantLong RX7 208 6151 ∈ lw_tbl := List.mem_of_getElem? (i := 1079) (by decide +kernel)
theorem wd_715 : Cond.constantLong RX7 210 65521 ∈ lw_tbl := List.mem_of_getElem? (i := 1080) (by decide +kernel)
theorem wd_716 : Cond.constantLong RX7 212 2 ∈ lw_tbl := List.mem_of_getElem? (i := 1081) (by decide +kernel)
theorem wd_717 : Cond.methodLink RX7 214 (mt 142).1 ∈ lw_tbl := List.mem_of_getElem? (i := 1094) (by decide +kernel)
theorem wd_718 : Cond.code (mt 142).1 (mt 142).2.1 (mt 142).2.2.1 (mt 142).2.2.2 ∈ lw_tbl := List.mem_of_getElem? (i := 1097) (by decide +kernel)
theorem wd_719 : Cond.initialized (mt 142).1.cls ∈ lw_tbl := List.mem_of_getElem? (i := 60) (by decide +kernel)
theorem mok_142 : MOK 142 0 := ⟨wd_718, wd_719, by decide +kernel, by decide +kernel, by decide +kernel, by decide +kernel⟩
theorem wd_720 : Cond.instanceMethod (mt 142).1 ∈ lw_tbl := List.mem_of_getElem? (i := 1096) (by decide +kernel)
theorem wd_721 : Cond.selects (mt 142).1.cls (mt 142).1 (mt 142).1 ∈ lw_tbl := List.mem_of_getElem? (i := 45) (by decide +kernel)
theorem wd_722 : Cond.constant RJ6 265 1431655765 ∈ lw_tbl := List.mem_of_getElem? (i := 503) (by decide +kernel)
theorem wd_723 : Cond.constant RJ6 266 858993459 ∈ lw_tbl := List.mem_of_getElem? (i := 504) (by decide +kernel)
theorem wd_724 : Cond.constant RJ6 267 252645135 ∈ lw_tbl := List.mem_of_getElem? (i := 505) (by decide +kernel)
end
