/-! THE LAW: what it stands on (the head of the kit's skeleton), its own instructions -/
def R_law : String := "DollsVoteLaw"
def lw_P (b : Addr) (xs : List Int32) (args : Array Value) (s : State) : Prop := args = #[.ref b] ∧ s.IntsAt b xs ∧ xs.length ≤ 384 ∧ (Jvm.Cond.and given_1 narrow_1).before args s = true
def lw_Q (_ : Array Value) (s : State) (o : Outcome) (t : State) : Prop := o = .returned (some (.int 1)) ∧ Framed s o t [] 600000 7302250
def lw_Z (below : List Frame) (a : Array Value) (s : State) : State → Prop := fun t => ∃ o, t.status = .running ∧ Ended t below o ∧ lw_Q a s o t
/-- the law's own end, with 1 on the stack, nothing written that was there before, its room as the claim has it -/
theorem lw_ret {p : Program} {l : Launch} {e : Env} {s : State} {m : MethodId} {below : List Frame} {meth : Method} {c : Code} {b : Nat} (hx : p.tables.exec = Jvm.exec) (hb : c.code = code) (hr : meth.sig.returnType = ret) (hlocks : meth.locks = false) {pc : Nat} {H : Heap} {ls : Array Slot} (hdg : decode code pc = .ok (.ireturn, 1)) : W p l e room_1 s m #[Value.ref b] below meth c H [] 600000 7302250 (lw_Z below #[Value.ref b] s) (F0 m pc ls [.int 1]) := by
  intro T hT X
  obtain ⟨fs, hret, hrun, hended, hW, hframe⟩ := X.leave (v := some (.int 1)) (hlocks := hlocks) (fun h => by rw [hr] at h; cases h)
  have hmeth' : T.vm.method? m = some meth := X.method'
  refine ⟨T.setFrames fs, ?_, .returned (some (.int 1)), hrun, hended, rfl, ⟨_, rfl⟩, hW, hframe⟩
  jvm_step X.here [X.here.top, hx, hb, hdg, hmeth', hr, ret, narrow_b1]
  (try refine ⟨rfl, ?_⟩); (try refine ⟨rfl, ?_⟩)
  first | (intro acts; rw [hret _ acts rfl rfl rfl]) | rw [hret _ _ rfl rfl rfl]
  exact Steps.refl _
/-- what holds at the law's entry: the machine, the code, the tables' words (any of lw_tbl by 'hts w (by decide +kernel)'), the script of L ints xs at the cell b, what the Statement gives of the start (any of its parts by flat_of_before) -/
def lw_At (p : Program) (s : State) (m : MethodId) (meth : Method) (c : Code) (b L : Nat) (xs : Nat → Int32) : Prop :=
  p.tables.exec = Jvm.exec ∧ c.code = code ∧ meth.sig.returnType = ret ∧ c.maxLocals = 4 ∧ s.vm.findClass R_law = some m.cls ∧ (∀ w ∈ lw_tbl, w.before #[Value.ref b] s = true) ∧ va_X b L xs s s.heap ∧ b < s.heap.size ∧ meth.locks = false ∧ (Jvm.Cond.and given_1 narrow_1).before #[Value.ref b] s = true
def RL : String := "DollsVoteLaw"
abbrev cL_law : ByteArray := code
theorem wd_727 : Cond.classLink RL 7 RX6 ∈ lw_tbl := List.mem_of_getElem? (i := 63) (by decide +kernel)
theorem wd_728 : Cond.instantiable RX6 8 ∈ lw_tbl := List.mem_of_getElem? (i := 64) (by decide +kernel)
theorem wd_729 : Cond.initialized RX6 ∈ lw_tbl := List.mem_of_getElem? (i := 47) (by decide +kernel)
theorem cl_L_7 : Cls 6 RL 7 8 [.null, .null, .null, .null, .null, .null, .null, .null] := ⟨RX6, TX6, tyX6, rfl, wd_727, wd_728, wd_729, inw_6, tyX6_ok, by decide +kernel, fun _ _ => rfl⟩
theorem wd_730 : Cond.classLink RL 10 RX7 ∈ lw_tbl := List.mem_of_getElem? (i := 754) (by decide +kernel)
theorem wd_731 : Cond.instantiable RX7 28 ∈ lw_tbl := List.mem_of_getElem? (i := 755) (by decide +kernel)
theorem wd_732 : Cond.initialized RX7 ∈ lw_tbl := List.mem_of_getElem? (i := 60) (by decide +kernel)
theorem cl_L_10 : Cls 7 RL 10 28 [.int 0, .int 0, .null, .int 0, .null, .null, .null, .int 0, .null, .null, .null, .null, .int 0, .int 0, .int 0, .int 0, .null, .null, .null, .null, .null, .null, .int 0, .null, .null, .null, .null, .int 0] := ⟨RX7, TX7, tyX7, rfl, wd_730, wd_731, wd_732, inw_7, tyX7_ok, by decide +kernel, fun _ _ => rfl⟩
theorem wd_733 : Cond.methodLink RL 12 (mt 120).1 ∈ lw_tbl := List.mem_of_getElem? (i := 756) (by decide +kernel)
theorem wd_734 : Cond.code (mt 120).1 (mt 120).2.1 (mt 120).2.2.1 (mt 120).2.2.2 ∈ lw_tbl := List.mem_of_getElem? (i := 758) (by decide +kernel)
theorem wd_735 : Cond.initialized (mt 120).1.cls ∈ lw_tbl := List.mem_of_getElem? (i := 60) (by decide +kernel)
theorem mok_120 : MOK 120 0 := ⟨wd_734, wd_735, by decide +kernel, by decide +kernel, by decide +kernel, by decide +kernel⟩
theorem wd_736 : Cond.instanceMethod (mt 120).1 ∈ lw_tbl := List.mem_of_getElem? (i := 757) (by decide +kernel)
theorem wd_737 : Cond.methodLink RL 13 (mt 80).1 ∈ lw_tbl := List.mem_of_getElem? (i := 352) (by decide +kernel)
theorem wd_738 : Cond.code (mt 80).1 (mt 80).2.1 (mt 80).2.2.1 (mt 80).2.2.2 ∈ lw_tbl := List.mem_of_getElem? (i := 355) (by decide +kernel)
theorem wd_739 : Cond.initialized (mt 80).1.cls ∈ lw_tbl := List.mem_of_getElem? (i := 47) (by decide +kernel)
theorem mok_80 : MOK 80 1 := ⟨wd_738, wd_739, by decide +kernel, by decide +kernel, by decide +kernel, by decide +kernel⟩
theorem wd_740 : Cond.instanceMethod (mt 80).1 ∈ lw_tbl := List.mem_of_getElem? (i := 353) (by decide +kernel)
theorem wd_741 : Cond.selects (mt 80).1.cls (mt 80).1 (mt 80).1 ∈ lw_tbl := List.mem_of_getElem? (i := 354) (by decide +kernel)
theorem wd_742 : Cond.methodLink RL 17 (mt 124).1 ∈ lw_tbl := List.mem_of_getElem? (i := 849) (by decide +kernel)
theorem wd_743 : Cond.code (mt 124).1 (mt 124).2.1 (mt 124).2.2.1 (mt 124).2.2.2 ∈ lw_tbl := List.mem_of_getElem? (i := 852) (by decide +kernel)
theorem wd_744 : Cond.initialized (mt 124).1.cls ∈ lw_tbl := List.mem_of_getElem? (i := 60) (by decide +kernel)
theorem mok_124 : MOK 124 1 := ⟨wd_743, wd_744, by decide +kernel, by decide +kernel, by decide +kernel, by decide +kernel⟩
theorem wd_745 : Cond.instanceMethod (mt 124).1 ∈ lw_tbl := List.mem_of_getElem? (i := 850) (by decide +kernel)
theorem wd_746 : Cond.selects (mt 124).1.cls (mt 124).1 (mt 124).1 ∈ lw_tbl := List.mem_of_getElem? (i := 851) (by decide +kernel)
theorem wd_747 : Cond.methodLink RL 18 (mt 81).1 ∈ lw_tbl := List.mem_of_getElem? (i := 360) (by decide +kernel)
theorem wd_748 : Cond.code (mt 81).1 (mt 81).2.1 (mt 81).2.2.1 (mt 81).2.2.2 ∈ lw_tbl := List.mem_of_getElem? (i := 363) (by decide +kernel)
theorem wd_749 : Cond.initialized (mt 81).1.cls ∈ lw_tbl := List.mem_of_getElem? (i := 47) (by decide +kernel)
theorem mok_81 : MOK 81 0 := ⟨wd_748, wd_749, by decide +kernel, by decide +kernel, by decide +kernel, by decide +kernel⟩
theorem wd_750 : Cond.instanceMethod (mt 81).1 ∈ lw_tbl := List.mem_of_getElem? (i := 361) (by decide +kernel)
theorem wd_751 : Cond.selects (mt 81).1.cls (mt 81).1 (mt 81).1 ∈ lw_tbl := List.mem_of_getElem? (i := 362) (by decide +kernel)
theorem wd_752 : Cond.methodLink RL 22 (mt 125).1 ∈ lw_tbl := List.mem_of_getElem? (i := 856) (by decide +kernel)
theorem wd_753 : Cond.code (mt 125).1 (mt 125).2.1 (mt 125).2.2.1 (mt 125).2.2.2 ∈ lw_tbl := List.mem_of_getElem? (i := 859) (by decide +kernel)
theorem wd_754 : Cond.initialized (mt 125).1.cls ∈ lw_tbl := List.mem_of_getElem? (i := 60) (by decide +kernel)
theorem mok_125 : MOK 125 0 := ⟨wd_753, wd_754, by decide +kernel, by decide +kernel, by decide +kernel, by decide +kernel⟩
theorem wd_755 : Cond.instanceMethod (mt 125).1 ∈ lw_tbl := List.mem_of_getElem? (i := 857) (by decide +kernel)
theorem wd_756 : Cond.selects (mt 125).1.cls (mt 125).1 (mt 125).1 ∈ lw_tbl := List.mem_of_getElem? (i := 858) (by decide +kernel)
theorem wd_757 : Cond.methodLink RL 23 (mt 82).1 ∈ lw_tbl := List.mem_of_getElem? (i := 364) (by decide +kernel)
theorem wd_758 : Cond.code (mt 82).1 (mt 82).2.1 (mt 82).2.2.1 (mt 82).2.2.2 ∈ lw_tbl := List.mem_of_getElem? (i := 367) (by decide +kernel)
theorem wd_759 : Cond.initialized (mt 82).1.cls ∈ lw_tbl := List.mem_of_getElem? (i := 47) (by decide +kernel)
theorem mok_82 : MOK 82 0 := ⟨wd_758, wd_759, by decide +kernel, by decide +kernel, by decide +kernel, by decide +kernel⟩
theorem wd_760 : Cond.instanceMethod (mt 82).1 ∈ lw_tbl := List.mem_of_getElem? (i := 365) (by decide +kernel)
theorem wd_761 : Cond.selects (mt 82).1.cls (mt 82).1 (mt 82).1 ∈ lw_tbl := List.mem_of_getElem? (i := 366) (by decide +kernel)
theorem wd_762 : Cond.methodLink RL 26 (mt 133).1 ∈ lw_tbl := List.mem_of_getElem? (i := 860) (by decide +kernel)
theorem wd_763 : Cond.methodLink RL 27 (mt 83).1 ∈ lw_tbl := List.mem_of_getElem? (i := 368) (by decide +kernel)
theorem wd_764 : Cond.code (mt 83).1 (mt 83).2.1 (mt 83).2.2.1 (mt 83).2.2.2 ∈ lw_tbl := List.mem_of_getElem? (i := 371) (by decide +kernel)
theorem wd_765 : Cond.initialized (mt 83).1.cls ∈ lw_tbl := List.mem_of_getElem? (i := 47) (by decide +kernel)
theorem mok_83 : MOK 83 0 := ⟨wd_764, wd_765, by decide +kernel, by decide +kernel, by decide +kernel, by decide +kernel⟩
theorem wd_766 : Cond.instanceMethod (mt 83).1 ∈ lw_tbl := List.mem_of_getElem? (i := 369) (by decide +kernel)
theorem wd_767 : Cond.selects (mt 83).1.cls (mt 83).1 (mt 83).1 ∈ lw_tbl := List.mem_of_getElem? (i := 370) (by decide +kernel)
theorem wd_768 : Cond.methodLink RL 30 (mt 134).1 ∈ lw_tbl := List.mem_of_getElem? (i := 892) (by decide +kernel)
theorem wd_769 : Cond.code (mt 134).1 (mt 134).2.1 (mt 134).2.2.1 (mt 134).2.2.2 ∈ lw_tbl := List.mem_of_getElem? (i := 895) (by decide +kernel)
theorem wd_770 : Cond.initialized (mt 134).1.cls ∈ lw_tbl := List.mem_of_getElem? (i := 60) (by decide +kernel)
theorem mok_134 : MOK 134 0 := ⟨wd_769, wd_770, by decide +kernel, by decide +kernel, by decide +kernel, by decide +kernel⟩
theorem wd_771 : Cond.instanceMethod (mt 134).1 ∈ lw_tbl := List.mem_of_getElem? (i := 893) (by decide +kernel)
theorem wd_772 : Cond.selects (mt 134).1.cls (mt 134).1 (mt 134).1 ∈ lw_tbl := List.mem_of_getElem? (i := 894) (by decide +kernel)
theorem wd_773 : Cond.methodLink RL 31 (mt 84).1 ∈ lw_tbl := List.mem_of_getElem? (i := 391) (by decide +kernel)
theorem wd_774 : Cond.code (mt 84).1 (mt 84).2.1 (mt 84).2.2.1 (mt 84).2.2.2 ∈ lw_tbl := List.mem_of_getElem? (i := 394) (by decide +kernel)
theorem wd_775 : Cond.initialized (mt 84).1.cls ∈ lw_tbl := List.mem_of_getElem? (i := 47) (by decide +kernel)
theorem mok_84 : MOK 84 2 := ⟨wd_774, wd_775, by decide +kernel, by decide +kernel, by decide +kernel, by decide +kernel⟩
theorem wd_776 : Cond.instanceMethod (mt 84).1 ∈ lw_tbl := List.mem_of_getElem? (i := 392) (by decide +kernel)
theorem wd_777 : Cond.selects (mt 84).1.cls (mt 84).1 (mt 84).1 ∈ lw_tbl := List.mem_of_getElem? (i := 393) (by decide +kernel)
theorem wd_778 : Cond.methodLink RL 35 (mt 135).1 ∈ lw_tbl := List.mem_of_getElem? (i := 897) (by decide +kernel)
theorem wd_779 : Cond.code (mt 135).1 (mt 135).2.1 (mt 135).2.2.1 (mt 135).2.2.2 ∈ lw_tbl := List.mem_of_getElem? (i := 900) (by decide +kernel)
theorem wd_780 : Cond.initialized (mt 135).1.cls ∈ lw_tbl := List.mem_of_getElem? (i := 60) (by decide +kernel)
theorem mok_135 : MOK 135 2 := ⟨wd_779, wd_780, by decide +kernel, by decide +kernel, by decide +kernel, by decide +kernel⟩
theorem wd_781 : Cond.instanceMethod (mt 135).1 ∈ lw_tbl := List.mem_of_getElem? (i := 898) (by decide +kernel)
theorem wd_782 : Cond.selects (mt 135).1.cls (mt 135).1 (mt 135).1 ∈ lw_tbl := List.mem_of_getElem? (i := 899) (by decide +kernel)
theorem wd_783 : Cond.methodLink RL 36 (mt 85).1 ∈ lw_tbl := List.mem_of_getElem? (i := 401) (by decide +kernel)
theorem wd_784 : Cond.code (mt 85).1 (mt 85).2.1 (mt 85).2.2.1 (mt 85).2.2.2 ∈ lw_tbl := List.mem_of_getElem? (i := 404) (by decide +kernel)
theorem wd_785 : Cond.initialized (mt 85).1.cls ∈ lw_tbl := List.mem_of_getElem? (i := 47) (by decide +kernel)
theorem mok_85 : MOK 85 2 := ⟨wd_784, wd_785, by decide +kernel, by decide +kernel, by decide +kernel, by decide +kernel⟩
theorem wd_786 : Cond.instanceMethod (mt 85).1 ∈ lw_tbl := List.mem_of_getElem? (i := 402) (by decide +kernel)
theorem wd_787 : Cond.selects (mt 85).1.cls (mt 85).1 (mt 85).1 ∈ lw_tbl := List.mem_of_getElem? (i := 403) (by decide +kernel)
theorem wd_788 : Cond.methodLink RL 39 (mt 136).1 ∈ lw_tbl := List.mem_of_getElem? (i := 909) (by decide +kernel)
theorem wd_789 : Cond.code (mt 136).1 (mt 136).2.1 (mt 136).2.2.1 (mt 136).2.2.2 ∈ lw_tbl := List.mem_of_getElem? (i := 912) (by decide +kernel)
theorem wd_790 : Cond.initialized (mt 136).1.cls ∈ lw_tbl := List.mem_of_getElem? (i := 60) (by decide +kernel)
theorem mok_136 : MOK 136 2 := ⟨wd_789, wd_790, by decide +kernel, by decide +kernel, by decide +kernel, by decide +kernel⟩
theorem wd_791 : Cond.instanceMethod (mt 136).1 ∈ lw_tbl := List.mem_of_getElem? (i := 910) (by decide +kernel)
theorem wd_792 : Cond.selects (mt 136).1.cls (mt 136).1 (mt 136).1 ∈ lw_tbl := List.mem_of_getElem? (i := 911) (by decide +kernel)
theorem wd_793 : Cond.methodLink RL 40 (mt 86).1 ∈ lw_tbl := List.mem_of_getElem? (i := 410) (by decide +kernel)
theorem wd_794 : Cond.code (mt 86).1 (mt 86).2.1 (mt 86).2.2.1 (mt 86).2.2.2 ∈ lw_tbl := List.mem_of_getElem? (i := 413) (by decide +kernel)
theorem wd_795 : Cond.initialized (mt 86).1.cls ∈ lw_tbl := List.mem_of_getElem? (i := 47) (by decide +kernel)
theorem mok_86 : MOK 86 1 := ⟨wd_794, wd_795, by decide +kernel, by decide +kernel, by decide +kernel, by decide +kernel⟩
theorem wd_796 : Cond.instanceMethod (mt 86).1 ∈ lw_tbl := List.mem_of_getElem? (i := 411) (by decide +kernel)
theorem wd_797 : Cond.selects (mt 86).1.cls (mt 86).1 (mt 86).1 ∈ lw_tbl := List.mem_of_getElem? (i := 412) (by decide +kernel)
theorem wd_798 : Cond.methodLink RL 43 (mt 137).1 ∈ lw_tbl := List.mem_of_getElem? (i := 913) (by decide +kernel)
theorem wd_799 : Cond.code (mt 137).1 (mt 137).2.1 (mt 137).2.2.1 (mt 137).2.2.2 ∈ lw_tbl := List.mem_of_getElem? (i := 916) (by decide +kernel)
theorem wd_800 : Cond.initialized (mt 137).1.cls ∈ lw_tbl := List.mem_of_getElem? (i := 60) (by decide +kernel)
theorem mok_137 : MOK 137 1 := ⟨wd_799, wd_800, by decide +kernel, by decide +kernel, by decide +kernel, by decide +kernel⟩
theorem wd_801 : Cond.instanceMethod (mt 137).1 ∈ lw_tbl := List.mem_of_getElem? (i := 914) (by decide +kernel)
theorem wd_802 : Cond.selects (mt 137).1.cls (mt 137).1 (mt 137).1 ∈ lw_tbl := List.mem_of_getElem? (i := 915) (by decide +kernel)
theorem wd_803 : Cond.methodLink RL 44 (mt 87).1 ∈ lw_tbl := List.mem_of_getElem? (i := 421) (by decide +kernel)
theorem wd_804 : Cond.code (mt 87).1 (mt 87).2.1 (mt 87).2.2.1 (mt 87).2.2.2 ∈ lw_tbl := List.mem_of_getElem? (i := 424) (by decide +kernel)
theorem wd_805 : Cond.initialized (mt 87).1.cls ∈ lw_tbl := List.mem_of_getElem? (i := 47) (by decide +kernel)
theorem mok_87 : MOK 87 1 := ⟨wd_804, wd_805, by decide +kernel, by decide +kernel, by decide +kernel, by decide +kernel⟩
theorem wd_806 : Cond.instanceMethod (mt 87).1 ∈ lw_tbl := List.mem_of_getElem? (i := 422) (by decide +kernel)
theorem wd_807 : Cond.selects (mt 87).1.cls (mt 87).1 (mt 87).1 ∈ lw_tbl := List.mem_of_getElem? (i := 423) (by decide +kernel)
theorem wd_808 : Cond.methodLink RL 47 (mt 147).1 ∈ lw_tbl := List.mem_of_getElem? (i := 917) (by decide +kernel)
theorem wd_809 : Cond.code (mt 147).1 (mt 147).2.1 (mt 147).2.2.1 (mt 147).2.2.2 ∈ lw_tbl := List.mem_of_getElem? (i := 920) (by decide +kernel)
theorem wd_810 : Cond.initialized (mt 147).1.cls ∈ lw_tbl := List.mem_of_getElem? (i := 60) (by decide +kernel)
theorem mok_147 : MOK 147 1 := ⟨wd_809, wd_810, by decide +kernel, by decide +kernel, by decide +kernel, by decide +kernel⟩
theorem wd_811 : Cond.instanceMethod (mt 147).1 ∈ lw_tbl := List.mem_of_getElem? (i := 918) (by decide +kernel)
theorem wd_812 : Cond.selects (mt 147).1.cls (mt 147).1 (mt 147).1 ∈ lw_tbl := List.mem_of_getElem? (i := 919) (by decide +kernel)
theorem wd_813 : Cond.methodLink RL 48 (mt 88).1 ∈ lw_tbl := List.mem_of_getElem? (i := 473) (by decide +kernel)
theorem wd_814 : Cond.code (mt 88).1 (mt 88).2.1 (mt 88).2.2.1 (mt 88).2.2.2 ∈ lw_tbl := List.mem_of_getElem? (i := 476) (by decide +kernel)
theorem wd_815 : Cond.initialized (mt 88).1.cls ∈ lw_tbl := List.mem_of_getElem? (i := 47) (by decide +kernel)
theorem mok_88 : MOK 88 3 := ⟨wd_814, wd_815, by decide +kernel, by decide +kernel, by decide +kernel, by decide +kernel⟩
theorem wd_816 : Cond.instanceMethod (mt 88).1 ∈ lw_tbl := List.mem_of_getElem? (i := 474) (by decide +kernel)
theorem wd_817 : Cond.selects (mt 88).1.cls (mt 88).1 (mt 88).1 ∈ lw_tbl := List.mem_of_getElem? (i := 475) (by decide +kernel)
theorem wd_818 : Cond.methodLink RL 52 (mt 148).1 ∈ lw_tbl := List.mem_of_getElem? (i := 941) (by decide +kernel)
theorem wd_819 : Cond.code (mt 148).1 (mt 148).2.1 (mt 148).2.2.1 (mt 148).2.2.2 ∈ lw_tbl := List.mem_of_getElem? (i := 944) (by decide +kernel)
theorem wd_820 : Cond.initialized (mt 148).1.cls ∈ lw_tbl := List.mem_of_getElem? (i := 60) (by decide +kernel)
theorem mok_148 : MOK 148 3 := ⟨wd_819, wd_820, by decide +kernel, by decide +kernel, by decide +kernel, by decide +kernel⟩
theorem wd_821 : Cond.instanceMethod (mt 148).1 ∈ lw_tbl := List.mem_of_getElem? (i := 942) (by decide +kernel)
theorem wd_822 : Cond.selects (mt 148).1.cls (mt 148).1 (mt 148).1 ∈ lw_tbl := List.mem_of_getElem? (i := 943) (by decide +kernel)
theorem wd_823 : Cond.methodLink RL 53 (mt 89).1 ∈ lw_tbl := List.mem_of_getElem? (i := 479) (by decide +kernel)
theorem wd_824 : Cond.code (mt 89).1 (mt 89).2.1 (mt 89).2.2.1 (mt 89).2.2.2 ∈ lw_tbl := List.mem_of_getElem? (i := 482) (by decide +kernel)
theorem wd_825 : Cond.initialized (mt 89).1.cls ∈ lw_tbl := List.mem_of_getElem? (i := 47) (by decide +kernel)
theorem mok_89 : MOK 89 1 := ⟨wd_824, wd_825, by decide +kernel, by decide +kernel, by decide +kernel, by decide +kernel⟩
theorem wd_826 : Cond.instanceMethod (mt 89).1 ∈ lw_tbl := List.mem_of_getElem? (i := 480) (by decide +kernel)
theorem wd_827 : Cond.selects (mt 89).1.cls (mt 89).1 (mt 89).1 ∈ lw_tbl := List.mem_of_getElem? (i := 481) (by decide +kernel)
theorem wd_828 : Cond.methodLink RL 56 (mt 150).1 ∈ lw_tbl := List.mem_of_getElem? (i := 945) (by decide +kernel)
theorem wd_829 : Cond.code (mt 150).1 (mt 150).2.1 (mt 150).2.2.1 (mt 150).2.2.2 ∈ lw_tbl := List.mem_of_getElem? (i := 948) (by decide +kernel)
theorem wd_830 : Cond.initialized (mt 150).1.cls ∈ lw_tbl := List.mem_of_getElem? (i := 60) (by decide +kernel)
theorem mok_150 : MOK 150 1 := ⟨wd_829, wd_830, by decide +kernel, by decide +kernel, by decide +kernel, by decide +kernel⟩
theorem wd_831 : Cond.instanceMethod (mt 150).1 ∈ lw_tbl := List.mem_of_getElem? (i := 946) (by decide +kernel)
theorem wd_832 : Cond.selects (mt 150).1.cls (mt 150).1 (mt 150).1 ∈ lw_tbl := List.mem_of_getElem? (i := 947) (by decide +kernel)
theorem wd_833 : Cond.methodLink RL 57 (mt 90).1 ∈ lw_tbl := List.mem_of_getElem? (i := 487) (by decide +kernel)
theorem wd_834 : Cond.code (mt 90).1 (mt 90).2.1 (mt 90).2.2.1 (mt 90).2.2.2 ∈ lw_tbl := List.mem_of_getElem? (i := 490) (by decide +kernel)
theorem wd_835 : Cond.initialized (mt 90).1.cls ∈ lw_tbl := List.mem_of_getElem? (i := 47) (by decide +kernel)
theorem mok_90 : MOK 90 1 := ⟨wd_834, wd_835, by decide +kernel, by decide +kernel, by decide +kernel, by decide +kernel⟩
theorem wd_836 : Cond.instanceMethod (mt 90).1 ∈ lw_tbl := List.mem_of_getElem? (i := 488) (by decide +kernel)
theorem wd_837 : Cond.selects (mt 90).1.cls (mt 90).1 (mt 90).1 ∈ lw_tbl := List.mem_of_getElem? (i := 489) (by decide +kernel)
theorem wd_838 : Cond.methodLink RL 60 (mt 152).1 ∈ lw_tbl := List.mem_of_getElem? (i := 953) (by decide +kernel)
theorem wd_839 : Cond.code (mt 152).1 (mt 152).2.1 (mt 152).2.2.1 (mt 152).2.2.2 ∈ lw_tbl := List.mem_of_getElem? (i := 956) (by decide +kernel)
theorem wd_840 : Cond.initialized (mt 152).1.cls ∈ lw_tbl := List.mem_of_getElem? (i := 60) (by decide +kernel)
theorem mok_152 : MOK 152 1 := ⟨wd_839, wd_840, by decide +kernel, by decide +kernel, by decide +kernel, by decide +kernel⟩
theorem wd_841 : Cond.instanceMethod (mt 152).1 ∈ lw_tbl := List.mem_of_getElem? (i := 954) (by decide +kernel)
theorem wd_842 : Cond.selects (mt 152).1.cls (mt 152).1 (mt 152).1 ∈ lw_tbl := List.mem_of_getElem? (i := 955) (by decide +kernel)
theorem wd_843 : Cond.methodLink RL 61 (mt 91).1 ∈ lw_tbl := List.mem_of_getElem? (i := 506) (by decide +kernel)
theorem wd_844 : Cond.code (mt 91).1 (mt 91).2.1 (mt 91).2.2.1 (mt 91).2.2.2 ∈ lw_tbl := List.mem_of_getElem? (i := 509) (by decide +kernel)
theorem wd_845 : Cond.initialized (mt 91).1.cls ∈ lw_tbl := List.mem_of_getElem? (i := 47) (by decide +kernel)
theorem mok_91 : MOK 91 1 := ⟨wd_844, wd_845, by decide +kernel, by decide +kernel, by decide +kernel, by decide +kernel⟩
theorem wd_846 : Cond.instanceMethod (mt 91).1 ∈ lw_tbl := List.mem_of_getElem? (i := 507) (by decide +kernel)
theorem wd_847 : Cond.selects (mt 91).1.cls (mt 91).1 (mt 91).1 ∈ lw_tbl := List.mem_of_getElem? (i := 508) (by decide +kernel)
theorem wd_848 : Cond.methodLink RL 64 (mt 153).1 ∈ lw_tbl := List.mem_of_getElem? (i := 965) (by decide +kernel)
theorem wd_849 : Cond.code (mt 153).1 (mt 153).2.1 (mt 153).2.2.1 (mt 153).2.2.2 ∈ lw_tbl := List.mem_of_getElem? (i := 968) (by decide +kernel)
theorem wd_850 : Cond.initialized (mt 153).1.cls ∈ lw_tbl := List.mem_of_getElem? (i := 60) (by decide +kernel)
theorem mok_153 : MOK 153 1 := ⟨wd_849, wd_850, by decide +kernel, by decide +kernel, by decide +kernel, by decide +kernel⟩
theorem wd_851 : Cond.instanceMethod (mt 153).1 ∈ lw_tbl := List.mem_of_getElem? (i := 966) (by decide +kernel)
theorem wd_852 : Cond.selects (mt 153).1.cls (mt 153).1 (mt 153).1 ∈ lw_tbl := List.mem_of_getElem? (i := 967) (by decide +kernel)
theorem wd_853 : Cond.methodLink RL 65 (mt 92).1 ∈ lw_tbl := List.mem_of_getElem? (i := 510) (by decide +kernel)
theorem wd_854 : Cond.code (mt 92).1 (mt 92).2.1 (mt 92).2.2.1 (mt 92).2.2.2 ∈ lw_tbl := List.mem_of_getElem? (i := 513) (by decide +kernel)
theorem wd_855 : Cond.initialized (mt 92).1.cls ∈ lw_tbl := List.mem_of_getElem? (i := 47) (by decide +kernel)
theorem mok_92 : MOK 92 2 := ⟨wd_854, wd_855, by decide +kernel, by decide +kernel, by decide +kernel, by decide +kernel⟩
theorem wd_856 : Cond.instanceMethod (mt 92).1 ∈ lw_tbl := List.mem_of_getElem? (i := 511) (by decide +kernel)
theorem wd_857 : Cond.selects (mt 92).1.cls (mt 92).1 (mt 92).1 ∈ lw_tbl := List.mem_of_getElem? (i := 512) (by decide +kernel)
theorem wd_858 : Cond.methodLink RL 68 (mt 154).1 ∈ lw_tbl := List.mem_of_getElem? (i := 969) (by decide +kernel)
theorem wd_859 : Cond.code (mt 154).1 (mt 154).2.1 (mt 154).2.2.1 (mt 154).2.2.2 ∈ lw_tbl := List.mem_of_getElem? (i := 972) (by decide +kernel)
theorem wd_860 : Cond.initialized (mt 154).1.cls ∈ lw_tbl := List.mem_of_getElem? (i := 60) (by decide +kernel)
theorem mok_154 : MOK 154 2 := ⟨wd_859, wd_860, by decide +kernel, by decide +kernel, by decide +kernel, by decide +kernel⟩
theorem wd_861 : Cond.instanceMethod (mt 154).1 ∈ lw_tbl := List.mem_of_getElem? (i := 970) (by decide +kernel)
theorem wd_862 : Cond.selects (mt 154).1.cls (mt 154).1 (mt 154).1 ∈ lw_tbl := List.mem_of_getElem? (i := 971) (by decide +kernel)
theorem wd_863 : Cond.methodLink RL 69 (mt 93).1 ∈ lw_tbl := List.mem_of_getElem? (i := 515) (by decide +kernel)
theorem wd_864 : Cond.code (mt 93).1 (mt 93).2.1 (mt 93).2.2.1 (mt 93).2.2.2 ∈ lw_tbl := List.mem_of_getElem? (i := 518) (by decide +kernel)
theorem wd_865 : Cond.initialized (mt 93).1.cls ∈ lw_tbl := List.mem_of_getElem? (i := 47) (by decide +kernel)
theorem mok_93 : MOK 93 0 := ⟨wd_864, wd_865, by decide +kernel, by decide +kernel, by decide +kernel, by decide +kernel⟩
theorem wd_866 : Cond.instanceMethod (mt 93).1 ∈ lw_tbl := List.mem_of_getElem? (i := 516) (by decide +kernel)
theorem wd_867 : Cond.selects (mt 93).1.cls (mt 93).1 (mt 93).1 ∈ lw_tbl := List.mem_of_getElem? (i := 517) (by decide +kernel)
theorem wd_868 : Cond.methodLink RL 72 (mt 155).1 ∈ lw_tbl := List.mem_of_getElem? (i := 973) (by decide +kernel)
theorem wd_869 : Cond.code (mt 155).1 (mt 155).2.1 (mt 155).2.2.1 (mt 155).2.2.2 ∈ lw_tbl := List.mem_of_getElem? (i := 976) (by decide +kernel)
theorem wd_870 : Cond.initialized (mt 155).1.cls ∈ lw_tbl := List.mem_of_getElem? (i := 60) (by decide +kernel)
theorem mok_155 : MOK 155 0 := ⟨wd_869, wd_870, by decide +kernel, by decide +kernel, by decide +kernel, by decide +kernel⟩
theorem wd_871 : Cond.instanceMethod (mt 155).1 ∈ lw_tbl := List.mem_of_getElem? (i := 974) (by decide +kernel)
theorem wd_872 : Cond.selects (mt 155).1.cls (mt 155).1 (mt 155).1 ∈ lw_tbl := List.mem_of_getElem? (i := 975) (by decide +kernel)
theorem wd_873 : Cond.methodLink RL 73 (mt 94).1 ∈ lw_tbl := List.mem_of_getElem? (i := 527) (by decide +kernel)
theorem wd_874 : Cond.code (mt 94).1 (mt 94).2.1 (mt 94).2.2.1 (mt 94).2.2.2 ∈ lw_tbl := List.mem_of_getElem? (i := 530) (by decide +kernel)
theorem wd_875 : Cond.initialized (mt 94).1.cls ∈ lw_tbl := List.mem_of_getElem? (i := 47) (by decide +kernel)
theorem mok_94 : MOK 94 3 := ⟨wd_874, wd_875, by decide +kernel, by decide +kernel, by decide +kernel, by decide +kernel⟩
theorem wd_876 : Cond.instanceMethod (mt 94).1 ∈ lw_tbl := List.mem_of_getElem? (i := 528) (by decide +kernel)
theorem wd_877 : Cond.selects (mt 94).1.cls (mt 94).1 (mt 94).1 ∈ lw_tbl := List.mem_of_getElem? (i := 529) (by decide +kernel)
theorem wd_878 : Cond.methodLink RL 76 (mt 158).1 ∈ lw_tbl := List.mem_of_getElem? (i := 981) (by decide +kernel)
theorem wd_879 : Cond.code (mt 158).1 (mt 158).2.1 (mt 158).2.2.1 (mt 158).2.2.2 ∈ lw_tbl := List.mem_of_getElem? (i := 984) (by decide +kernel)
theorem wd_880 : Cond.initialized (mt 158).1.cls ∈ lw_tbl := List.mem_of_getElem? (i := 60) (by decide +kernel)
theorem mok_158 : MOK 158 3 := ⟨wd_879, wd_880, by decide +kernel, by decide +kernel, by decide +kernel, by decide +kernel⟩
theorem wd_881 : Cond.instanceMethod (mt 158).1 ∈ lw_tbl := List.mem_of_getElem? (i := 982) (by decide +kernel)
theorem wd_882 : Cond.selects (mt 158).1.cls (mt 158).1 (mt 158).1 ∈ lw_tbl := List.mem_of_getElem? (i := 983) (by decide +kernel)
theorem wd_883 : Cond.methodLink RL 77 (mt 95).1 ∈ lw_tbl := List.mem_of_getElem? (i := 538) (by decide +kernel)
theorem wd_884 : Cond.code (mt 95).1 (mt 95).2.1 (mt 95).2.2.1 (mt 95).2.2.2 ∈ lw_tbl := List.mem_of_getElem? (i := 541) (by decide +kernel)
theorem wd_885 : Cond.initialized (mt 95).1.cls ∈ lw_tbl := List.mem_of_getElem? (i := 47) (by decide +kernel)
theorem mok_95 : MOK 95 2 := ⟨wd_884, wd_885, by decide +kernel, by decide +kernel, by decide +kernel, by decide +kernel⟩
theorem wd_886 : Cond.instanceMethod (mt 95).1 ∈ lw_tbl := List.mem_of_getElem? (i := 539) (by decide +kernel)
theorem wd_887 : Cond.selects (mt 95).1.cls (mt 95).1 (mt 95).1 ∈ lw_tbl := List.mem_of_getElem? (i := 540) (by decide +kernel)
theorem wd_888 : Cond.methodLink RL 80 (mt 159).1 ∈ lw_tbl := List.mem_of_getElem? (i := 993) (by decide +kernel)
theorem wd_889 : Cond.code (mt 159).1 (mt 159).2.1 (mt 159).2.2.1 (mt 159).2.2.2 ∈ lw_tbl := List.mem_of_getElem? (i := 996) (by decide +kernel)
theorem wd_890 : Cond.initialized (mt 159).1.cls ∈ lw_tbl := List.mem_of_getElem? (i := 60) (by decide +kernel)
theorem mok_159 : MOK 159 2 := ⟨wd_889, wd_890, by decide +kernel, by decide +kernel, by decide +kernel, by decide +kernel⟩
theorem wd_891 : Cond.instanceMethod (mt 159).1 ∈ lw_tbl := List.mem_of_getElem? (i := 994) (by decide +kernel)
theorem wd_892 : Cond.selects (mt 159).1.cls (mt 159).1 (mt 159).1 ∈ lw_tbl := List.mem_of_getElem? (i := 995) (by decide +kernel)
theorem wd_893 : Cond.methodLink RL 81 (mt 96).1 ∈ lw_tbl := List.mem_of_getElem? (i := 547) (by decide +kernel)
theorem wd_894 : Cond.code (mt 96).1 (mt 96).2.1 (mt 96).2.2.1 (mt 96).2.2.2 ∈ lw_tbl := List.mem_of_getElem? (i := 550) (by decide +kernel)
theorem wd_895 : Cond.initialized (mt 96).1.cls ∈ lw_tbl := List.mem_of_getElem? (i := 47) (by decide +kernel)
theorem mok_96 : MOK 96 0 := ⟨wd_894, wd_895, by decide +kernel, by decide +kernel, by decide +kernel, by decide +kernel⟩
theorem wd_896 : Cond.instanceMethod (mt 96).1 ∈ lw_tbl := List.mem_of_getElem? (i := 548) (by decide +kernel)
theorem wd_897 : Cond.selects (mt 96).1.cls (mt 96).1 (mt 96).1 ∈ lw_tbl := List.mem_of_getElem? (i := 549) (by decide +kernel)
theorem wd_898 : Cond.methodLink RL 84 (mt 160).1 ∈ lw_tbl := List.mem_of_getElem? (i := 997) (by decide +kernel)
theorem wd_899 : Cond.code (mt 160).1 (mt 160).2.1 (mt 160).2.2.1 (mt 160).2.2.2 ∈ lw_tbl := List.mem_of_getElem? (i := 1000) (by decide +kernel)
theorem wd_900 : Cond.initialized (mt 160).1.cls ∈ lw_tbl := List.mem_of_getElem? (i := 60) (by decide +kernel)
theorem mok_160 : MOK 160 0 := ⟨wd_899, wd_900, by decide +kernel, by decide +kernel, by decide +kernel, by decide +kernel⟩
theorem wd_901 : Cond.instanceMethod (mt 160).1 ∈ lw_tbl := List.mem_of_getElem? (i := 998) (by decide +kernel)
theorem wd_902 : Cond.selects (mt 160).1.cls (mt 160).1 (mt 160).1 ∈ lw_tbl := List.mem_of_getElem? (i := 999) (by decide +kernel)
theorem wd_903 : Cond.methodLink RL 85 (mt 97).1 ∈ lw_tbl := List.mem_of_getElem? (i := 555) (by decide +kernel)
theorem wd_904 : Cond.code (mt 97).1 (mt 97).2.1 (mt 97).2.2.1 (mt 97).2.2.2 ∈ lw_tbl := List.mem_of_getElem? (i := 558) (by decide +kernel)
theorem wd_905 : Cond.initialized (mt 97).1.cls ∈ lw_tbl := List.mem_of_getElem? (i := 47) (by decide +kernel)
theorem mok_97 : MOK 97 1 := ⟨wd_904, wd_905, by decide +kernel, by decide +kernel, by decide +kernel, by decide +kernel⟩
theorem wd_906 : Cond.instanceMethod (mt 97).1 ∈ lw_tbl := List.mem_of_getElem? (i := 556) (by decide +kernel)
theorem wd_907 : Cond.selects (mt 97).1.cls (mt 97).1 (mt 97).1 ∈ lw_tbl := List.mem_of_getElem? (i := 557) (by decide +kernel)
theorem wd_908 : Cond.methodLink RL 88 (mt 162).1 ∈ lw_tbl := List.mem_of_getElem? (i := 1001) (by decide +kernel)
theorem wd_909 : Cond.code (mt 162).1 (mt 162).2.1 (mt 162).2.2.1 (mt 162).2.2.2 ∈ lw_tbl := List.mem_of_getElem? (i := 1004) (by decide +kernel)
theorem wd_910 : Cond.initialized (mt 162).1.cls ∈ lw_tbl := List.mem_of_getElem? (i := 60) (by decide +kernel)
theorem mok_162 : MOK 162 1 := ⟨wd_909, wd_910, by decide +kernel, by decide +kernel, by decide +kernel, by decide +kernel⟩
theorem wd_911 : Cond.instanceMethod (mt 162).1 ∈ lw_tbl := List.mem_of_getElem? (i := 1002) (by decide +kernel)
theorem wd_912 : Cond.selects (mt 162).1.cls (mt 162).1 (mt 162).1 ∈ lw_tbl := List.mem_of_getElem? (i := 1003) (by decide +kernel)
theorem wd_913 : Cond.methodLink RL 89 (mt 98).1 ∈ lw_tbl := List.mem_of_getElem? (i := 568) (by decide +kernel)
theorem wd_914 : Cond.code (mt 98).1 (mt 98).2.1 (mt 98).2.2.1 (mt 98).2.2.2 ∈ lw_tbl := List.mem_of_getElem? (i := 571) (by decide +kernel)
theorem wd_915 : Cond.initialized (mt 98).1.cls ∈ lw_tbl := List.mem_of_getElem? (i := 47) (by decide +kernel)
theorem mok_98 : MOK 98 2 := ⟨wd_914, wd_915, by decide +kernel, by decide +kernel, by decide +kernel, by decide +kernel⟩
theorem wd_916 : Cond.instanceMethod (mt 98).1 ∈ lw_tbl := List.mem_of_getElem? (i := 569) (by decide +kernel)
theorem wd_917 : Cond.selects (mt 98).1.cls (mt 98).1 (mt 98).1 ∈ lw_tbl := List.mem_of_getElem? (i := 570) (by decide +kernel)
theorem wd_918 : Cond.methodLink RL 92 (mt 164).1 ∈ lw_tbl := List.mem_of_getElem? (i := 1013) (by decide +kernel)
theorem wd_919 : Cond.code (mt 164).1 (mt 164).2.1 (mt 164).2.2.1 (mt 164).2.2.2 ∈ lw_tbl := List.mem_of_getElem? (i := 1016) (by decide +kernel)
theorem wd_920 : Cond.initialized (mt 164).1.cls ∈ lw_tbl := List.mem_of_getElem? (i := 60) (by decide +kernel)
theorem mok_164 : MOK 164 2 := ⟨wd_919, wd_920, by decide +kernel, by decide +kernel, by decide +kernel, by decide +kernel⟩
theorem wd_921 : Cond.instanceMethod (mt 164).1 ∈ lw_tbl := List.mem_of_getElem? (i := 1014) (by decide +kernel)
theorem wd_922 : Cond.selects (mt 164).1.cls (mt 164).1 (mt 164).1 ∈ lw_tbl := List.mem_of_getElem? (i := 1015) (by decide +kernel)
theorem wd_923 : Cond.methodLink RL 93 (mt 99).1 ∈ lw_tbl := List.mem_of_getElem? (i := 602) (by decide +kernel)
theorem wd_924 : Cond.code (mt 99).1 (mt 99).2.1 (mt 99).2.2.1 (mt 99).2.2.2 ∈ lw_tbl := List.mem_of_getElem? (i := 605) (by decide +kernel)
theorem wd_925 : Cond.initialized (mt 99).1.cls ∈ lw_tbl := List.mem_of_getElem? (i := 47) (by decide +kernel)
theorem mok_99 : MOK 99 2 := ⟨wd_924, wd_925, by decide +kernel, by decide +kernel, by decide +kernel, by decide +kernel⟩
theorem wd_926 : Cond.instanceMethod (mt 99).1 ∈ lw_tbl := List.mem_of_getElem? (i := 603) (by decide +kernel)
theorem wd_927 : Cond.selects (mt 99).1.cls (mt 99).1 (mt 99).1 ∈ lw_tbl := List.mem_of_getElem? (i := 604) (by decide +kernel)
theorem wd_928 : Cond.methodLink RL 96 (mt 165).1 ∈ lw_tbl := List.mem_of_getElem? (i := 1024) (by decide +kernel)
theorem wd_929 : Cond.code (mt 165).1 (mt 165).2.1 (mt 165).2.2.1 (mt 165).2.2.2 ∈ lw_tbl := List.mem_of_getElem? (i := 1027) (by decide +kernel)
theorem wd_930 : Cond.initialized (mt 165).1.cls ∈ lw_tbl := List.mem_of_getElem? (i := 60) (by decide +kernel)
theorem mok_165 : MOK 165 2 := ⟨wd_929, wd_930, by decide +kernel, by decide +kernel, by decide +kernel, by decide +kernel⟩
theorem wd_931 : Cond.instanceMethod (mt 165).1 ∈ lw_tbl := List.mem_of_getElem? (i := 1025) (by decide +kernel)
theorem wd_932 : Cond.selects (mt 165).1.cls (mt 165).1 (mt 165).1 ∈ lw_tbl := List.mem_of_getElem? (i := 1026) (by decide +kernel)
theorem wd_933 : Cond.methodLink RL 97 (mt 100).1 ∈ lw_tbl := List.mem_of_getElem? (i := 612) (by decide +kernel)
theorem wd_934 : Cond.code (mt 100).1 (mt 100).2.1 (mt 100).2.2.1 (mt 100).2.2.2 ∈ lw_tbl := List.mem_of_getElem? (i := 615) (by decide +kernel)
theorem wd_935 : Cond.initialized (mt 100).1.cls ∈ lw_tbl := List.mem_of_getElem? (i := 47) (by decide +kernel)
theorem mok_100 : MOK 100 2 := ⟨wd_934, wd_935, by decide +kernel, by decide +kernel, by decide +kernel, by decide +kernel⟩
theorem wd_936 : Cond.instanceMethod (mt 100).1 ∈ lw_tbl := List.mem_of_getElem? (i := 613) (by decide +kernel)
theorem wd_937 : Cond.selects (mt 100).1.cls (mt 100).1 (mt 100).1 ∈ lw_tbl := List.mem_of_getElem? (i := 614) (by decide +kernel)
theorem wd_938 : Cond.methodLink RL 100 (mt 166).1 ∈ lw_tbl := List.mem_of_getElem? (i := 1031) (by decide +kernel)
theorem wd_939 : Cond.code (mt 166).1 (mt 166).2.1 (mt 166).2.2.1 (mt 166).2.2.2 ∈ lw_tbl := List.mem_of_getElem? (i := 1034) (by decide +kernel)
theorem wd_940 : Cond.initialized (mt 166).1.cls ∈ lw_tbl := List.mem_of_getElem? (i := 60) (by decide +kernel)
theorem mok_166 : MOK 166 2 := ⟨wd_939, wd_940, by decide +kernel, by decide +kernel, by decide +kernel, by decide +kernel⟩
theorem wd_941 : Cond.instanceMethod (mt 166).1 ∈ lw_tbl := List.mem_of_getElem? (i := 1032) (by decide +kernel)
theorem wd_942 : Cond.selects (mt 166).1.cls (mt 166).1 (mt 166).1 ∈ lw_tbl := List.mem_of_getElem? (i := 1033) (by decide +kernel)
theorem wd_943 : Cond.methodLink RL 101 (mt 101).1 ∈ lw_tbl := List.mem_of_getElem? (i := 622) (by decide +kernel)
theorem wd_944 : Cond.code (mt 101).1 (mt 101).2.1 (mt 101).2.2.1 (mt 101).2.2.2 ∈ lw_tbl := List.mem_of_getElem? (i := 625) (by decide +kernel)
theorem wd_945 : Cond.initialized (mt 101).1.cls ∈ lw_tbl := List.mem_of_getElem? (i := 47) (by decide +kernel)
theorem mok_101 : MOK 101 4 := ⟨wd_944, wd_945, by decide +kernel, by decide +kernel, by decide +kernel, by decide +kernel⟩
theorem wd_946 : Cond.instanceMethod (mt 101).1 ∈ lw_tbl := List.mem_of_getElem? (i := 623) (by decide +kernel)
theorem wd_947 : Cond.selects (mt 101).1.cls (mt 101).1 (mt 101).1 ∈ lw_tbl := List.mem_of_getElem? (i := 624) (by decide +kernel)
theorem wd_948 : Cond.methodLink RL 105 (mt 167).1 ∈ lw_tbl := List.mem_of_getElem? (i := 1036) (by decide +kernel)
theorem wd_949 : Cond.code (mt 167).1 (mt 167).2.1 (mt 167).2.2.1 (mt 167).2.2.2 ∈ lw_tbl := List.mem_of_getElem? (i := 1039) (by decide +kernel)
theorem wd_950 : Cond.initialized (mt 167).1.cls ∈ lw_tbl := List.mem_of_getElem? (i := 60) (by decide +kernel)
theorem mok_167 : MOK 167 4 := ⟨wd_949, wd_950, by decide +kernel, by decide +kernel, by decide +kernel, by decide +kernel⟩
theorem wd_951 : Cond.instanceMethod (mt 167).1 ∈ lw_tbl := List.mem_of_getElem? (i := 1037) (by decide +kernel)
theorem wd_952 : Cond.selects (mt 167).1.cls (mt 167).1 (mt 167).1 ∈ lw_tbl := List.mem_of_getElem? (i := 1038) (by decide +kernel)
theorem wd_953 : Cond.methodLink RL 106 (mt 102).1 ∈ lw_tbl := List.mem_of_getElem? (i := 634) (by decide +kernel)
theorem wd_954 : Cond.code (mt 102).1 (mt 102).2.1 (mt 102).2.2.1 (mt 102).2.2.2 ∈ lw_tbl := List.mem_of_getElem? (i := 637) (by decide +kernel)
theorem wd_955 : Cond.initialized (mt 102).1.cls ∈ lw_tbl := List.mem_of_getElem? (i := 47) (by decide +kernel)
theorem mok_102 : MOK 102 0 := ⟨wd_954, wd_955, by decide +kernel, by decide +kernel, by decide +kernel, by decide +kernel⟩
theorem wd_956 : Cond.instanceMethod (mt 102).1 ∈ lw_tbl := List.mem_of_getElem? (i := 635) (by decide +kernel)
theorem wd_957 : Cond.selects (mt 102).1.cls (mt 102).1 (mt 102).1 ∈ lw_tbl := List.mem_of_getElem? (i := 636) (by decide +kernel)
theorem wd_958 : Cond.methodLink RL 109 (mt 168).1 ∈ lw_tbl := List.mem_of_getElem? (i := 1040) (by decide +kernel)
theorem wd_959 : Cond.code (mt 168).1 (mt 168).2.1 (mt 168).2.2.1 (mt 168).2.2.2 ∈ lw_tbl := List.mem_of_getElem? (i := 1043) (by decide +kernel)
theorem wd_960 : Cond.initialized (mt 168).1.cls ∈ lw_tbl := List.mem_of_getElem? (i := 60) (by decide +kernel)
theorem mok_168 : MOK 168 0 := ⟨wd_959, wd_960, by decide +kernel, by decide +kernel, by decide +kernel, by decide +kernel⟩
theorem wd_961 : Cond.instanceMethod (mt 168).1 ∈ lw_tbl := List.mem_of_getElem? (i := 1041) (by decide +kernel)
theorem wd_962 : Cond.selects (mt 168).1.cls (mt 168).1 (mt 168).1 ∈ lw_tbl := List.mem_of_getElem? (i := 1042) (by decide +kernel)
theorem wd_963 : Cond.methodLink RL 110 (mt 103).1 ∈ lw_tbl := List.mem_of_getElem? (i := 638) (by decide +kernel)
theorem wd_964 : Cond.code (mt 103).1 (mt 103).2.1 (mt 103).2.2.1 (mt 103).2.2.2 ∈ lw_tbl := List.mem_of_getElem? (i := 641) (by decide +kernel)
theorem wd_965 : Cond.initialized (mt 103).1.cls ∈ lw_tbl := List.mem_of_getElem? (i := 47) (by decide +kernel)
theorem mok_103 : MOK 103 1 := ⟨wd_964, wd_965, by decide +kernel, by decide +kernel, by decide +kernel, by decide +kernel⟩
theorem wd_966 : Cond.instanceMethod (mt 103).1 ∈ lw_tbl := List.mem_of_getElem? (i := 639) (by decide +kernel)
theorem wd_967 : Cond.selects (mt 103).1.cls (mt 103).1 (mt 103).1 ∈ lw_tbl := List.mem_of_getElem? (i := 640) (by decide +kernel)
theorem wd_968 : Cond.methodLink RL 113 (mt 170).1 ∈ lw_tbl := List.mem_of_getElem? (i := 1044) (by decide +kernel)
theorem wd_969 : Cond.code (mt 170).1 (mt 170).2.1 (mt 170).2.2.1 (mt 170).2.2.2 ∈ lw_tbl := List.mem_of_getElem? (i := 1047) (by decide +kernel)
theorem wd_970 : Cond.initialized (mt 170).1.cls ∈ lw_tbl := List.mem_of_getElem? (i := 60) (by decide +kernel)
theorem mok_170 : MOK 170 1 := ⟨wd_969, wd_970, by decide +kernel, by decide +kernel, by decide +kernel, by decide +kernel⟩
theorem wd_971 : Cond.instanceMethod (mt 170).1 ∈ lw_tbl := List.mem_of_getElem? (i := 1045) (by decide +kernel)
theorem wd_972 : Cond.selects (mt 170).1.cls (mt 170).1 (mt 170).1 ∈ lw_tbl := List.mem_of_getElem? (i := 1046) (by decide +kernel)
theorem wd_973 : Cond.methodLink RL 114 (mt 104).1 ∈ lw_tbl := List.mem_of_getElem? (i := 662) (by decide +kernel)
theorem wd_974 : Cond.code (mt 104).1 (mt 104).2.1 (mt 104).2.2.1 (mt 104).2.2.2 ∈ lw_tbl := List.mem_of_getElem? (i := 665) (by decide +kernel)
theorem wd_975 : Cond.initialized (mt 104).1.cls ∈ lw_tbl := List.mem_of_getElem? (i := 47) (by decide +kernel)
theorem mok_104 : MOK 104 1 := ⟨wd_974, wd_975, by decide +kernel, by decide +kernel, by decide +kernel, by decide +kernel⟩
theorem wd_976 : Cond.instanceMethod (mt 104).1 ∈ lw_tbl := List.mem_of_getElem? (i := 663) (by decide +kernel)
theorem wd_977 : Cond.selects (mt 104).1.cls (mt 104).1 (mt 104).1 ∈ lw_tbl := List.mem_of_getElem? (i := 664) (by decide +kernel)
theorem wd_978 : Cond.methodLink RL 117 (mt 171).1 ∈ lw_tbl := List.mem_of_getElem? (i := 1052) (by decide +kernel)
theorem wd_979 : Cond.code (mt 171).1 (mt 171).2.1 (mt 171).2.2.1 (mt 171).2.2.2 ∈ lw_tbl := List.mem_of_getElem? (i := 1055) (by decide +kernel)
theorem wd_980 : Cond.initialized (mt 171).1.cls ∈ lw_tbl := List.mem_of_getElem? (i := 60) (by decide +kernel)
theorem mok_171 : MOK 171 1 := ⟨wd_979, wd_980, by decide +kernel, by decide +kernel, by decide +kernel, by decide +kernel⟩
theorem wd_981 : Cond.instanceMethod (mt 171).1 ∈ lw_tbl := List.mem_of_getElem? (i := 1053) (by decide +kernel)
theorem wd_982 : Cond.selects (mt 171).1.cls (mt 171).1 (mt 171).1 ∈ lw_tbl := List.mem_of_getElem? (i := 1054) (by decide +kernel)
theorem wd_983 : Cond.methodLink RL 118 (mt 105).1 ∈ lw_tbl := List.mem_of_getElem? (i := 667) (by decide +kernel)
theorem wd_984 : Cond.code (mt 105).1 (mt 105).2.1 (mt 105).2.2.1 (mt 105).2.2.2 ∈ lw_tbl := List.mem_of_getElem? (i := 670) (by decide +kernel)
theorem wd_985 : Cond.initialized (mt 105).1.cls ∈ lw_tbl := List.mem_of_getElem? (i := 47) (by decide +kernel)
theorem mok_105 : MOK 105 3 := ⟨wd_984, wd_985, by decide +kernel, by decide +kernel, by decide +kernel, by decide +kernel⟩
theorem wd_986 : Cond.instanceMethod (mt 105).1 ∈ lw_tbl := List.mem_of_getElem? (i := 668) (by decide +kernel)
theorem wd_987 : Cond.selects (mt 105).1.cls (mt 105).1 (mt 105).1 ∈ lw_tbl := List.mem_of_getElem? (i := 669) (by decide +kernel)
theorem wd_988 : Cond.methodLink RL 121 (mt 174).1 ∈ lw_tbl := List.mem_of_getElem? (i := 1056) (by decide +kernel)
theorem wd_989 : Cond.code (mt 174).1 (mt 174).2.1 (mt 174).2.2.1 (mt 174).2.2.2 ∈ lw_tbl := List.mem_of_getElem? (i := 1059) (by decide +kernel)
theorem wd_990 : Cond.initialized (mt 174).1.cls ∈ lw_tbl := List.mem_of_getElem? (i := 60) (by decide +kernel)
theorem mok_174 : MOK 174 3 := ⟨wd_989, wd_990, by decide +kernel, by decide +kernel, by decide +kernel, by decide +kernel⟩
theorem wd_991 : Cond.instanceMethod (mt 174).1 ∈ lw_tbl := List.mem_of_getElem? (i := 1057) (by decide +kernel)
theorem wd_992 : Cond.selects (mt 174).1.cls (mt 174).1 (mt 174).1 ∈ lw_tbl := List.mem_of_getElem? (i := 1058) (by decide +kernel)
theorem wd_993 : Cond.methodLink RL 122 (mt 106).1 ∈ lw_tbl := List.mem_of_getElem? (i := 680) (by decide +kernel)
theorem wd_994 : Cond.code (mt 106).1 (mt 106).2.1 (mt 106).2.2.1 (mt 106).2.2.2 ∈ lw_tbl := List.mem_of_getElem? (i := 683) (by decide +kernel)
theorem wd_995 : Cond.initialized (mt 106).1.cls ∈ lw_tbl := List.mem_of_getElem? (i := 47) (by decide +kernel)
theorem mok_106 : MOK 106 5 := ⟨wd_994, wd_995, by decide +kernel, by decide +kernel, by decide +kernel, by decide +kernel⟩
theorem wd_996 : Cond.instanceMethod (mt 106).1 ∈ lw_tbl := List.mem_of_getElem? (i := 681) (by decide +kernel)
theorem wd_997 : Cond.selects (mt 106).1.cls (mt 106).1 (mt 106).1 ∈ lw_tbl := List.mem_of_getElem? (i := 682) (by decide +kernel)
theorem wd_998 : Cond.methodLink RL 126 (mt 176).1 ∈ lw_tbl := List.mem_of_getElem? (i := 1068) (by decide +kernel)
theorem wd_999 : Cond.code (mt 176).1 (mt 176).2.1 (mt 176).2.2.1 (mt 176).2.2.2 ∈ lw_tbl := List.mem_of_getElem? (i := 1071) (by decide +kernel)
theorem wd_1000 : Cond.initialized (mt 176).1.cls ∈ lw_tbl := List.mem_of_getElem? (i := 60) (by decide +kernel)
theorem mok_176 : MOK 176 5 := ⟨wd_999, wd_1000, by decide +kernel, by decide +kernel, by decide +kernel, by decide +kernel⟩
theorem wd_1001 : Cond.instanceMethod (mt 176).1 ∈ lw_tbl := List.mem_of_getElem? (i := 1069) (by decide +kernel)
theorem wd_1002 : Cond.selects (mt 176).1.cls (mt 176).1 (mt 176).1 ∈ lw_tbl := List.mem_of_getElem? (i := 1070) (by decide +kernel)
theorem wd_1003 : Cond.methodLink RL 127 (mt 107).1 ∈ lw_tbl := List.mem_of_getElem? (i := 711) (by decide +kernel)
theorem wd_1004 : Cond.code (mt 107).1 (mt 107).2.1 (mt 107).2.2.1 (mt 107).2.2.2 ∈ lw_tbl := List.mem_of_getElem? (i := 714) (by decide +kernel)
theorem wd_1005 : Cond.initialized (mt 107).1.cls ∈ lw_tbl := List.mem_of_getElem? (i := 47) (by decide +kernel)
theorem mok_107 : MOK 107 3 := ⟨wd_1004, wd_1005, by decide +kernel, by decide +kernel, by decide +kernel, by decide +kernel⟩
theorem wd_1006 : Cond.instanceMethod (mt 107).1 ∈ lw_tbl := List.mem_of_getElem? (i := 712) (by decide +kernel)
theorem wd_1007 : Cond.selects (mt 107).1.cls (mt 107).1 (mt 107).1 ∈ lw_tbl := List.mem_of_getElem? (i := 713) (by decide +kernel)
theorem wd_1008 : Cond.methodLink RL 130 (mt 177).1 ∈ lw_tbl := List.mem_of_getElem? (i := 1076) (by decide +kernel)
theorem wd_1009 : Cond.code (mt 177).1 (mt 177).2.1 (mt 177).2.2.1 (mt 177).2.2.2 ∈ lw_tbl := List.mem_of_getElem? (i := 1079) (by decide +kernel)
theorem wd_1010 : Cond.initialized (mt 177).1.cls ∈ lw_tbl := List.mem_of_getElem? (i := 60) (by decide +kernel)
theorem mok_177 : MOK 177 3 := ⟨wd_1009, wd_1010, by decide +kernel, by decide +kernel, by decide +kernel, by decide +kernel⟩
theorem wd_1011 : Cond.instanceMethod (mt 177).1 ∈ lw_tbl := List.mem_of_getElem? (i := 1077) (by decide +kernel)
theorem wd_1012 : Cond.selects (mt 177).1.cls (mt 177).1 (mt 177).1 ∈ lw_tbl := List.mem_of_getElem? (i := 1078) (by decide +kernel)
theorem wd_1013 : Cond.methodLink RL 131 (mt 108).1 ∈ lw_tbl := List.mem_of_getElem? (i := 736) (by decide +kernel)
theorem wd_1014 : Cond.code (mt 108).1 (mt 108).2.1 (mt 108).2.2.1 (mt 108).2.2.2 ∈ lw_tbl := List.mem_of_getElem? (i := 739) (by decide +kernel)
theorem wd_1015 : Cond.initialized (mt 108).1.cls ∈ lw_tbl := List.mem_of_getElem? (i := 47) (by decide +kernel)
theorem mok_108 : MOK 108 0 := ⟨wd_1014, wd_1015, by decide +kernel, by decide +kernel, by decide +kernel, by decide +kernel⟩
theorem wd_1016 : Cond.instanceMethod (mt 108).1 ∈ lw_tbl := List.mem_of_getElem? (i := 737) (by decide +kernel)
theorem wd_1017 : Cond.selects (mt 108).1.cls (mt 108).1 (mt 108).1 ∈ lw_tbl := List.mem_of_getElem? (i := 738) (by decide +kernel)
theorem wd_1018 : Cond.methodLink RL 134 (mt 178).1 ∈ lw_tbl := List.mem_of_getElem? (i := 1084) (by decide +kernel)
theorem wd_1019 : Cond.code (mt 178).1 (mt 178).2.1 (mt 178).2.2.1 (mt 178).2.2.2 ∈ lw_tbl := List.mem_of_getElem? (i := 1087) (by decide +kernel)
theorem wd_1020 : Cond.initialized (mt 178).1.cls ∈ lw_tbl := List.mem_of_getElem? (i := 60) (by decide +kernel)
theorem mok_178 : MOK 178 0 := ⟨wd_1019, wd_1020, by decide +kernel, by decide +kernel, by decide +kernel, by decide +kernel⟩
theorem wd_1021 : Cond.instanceMethod (mt 178).1 ∈ lw_tbl := List.mem_of_getElem? (i := 1085) (by decide +kernel)
theorem wd_1022 : Cond.selects (mt 178).1.cls (mt 178).1 (mt 178).1 ∈ lw_tbl := List.mem_of_getElem? (i := 1086) (by decide +kernel)
theorem wd_1023 : Cond.methodLink RL 135 (mt 109).1 ∈ lw_tbl := List.mem_of_getElem? (i := 741) (by decide +kernel)
theorem wd_1024 : Cond.code (mt 109).1 (mt 109).2.1 (mt 109).2.2.1 (mt 109).2.2.2 ∈ lw_tbl := List.mem_of_getElem? (i := 744) (by decide +kernel)
theorem wd_1025 : Cond.initialized (mt 109).1.cls ∈ lw_tbl := List.mem_of_getElem? (i := 47) (by decide +kernel)
theorem mok_109 : MOK 109 0 := ⟨wd_1024, wd_1025, by decide +kernel, by decide +kernel, by decide +kernel, by decide +kernel⟩
theorem wd_1026 : Cond.instanceMethod (mt 109).1 ∈ lw_tbl := List.mem_of_getElem? (i := 742) (by decide +kernel)
theorem wd_1027 : Cond.selects (mt 109).1.cls (mt 109).1 (mt 109).1 ∈ lw_tbl := List.mem_of_getElem? (i := 743) (by decide +kernel)
theorem wd_1028 : Cond.methodLink RL 138 (mt 179).1 ∈ lw_tbl := List.mem_of_getElem? (i := 1088) (by decide +kernel)
theorem wd_1029 : Cond.code (mt 179).1 (mt 179).2.1 (mt 179).2.2.1 (mt 179).2.2.2 ∈ lw_tbl := List.mem_of_getElem? (i := 1091) (by decide +kernel)
theorem wd_1030 : Cond.initialized (mt 179).1.cls ∈ lw_tbl := List.mem_of_getElem? (i := 60) (by decide +kernel)
theorem mok_179 : MOK 179 0 := ⟨wd_1029, wd_1030, by decide +kernel, by decide +kernel, by decide +kernel, by decide +kernel⟩
theorem wd_1031 : Cond.instanceMethod (mt 179).1 ∈ lw_tbl := List.mem_of_getElem? (i := 1089) (by decide +kernel)
theorem wd_1032 : Cond.selects (mt 179).1.cls (mt 179).1 (mt 179).1 ∈ lw_tbl := List.mem_of_getElem? (i := 1090) (by decide +kernel)
theorem wd_1033 : Cond.methodLink RL 139 (mt 110).1 ∈ lw_tbl := List.mem_of_getElem? (i := 745) (by decide +kernel)
theorem wd_1034 : Cond.code (mt 110).1 (mt 110).2.1 (mt 110).2.2.1 (mt 110).2.2.2 ∈ lw_tbl := List.mem_of_getElem? (i := 748) (by decide +kernel)
theorem wd_1035 : Cond.initialized (mt 110).1.cls ∈ lw_tbl := List.mem_of_getElem? (i := 47) (by decide +kernel)
theorem mok_110 : MOK 110 1 := ⟨wd_1034, wd_1035, by decide +kernel, by decide +kernel, by decide +kernel, by decide +kernel⟩
theorem wd_1036 : Cond.instanceMethod (mt 110).1 ∈ lw_tbl := List.mem_of_getElem? (i := 746) (by decide +kernel)
theorem wd_1037 : Cond.selects (mt 110).1.cls (mt 110).1 (mt 110).1 ∈ lw_tbl := List.mem_of_getElem? (i := 747) (by decide +kernel)
theorem wd_1038 : Cond.methodLink RL 142 (mt 180).1 ∈ lw_tbl := List.mem_of_getElem? (i := 1092) (by decide +kernel)
theorem wd_1039 : Cond.code (mt 180).1 (mt 180).2.1 (mt 180).2.2.1 (mt 180).2.2.2 ∈ lw_tbl := List.mem_of_getElem? (i := 1095) (by decide +kernel)
theorem wd_1040 : Cond.initialized (mt 180).1.cls ∈ lw_tbl := List.mem_of_getElem? (i := 60) (by decide +kernel)
theorem mok_180 : MOK 180 1 := ⟨wd_1039, wd_1040, by decide +kernel, by decide +kernel, by decide +kernel, by decide +kernel⟩
theorem wd_1041 : Cond.instanceMethod (mt 180).1 ∈ lw_tbl := List.mem_of_getElem? (i := 1093) (by decide +kernel)
theorem wd_1042 : Cond.selects (mt 180).1.cls (mt 180).1 (mt 180).1 ∈ lw_tbl := List.mem_of_getElem? (i := 1094) (by decide +kernel)
theorem wd_1043 : Cond.methodLink RL 9 (mt 79).1 ∈ lw_tbl := List.mem_of_getElem? (i := 65) (by decide +kernel)
theorem wd_1044 : Cond.code (mt 79).1 (mt 79).2.1 (mt 79).2.2.1 (mt 79).2.2.2 ∈ lw_tbl := List.mem_of_getElem? (i := 67) (by decide +kernel)
theorem wd_1045 : Cond.initialized (mt 79).1.cls ∈ lw_tbl := List.mem_of_getElem? (i := 47) (by decide +kernel)
theorem mok_79 : MOK 79 0 := ⟨wd_1044, wd_1045, by decide +kernel, by decide +kernel, by decide +kernel, by decide +kernel⟩
theorem wd_1046 : Cond.instanceMethod (mt 79).1 ∈ lw_tbl := List.mem_of_getElem? (i := 66) (by decide +kernel)
def SF0 (L : Nat) (xs : Nat → Int32) (ex : Nat → Nat) (A : Nat → Prop) (s : State) : Prop := va_X (ex 0) L xs s s.heap ∧ ex 0 < s.heap.size ∧ ¬ A (ex 0)
def SndL (L : Nat) (xs : Nat → Int32) (pc : Nat) (i : aI) : Prop :=
  ∀ (p : Program) (l : Launch) (e : Env) (R : Room) (s : State) (m : MethodId) (args : Array Value) (below : List Frame) (meth : Method) (c : Code) (D : va_G) (cI cN : ClassId) (ad ex : Nat → Nat) (n0 : Nat) (A : Nat → Prop) (nL : Nat) (Qw : State → Prop) (K : aK) (Q : aR) (d : Nat) (V : Nat) (Fm : Value),
    FX p R s m args meth c D cI cN ad n0 A nL RL cL_law false K d → d = 8 → K.2.2 = callok 8 → SF0 L xs ex A s → TF V Fm ex A s → RT p l e R s m args below meth c D cI cN ad ex n0 A Qw cL_law (some .boolean) Q →
    ∀ lo st h c0 s0, i K (Sm p l e R s m args below meth c D cI cN ad ex n0 A nL Qw) Q pc lo st h c0 s0 → Sm p l e R s m args below meth c D cI cN ad ex n0 A nL Qw pc lo st h c0 s0
theorem Snd.L {L : Nat} {xs : Nat → Int32} {pc : Nat} {i : aI} (h : Snd RL cL_law (some .boolean) false pc i) : SndL L xs pc i := fun p l e R s m args below meth c D cI cN ad ex n0 A nL Qw K Q d V Fm F hd hK _ _ hT => h p l e R s m args below meth c D cI cN ad ex n0 A nL Qw K Q d F (by rw [hK, hd]; exact callok_ok l D cI cN ex 8) hT
def i_sld (L : Nat) (xs : Nat → Int32) : aI := fun _ X _ pc lo st h c s => match st with
  | .int i :: .retAddr q :: t => ∃ k, i = nI k ∧ (q = 0 ∧ k < L ∧ L ≤ 384) ∧ X (pc + 1) lo (.int (xs k) :: t) h c s
  | _ => False
def i_slenL (L : Nat) : aI := fun _ X _ pc lo st h c s => match st with
  | .retAddr q :: t => q = 0 ∧ X (pc + 1) lo (.int (nI L) :: t) h c s
  | _ => False
def i_init79 : aI := fun K X _ pc lo st h c s =>
  ∃ (is : List Nat) (av : List Value) (hc : List aC) (mc ms : Nat), (st.take 1 = (av.map (rv (rho is h.length))).reverse ∧ av.length = 1 ∧ ((st.drop 1).map fun v => v.category).sum ≤ 8 ∧ va_nd is = true ∧ is.all (fun i => decide (i < h.length)) = true ∧ is.map (fun i => h[i]?) = hc.map (fun x => some (rc (rho is h.length) x)) ∧ ∃ r, av.head? = some (.ref r)) ∧ c + mc ≤ K.1 ∧ s + ms ≤ K.2.1 ∧
    step79 (callok 7) mc ms av hc (fun v hc' => X (pc + 3) lo ((v.map (rv (rho is h.length))).toList ++ st.drop 1) (put h is (hc'.map (rc (rho is h.length)))) (c + mc) (s + ms))
theorem mo_sld {L : Nat} {xs : Nat → Int32} : Mono (i_sld L xs) := by
  intro K X Y Q Q' hC hX hQ pc lo st h c s
  unfold i_sld
  split <;> first | exact fun ⟨k, e, l, w⟩ => ⟨k, e, l, hX _ _ _ _ _ _ w⟩ | exact fun w => w
theorem mo_slenL {L : Nat} : Mono (i_slenL L) := by
  intro K X Y Q Q' hC hX hQ pc lo st h c s
  unfold i_slenL
  split <;> first | exact fun w => ⟨w.1, hX _ _ _ _ _ _ w.2⟩ | exact fun w => w
theorem mo_init79 : Mono i_init79 := by
  intro K X Y Q Q' hC hX hQ pc lo st h c s
  unfold i_init79
  rintro ⟨is, av, hc, mc, ms, a, b, d, w⟩
  exact ⟨is, av, hc, mc, ms, a, b, d, w.1, wp_mono m_79 (monoC 7) (fun v h' c s z => ⟨z.1, z.2.1, z.2.2.elim (fun h'' z => ⟨h'', z.1, hX _ _ _ _ _ _ z.2⟩)⟩) w.2⟩
theorem snd_sld {L : Nat} {xs : Nat → Int32} {pc : Nat} (hd : decode cL_law pc = .ok (.iaload, 1)) : SndL L xs pc (i_sld L xs) := by
  intro p l e R s m args below meth c D cI cN ad ex n0 A nL Qw K Q d V Fm F h8 hK hZ hY hT lo st h c0 s0 w
  unfold i_sld at w
  split at w
  · obtain ⟨k, rfl, ⟨rfl, hk, hL⟩, w⟩ := w
    intro H locs ls hr hl
    have w9 := w H locs ls hr hl
    refine va_sld F.1 F.2.1 hZ.1 hZ.2.1 hZ.2.2 hr.2.2 (vp_in_nI hk (by omega)) hd ?_
    rw [nI_clamp (by omega)]
    exact w9
  · exact w.elim
theorem snd_slenL {L : Nat} {xs : Nat → Int32} {pc : Nat} (hd : decode cL_law pc = .ok (.arraylength, 1)) : SndL L xs pc (i_slenL L) := by
  intro p l e R s m args below meth c D cI cN ad ex n0 A nL Qw K Q d V Fm F h8 hK hZ hY hT lo st h c0 s0 w
  unfold i_slenL at w
  split at w
  · obtain ⟨rfl, w⟩ := w
    intro H locs ls hr hl
    exact va_slen F.1 F.2.1 hZ.1 hZ.2.1 hZ.2.2 hr.2.2 hd (w H locs ls hr hl)
  · exact w.elim
theorem snd_init79 {L : Nat} {xs : Nat → Int32} {pc : Nat} (hd : decode cL_law pc = .ok (.invokespecial 9, 3)) : SndL L xs pc i_init79 := by
  intro p l e R s m args below meth c D cI cN ad ex n0 A nL Qw K Q d V Fm F h8 hK hZ hY hT lo st h c0 s0 w
  obtain ⟨is, av, hc, mc, ms, ⟨g1, g2, g3, g4, g5, g6, r, g7⟩, w1, w2, w⟩ := w
  obtain ⟨y1, y2, y3, y4, y5, y6⟩ := mok_79
  have g5 : ∀ i ∈ is, i < h.length := fun i hi => by simpa using List.all_eq_true.mp g5 i hi
  intro H locs ls hr hl T0 hT0 X
  subst h8
  have hz := hr.size F hT0 X
  have hF := F.2.2.2.2.2.2.2.2.2.2.2.2
  have hisl : is.length = hc.length := by have := congrArg List.length g6; simpa using this
  have hM := met79 (by omega) (callok_ok l D cI cN ex 7) w V Fm (fun k => ad (rho is h.length k)) H.size (fun i j z => rho_inj g4 g5 i j (F.2.2.2.2.2.2.2.1 _ _ z)) (call_new F hr hz hisl)
  obtain ⟨av', rfl⟩ : ∃ av', av = .ref r :: av' := by
    cases av with
    | nil => cases g7
    | cons v t => cases g7; exact ⟨t, rfl⟩
  have hpA := call_pre (av := .ref r :: av') F hr g6
  have hp : PreS s H (PcT D cI cN (fun k => ad (rho is h.length k)) ex H.size V Fm (.ref r :: av') hc) ((Value.ref r :: av').map (tv (fun k => ad (rho is h.length k)) ex)) := by
    refine ⟨fun a U g mk q => ?_, fun U hU hW => ?_⟩
    · have q2 := hpA.1 a U g mk ⟨q.1, q.2.1, q.2.2.1, q.2.2.2.1, q.2.2.2.2.1⟩
      exact ⟨q2.1, q2.2.1, q2.2.2.1, q2.2.2.2.1, q2.2.2.2.2, TF.call g mk a q.2.2.2.2.2⟩
    · have q2 := hpA.2 U hU hW
      exact ⟨q2.1, q2.2.1, q2.2.2.1, q2.2.2.2.1, q2.2.2.2.2, hY.go hr.2.2 (fun q ⟨k, hk⟩ => by rw [hk]; exact F.2.2.2.2.2.2.2.2.2.1 _) hU hW⟩
  refine call_core (n := 1) F hr hl g4 g5 g6 (va_runI (b := ad (rho is h.length r)) (As := av'.map (tv (fun k => ad (rho is h.length k)) ex)) (maxL := (mt 79).2.2.1) (bytes := (mt 79).2.1) ⟨F.1, F.2.1, F.2.2.1, F.2.2.2.1, F.2.2.2.2.1⟩ hM (cwI 0 F.2.2.2.2.1 (gi (mws_in y1)) rfl rfl rfl (F.2.2.2.2.1 _ (gt_in y2 rfl)) (F.2.2.2.2.1 _ (gt_in wd_1043 rfl)) (F.2.2.2.2.1 _ (gt_in wd_1046 rfl)) rfl ⟨y4, y5, y6⟩ ⟨hF.1, ?_⟩) hp rfl (by rw [List.length_map]; simpa using g2) hl.2.1 ?_ ?_ hd ⟨Nat.le_trans w1 hF.2.2.1, Nat.le_trans w2 hF.2.2.2⟩) (fun v hc' z => z) T0 hT0 X
  · exact Nat.le_trans (show 8 + ((mt 79).2.2.1 + 11) + 40 * 8 ≤ 40 * 8 + 40 from Nat.le_of_ble_eq_true rfl) hF.2.1
  · have e9 := call_stack (ad := ad) (ex := ex) g1
    show st.map (tv ad ex) = _
    rw [e9]
    simp [tv]
  · show 2 * 0 + _ ≤ 8
    rw [cats_tv]
    omega
