theorem wd_0 : Cond.methodLink RX0 3 objectInit ∈ lw_tbl := List.mem_of_getElem? (i := 177) (by decide +kernel)
theorem wd_1 : Cond.instanceMethod objectInit ∈ lw_tbl := List.mem_of_getElem? (i := 69) (by decide +kernel)
theorem wd_2 : Cond.code objectInit ⟨#[0xb1]⟩ 1 none ∈ lw_tbl := List.mem_of_getElem? (i := 70) (by decide +kernel)
theorem wd_3 : Cond.classLink RX0 9 RX2 ∈ lw_tbl := List.mem_of_getElem? (i := 178) (by decide +kernel)
theorem wd_4 : Cond.instantiable RX2 7 ∈ lw_tbl := List.mem_of_getElem? (i := 86) (by decide +kernel)
theorem wd_5 : Cond.initialized RX2 ∈ lw_tbl := List.mem_of_getElem? (i := 49) (by decide +kernel)
theorem inw_2 : ∀ w ∈ u_ws RX2 TX2 7, w ∈ gtbl := by
  have e : u_ws RX2 TX2 7 = [98, 100, 102, 104, 106, 108, 110].filterMap (fun i => lw_tbl[i]?) := by decide +kernel
  have g : (u_ws RX2 TX2 7).all goodWord = true := by decide +kernel
  intro w hw
  refine gt_in ?_ (List.all_eq_true.mp g w hw)
  rw [e] at hw
  obtain ⟨i, -, hi⟩ := List.mem_filterMap.mp hw
  exact List.mem_of_getElem? hi
theorem cl_0_9 : Cls 2 RX0 9 7 [.null, .null, .null, .int 0, .int 0, .int 0, .int 0] := ⟨RX2, TX2, tyX2, rfl, wd_3, wd_4, wd_5, inw_2, tyX2_ok, by decide +kernel, fun _ _ => rfl⟩
theorem wd_6 : Cond.code (mt 20).1 (mt 20).2.1 (mt 20).2.2.1 (mt 20).2.2.2 ∈ lw_tbl := List.mem_of_getElem? (i := 89) (by decide +kernel)
theorem wd_7 : Cond.initialized (mt 20).1.cls ∈ lw_tbl := List.mem_of_getElem? (i := 49) (by decide +kernel)
theorem mok_20 : MOK 20 0 := ⟨wd_6, wd_7, by decide +kernel, by decide +kernel, by decide +kernel, by decide +kernel⟩
theorem wd_8 : Cond.instanceMethod (mt 20).1 ∈ lw_tbl := List.mem_of_getElem? (i := 88) (by decide +kernel)
theorem wd_9 : Cond.fieldLink RX0 12 (TX0 0).1 (TX0 0).2.1 (TX0 0).2.2.1 ∈ lw_tbl := List.mem_of_getElem? (i := 180) (by decide +kernel)
theorem inw_0 : ∀ w ∈ u_ws RX0 TX0 1, w ∈ gtbl := by
  have e : u_ws RX0 TX0 1 = [181].filterMap (fun i => lw_tbl[i]?) := by decide +kernel
  have g : (u_ws RX0 TX0 1).all goodWord = true := by decide +kernel
  intro w hw
  refine gt_in ?_ (List.all_eq_true.mp g w hw)
  rw [e] at hw
  obtain ⟨i, -, hi⟩ := List.mem_filterMap.mp hw
  exact List.mem_of_getElem? hi
theorem fl_0_12 : Fld 0 0 RX0 12 true (.object "DollsVote$Nursery") := ⟨RX0, TX0, 1, tyX0, rfl, by decide, wd_9, inw_0, tyX0_ok, nmX0, rfl, rfl, by decide +kernel⟩
theorem wd_10 : Cond.methodLink RX0 18 (mt 25).1 ∈ lw_tbl := List.mem_of_getElem? (i := 691) (by decide +kernel)
theorem wd_11 : Cond.code (mt 25).1 (mt 25).2.1 (mt 25).2.2.1 (mt 25).2.2.2 ∈ lw_tbl := List.mem_of_getElem? (i := 375) (by decide +kernel)
theorem wd_12 : Cond.initialized (mt 25).1.cls ∈ lw_tbl := List.mem_of_getElem? (i := 49) (by decide +kernel)
theorem mok_25 : MOK 25 0 := ⟨wd_11, wd_12, by decide +kernel, by decide +kernel, by decide +kernel, by decide +kernel⟩
theorem wd_13 : Cond.instanceMethod (mt 25).1 ∈ lw_tbl := List.mem_of_getElem? (i := 373) (by decide +kernel)
theorem wd_14 : Cond.selects (mt 25).1.cls (mt 25).1 (mt 25).1 ∈ lw_tbl := List.mem_of_getElem? (i := 374) (by decide +kernel)
theorem wd_15 : Cond.methodLink RX0 22 Lib.Math.max.name ∈ lw_tbl := List.mem_of_getElem? (i := 692) (by decide +kernel)
theorem wd_16 : Cond.static Lib.Math.max.name ∈ lw_tbl := List.mem_of_getElem? (i := 120) (by decide +kernel)
theorem wd_17 : Cond.initialized "java/lang/Math" ∈ lw_tbl := List.mem_of_getElem? (i := 51) (by decide +kernel)
theorem wd_18 : Cond.code Lib.Math.max.name Lib.Math.max.code 2 (some .int) ∈ lw_tbl := List.mem_of_getElem? (i := 121) (by decide +kernel)
theorem wd_19 : Cond.methodLink RX0 28 (mt 1).1 ∈ lw_tbl := List.mem_of_getElem? (i := 688) (by decide +kernel)
theorem wd_20 : Cond.code (mt 1).1 (mt 1).2.1 (mt 1).2.2.1 (mt 1).2.2.2 ∈ lw_tbl := List.mem_of_getElem? (i := 690) (by decide +kernel)
theorem wd_21 : Cond.initialized (mt 1).1.cls ∈ lw_tbl := List.mem_of_getElem? (i := 54) (by decide +kernel)
theorem mok_1 : MOK 1 2 := ⟨wd_20, wd_21, by decide +kernel, by decide +kernel, by decide +kernel, by decide +kernel⟩
theorem wd_22 : Cond.static (mt 1).1 ∈ lw_tbl := List.mem_of_getElem? (i := 689) (by decide +kernel)
theorem wd_23 : Cond.methodLink RX0 32 (mt 181).1 ∈ lw_tbl := List.mem_of_getElem? (i := 693) (by decide +kernel)
theorem wd_24 : Cond.code (mt 181).1 (mt 181).2.1 (mt 181).2.2.1 (mt 181).2.2.2 ∈ lw_tbl := List.mem_of_getElem? (i := 502) (by decide +kernel)
theorem wd_25 : Cond.initialized (mt 181).1.cls ∈ lw_tbl := List.mem_of_getElem? (i := 62) (by decide +kernel)
theorem mok_181 : MOK 181 1 := ⟨wd_24, wd_25, by decide +kernel, by decide +kernel, by decide +kernel, by decide +kernel⟩
theorem wd_26 : Cond.static (mt 181).1 ∈ lw_tbl := List.mem_of_getElem? (i := 501) (by decide +kernel)
theorem wd_27 : Cond.code (mt 115).1 (mt 115).2.1 (mt 115).2.2.1 (mt 115).2.2.2 ∈ lw_tbl := List.mem_of_getElem? (i := 696) (by decide +kernel)
theorem wd_28 : Cond.initialized (mt 115).1.cls ∈ lw_tbl := List.mem_of_getElem? (i := 47) (by decide +kernel)
theorem mok_115 : MOK 115 2 := ⟨wd_27, wd_28, by decide +kernel, by decide +kernel, by decide +kernel, by decide +kernel⟩
theorem wd_29 : Cond.static (mt 115).1 ∈ lw_tbl := List.mem_of_getElem? (i := 695) (by decide +kernel)
theorem wd_30 : Cond.methodLink RX0 41 (mt 3).1 ∈ lw_tbl := List.mem_of_getElem? (i := 697) (by decide +kernel)
theorem wd_31 : Cond.code (mt 3).1 (mt 3).2.1 (mt 3).2.2.1 (mt 3).2.2.2 ∈ lw_tbl := List.mem_of_getElem? (i := 700) (by decide +kernel)
theorem wd_32 : Cond.initialized (mt 3).1.cls ∈ lw_tbl := List.mem_of_getElem? (i := 54) (by decide +kernel)
theorem mok_3 : MOK 3 4 := ⟨wd_31, wd_32, by decide +kernel, by decide +kernel, by decide +kernel, by decide +kernel⟩
theorem wd_33 : Cond.instanceMethod (mt 3).1 ∈ lw_tbl := List.mem_of_getElem? (i := 699) (by decide +kernel)
theorem wd_34 : Cond.selects (mt 3).1.cls (mt 3).1 (mt 3).1 ∈ lw_tbl := List.mem_of_getElem? (i := 17) (by decide +kernel)
theorem wd_35 : Cond.methodLink RX0 45 (mt 22).1 ∈ lw_tbl := List.mem_of_getElem? (i := 701) (by decide +kernel)
theorem wd_36 : Cond.code (mt 22).1 (mt 22).2.1 (mt 22).2.2.1 (mt 22).2.2.2 ∈ lw_tbl := List.mem_of_getElem? (i := 379) (by decide +kernel)
theorem wd_37 : Cond.initialized (mt 22).1.cls ∈ lw_tbl := List.mem_of_getElem? (i := 49) (by decide +kernel)
theorem mok_22 : MOK 22 1 := ⟨wd_36, wd_37, by decide +kernel, by decide +kernel, by decide +kernel, by decide +kernel⟩
theorem wd_38 : Cond.instanceMethod (mt 22).1 ∈ lw_tbl := List.mem_of_getElem? (i := 377) (by decide +kernel)
theorem wd_39 : Cond.selects (mt 22).1.cls (mt 22).1 (mt 22).1 ∈ lw_tbl := List.mem_of_getElem? (i := 378) (by decide +kernel)
theorem wd_40 : Cond.methodLink RX0 49 (mt 27).1 ∈ lw_tbl := List.mem_of_getElem? (i := 702) (by decide +kernel)
theorem wd_41 : Cond.code (mt 27).1 (mt 27).2.1 (mt 27).2.2.1 (mt 27).2.2.2 ∈ lw_tbl := List.mem_of_getElem? (i := 284) (by decide +kernel)
theorem wd_42 : Cond.initialized (mt 27).1.cls ∈ lw_tbl := List.mem_of_getElem? (i := 49) (by decide +kernel)
theorem mok_27 : MOK 27 0 := ⟨wd_41, wd_42, by decide +kernel, by decide +kernel, by decide +kernel, by decide +kernel⟩
theorem wd_43 : Cond.instanceMethod (mt 27).1 ∈ lw_tbl := List.mem_of_getElem? (i := 282) (by decide +kernel)
theorem wd_44 : Cond.selects (mt 27).1.cls (mt 27).1 (mt 27).1 ∈ lw_tbl := List.mem_of_getElem? (i := 283) (by decide +kernel)
theorem wd_45 : Cond.methodLink RX0 52 (mt 44).1 ∈ lw_tbl := List.mem_of_getElem? (i := 703) (by decide +kernel)
theorem wd_46 : Cond.code (mt 44).1 (mt 44).2.1 (mt 44).2.2.1 (mt 44).2.2.2 ∈ lw_tbl := List.mem_of_getElem? (i := 486) (by decide +kernel)
theorem wd_47 : Cond.initialized (mt 44).1.cls ∈ lw_tbl := List.mem_of_getElem? (i := 49) (by decide +kernel)
theorem mok_44 : MOK 44 1 := ⟨wd_46, wd_47, by decide +kernel, by decide +kernel, by decide +kernel, by decide +kernel⟩
theorem wd_48 : Cond.instanceMethod (mt 44).1 ∈ lw_tbl := List.mem_of_getElem? (i := 484) (by decide +kernel)
theorem wd_49 : Cond.selects (mt 44).1.cls (mt 44).1 (mt 44).1 ∈ lw_tbl := List.mem_of_getElem? (i := 485) (by decide +kernel)
theorem wd_50 : Cond.methodLink RX0 56 (mt 45).1 ∈ lw_tbl := List.mem_of_getElem? (i := 704) (by decide +kernel)
theorem wd_51 : Cond.code (mt 45).1 (mt 45).2.1 (mt 45).2.2.1 (mt 45).2.2.2 ∈ lw_tbl := List.mem_of_getElem? (i := 449) (by decide +kernel)
theorem wd_52 : Cond.initialized (mt 45).1.cls ∈ lw_tbl := List.mem_of_getElem? (i := 49) (by decide +kernel)
theorem mok_45 : MOK 45 0 := ⟨wd_51, wd_52, by decide +kernel, by decide +kernel, by decide +kernel, by decide +kernel⟩
theorem wd_53 : Cond.instanceMethod (mt 45).1 ∈ lw_tbl := List.mem_of_getElem? (i := 447) (by decide +kernel)
theorem wd_54 : Cond.selects (mt 45).1.cls (mt 45).1 (mt 45).1 ∈ lw_tbl := List.mem_of_getElem? (i := 448) (by decide +kernel)
theorem wd_55 : Cond.methodLink RX0 60 (mt 30).1 ∈ lw_tbl := List.mem_of_getElem? (i := 705) (by decide +kernel)
theorem wd_56 : Cond.code (mt 30).1 (mt 30).2.1 (mt 30).2.2.1 (mt 30).2.2.2 ∈ lw_tbl := List.mem_of_getElem? (i := 400) (by decide +kernel)
theorem wd_57 : Cond.initialized (mt 30).1.cls ∈ lw_tbl := List.mem_of_getElem? (i := 49) (by decide +kernel)
theorem mok_30 : MOK 30 2 := ⟨wd_56, wd_57, by decide +kernel, by decide +kernel, by decide +kernel, by decide +kernel⟩
theorem wd_58 : Cond.instanceMethod (mt 30).1 ∈ lw_tbl := List.mem_of_getElem? (i := 398) (by decide +kernel)
theorem wd_59 : Cond.selects (mt 30).1.cls (mt 30).1 (mt 30).1 ∈ lw_tbl := List.mem_of_getElem? (i := 399) (by decide +kernel)
theorem wd_60 : Cond.methodLink RX0 63 (mt 5).1 ∈ lw_tbl := List.mem_of_getElem? (i := 718) (by decide +kernel)
theorem wd_61 : Cond.code (mt 5).1 (mt 5).2.1 (mt 5).2.2.1 (mt 5).2.2.2 ∈ lw_tbl := List.mem_of_getElem? (i := 720) (by decide +kernel)
theorem wd_62 : Cond.initialized (mt 5).1.cls ∈ lw_tbl := List.mem_of_getElem? (i := 54) (by decide +kernel)
theorem mok_5 : MOK 5 2 := ⟨wd_61, wd_62, by decide +kernel, by decide +kernel, by decide +kernel, by decide +kernel⟩
theorem wd_63 : Cond.static (mt 5).1 ∈ lw_tbl := List.mem_of_getElem? (i := 719) (by decide +kernel)
theorem wd_64 : Cond.methodLink RX0 66 (mt 6).1 ∈ lw_tbl := List.mem_of_getElem? (i := 725) (by decide +kernel)
theorem wd_65 : Cond.code (mt 6).1 (mt 6).2.1 (mt 6).2.2.1 (mt 6).2.2.2 ∈ lw_tbl := List.mem_of_getElem? (i := 727) (by decide +kernel)
theorem wd_66 : Cond.initialized (mt 6).1.cls ∈ lw_tbl := List.mem_of_getElem? (i := 54) (by decide +kernel)
theorem mok_6 : MOK 6 2 := ⟨wd_65, wd_66, by decide +kernel, by decide +kernel, by decide +kernel, by decide +kernel⟩
theorem wd_67 : Cond.static (mt 6).1 ∈ lw_tbl := List.mem_of_getElem? (i := 726) (by decide +kernel)
theorem wd_68 : Cond.constantLong RX0 70 7919 ∈ lw_tbl := List.mem_of_getElem? (i := 721) (by decide +kernel)
theorem wd_69 : Cond.constantLong RX0 72 6151 ∈ lw_tbl := List.mem_of_getElem? (i := 722) (by decide +kernel)
theorem wd_70 : Cond.constantLong RX0 74 65521 ∈ lw_tbl := List.mem_of_getElem? (i := 723) (by decide +kernel)
theorem wd_71 : Cond.constantLong RX0 76 2 ∈ lw_tbl := List.mem_of_getElem? (i := 724) (by decide +kernel)
theorem wd_72 : Cond.methodLink RX0 78 (mt 7).1 ∈ lw_tbl := List.mem_of_getElem? (i := 728) (by decide +kernel)
theorem wd_73 : Cond.code (mt 7).1 (mt 7).2.1 (mt 7).2.2.1 (mt 7).2.2.2 ∈ lw_tbl := List.mem_of_getElem? (i := 730) (by decide +kernel)
theorem wd_74 : Cond.initialized (mt 7).1.cls ∈ lw_tbl := List.mem_of_getElem? (i := 54) (by decide +kernel)
theorem mok_7 : MOK 7 2 := ⟨wd_73, wd_74, by decide +kernel, by decide +kernel, by decide +kernel, by decide +kernel⟩
theorem wd_75 : Cond.static (mt 7).1 ∈ lw_tbl := List.mem_of_getElem? (i := 729) (by decide +kernel)
theorem wd_76 : Cond.methodLink RX0 81 (mt 26).1 ∈ lw_tbl := List.mem_of_getElem? (i := 731) (by decide +kernel)
theorem wd_77 : Cond.code (mt 26).1 (mt 26).2.1 (mt 26).2.2.1 (mt 26).2.2.2 ∈ lw_tbl := List.mem_of_getElem? (i := 589) (by decide +kernel)
theorem wd_78 : Cond.initialized (mt 26).1.cls ∈ lw_tbl := List.mem_of_getElem? (i := 49) (by decide +kernel)
theorem mok_26 : MOK 26 0 := ⟨wd_77, wd_78, by decide +kernel, by decide +kernel, by decide +kernel, by decide +kernel⟩
theorem wd_79 : Cond.instanceMethod (mt 26).1 ∈ lw_tbl := List.mem_of_getElem? (i := 587) (by decide +kernel)
theorem wd_80 : Cond.selects (mt 26).1.cls (mt 26).1 (mt 26).1 ∈ lw_tbl := List.mem_of_getElem? (i := 588) (by decide +kernel)
theorem wd_81 : Cond.methodLink RX0 84 (mt 31).1 ∈ lw_tbl := List.mem_of_getElem? (i := 732) (by decide +kernel)
theorem wd_82 : Cond.code (mt 31).1 (mt 31).2.1 (mt 31).2.2.1 (mt 31).2.2.2 ∈ lw_tbl := List.mem_of_getElem? (i := 288) (by decide +kernel)
theorem wd_83 : Cond.initialized (mt 31).1.cls ∈ lw_tbl := List.mem_of_getElem? (i := 49) (by decide +kernel)
theorem mok_31 : MOK 31 3 := ⟨wd_82, wd_83, by decide +kernel, by decide +kernel, by decide +kernel, by decide +kernel⟩
theorem wd_84 : Cond.instanceMethod (mt 31).1 ∈ lw_tbl := List.mem_of_getElem? (i := 286) (by decide +kernel)
theorem wd_85 : Cond.selects (mt 31).1.cls (mt 31).1 (mt 31).1 ∈ lw_tbl := List.mem_of_getElem? (i := 287) (by decide +kernel)
theorem wd_86 : Cond.methodLink RX0 88 (mt 36).1 ∈ lw_tbl := List.mem_of_getElem? (i := 733) (by decide +kernel)
theorem wd_87 : Cond.code (mt 36).1 (mt 36).2.1 (mt 36).2.2.1 (mt 36).2.2.2 ∈ lw_tbl := List.mem_of_getElem? (i := 304) (by decide +kernel)
theorem wd_88 : Cond.initialized (mt 36).1.cls ∈ lw_tbl := List.mem_of_getElem? (i := 49) (by decide +kernel)
theorem mok_36 : MOK 36 1 := ⟨wd_87, wd_88, by decide +kernel, by decide +kernel, by decide +kernel, by decide +kernel⟩
theorem wd_89 : Cond.instanceMethod (mt 36).1 ∈ lw_tbl := List.mem_of_getElem? (i := 302) (by decide +kernel)
theorem wd_90 : Cond.selects (mt 36).1.cls (mt 36).1 (mt 36).1 ∈ lw_tbl := List.mem_of_getElem? (i := 303) (by decide +kernel)
theorem wd_91 : Cond.methodLink RX1 3 objectInit ∈ lw_tbl := List.mem_of_getElem? (i := 76) (by decide +kernel)
theorem wd_92 : Cond.arrayClass .int ∈ lw_tbl := List.mem_of_getElem? (i := 84) (by decide +kernel)
theorem wd_93 : Cond.fieldLink RX1 9 (TX1 0).1 (TX1 0).2.1 (TX1 0).2.2.1 ∈ lw_tbl := List.mem_of_getElem? (i := 77) (by decide +kernel)
theorem inw_1 : ∀ w ∈ u_ws RX1 TX1 2, w ∈ gtbl := by
  have e : u_ws RX1 TX1 2 = [79, 81].filterMap (fun i => lw_tbl[i]?) := by decide +kernel
  have g : (u_ws RX1 TX1 2).all goodWord = true := by decide +kernel
  intro w hw
  refine gt_in ?_ (List.all_eq_true.mp g w hw)
  rw [e] at hw
  obtain ⟨i, -, hi⟩ := List.mem_filterMap.mp hw
  exact List.mem_of_getElem? hi
theorem fl_1_9 : Fld 1 0 RX1 9 true (.array .int) := ⟨RX1, TX1, 2, tyX1, rfl, by decide, wd_93, inw_1, tyX1_ok, nmX1, rfl, rfl, by decide +kernel⟩
theorem wd_94 : Cond.fieldLink RX1 15 (TX1 1).1 (TX1 1).2.1 (TX1 1).2.2.1 ∈ lw_tbl := List.mem_of_getElem? (i := 78) (by decide +kernel)
theorem fl_1_15 : Fld 1 1 RX1 15 false (.int) := ⟨RX1, TX1, 2, tyX1, rfl, by decide, wd_94, inw_1, tyX1_ok, nmX1, rfl, rfl, by decide +kernel⟩
theorem wd_95 : Cond.methodLink RX1 19 (mt 21).1 ∈ lw_tbl := List.mem_of_getElem? (i := 241) (by decide +kernel)
theorem wd_96 : Cond.code (mt 21).1 (mt 21).2.1 (mt 21).2.2.1 (mt 21).2.2.2 ∈ lw_tbl := List.mem_of_getElem? (i := 244) (by decide +kernel)
theorem wd_97 : Cond.initialized (mt 21).1.cls ∈ lw_tbl := List.mem_of_getElem? (i := 49) (by decide +kernel)
theorem mok_21 : MOK 21 0 := ⟨wd_96, wd_97, by decide +kernel, by decide +kernel, by decide +kernel, by decide +kernel⟩
theorem wd_98 : Cond.instanceMethod (mt 21).1 ∈ lw_tbl := List.mem_of_getElem? (i := 242) (by decide +kernel)
theorem wd_99 : Cond.selects (mt 21).1.cls (mt 21).1 (mt 21).1 ∈ lw_tbl := List.mem_of_getElem? (i := 243) (by decide +kernel)
theorem wd_100 : Cond.methodLink RX1 24 (mt 13).1 ∈ lw_tbl := List.mem_of_getElem? (i := 248) (by decide +kernel)
theorem wd_101 : Cond.code (mt 13).1 (mt 13).2.1 (mt 13).2.2.1 (mt 13).2.2.2 ∈ lw_tbl := List.mem_of_getElem? (i := 251) (by decide +kernel)
theorem wd_102 : Cond.initialized (mt 13).1.cls ∈ lw_tbl := List.mem_of_getElem? (i := 48) (by decide +kernel)
theorem mok_13 : MOK 13 2 := ⟨wd_101, wd_102, by decide +kernel, by decide +kernel, by decide +kernel, by decide +kernel⟩
theorem wd_103 : Cond.instanceMethod (mt 13).1 ∈ lw_tbl := List.mem_of_getElem? (i := 250) (by decide +kernel)
theorem wd_104 : Cond.selects (mt 13).1.cls (mt 13).1 (mt 13).1 ∈ lw_tbl := List.mem_of_getElem? (i := 0) (by decide +kernel)
theorem wd_105 : Cond.methodLink RX1 28 (mt 19).1 ∈ lw_tbl := List.mem_of_getElem? (i := 252) (by decide +kernel)
theorem wd_106 : Cond.code (mt 19).1 (mt 19).2.1 (mt 19).2.2.1 (mt 19).2.2.2 ∈ lw_tbl := List.mem_of_getElem? (i := 255) (by decide +kernel)
theorem wd_107 : Cond.initialized (mt 19).1.cls ∈ lw_tbl := List.mem_of_getElem? (i := 48) (by decide +kernel)
theorem mok_19 : MOK 19 1 := ⟨wd_106, wd_107, by decide +kernel, by decide +kernel, by decide +kernel, by decide +kernel⟩
theorem wd_108 : Cond.instanceMethod (mt 19).1 ∈ lw_tbl := List.mem_of_getElem? (i := 254) (by decide +kernel)
theorem wd_109 : Cond.selects (mt 19).1.cls (mt 19).1 (mt 19).1 ∈ lw_tbl := List.mem_of_getElem? (i := 1) (by decide +kernel)
theorem wd_110 : Cond.methodLink RX1 32 (mt 14).1 ∈ lw_tbl := List.mem_of_getElem? (i := 256) (by decide +kernel)
theorem wd_111 : Cond.code (mt 14).1 (mt 14).2.1 (mt 14).2.2.1 (mt 14).2.2.2 ∈ lw_tbl := List.mem_of_getElem? (i := 259) (by decide +kernel)
theorem wd_112 : Cond.initialized (mt 14).1.cls ∈ lw_tbl := List.mem_of_getElem? (i := 48) (by decide +kernel)
theorem mok_14 : MOK 14 2 := ⟨wd_111, wd_112, by decide +kernel, by decide +kernel, by decide +kernel, by decide +kernel⟩
theorem wd_113 : Cond.instanceMethod (mt 14).1 ∈ lw_tbl := List.mem_of_getElem? (i := 258) (by decide +kernel)
theorem wd_114 : Cond.selects (mt 14).1.cls (mt 14).1 (mt 14).1 ∈ lw_tbl := List.mem_of_getElem? (i := 2) (by decide +kernel)
theorem wd_115 : Cond.methodLink RX1 35 (mt 15).1 ∈ lw_tbl := List.mem_of_getElem? (i := 289) (by decide +kernel)
theorem wd_116 : Cond.code (mt 15).1 (mt 15).2.1 (mt 15).2.2.1 (mt 15).2.2.2 ∈ lw_tbl := List.mem_of_getElem? (i := 292) (by decide +kernel)
theorem wd_117 : Cond.initialized (mt 15).1.cls ∈ lw_tbl := List.mem_of_getElem? (i := 48) (by decide +kernel)
theorem mok_15 : MOK 15 2 := ⟨wd_116, wd_117, by decide +kernel, by decide +kernel, by decide +kernel, by decide +kernel⟩
theorem wd_118 : Cond.instanceMethod (mt 15).1 ∈ lw_tbl := List.mem_of_getElem? (i := 291) (by decide +kernel)
theorem wd_119 : Cond.selects (mt 15).1.cls (mt 15).1 (mt 15).1 ∈ lw_tbl := List.mem_of_getElem? (i := 5) (by decide +kernel)
theorem wd_120 : Cond.methodLink RX1 38 (mt 16).1 ∈ lw_tbl := List.mem_of_getElem? (i := 305) (by decide +kernel)
theorem wd_121 : Cond.code (mt 16).1 (mt 16).2.1 (mt 16).2.2.1 (mt 16).2.2.2 ∈ lw_tbl := List.mem_of_getElem? (i := 308) (by decide +kernel)
theorem wd_122 : Cond.initialized (mt 16).1.cls ∈ lw_tbl := List.mem_of_getElem? (i := 48) (by decide +kernel)
theorem mok_16 : MOK 16 2 := ⟨wd_121, wd_122, by decide +kernel, by decide +kernel, by decide +kernel, by decide +kernel⟩
theorem wd_123 : Cond.instanceMethod (mt 16).1 ∈ lw_tbl := List.mem_of_getElem? (i := 307) (by decide +kernel)
theorem wd_124 : Cond.selects (mt 16).1.cls (mt 16).1 (mt 16).1 ∈ lw_tbl := List.mem_of_getElem? (i := 6) (by decide +kernel)
theorem wd_125 : Cond.methodLink RX1 41 (mt 18).1 ∈ lw_tbl := List.mem_of_getElem? (i := 260) (by decide +kernel)
theorem wd_126 : Cond.code (mt 18).1 (mt 18).2.1 (mt 18).2.2.1 (mt 18).2.2.2 ∈ lw_tbl := List.mem_of_getElem? (i := 263) (by decide +kernel)
theorem wd_127 : Cond.initialized (mt 18).1.cls ∈ lw_tbl := List.mem_of_getElem? (i := 48) (by decide +kernel)
theorem mok_18 : MOK 18 1 := ⟨wd_126, wd_127, by decide +kernel, by decide +kernel, by decide +kernel, by decide +kernel⟩
theorem wd_128 : Cond.instanceMethod (mt 18).1 ∈ lw_tbl := List.mem_of_getElem? (i := 262) (by decide +kernel)
theorem wd_129 : Cond.selects (mt 18).1.cls (mt 18).1 (mt 18).1 ∈ lw_tbl := List.mem_of_getElem? (i := 3) (by decide +kernel)
theorem wd_130 : Cond.methodLink RX1 44 (mt 17).1 ∈ lw_tbl := List.mem_of_getElem? (i := 267) (by decide +kernel)
theorem wd_131 : Cond.code (mt 17).1 (mt 17).2.1 (mt 17).2.2.1 (mt 17).2.2.2 ∈ lw_tbl := List.mem_of_getElem? (i := 270) (by decide +kernel)
theorem wd_132 : Cond.initialized (mt 17).1.cls ∈ lw_tbl := List.mem_of_getElem? (i := 48) (by decide +kernel)
theorem mok_17 : MOK 17 1 := ⟨wd_131, wd_132, by decide +kernel, by decide +kernel, by decide +kernel, by decide +kernel⟩
theorem wd_133 : Cond.instanceMethod (mt 17).1 ∈ lw_tbl := List.mem_of_getElem? (i := 269) (by decide +kernel)
theorem wd_134 : Cond.selects (mt 17).1.cls (mt 17).1 (mt 17).1 ∈ lw_tbl := List.mem_of_getElem? (i := 4) (by decide +kernel)
theorem wd_135 : Cond.code (mt 114).1 (mt 114).2.1 (mt 114).2.2.1 (mt 114).2.2.2 ∈ lw_tbl := List.mem_of_getElem? (i := 266) (by decide +kernel)
theorem wd_136 : Cond.initialized (mt 114).1.cls ∈ lw_tbl := List.mem_of_getElem? (i := 47) (by decide +kernel)
theorem mok_114 : MOK 114 3 := ⟨wd_135, wd_136, by decide +kernel, by decide +kernel, by decide +kernel, by decide +kernel⟩
theorem wd_137 : Cond.static (mt 114).1 ∈ lw_tbl := List.mem_of_getElem? (i := 265) (by decide +kernel)
theorem wd_138 : Cond.methodLink RX1 51 (mt 23).1 ∈ lw_tbl := List.mem_of_getElem? (i := 271) (by decide +kernel)
theorem wd_139 : Cond.code (mt 23).1 (mt 23).2.1 (mt 23).2.2.1 (mt 23).2.2.2 ∈ lw_tbl := List.mem_of_getElem? (i := 274) (by decide +kernel)
theorem wd_140 : Cond.initialized (mt 23).1.cls ∈ lw_tbl := List.mem_of_getElem? (i := 49) (by decide +kernel)
theorem mok_23 : MOK 23 1 := ⟨wd_139, wd_140, by decide +kernel, by decide +kernel, by decide +kernel, by decide +kernel⟩
theorem wd_141 : Cond.instanceMethod (mt 23).1 ∈ lw_tbl := List.mem_of_getElem? (i := 272) (by decide +kernel)
theorem wd_142 : Cond.selects (mt 23).1.cls (mt 23).1 (mt 23).1 ∈ lw_tbl := List.mem_of_getElem? (i := 273) (by decide +kernel)
theorem wd_143 : Cond.methodLink RX1 55 (mt 24).1 ∈ lw_tbl := List.mem_of_getElem? (i := 276) (by decide +kernel)
theorem wd_144 : Cond.code (mt 24).1 (mt 24).2.1 (mt 24).2.2.1 (mt 24).2.2.2 ∈ lw_tbl := List.mem_of_getElem? (i := 279) (by decide +kernel)
theorem wd_145 : Cond.initialized (mt 24).1.cls ∈ lw_tbl := List.mem_of_getElem? (i := 49) (by decide +kernel)
theorem mok_24 : MOK 24 2 := ⟨wd_144, wd_145, by decide +kernel, by decide +kernel, by decide +kernel, by decide +kernel⟩
theorem wd_146 : Cond.instanceMethod (mt 24).1 ∈ lw_tbl := List.mem_of_getElem? (i := 277) (by decide +kernel)
theorem wd_147 : Cond.selects (mt 24).1.cls (mt 24).1 (mt 24).1 ∈ lw_tbl := List.mem_of_getElem? (i := 278) (by decide +kernel)
theorem wd_148 : Cond.methodLink RX1 59 (mt 27).1 ∈ lw_tbl := List.mem_of_getElem? (i := 281) (by decide +kernel)
theorem wd_149 : Cond.methodLink RX1 63 (mt 31).1 ∈ lw_tbl := List.mem_of_getElem? (i := 285) (by decide +kernel)
theorem wd_150 : Cond.methodLink RX1 67 (mt 28).1 ∈ lw_tbl := List.mem_of_getElem? (i := 293) (by decide +kernel)
theorem wd_151 : Cond.code (mt 28).1 (mt 28).2.1 (mt 28).2.2.1 (mt 28).2.2.2 ∈ lw_tbl := List.mem_of_getElem? (i := 296) (by decide +kernel)
theorem wd_152 : Cond.initialized (mt 28).1.cls ∈ lw_tbl := List.mem_of_getElem? (i := 49) (by decide +kernel)
theorem mok_28 : MOK 28 1 := ⟨wd_151, wd_152, by decide +kernel, by decide +kernel, by decide +kernel, by decide +kernel⟩
theorem wd_153 : Cond.instanceMethod (mt 28).1 ∈ lw_tbl := List.mem_of_getElem? (i := 294) (by decide +kernel)
theorem wd_154 : Cond.selects (mt 28).1.cls (mt 28).1 (mt 28).1 ∈ lw_tbl := List.mem_of_getElem? (i := 295) (by decide +kernel)
theorem wd_155 : Cond.methodLink RX1 70 (mt 35).1 ∈ lw_tbl := List.mem_of_getElem? (i := 297) (by decide +kernel)
theorem wd_156 : Cond.code (mt 35).1 (mt 35).2.1 (mt 35).2.2.1 (mt 35).2.2.2 ∈ lw_tbl := List.mem_of_getElem? (i := 300) (by decide +kernel)
theorem wd_157 : Cond.initialized (mt 35).1.cls ∈ lw_tbl := List.mem_of_getElem? (i := 49) (by decide +kernel)
theorem mok_35 : MOK 35 1 := ⟨wd_156, wd_157, by decide +kernel, by decide +kernel, by decide +kernel, by decide +kernel⟩
theorem wd_158 : Cond.instanceMethod (mt 35).1 ∈ lw_tbl := List.mem_of_getElem? (i := 298) (by decide +kernel)
theorem wd_159 : Cond.selects (mt 35).1.cls (mt 35).1 (mt 35).1 ∈ lw_tbl := List.mem_of_getElem? (i := 299) (by decide +kernel)
theorem wd_160 : Cond.methodLink RX1 73 (mt 36).1 ∈ lw_tbl := List.mem_of_getElem? (i := 301) (by decide +kernel)
theorem wd_161 : Cond.methodLink RX1 77 (mt 29).1 ∈ lw_tbl := List.mem_of_getElem? (i := 309) (by decide +kernel)
theorem wd_162 : Cond.code (mt 29).1 (mt 29).2.1 (mt 29).2.2.1 (mt 29).2.2.2 ∈ lw_tbl := List.mem_of_getElem? (i := 312) (by decide +kernel)
theorem wd_163 : Cond.initialized (mt 29).1.cls ∈ lw_tbl := List.mem_of_getElem? (i := 49) (by decide +kernel)
theorem mok_29 : MOK 29 1 := ⟨wd_162, wd_163, by decide +kernel, by decide +kernel, by decide +kernel, by decide +kernel⟩
theorem wd_164 : Cond.instanceMethod (mt 29).1 ∈ lw_tbl := List.mem_of_getElem? (i := 310) (by decide +kernel)
theorem wd_165 : Cond.selects (mt 29).1.cls (mt 29).1 (mt 29).1 ∈ lw_tbl := List.mem_of_getElem? (i := 311) (by decide +kernel)
theorem wd_166 : Cond.code (mt 113).1 (mt 113).2.1 (mt 113).2.2.1 (mt 113).2.2.2 ∈ lw_tbl := List.mem_of_getElem? (i := 315) (by decide +kernel)
theorem wd_167 : Cond.initialized (mt 113).1.cls ∈ lw_tbl := List.mem_of_getElem? (i := 47) (by decide +kernel)
theorem mok_113 : MOK 113 1 := ⟨wd_166, wd_167, by decide +kernel, by decide +kernel, by decide +kernel, by decide +kernel⟩
theorem wd_168 : Cond.static (mt 113).1 ∈ lw_tbl := List.mem_of_getElem? (i := 314) (by decide +kernel)
theorem wd_169 : Cond.methodLink RX1 83 (mt 39).1 ∈ lw_tbl := List.mem_of_getElem? (i := 317) (by decide +kernel)
theorem wd_170 : Cond.code (mt 39).1 (mt 39).2.1 (mt 39).2.2.1 (mt 39).2.2.2 ∈ lw_tbl := List.mem_of_getElem? (i := 320) (by decide +kernel)
theorem wd_171 : Cond.initialized (mt 39).1.cls ∈ lw_tbl := List.mem_of_getElem? (i := 49) (by decide +kernel)
theorem mok_39 : MOK 39 2 := ⟨wd_170, wd_171, by decide +kernel, by decide +kernel, by decide +kernel, by decide +kernel⟩
theorem wd_172 : Cond.instanceMethod (mt 39).1 ∈ lw_tbl := List.mem_of_getElem? (i := 318) (by decide +kernel)
theorem wd_173 : Cond.selects (mt 39).1.cls (mt 39).1 (mt 39).1 ∈ lw_tbl := List.mem_of_getElem? (i := 319) (by decide +kernel)
theorem wd_174 : Cond.methodLink RX2 3 objectInit ∈ lw_tbl := List.mem_of_getElem? (i := 90) (by decide +kernel)
theorem wd_175 : Cond.fieldLink RX2 9 (TX2 0).1 (TX2 0).2.1 (TX2 0).2.2.1 ∈ lw_tbl := List.mem_of_getElem? (i := 91) (by decide +kernel)
theorem fl_2_9 : Fld 2 0 RX2 9 true (.array .int) := ⟨RX2, TX2, 7, tyX2, rfl, by decide, wd_175, inw_2, tyX2_ok, nmX2, rfl, rfl, by decide +kernel⟩
theorem wd_176 : Cond.fieldLink RX2 15 (TX2 1).1 (TX2 1).2.1 (TX2 1).2.2.1 ∈ lw_tbl := List.mem_of_getElem? (i := 92) (by decide +kernel)
theorem fl_2_15 : Fld 2 1 RX2 15 true (.array .int) := ⟨RX2, TX2, 7, tyX2, rfl, by decide, wd_176, inw_2, tyX2_ok, nmX2, rfl, rfl, by decide +kernel⟩
theorem wd_177 : Cond.fieldLink RX2 18 (TX2 2).1 (TX2 2).2.1 (TX2 2).2.2.1 ∈ lw_tbl := List.mem_of_getElem? (i := 93) (by decide +kernel)
theorem fl_2_18 : Fld 2 2 RX2 18 true (.array .int) := ⟨RX2, TX2, 7, tyX2, rfl, by decide, wd_177, inw_2, tyX2_ok, nmX2, rfl, rfl, by decide +kernel⟩
theorem wd_178 : Cond.fieldLink RX2 21 (TX2 3).1 (TX2 3).2.1 (TX2 3).2.2.1 ∈ lw_tbl := List.mem_of_getElem? (i := 94) (by decide +kernel)
theorem fl_2_21 : Fld 2 3 RX2 21 false (.int) := ⟨RX2, TX2, 7, tyX2, rfl, by decide, wd_178, inw_2, tyX2_ok, nmX2, rfl, rfl, by decide +kernel⟩
theorem wd_179 : Cond.fieldLink RX2 25 (TX2 4).1 (TX2 4).2.1 (TX2 4).2.2.1 ∈ lw_tbl := List.mem_of_getElem? (i := 95) (by decide +kernel)
theorem fl_2_25 : Fld 2 4 RX2 25 false (.int) := ⟨RX2, TX2, 7, tyX2, rfl, by decide, wd_179, inw_2, tyX2_ok, nmX2, rfl, rfl, by decide +kernel⟩
theorem wd_180 : Cond.fieldLink RX2 28 (TX2 5).1 (TX2 5).2.1 (TX2 5).2.2.1 ∈ lw_tbl := List.mem_of_getElem? (i := 96) (by decide +kernel)
theorem fl_2_28 : Fld 2 5 RX2 28 false (.int) := ⟨RX2, TX2, 7, tyX2, rfl, by decide, wd_180, inw_2, tyX2_ok, nmX2, rfl, rfl, by decide +kernel⟩
theorem wd_181 : Cond.fieldLink RX2 31 (TX2 6).1 (TX2 6).2.1 (TX2 6).2.2.1 ∈ lw_tbl := List.mem_of_getElem? (i := 97) (by decide +kernel)
theorem fl_2_31 : Fld 2 6 RX2 31 false (.int) := ⟨RX2, TX2, 7, tyX2, rfl, by decide, wd_181, inw_2, tyX2_ok, nmX2, rfl, rfl, by decide +kernel⟩
theorem wd_182 : Cond.methodLink RX2 34 (mt 182).1 ∈ lw_tbl := List.mem_of_getElem? (i := 245) (by decide +kernel)
theorem wd_183 : Cond.code (mt 182).1 (mt 182).2.1 (mt 182).2.2.1 (mt 182).2.2.2 ∈ lw_tbl := List.mem_of_getElem? (i := 247) (by decide +kernel)
theorem wd_184 : Cond.initialized (mt 182).1.cls ∈ lw_tbl := List.mem_of_getElem? (i := 59) (by decide +kernel)
theorem mok_182 : MOK 182 2 := ⟨wd_183, wd_184, by decide +kernel, by decide +kernel, by decide +kernel, by decide +kernel⟩
theorem wd_185 : Cond.static (mt 182).1 ∈ lw_tbl := List.mem_of_getElem? (i := 246) (by decide +kernel)
theorem wd_186 : Cond.methodLink RX2 40 arraycopyName ∈ lw_tbl := List.mem_of_getElem? (i := 380) (by decide +kernel)
theorem wd_187 : Cond.native arraycopyName ∈ lw_tbl := List.mem_of_getElem? (i := 382) (by decide +kernel)
theorem wd_188 : Cond.static arraycopyName ∈ lw_tbl := List.mem_of_getElem? (i := 381) (by decide +kernel)
theorem wd_189 : Cond.initialized "java/lang/System" ∈ lw_tbl := List.mem_of_getElem? (i := 61) (by decide +kernel)
theorem wd_190 : Cond.methodLink RX2 50 (mt 23).1 ∈ lw_tbl := List.mem_of_getElem? (i := 280) (by decide +kernel)
theorem wd_191 : Cond.methodLink RX2 54 (mt 31).1 ∈ lw_tbl := List.mem_of_getElem? (i := 468) (by decide +kernel)
theorem wd_192 : Cond.methodLink RX2 58 (mt 28).1 ∈ lw_tbl := List.mem_of_getElem? (i := 646) (by decide +kernel)
theorem wd_193 : Cond.methodLink RX2 61 (mt 181).1 ∈ lw_tbl := List.mem_of_getElem? (i := 500) (by decide +kernel)
theorem wd_194 : Cond.methodLink RX2 67 (mt 29).1 ∈ lw_tbl := List.mem_of_getElem? (i := 321) (by decide +kernel)
theorem wd_195 : Cond.methodLink RX2 70 (mt 38).1 ∈ lw_tbl := List.mem_of_getElem? (i := 567) (by decide +kernel)
theorem wd_196 : Cond.code (mt 38).1 (mt 38).2.1 (mt 38).2.2.1 (mt 38).2.2.2 ∈ lw_tbl := List.mem_of_getElem? (i := 417) (by decide +kernel)
theorem wd_197 : Cond.initialized (mt 38).1.cls ∈ lw_tbl := List.mem_of_getElem? (i := 49) (by decide +kernel)
theorem mok_38 : MOK 38 1 := ⟨wd_196, wd_197, by decide +kernel, by decide +kernel, by decide +kernel, by decide +kernel⟩
theorem wd_198 : Cond.instanceMethod (mt 38).1 ∈ lw_tbl := List.mem_of_getElem? (i := 415) (by decide +kernel)
theorem wd_199 : Cond.selects (mt 38).1.cls (mt 38).1 (mt 38).1 ∈ lw_tbl := List.mem_of_getElem? (i := 416) (by decide +kernel)
theorem wd_200 : Cond.methodLink RX2 73 (mt 30).1 ∈ lw_tbl := List.mem_of_getElem? (i := 464) (by decide +kernel)
theorem wd_201 : Cond.methodLink RX2 77 (mt 35).1 ∈ lw_tbl := List.mem_of_getElem? (i := 450) (by decide +kernel)
theorem wd_202 : Cond.methodLink RX2 80 (mt 47).1 ∈ lw_tbl := List.mem_of_getElem? (i := 451) (by decide +kernel)
theorem wd_203 : Cond.code (mt 47).1 (mt 47).2.1 (mt 47).2.2.1 (mt 47).2.2.2 ∈ lw_tbl := List.mem_of_getElem? (i := 454) (by decide +kernel)
theorem wd_204 : Cond.initialized (mt 47).1.cls ∈ lw_tbl := List.mem_of_getElem? (i := 49) (by decide +kernel)
theorem mok_47 : MOK 47 1 := ⟨wd_203, wd_204, by decide +kernel, by decide +kernel, by decide +kernel, by decide +kernel⟩
theorem wd_205 : Cond.instanceMethod (mt 47).1 ∈ lw_tbl := List.mem_of_getElem? (i := 453) (by decide +kernel)
theorem wd_206 : Cond.selects (mt 47).1.cls (mt 47).1 (mt 47).1 ∈ lw_tbl := List.mem_of_getElem? (i := 8) (by decide +kernel)
theorem wd_207 : Cond.methodLink RX2 83 (mt 45).1 ∈ lw_tbl := List.mem_of_getElem? (i := 446) (by decide +kernel)
theorem wd_208 : Cond.methodLink RX2 87 (mt 48).1 ∈ lw_tbl := List.mem_of_getElem? (i := 455) (by decide +kernel)
theorem wd_209 : Cond.code (mt 48).1 (mt 48).2.1 (mt 48).2.2.1 (mt 48).2.2.2 ∈ lw_tbl := List.mem_of_getElem? (i := 458) (by decide +kernel)
theorem wd_210 : Cond.initialized (mt 48).1.cls ∈ lw_tbl := List.mem_of_getElem? (i := 49) (by decide +kernel)
theorem mok_48 : MOK 48 2 := ⟨wd_209, wd_210, by decide +kernel, by decide +kernel, by decide +kernel, by decide +kernel⟩
theorem wd_211 : Cond.instanceMethod (mt 48).1 ∈ lw_tbl := List.mem_of_getElem? (i := 457) (by decide +kernel)
theorem wd_212 : Cond.selects (mt 48).1.cls (mt 48).1 (mt 48).1 ∈ lw_tbl := List.mem_of_getElem? (i := 9) (by decide +kernel)
theorem wd_213 : Cond.methodLink RX2 90 (mt 33).1 ∈ lw_tbl := List.mem_of_getElem? (i := 459) (by decide +kernel)
theorem wd_214 : Cond.code (mt 33).1 (mt 33).2.1 (mt 33).2.2.1 (mt 33).2.2.2 ∈ lw_tbl := List.mem_of_getElem? (i := 408) (by decide +kernel)
theorem wd_215 : Cond.initialized (mt 33).1.cls ∈ lw_tbl := List.mem_of_getElem? (i := 49) (by decide +kernel)
theorem mok_33 : MOK 33 1 := ⟨wd_214, wd_215, by decide +kernel, by decide +kernel, by decide +kernel, by decide +kernel⟩
theorem wd_216 : Cond.instanceMethod (mt 33).1 ∈ lw_tbl := List.mem_of_getElem? (i := 406) (by decide +kernel)
theorem wd_217 : Cond.selects (mt 33).1.cls (mt 33).1 (mt 33).1 ∈ lw_tbl := List.mem_of_getElem? (i := 407) (by decide +kernel)
theorem wd_218 : Cond.methodLink RX2 93 (mt 50).1 ∈ lw_tbl := List.mem_of_getElem? (i := 460) (by decide +kernel)
theorem wd_219 : Cond.code (mt 50).1 (mt 50).2.1 (mt 50).2.2.1 (mt 50).2.2.2 ∈ lw_tbl := List.mem_of_getElem? (i := 463) (by decide +kernel)
theorem wd_220 : Cond.initialized (mt 50).1.cls ∈ lw_tbl := List.mem_of_getElem? (i := 49) (by decide +kernel)
theorem mok_50 : MOK 50 1 := ⟨wd_219, wd_220, by decide +kernel, by decide +kernel, by decide +kernel, by decide +kernel⟩
theorem wd_221 : Cond.instanceMethod (mt 50).1 ∈ lw_tbl := List.mem_of_getElem? (i := 462) (by decide +kernel)
theorem wd_222 : Cond.selects (mt 50).1.cls (mt 50).1 (mt 50).1 ∈ lw_tbl := List.mem_of_getElem? (i := 10) (by decide +kernel)
theorem wd_223 : Cond.methodLink RX2 96 (mt 49).1 ∈ lw_tbl := List.mem_of_getElem? (i := 465) (by decide +kernel)
theorem wd_224 : Cond.code (mt 49).1 (mt 49).2.1 (mt 49).2.2.1 (mt 49).2.2.2 ∈ lw_tbl := List.mem_of_getElem? (i := 467) (by decide +kernel)
theorem wd_225 : Cond.initialized (mt 49).1.cls ∈ lw_tbl := List.mem_of_getElem? (i := 49) (by decide +kernel)
theorem mok_49 : MOK 49 2 := ⟨wd_224, wd_225, by decide +kernel, by decide +kernel, by decide +kernel, by decide +kernel⟩
theorem wd_226 : Cond.static (mt 49).1 ∈ lw_tbl := List.mem_of_getElem? (i := 466) (by decide +kernel)
theorem wd_227 : Cond.methodLink RX3 3 objectInit ∈ lw_tbl := List.mem_of_getElem? (i := 159) (by decide +kernel)
theorem wd_228 : Cond.classLink RX3 9 RX2 ∈ lw_tbl := List.mem_of_getElem? (i := 160) (by decide +kernel)
theorem cl_3_9 : Cls 2 RX3 9 7 [.null, .null, .null, .int 0, .int 0, .int 0, .int 0] := ⟨RX2, TX2, tyX2, rfl, wd_228, wd_4, wd_5, inw_2, tyX2_ok, by decide +kernel, fun _ _ => rfl⟩
theorem wd_229 : Cond.fieldLink RX3 12 (TX3 0).1 (TX3 0).2.1 (TX3 0).2.2.1 ∈ lw_tbl := List.mem_of_getElem? (i := 162) (by decide +kernel)
theorem inw_3 : ∀ w ∈ u_ws RX3 TX3 3, w ∈ gtbl := by
  have e : u_ws RX3 TX3 3 = [165, 167, 169].filterMap (fun i => lw_tbl[i]?) := by decide +kernel
  have g : (u_ws RX3 TX3 3).all goodWord = true := by decide +kernel
  intro w hw
  refine gt_in ?_ (List.all_eq_true.mp g w hw)
  rw [e] at hw
  obtain ⟨i, -, hi⟩ := List.mem_filterMap.mp hw
  exact List.mem_of_getElem? hi
theorem fl_3_12 : Fld 3 0 RX3 12 true (.object "DollsVote$Nursery") := ⟨RX3, TX3, 3, tyX3, rfl, by decide, wd_229, inw_3, tyX3_ok, nmX3, rfl, rfl, by decide +kernel⟩
theorem wd_230 : Cond.fieldLink RX3 18 (TX3 1).1 (TX3 1).2.1 (TX3 1).2.2.1 ∈ lw_tbl := List.mem_of_getElem? (i := 163) (by decide +kernel)
theorem fl_3_18 : Fld 3 1 RX3 18 true (.array .int) := ⟨RX3, TX3, 3, tyX3, rfl, by decide, wd_230, inw_3, tyX3_ok, nmX3, rfl, rfl, by decide +kernel⟩
theorem wd_231 : Cond.fieldLink RX3 22 (TX3 2).1 (TX3 2).2.1 (TX3 2).2.2.1 ∈ lw_tbl := List.mem_of_getElem? (i := 164) (by decide +kernel)
theorem fl_3_22 : Fld 3 2 RX3 22 true (.array .int) := ⟨RX3, TX3, 3, tyX3, rfl, by decide, wd_231, inw_3, tyX3_ok, nmX3, rfl, rfl, by decide +kernel⟩
theorem wd_232 : Cond.methodLink RX3 25 (mt 22).1 ∈ lw_tbl := List.mem_of_getElem? (i := 535) (by decide +kernel)
theorem wd_233 : Cond.methodLink RX3 29 (mt 46).1 ∈ lw_tbl := List.mem_of_getElem? (i := 536) (by decide +kernel)
theorem wd_234 : Cond.code (mt 46).1 (mt 46).2.1 (mt 46).2.2.1 (mt 46).2.2.2 ∈ lw_tbl := List.mem_of_getElem? (i := 445) (by decide +kernel)
theorem wd_235 : Cond.initialized (mt 46).1.cls ∈ lw_tbl := List.mem_of_getElem? (i := 49) (by decide +kernel)
theorem mok_46 : MOK 46 1 := ⟨wd_234, wd_235, by decide +kernel, by decide +kernel, by decide +kernel, by decide +kernel⟩
theorem wd_236 : Cond.instanceMethod (mt 46).1 ∈ lw_tbl := List.mem_of_getElem? (i := 443) (by decide +kernel)
theorem wd_237 : Cond.selects (mt 46).1.cls (mt 46).1 (mt 46).1 ∈ lw_tbl := List.mem_of_getElem? (i := 444) (by decide +kernel)
theorem wd_238 : Cond.methodLink RX3 33 (mt 30).1 ∈ lw_tbl := List.mem_of_getElem? (i := 537) (by decide +kernel)
theorem wd_239 : Cond.methodLink RX3 37 (mt 41).1 ∈ lw_tbl := List.mem_of_getElem? (i := 563) (by decide +kernel)
theorem wd_240 : Cond.code (mt 41).1 (mt 41).2.1 (mt 41).2.2.1 (mt 41).2.2.2 ∈ lw_tbl := List.mem_of_getElem? (i := 566) (by decide +kernel)
theorem wd_241 : Cond.initialized (mt 41).1.cls ∈ lw_tbl := List.mem_of_getElem? (i := 49) (by decide +kernel)
theorem mok_41 : MOK 41 0 := ⟨wd_240, wd_241, by decide +kernel, by decide +kernel, by decide +kernel, by decide +kernel⟩
theorem wd_242 : Cond.instanceMethod (mt 41).1 ∈ lw_tbl := List.mem_of_getElem? (i := 564) (by decide +kernel)
theorem wd_243 : Cond.selects (mt 41).1.cls (mt 41).1 (mt 41).1 ∈ lw_tbl := List.mem_of_getElem? (i := 565) (by decide +kernel)
theorem wd_244 : Cond.methodLink RX3 41 (mt 45).1 ∈ lw_tbl := List.mem_of_getElem? (i := 546) (by decide +kernel)
theorem wd_245 : Cond.methodLink RX3 45 (mt 27).1 ∈ lw_tbl := List.mem_of_getElem? (i := 576) (by decide +kernel)
theorem wd_246 : Cond.methodLink RX3 48 (mt 54).1 ∈ lw_tbl := List.mem_of_getElem? (i := 577) (by decide +kernel)
theorem wd_247 : Cond.code (mt 54).1 (mt 54).2.1 (mt 54).2.2.1 (mt 54).2.2.2 ∈ lw_tbl := List.mem_of_getElem? (i := 562) (by decide +kernel)
theorem wd_248 : Cond.initialized (mt 54).1.cls ∈ lw_tbl := List.mem_of_getElem? (i := 53) (by decide +kernel)
theorem mok_54 : MOK 54 2 := ⟨wd_247, wd_248, by decide +kernel, by decide +kernel, by decide +kernel, by decide +kernel⟩
theorem wd_249 : Cond.instanceMethod (mt 54).1 ∈ lw_tbl := List.mem_of_getElem? (i := 560) (by decide +kernel)
theorem wd_250 : Cond.selects (mt 54).1.cls (mt 54).1 (mt 54).1 ∈ lw_tbl := List.mem_of_getElem? (i := 561) (by decide +kernel)
theorem wd_251 : Cond.methodLink RX3 52 (mt 60).1 ∈ lw_tbl := List.mem_of_getElem? (i := 578) (by decide +kernel)
theorem wd_252 : Cond.code (mt 60).1 (mt 60).2.1 (mt 60).2.2.1 (mt 60).2.2.2 ∈ lw_tbl := List.mem_of_getElem? (i := 581) (by decide +kernel)
theorem wd_253 : Cond.initialized (mt 60).1.cls ∈ lw_tbl := List.mem_of_getElem? (i := 53) (by decide +kernel)
theorem mok_60 : MOK 60 3 := ⟨wd_252, wd_253, by decide +kernel, by decide +kernel, by decide +kernel, by decide +kernel⟩
theorem wd_254 : Cond.instanceMethod (mt 60).1 ∈ lw_tbl := List.mem_of_getElem? (i := 580) (by decide +kernel)
theorem wd_255 : Cond.selects (mt 60).1.cls (mt 60).1 (mt 60).1 ∈ lw_tbl := List.mem_of_getElem? (i := 12) (by decide +kernel)
theorem wd_256 : Cond.methodLink RX3 56 (mt 26).1 ∈ lw_tbl := List.mem_of_getElem? (i := 586) (by decide +kernel)
theorem wd_257 : Cond.methodLink RX3 59 (mt 51).1 ∈ lw_tbl := List.mem_of_getElem? (i := 590) (by decide +kernel)
theorem wd_258 : Cond.code (mt 51).1 (mt 51).2.1 (mt 51).2.2.1 (mt 51).2.2.2 ∈ lw_tbl := List.mem_of_getElem? (i := 593) (by decide +kernel)
theorem wd_259 : Cond.initialized (mt 51).1.cls ∈ lw_tbl := List.mem_of_getElem? (i := 49) (by decide +kernel)
theorem mok_51 : MOK 51 3 := ⟨wd_258, wd_259, by decide +kernel, by decide +kernel, by decide +kernel, by decide +kernel⟩
theorem wd_260 : Cond.instanceMethod (mt 51).1 ∈ lw_tbl := List.mem_of_getElem? (i := 591) (by decide +kernel)
theorem wd_261 : Cond.selects (mt 51).1.cls (mt 51).1 (mt 51).1 ∈ lw_tbl := List.mem_of_getElem? (i := 592) (by decide +kernel)
theorem wd_262 : Cond.methodLink RX3 63 (mt 38).1 ∈ lw_tbl := List.mem_of_getElem? (i := 594) (by decide +kernel)
theorem wd_263 : Cond.methodLink RX3 67 (mt 64).1 ∈ lw_tbl := List.mem_of_getElem? (i := 595) (by decide +kernel)
theorem wd_264 : Cond.code (mt 64).1 (mt 64).2.1 (mt 64).2.2.1 (mt 64).2.2.2 ∈ lw_tbl := List.mem_of_getElem? (i := 597) (by decide +kernel)
theorem wd_265 : Cond.initialized (mt 64).1.cls ∈ lw_tbl := List.mem_of_getElem? (i := 53) (by decide +kernel)
theorem mok_64 : MOK 64 2 := ⟨wd_264, wd_265, by decide +kernel, by decide +kernel, by decide +kernel, by decide +kernel⟩
theorem wd_266 : Cond.static (mt 64).1 ∈ lw_tbl := List.mem_of_getElem? (i := 596) (by decide +kernel)
theorem wd_267 : Cond.methodLink RX3 71 (mt 58).1 ∈ lw_tbl := List.mem_of_getElem? (i := 598) (by decide +kernel)
theorem wd_268 : Cond.code (mt 58).1 (mt 58).2.1 (mt 58).2.2.1 (mt 58).2.2.2 ∈ lw_tbl := List.mem_of_getElem? (i := 601) (by decide +kernel)
theorem wd_269 : Cond.initialized (mt 58).1.cls ∈ lw_tbl := List.mem_of_getElem? (i := 53) (by decide +kernel)
theorem mok_58 : MOK 58 1 := ⟨wd_268, wd_269, by decide +kernel, by decide +kernel, by decide +kernel, by decide +kernel⟩
theorem wd_270 : Cond.instanceMethod (mt 58).1 ∈ lw_tbl := List.mem_of_getElem? (i := 600) (by decide +kernel)
theorem wd_271 : Cond.selects (mt 58).1.cls (mt 58).1 (mt 58).1 ∈ lw_tbl := List.mem_of_getElem? (i := 13) (by decide +kernel)
theorem wd_272 : Cond.methodLink RX3 74 (mt 25).1 ∈ lw_tbl := List.mem_of_getElem? (i := 610) (by decide +kernel)
theorem wd_273 : Cond.methodLink RX3 77 (mt 181).1 ∈ lw_tbl := List.mem_of_getElem? (i := 611) (by decide +kernel)
theorem wd_274 : Cond.methodLink RX3 82 (mt 32).1 ∈ lw_tbl := List.mem_of_getElem? (i := 582) (by decide +kernel)
theorem wd_275 : Cond.code (mt 32).1 (mt 32).2.1 (mt 32).2.2.1 (mt 32).2.2.2 ∈ lw_tbl := List.mem_of_getElem? (i := 585) (by decide +kernel)
theorem wd_276 : Cond.initialized (mt 32).1.cls ∈ lw_tbl := List.mem_of_getElem? (i := 49) (by decide +kernel)
theorem mok_32 : MOK 32 2 := ⟨wd_275, wd_276, by decide +kernel, by decide +kernel, by decide +kernel, by decide +kernel⟩
theorem wd_277 : Cond.instanceMethod (mt 32).1 ∈ lw_tbl := List.mem_of_getElem? (i := 583) (by decide +kernel)
theorem wd_278 : Cond.selects (mt 32).1.cls (mt 32).1 (mt 32).1 ∈ lw_tbl := List.mem_of_getElem? (i := 584) (by decide +kernel)
theorem wd_279 : Cond.methodLink RX3 86 (mt 35).1 ∈ lw_tbl := List.mem_of_getElem? (i := 620) (by decide +kernel)
theorem wd_280 : Cond.methodLink RX3 90 (mt 36).1 ∈ lw_tbl := List.mem_of_getElem? (i := 621) (by decide +kernel)
theorem wd_281 : Cond.methodLink RX3 93 (mt 63).1 ∈ lw_tbl := List.mem_of_getElem? (i := 675) (by decide +kernel)
theorem wd_282 : Cond.code (mt 63).1 (mt 63).2.1 (mt 63).2.2.1 (mt 63).2.2.2 ∈ lw_tbl := List.mem_of_getElem? (i := 678) (by decide +kernel)
theorem wd_283 : Cond.initialized (mt 63).1.cls ∈ lw_tbl := List.mem_of_getElem? (i := 53) (by decide +kernel)
theorem mok_63 : MOK 63 3 := ⟨wd_282, wd_283, by decide +kernel, by decide +kernel, by decide +kernel, by decide +kernel⟩
theorem wd_284 : Cond.instanceMethod (mt 63).1 ∈ lw_tbl := List.mem_of_getElem? (i := 677) (by decide +kernel)
theorem wd_285 : Cond.selects (mt 63).1.cls (mt 63).1 (mt 63).1 ∈ lw_tbl := List.mem_of_getElem? (i := 16) (by decide +kernel)
theorem wd_286 : Cond.methodLink RX3 96 (mt 182).1 ∈ lw_tbl := List.mem_of_getElem? (i := 679) (by decide +kernel)
theorem wd_287 : Cond.methodLink RX4 1 objectInit ∈ lw_tbl := List.mem_of_getElem? (i := 118) (by decide +kernel)
theorem wd_288 : Cond.methodLink RX4 7 Lib.Math.max.name ∈ lw_tbl := List.mem_of_getElem? (i := 119) (by decide +kernel)
theorem wd_289 : Cond.classLink RX4 13 RX2 ∈ lw_tbl := List.mem_of_getElem? (i := 122) (by decide +kernel)
theorem wd_290 : Cond.fieldLink RX4 15 (TX4 0).1 (TX4 0).2.1 (TX4 0).2.2.1 ∈ lw_tbl := List.mem_of_getElem? (i := 125) (by decide +kernel)
theorem inw_4 : ∀ w ∈ u_ws RX4 TX4 2, w ∈ gtbl := by
  have e : u_ws RX4 TX4 2 = [127, 129].filterMap (fun i => lw_tbl[i]?) := by decide +kernel
  have g : (u_ws RX4 TX4 2).all goodWord = true := by decide +kernel
  intro w hw
  refine gt_in ?_ (List.all_eq_true.mp g w hw)
  rw [e] at hw
  obtain ⟨i, -, hi⟩ := List.mem_filterMap.mp hw
  exact List.mem_of_getElem? hi
theorem fl_4_15 : Fld 4 0 RX4 15 true (.array (.object "DollsVote$Nursery")) := ⟨RX4, TX4, 2, tyX4, rfl, by decide, wd_290, inw_4, tyX4_ok, nmX4, rfl, rfl, by decide +kernel⟩
theorem cl_4_13 : Cls 2 RX4 13 7 [.null, .null, .null, .int 0, .int 0, .int 0, .int 0] := ⟨RX2, TX2, tyX2, rfl, wd_289, wd_4, wd_5, inw_2, tyX2_ok, by decide +kernel, fun _ _ => rfl⟩
theorem wd_291 : Cond.fieldLink RX4 22 (TX4 1).1 (TX4 1).2.1 (TX4 1).2.2.1 ∈ lw_tbl := List.mem_of_getElem? (i := 126) (by decide +kernel)
theorem fl_4_22 : Fld 4 1 RX4 22 false (.int) := ⟨RX4, TX4, 2, tyX4, rfl, by decide, wd_291, inw_4, tyX4_ok, nmX4, rfl, rfl, by decide +kernel⟩
theorem wd_292 : Cond.methodLink RX4 26 (mt 68).1 ∈ lw_tbl := List.mem_of_getElem? (i := 433) (by decide +kernel)
theorem wd_293 : Cond.code (mt 68).1 (mt 68).2.1 (mt 68).2.2.1 (mt 68).2.2.2 ∈ lw_tbl := List.mem_of_getElem? (i := 436) (by decide +kernel)
theorem wd_294 : Cond.initialized (mt 68).1.cls ∈ lw_tbl := List.mem_of_getElem? (i := 50) (by decide +kernel)
theorem mok_68 : MOK 68 0 := ⟨wd_293, wd_294, by decide +kernel, by decide +kernel, by decide +kernel, by decide +kernel⟩
theorem wd_295 : Cond.instanceMethod (mt 68).1 ∈ lw_tbl := List.mem_of_getElem? (i := 434) (by decide +kernel)
theorem wd_296 : Cond.selects (mt 68).1.cls (mt 68).1 (mt 68).1 ∈ lw_tbl := List.mem_of_getElem? (i := 435) (by decide +kernel)
theorem wd_297 : Cond.methodLink RX4 30 (mt 71).1 ∈ lw_tbl := List.mem_of_getElem? (i := 437) (by decide +kernel)
theorem wd_298 : Cond.code (mt 71).1 (mt 71).2.1 (mt 71).2.2.1 (mt 71).2.2.2 ∈ lw_tbl := List.mem_of_getElem? (i := 440) (by decide +kernel)
theorem wd_299 : Cond.initialized (mt 71).1.cls ∈ lw_tbl := List.mem_of_getElem? (i := 50) (by decide +kernel)
theorem mok_71 : MOK 71 0 := ⟨wd_298, wd_299, by decide +kernel, by decide +kernel, by decide +kernel, by decide +kernel⟩
theorem wd_300 : Cond.instanceMethod (mt 71).1 ∈ lw_tbl := List.mem_of_getElem? (i := 439) (by decide +kernel)
theorem wd_301 : Cond.selects (mt 71).1.cls (mt 71).1 (mt 71).1 ∈ lw_tbl := List.mem_of_getElem? (i := 7) (by decide +kernel)
theorem wd_302 : Cond.methodLink RX4 33 (mt 22).1 ∈ lw_tbl := List.mem_of_getElem? (i := 441) (by decide +kernel)
theorem wd_303 : Cond.methodLink RX5 3 objectInit ∈ lw_tbl := List.mem_of_getElem? (i := 137) (by decide +kernel)
theorem wd_304 : Cond.fieldLink RX5 9 (TX5 0).1 (TX5 0).2.1 (TX5 0).2.2.1 ∈ lw_tbl := List.mem_of_getElem? (i := 138) (by decide +kernel)
theorem inw_5 : ∀ w ∈ u_ws RX5 TX5 5, w ∈ gtbl := by
  have e : u_ws RX5 TX5 5 = [143, 145, 147, 149, 151].filterMap (fun i => lw_tbl[i]?) := by decide +kernel
  have g : (u_ws RX5 TX5 5).all goodWord = true := by decide +kernel
  intro w hw
  refine gt_in ?_ (List.all_eq_true.mp g w hw)
  rw [e] at hw
  obtain ⟨i, -, hi⟩ := List.mem_filterMap.mp hw
  exact List.mem_of_getElem? hi
theorem fl_5_9 : Fld 5 0 RX5 9 true (.array .int) := ⟨RX5, TX5, 5, tyX5, rfl, by decide, wd_304, inw_5, tyX5_ok, nmX5, rfl, rfl, by decide +kernel⟩
theorem wd_305 : Cond.fieldLink RX5 15 (TX5 1).1 (TX5 1).2.1 (TX5 1).2.2.1 ∈ lw_tbl := List.mem_of_getElem? (i := 139) (by decide +kernel)
theorem fl_5_15 : Fld 5 1 RX5 15 true (.array .int) := ⟨RX5, TX5, 5, tyX5, rfl, by decide, wd_305, inw_5, tyX5_ok, nmX5, rfl, rfl, by decide +kernel⟩
theorem wd_306 : Cond.fieldLink RX5 18 (TX5 2).1 (TX5 2).2.1 (TX5 2).2.2.1 ∈ lw_tbl := List.mem_of_getElem? (i := 140) (by decide +kernel)
theorem fl_5_18 : Fld 5 2 RX5 18 true (.array .int) := ⟨RX5, TX5, 5, tyX5, rfl, by decide, wd_306, inw_5, tyX5_ok, nmX5, rfl, rfl, by decide +kernel⟩
theorem wd_307 : Cond.fieldLink RX5 21 (TX5 3).1 (TX5 3).2.1 (TX5 3).2.2.1 ∈ lw_tbl := List.mem_of_getElem? (i := 141) (by decide +kernel)
theorem fl_5_21 : Fld 5 3 RX5 21 true (.array .int) := ⟨RX5, TX5, 5, tyX5, rfl, by decide, wd_307, inw_5, tyX5_ok, nmX5, rfl, rfl, by decide +kernel⟩
theorem wd_308 : Cond.fieldLink RX5 24 (TX5 4).1 (TX5 4).2.1 (TX5 4).2.2.1 ∈ lw_tbl := List.mem_of_getElem? (i := 142) (by decide +kernel)
theorem fl_5_24 : Fld 5 4 RX5 24 false (.int) := ⟨RX5, TX5, 5, tyX5, rfl, by decide, wd_308, inw_5, tyX5_ok, nmX5, rfl, rfl, by decide +kernel⟩
theorem wd_309 : Cond.methodLink RX5 28 (mt 77).1 ∈ lw_tbl := List.mem_of_getElem? (i := 651) (by decide +kernel)
theorem wd_310 : Cond.code (mt 77).1 (mt 77).2.1 (mt 77).2.2.1 (mt 77).2.2.2 ∈ lw_tbl := List.mem_of_getElem? (i := 654) (by decide +kernel)
theorem wd_311 : Cond.initialized (mt 77).1.cls ∈ lw_tbl := List.mem_of_getElem? (i := 52) (by decide +kernel)
theorem mok_77 : MOK 77 0 := ⟨wd_310, wd_311, by decide +kernel, by decide +kernel, by decide +kernel, by decide +kernel⟩
theorem wd_312 : Cond.instanceMethod (mt 77).1 ∈ lw_tbl := List.mem_of_getElem? (i := 653) (by decide +kernel)
theorem wd_313 : Cond.selects (mt 77).1.cls (mt 77).1 (mt 77).1 ∈ lw_tbl := List.mem_of_getElem? (i := 14) (by decide +kernel)
theorem wd_314 : Cond.methodLink RX5 32 (mt 78).1 ∈ lw_tbl := List.mem_of_getElem? (i := 656) (by decide +kernel)
theorem wd_315 : Cond.code (mt 78).1 (mt 78).2.1 (mt 78).2.2.1 (mt 78).2.2.2 ∈ lw_tbl := List.mem_of_getElem? (i := 659) (by decide +kernel)
theorem wd_316 : Cond.initialized (mt 78).1.cls ∈ lw_tbl := List.mem_of_getElem? (i := 52) (by decide +kernel)
theorem mok_78 : MOK 78 2 := ⟨wd_315, wd_316, by decide +kernel, by decide +kernel, by decide +kernel, by decide +kernel⟩
theorem wd_317 : Cond.instanceMethod (mt 78).1 ∈ lw_tbl := List.mem_of_getElem? (i := 658) (by decide +kernel)
theorem wd_318 : Cond.selects (mt 78).1.cls (mt 78).1 (mt 78).1 ∈ lw_tbl := List.mem_of_getElem? (i := 15) (by decide +kernel)
theorem wd_319 : Cond.methodLink RX5 36 (mt 45).1 ∈ lw_tbl := List.mem_of_getElem? (i := 661) (by decide +kernel)
theorem wd_320 : Cond.methodLink RX5 42 Lib.Math.max.name ∈ lw_tbl := List.mem_of_getElem? (i := 655) (by decide +kernel)
theorem wd_321 : Cond.methodLink RX5 48 (mt 30).1 ∈ lw_tbl := List.mem_of_getElem? (i := 660) (by decide +kernel)
theorem wd_322 : Cond.methodLink RX6 1 objectInit ∈ lw_tbl := List.mem_of_getElem? (i := 68) (by decide +kernel)
theorem wd_323 : Cond.classLink RX6 7 RX1 ∈ lw_tbl := List.mem_of_getElem? (i := 71) (by decide +kernel)
theorem wd_324 : Cond.instantiable RX1 2 ∈ lw_tbl := List.mem_of_getElem? (i := 72) (by decide +kernel)
theorem wd_325 : Cond.initialized RX1 ∈ lw_tbl := List.mem_of_getElem? (i := 48) (by decide +kernel)
theorem cl_6_7 : Cls 1 RX6 7 2 [.null, .int 0] := ⟨RX1, TX1, tyX1, rfl, wd_323, wd_324, wd_325, inw_1, tyX1_ok, by decide +kernel, fun _ _ => rfl⟩
theorem wd_326 : Cond.code (mt 8).1 (mt 8).2.1 (mt 8).2.2.1 (mt 8).2.2.2 ∈ lw_tbl := List.mem_of_getElem? (i := 75) (by decide +kernel)
theorem wd_327 : Cond.initialized (mt 8).1.cls ∈ lw_tbl := List.mem_of_getElem? (i := 48) (by decide +kernel)
theorem mok_8 : MOK 8 0 := ⟨wd_326, wd_327, by decide +kernel, by decide +kernel, by decide +kernel, by decide +kernel⟩
theorem wd_328 : Cond.instanceMethod (mt 8).1 ∈ lw_tbl := List.mem_of_getElem? (i := 74) (by decide +kernel)
theorem wd_329 : Cond.fieldLink RX6 10 (TX6 0).1 (TX6 0).2.1 (TX6 0).2.2.1 ∈ lw_tbl := List.mem_of_getElem? (i := 326) (by decide +kernel)
theorem inw_6 : ∀ w ∈ u_ws RX6 TX6 8, w ∈ gtbl := by
  have e : u_ws RX6 TX6 8 = [334, 336, 338, 340, 342, 344, 346, 348].filterMap (fun i => lw_tbl[i]?) := by decide +kernel
  have g : (u_ws RX6 TX6 8).all goodWord = true := by decide +kernel
  intro w hw
  refine gt_in ?_ (List.all_eq_true.mp g w hw)
  rw [e] at hw
  obtain ⟨i, -, hi⟩ := List.mem_filterMap.mp hw
  exact List.mem_of_getElem? hi
theorem fl_6_10 : Fld 6 0 RX6 10 true (.object "DollsVote$Letters") := ⟨RX6, TX6, 8, tyX6, rfl, by decide, wd_329, inw_6, tyX6_ok, nmX6, rfl, rfl, by decide +kernel⟩
theorem wd_330 : Cond.classLink RX6 16 RX2 ∈ lw_tbl := List.mem_of_getElem? (i := 85) (by decide +kernel)
theorem cl_6_16 : Cls 2 RX6 16 7 [.null, .null, .null, .int 0, .int 0, .int 0, .int 0] := ⟨RX2, TX2, tyX2, rfl, wd_330, wd_4, wd_5, inw_2, tyX2_ok, by decide +kernel, fun _ _ => rfl⟩
theorem wd_331 : Cond.fieldLink RX6 19 (TX6 1).1 (TX6 1).2.1 (TX6 1).2.2.1 ∈ lw_tbl := List.mem_of_getElem? (i := 327) (by decide +kernel)
theorem fl_6_19 : Fld 6 1 RX6 19 true (.object "DollsVote$Nursery") := ⟨RX6, TX6, 8, tyX6, rfl, by decide, wd_331, inw_6, tyX6_ok, nmX6, rfl, rfl, by decide +kernel⟩
theorem wd_332 : Cond.fieldLink RX6 23 (TX6 2).1 (TX6 2).2.1 (TX6 2).2.2.1 ∈ lw_tbl := List.mem_of_getElem? (i := 328) (by decide +kernel)
theorem fl_6_23 : Fld 6 2 RX6 23 true (.object "DollsVote$Nursery") := ⟨RX6, TX6, 8, tyX6, rfl, by decide, wd_332, inw_6, tyX6_ok, nmX6, rfl, rfl, by decide +kernel⟩
theorem wd_333 : Cond.classLink RX6 26 RX4 ∈ lw_tbl := List.mem_of_getElem? (i := 113) (by decide +kernel)
theorem wd_334 : Cond.instantiable RX4 2 ∈ lw_tbl := List.mem_of_getElem? (i := 114) (by decide +kernel)
theorem wd_335 : Cond.initialized RX4 ∈ lw_tbl := List.mem_of_getElem? (i := 50) (by decide +kernel)
theorem cl_6_26 : Cls 4 RX6 26 2 [.null, .int 0] := ⟨RX4, TX4, tyX4, rfl, wd_333, wd_334, wd_335, inw_4, tyX4_ok, by decide +kernel, fun _ _ => rfl⟩
theorem wd_336 : Cond.methodLink RX6 28 (mt 65).1 ∈ lw_tbl := List.mem_of_getElem? (i := 115) (by decide +kernel)
theorem wd_337 : Cond.code (mt 65).1 (mt 65).2.1 (mt 65).2.2.1 (mt 65).2.2.2 ∈ lw_tbl := List.mem_of_getElem? (i := 117) (by decide +kernel)
theorem wd_338 : Cond.initialized (mt 65).1.cls ∈ lw_tbl := List.mem_of_getElem? (i := 50) (by decide +kernel)
theorem mok_65 : MOK 65 1 := ⟨wd_337, wd_338, by decide +kernel, by decide +kernel, by decide +kernel, by decide +kernel⟩
theorem wd_339 : Cond.instanceMethod (mt 65).1 ∈ lw_tbl := List.mem_of_getElem? (i := 116) (by decide +kernel)
theorem wd_340 : Cond.fieldLink RX6 31 (TX6 3).1 (TX6 3).2.1 (TX6 3).2.2.1 ∈ lw_tbl := List.mem_of_getElem? (i := 329) (by decide +kernel)
theorem fl_6_31 : Fld 6 3 RX6 31 true (.object "DollsVote$Pile") := ⟨RX6, TX6, 8, tyX6, rfl, by decide, wd_340, inw_6, tyX6_ok, nmX6, rfl, rfl, by decide +kernel⟩
theorem wd_341 : Cond.fieldLink RX6 35 (TX6 4).1 (TX6 4).2.1 (TX6 4).2.2.1 ∈ lw_tbl := List.mem_of_getElem? (i := 330) (by decide +kernel)
theorem fl_6_35 : Fld 6 4 RX6 35 true (.object "DollsVote$Pile") := ⟨RX6, TX6, 8, tyX6, rfl, by decide, wd_341, inw_6, tyX6_ok, nmX6, rfl, rfl, by decide +kernel⟩
theorem wd_342 : Cond.classLink RX6 38 RX5 ∈ lw_tbl := List.mem_of_getElem? (i := 132) (by decide +kernel)
theorem wd_343 : Cond.instantiable RX5 5 ∈ lw_tbl := List.mem_of_getElem? (i := 133) (by decide +kernel)
theorem wd_344 : Cond.initialized RX5 ∈ lw_tbl := List.mem_of_getElem? (i := 52) (by decide +kernel)
theorem cl_6_38 : Cls 5 RX6 38 5 [.null, .null, .null, .null, .int 0] := ⟨RX5, TX5, tyX5, rfl, wd_342, wd_343, wd_344, inw_5, tyX5_ok, by decide +kernel, fun _ _ => rfl⟩
theorem wd_345 : Cond.code (mt 72).1 (mt 72).2.1 (mt 72).2.2.1 (mt 72).2.2.2 ∈ lw_tbl := List.mem_of_getElem? (i := 136) (by decide +kernel)
theorem wd_346 : Cond.initialized (mt 72).1.cls ∈ lw_tbl := List.mem_of_getElem? (i := 52) (by decide +kernel)
theorem mok_72 : MOK 72 0 := ⟨wd_345, wd_346, by decide +kernel, by decide +kernel, by decide +kernel, by decide +kernel⟩
theorem wd_347 : Cond.instanceMethod (mt 72).1 ∈ lw_tbl := List.mem_of_getElem? (i := 135) (by decide +kernel)
theorem wd_348 : Cond.fieldLink RX6 41 (TX6 5).1 (TX6 5).2.1 (TX6 5).2.2.1 ∈ lw_tbl := List.mem_of_getElem? (i := 331) (by decide +kernel)
theorem fl_6_41 : Fld 6 5 RX6 41 true (.object "DollsVote$Sightings") := ⟨RX6, TX6, 8, tyX6, rfl, by decide, wd_348, inw_6, tyX6_ok, nmX6, rfl, rfl, by decide +kernel⟩
theorem wd_349 : Cond.classLink RX6 45 RX3 ∈ lw_tbl := List.mem_of_getElem? (i := 154) (by decide +kernel)
theorem wd_350 : Cond.instantiable RX3 3 ∈ lw_tbl := List.mem_of_getElem? (i := 155) (by decide +kernel)
theorem wd_351 : Cond.initialized RX3 ∈ lw_tbl := List.mem_of_getElem? (i := 53) (by decide +kernel)
theorem cl_6_45 : Cls 3 RX6 45 3 [.null, .null, .null] := ⟨RX3, TX3, tyX3, rfl, wd_349, wd_350, wd_351, inw_3, tyX3_ok, by decide +kernel, fun _ _ => rfl⟩
theorem wd_352 : Cond.code (mt 52).1 (mt 52).2.1 (mt 52).2.2.1 (mt 52).2.2.2 ∈ lw_tbl := List.mem_of_getElem? (i := 158) (by decide +kernel)
theorem wd_353 : Cond.initialized (mt 52).1.cls ∈ lw_tbl := List.mem_of_getElem? (i := 53) (by decide +kernel)
theorem mok_52 : MOK 52 0 := ⟨wd_352, wd_353, by decide +kernel, by decide +kernel, by decide +kernel, by decide +kernel⟩
theorem wd_354 : Cond.instanceMethod (mt 52).1 ∈ lw_tbl := List.mem_of_getElem? (i := 157) (by decide +kernel)
theorem wd_355 : Cond.fieldLink RX6 48 (TX6 6).1 (TX6 6).2.1 (TX6 6).2.2.1 ∈ lw_tbl := List.mem_of_getElem? (i := 332) (by decide +kernel)
theorem fl_6_48 : Fld 6 6 RX6 48 true (.object "DollsVote$Outlook") := ⟨RX6, TX6, 8, tyX6, rfl, by decide, wd_355, inw_6, tyX6_ok, nmX6, rfl, rfl, by decide +kernel⟩
theorem wd_356 : Cond.classLink RX6 52 RX0 ∈ lw_tbl := List.mem_of_getElem? (i := 172) (by decide +kernel)
theorem wd_357 : Cond.instantiable RX0 1 ∈ lw_tbl := List.mem_of_getElem? (i := 173) (by decide +kernel)
theorem wd_358 : Cond.initialized RX0 ∈ lw_tbl := List.mem_of_getElem? (i := 54) (by decide +kernel)
theorem cl_6_52 : Cls 0 RX6 52 1 [.null] := ⟨RX0, TX0, tyX0, rfl, wd_356, wd_357, wd_358, inw_0, tyX0_ok, by decide +kernel, fun _ _ => rfl⟩
theorem wd_359 : Cond.code (mt 0).1 (mt 0).2.1 (mt 0).2.2.1 (mt 0).2.2.2 ∈ lw_tbl := List.mem_of_getElem? (i := 176) (by decide +kernel)
theorem wd_360 : Cond.initialized (mt 0).1.cls ∈ lw_tbl := List.mem_of_getElem? (i := 54) (by decide +kernel)
theorem mok_0 : MOK 0 0 := ⟨wd_359, wd_360, by decide +kernel, by decide +kernel, by decide +kernel, by decide +kernel⟩
theorem wd_361 : Cond.instanceMethod (mt 0).1 ∈ lw_tbl := List.mem_of_getElem? (i := 175) (by decide +kernel)
theorem wd_362 : Cond.fieldLink RX6 55 (TX6 7).1 (TX6 7).2.1 (TX6 7).2.2.1 ∈ lw_tbl := List.mem_of_getElem? (i := 333) (by decide +kernel)
theorem fl_6_55 : Fld 6 7 RX6 55 true (.object "DollsVote$Chances") := ⟨RX6, TX6, 8, tyX6, rfl, by decide, wd_362, inw_6, tyX6_ok, nmX6, rfl, rfl, by decide +kernel⟩
theorem wd_363 : Cond.methodLink RX6 71 (mt 11).1 ∈ lw_tbl := List.mem_of_getElem? (i := 233) (by decide +kernel)
theorem wd_364 : Cond.code (mt 11).1 (mt 11).2.1 (mt 11).2.2.1 (mt 11).2.2.2 ∈ lw_tbl := List.mem_of_getElem? (i := 236) (by decide +kernel)
theorem wd_365 : Cond.initialized (mt 11).1.cls ∈ lw_tbl := List.mem_of_getElem? (i := 48) (by decide +kernel)
theorem mok_11 : MOK 11 1 := ⟨wd_364, wd_365, by decide +kernel, by decide +kernel, by decide +kernel, by decide +kernel⟩
theorem wd_366 : Cond.instanceMethod (mt 11).1 ∈ lw_tbl := List.mem_of_getElem? (i := 234) (by decide +kernel)
theorem wd_367 : Cond.selects (mt 11).1.cls (mt 11).1 (mt 11).1 ∈ lw_tbl := List.mem_of_getElem? (i := 235) (by decide +kernel)
theorem wd_368 : Cond.methodLink RX6 75 (mt 12).1 ∈ lw_tbl := List.mem_of_getElem? (i := 237) (by decide +kernel)
theorem wd_369 : Cond.code (mt 12).1 (mt 12).2.1 (mt 12).2.2.1 (mt 12).2.2.2 ∈ lw_tbl := List.mem_of_getElem? (i := 240) (by decide +kernel)
theorem wd_370 : Cond.initialized (mt 12).1.cls ∈ lw_tbl := List.mem_of_getElem? (i := 48) (by decide +kernel)
theorem mok_12 : MOK 12 1 := ⟨wd_369, wd_370, by decide +kernel, by decide +kernel, by decide +kernel, by decide +kernel⟩
theorem wd_371 : Cond.instanceMethod (mt 12).1 ∈ lw_tbl := List.mem_of_getElem? (i := 238) (by decide +kernel)
theorem wd_372 : Cond.selects (mt 12).1.cls (mt 12).1 (mt 12).1 ∈ lw_tbl := List.mem_of_getElem? (i := 239) (by decide +kernel)
theorem wd_373 : Cond.methodLink RX6 79 (mt 10).1 ∈ lw_tbl := List.mem_of_getElem? (i := 322) (by decide +kernel)
theorem wd_374 : Cond.code (mt 10).1 (mt 10).2.1 (mt 10).2.2.1 (mt 10).2.2.2 ∈ lw_tbl := List.mem_of_getElem? (i := 325) (by decide +kernel)
theorem wd_375 : Cond.initialized (mt 10).1.cls ∈ lw_tbl := List.mem_of_getElem? (i := 48) (by decide +kernel)
theorem mok_10 : MOK 10 0 := ⟨wd_374, wd_375, by decide +kernel, by decide +kernel, by decide +kernel, by decide +kernel⟩
theorem wd_376 : Cond.instanceMethod (mt 10).1 ∈ lw_tbl := List.mem_of_getElem? (i := 323) (by decide +kernel)
theorem wd_377 : Cond.selects (mt 10).1.cls (mt 10).1 (mt 10).1 ∈ lw_tbl := List.mem_of_getElem? (i := 324) (by decide +kernel)
theorem wd_378 : Cond.methodLink RX6 82 (mt 114).1 ∈ lw_tbl := List.mem_of_getElem? (i := 316) (by decide +kernel)
theorem wd_379 : Cond.methodLink RX6 86 (mt 9).1 ∈ lw_tbl := List.mem_of_getElem? (i := 356) (by decide +kernel)
theorem wd_380 : Cond.code (mt 9).1 (mt 9).2.1 (mt 9).2.2.1 (mt 9).2.2.2 ∈ lw_tbl := List.mem_of_getElem? (i := 359) (by decide +kernel)
theorem wd_381 : Cond.initialized (mt 9).1.cls ∈ lw_tbl := List.mem_of_getElem? (i := 48) (by decide +kernel)
theorem mok_9 : MOK 9 0 := ⟨wd_380, wd_381, by decide +kernel, by decide +kernel, by decide +kernel, by decide +kernel⟩
theorem wd_382 : Cond.instanceMethod (mt 9).1 ∈ lw_tbl := List.mem_of_getElem? (i := 357) (by decide +kernel)
theorem wd_383 : Cond.selects (mt 9).1.cls (mt 9).1 (mt 9).1 ∈ lw_tbl := List.mem_of_getElem? (i := 358) (by decide +kernel)
theorem wd_384 : Cond.methodLink RX6 87 (mt 25).1 ∈ lw_tbl := List.mem_of_getElem? (i := 372) (by decide +kernel)
theorem wd_385 : Cond.methodLink RX6 90 (mt 22).1 ∈ lw_tbl := List.mem_of_getElem? (i := 376) (by decide +kernel)
theorem wd_386 : Cond.methodLink RX6 94 (mt 66).1 ∈ lw_tbl := List.mem_of_getElem? (i := 383) (by decide +kernel)
theorem wd_387 : Cond.code (mt 66).1 (mt 66).2.1 (mt 66).2.2.1 (mt 66).2.2.2 ∈ lw_tbl := List.mem_of_getElem? (i := 386) (by decide +kernel)
theorem wd_388 : Cond.initialized (mt 66).1.cls ∈ lw_tbl := List.mem_of_getElem? (i := 50) (by decide +kernel)
theorem mok_66 : MOK 66 0 := ⟨wd_387, wd_388, by decide +kernel, by decide +kernel, by decide +kernel, by decide +kernel⟩
theorem wd_389 : Cond.instanceMethod (mt 66).1 ∈ lw_tbl := List.mem_of_getElem? (i := 384) (by decide +kernel)
theorem wd_390 : Cond.selects (mt 66).1.cls (mt 66).1 (mt 66).1 ∈ lw_tbl := List.mem_of_getElem? (i := 385) (by decide +kernel)
theorem wd_391 : Cond.methodLink RX6 95 (mt 74).1 ∈ lw_tbl := List.mem_of_getElem? (i := 387) (by decide +kernel)
theorem wd_392 : Cond.code (mt 74).1 (mt 74).2.1 (mt 74).2.2.1 (mt 74).2.2.2 ∈ lw_tbl := List.mem_of_getElem? (i := 390) (by decide +kernel)
theorem wd_393 : Cond.initialized (mt 74).1.cls ∈ lw_tbl := List.mem_of_getElem? (i := 52) (by decide +kernel)
theorem mok_74 : MOK 74 0 := ⟨wd_392, wd_393, by decide +kernel, by decide +kernel, by decide +kernel, by decide +kernel⟩
theorem wd_394 : Cond.instanceMethod (mt 74).1 ∈ lw_tbl := List.mem_of_getElem? (i := 388) (by decide +kernel)
theorem wd_395 : Cond.selects (mt 74).1.cls (mt 74).1 (mt 74).1 ∈ lw_tbl := List.mem_of_getElem? (i := 389) (by decide +kernel)
theorem wd_396 : Cond.methodLink RX6 96 (mt 28).1 ∈ lw_tbl := List.mem_of_getElem? (i := 395) (by decide +kernel)
theorem wd_397 : Cond.methodLink RX6 99 (mt 29).1 ∈ lw_tbl := List.mem_of_getElem? (i := 396) (by decide +kernel)
theorem wd_398 : Cond.methodLink RX6 102 (mt 30).1 ∈ lw_tbl := List.mem_of_getElem? (i := 397) (by decide +kernel)
theorem wd_399 : Cond.methodLink RX6 106 (mt 33).1 ∈ lw_tbl := List.mem_of_getElem? (i := 405) (by decide +kernel)
theorem wd_400 : Cond.methodLink RX6 110 (mt 35).1 ∈ lw_tbl := List.mem_of_getElem? (i := 409) (by decide +kernel)
theorem wd_401 : Cond.methodLink RX6 113 (mt 38).1 ∈ lw_tbl := List.mem_of_getElem? (i := 414) (by decide +kernel)
theorem wd_402 : Cond.methodLink RX6 116 (mt 112).1 ∈ lw_tbl := List.mem_of_getElem? (i := 418) (by decide +kernel)
theorem wd_403 : Cond.code (mt 112).1 (mt 112).2.1 (mt 112).2.2.1 (mt 112).2.2.2 ∈ lw_tbl := List.mem_of_getElem? (i := 420) (by decide +kernel)
theorem wd_404 : Cond.initialized (mt 112).1.cls ∈ lw_tbl := List.mem_of_getElem? (i := 47) (by decide +kernel)
theorem mok_112 : MOK 112 1 := ⟨wd_403, wd_404, by decide +kernel, by decide +kernel, by decide +kernel, by decide +kernel⟩
theorem wd_405 : Cond.static (mt 112).1 ∈ lw_tbl := List.mem_of_getElem? (i := 419) (by decide +kernel)
theorem wd_406 : Cond.methodLink RX6 119 (mt 42).1 ∈ lw_tbl := List.mem_of_getElem? (i := 425) (by decide +kernel)
theorem wd_407 : Cond.code (mt 42).1 (mt 42).2.1 (mt 42).2.2.1 (mt 42).2.2.2 ∈ lw_tbl := List.mem_of_getElem? (i := 428) (by decide +kernel)
theorem wd_408 : Cond.initialized (mt 42).1.cls ∈ lw_tbl := List.mem_of_getElem? (i := 49) (by decide +kernel)
theorem mok_42 : MOK 42 0 := ⟨wd_407, wd_408, by decide +kernel, by decide +kernel, by decide +kernel, by decide +kernel⟩
theorem wd_409 : Cond.instanceMethod (mt 42).1 ∈ lw_tbl := List.mem_of_getElem? (i := 426) (by decide +kernel)
theorem wd_410 : Cond.selects (mt 42).1.cls (mt 42).1 (mt 42).1 ∈ lw_tbl := List.mem_of_getElem? (i := 427) (by decide +kernel)
theorem wd_411 : Cond.methodLink RX6 122 (mt 69).1 ∈ lw_tbl := List.mem_of_getElem? (i := 429) (by decide +kernel)
theorem wd_412 : Cond.code (mt 69).1 (mt 69).2.1 (mt 69).2.2.1 (mt 69).2.2.2 ∈ lw_tbl := List.mem_of_getElem? (i := 432) (by decide +kernel)
theorem wd_413 : Cond.initialized (mt 69).1.cls ∈ lw_tbl := List.mem_of_getElem? (i := 50) (by decide +kernel)
theorem mok_69 : MOK 69 1 := ⟨wd_412, wd_413, by decide +kernel, by decide +kernel, by decide +kernel, by decide +kernel⟩
theorem wd_414 : Cond.instanceMethod (mt 69).1 ∈ lw_tbl := List.mem_of_getElem? (i := 430) (by decide +kernel)
theorem wd_415 : Cond.selects (mt 69).1.cls (mt 69).1 (mt 69).1 ∈ lw_tbl := List.mem_of_getElem? (i := 431) (by decide +kernel)
theorem wd_416 : Cond.methodLink RX6 125 (mt 46).1 ∈ lw_tbl := List.mem_of_getElem? (i := 442) (by decide +kernel)
theorem wd_417 : Cond.methodLink RX6 128 (mt 43).1 ∈ lw_tbl := List.mem_of_getElem? (i := 469) (by decide +kernel)
theorem wd_418 : Cond.code (mt 43).1 (mt 43).2.1 (mt 43).2.2.1 (mt 43).2.2.2 ∈ lw_tbl := List.mem_of_getElem? (i := 472) (by decide +kernel)
theorem wd_419 : Cond.initialized (mt 43).1.cls ∈ lw_tbl := List.mem_of_getElem? (i := 49) (by decide +kernel)
theorem mok_43 : MOK 43 1 := ⟨wd_418, wd_419, by decide +kernel, by decide +kernel, by decide +kernel, by decide +kernel⟩
theorem wd_420 : Cond.instanceMethod (mt 43).1 ∈ lw_tbl := List.mem_of_getElem? (i := 470) (by decide +kernel)
theorem wd_421 : Cond.selects (mt 43).1.cls (mt 43).1 (mt 43).1 ∈ lw_tbl := List.mem_of_getElem? (i := 471) (by decide +kernel)
theorem wd_422 : Cond.methodLink RX6 131 (mt 113).1 ∈ lw_tbl := List.mem_of_getElem? (i := 477) (by decide +kernel)
theorem wd_423 : Cond.methodLink RX6 134 (mt 31).1 ∈ lw_tbl := List.mem_of_getElem? (i := 478) (by decide +kernel)
theorem wd_424 : Cond.methodLink RX6 138 (mt 44).1 ∈ lw_tbl := List.mem_of_getElem? (i := 483) (by decide +kernel)
theorem wd_425 : Cond.methodLink RX6 141 (mt 111).1 ∈ lw_tbl := List.mem_of_getElem? (i := 491) (by decide +kernel)
theorem wd_426 : Cond.code (mt 111).1 (mt 111).2.1 (mt 111).2.2.1 (mt 111).2.2.2 ∈ lw_tbl := List.mem_of_getElem? (i := 494) (by decide +kernel)
theorem wd_427 : Cond.initialized (mt 111).1.cls ∈ lw_tbl := List.mem_of_getElem? (i := 47) (by decide +kernel)
theorem mok_111 : MOK 111 2 := ⟨wd_426, wd_427, by decide +kernel, by decide +kernel, by decide +kernel, by decide +kernel⟩
theorem wd_428 : Cond.instanceMethod (mt 111).1 ∈ lw_tbl := List.mem_of_getElem? (i := 493) (by decide +kernel)
theorem wd_429 : Cond.selects (mt 111).1.cls (mt 111).1 (mt 111).1 ∈ lw_tbl := List.mem_of_getElem? (i := 11) (by decide +kernel)
theorem wd_430 : Cond.methodLink RX6 145 (mt 39).1 ∈ lw_tbl := List.mem_of_getElem? (i := 514) (by decide +kernel)
theorem wd_431 : Cond.methodLink RX6 149 (mt 70).1 ∈ lw_tbl := List.mem_of_getElem? (i := 519) (by decide +kernel)
theorem wd_432 : Cond.code (mt 70).1 (mt 70).2.1 (mt 70).2.2.1 (mt 70).2.2.2 ∈ lw_tbl := List.mem_of_getElem? (i := 522) (by decide +kernel)
theorem wd_433 : Cond.initialized (mt 70).1.cls ∈ lw_tbl := List.mem_of_getElem? (i := 50) (by decide +kernel)
theorem mok_70 : MOK 70 1 := ⟨wd_432, wd_433, by decide +kernel, by decide +kernel, by decide +kernel, by decide +kernel⟩
theorem wd_434 : Cond.instanceMethod (mt 70).1 ∈ lw_tbl := List.mem_of_getElem? (i := 520) (by decide +kernel)
theorem wd_435 : Cond.selects (mt 70).1.cls (mt 70).1 (mt 70).1 ∈ lw_tbl := List.mem_of_getElem? (i := 521) (by decide +kernel)
theorem wd_436 : Cond.methodLink RX6 153 (mt 67).1 ∈ lw_tbl := List.mem_of_getElem? (i := 523) (by decide +kernel)
theorem wd_437 : Cond.code (mt 67).1 (mt 67).2.1 (mt 67).2.2.1 (mt 67).2.2.2 ∈ lw_tbl := List.mem_of_getElem? (i := 526) (by decide +kernel)
theorem wd_438 : Cond.initialized (mt 67).1.cls ∈ lw_tbl := List.mem_of_getElem? (i := 50) (by decide +kernel)
theorem mok_67 : MOK 67 0 := ⟨wd_437, wd_438, by decide +kernel, by decide +kernel, by decide +kernel, by decide +kernel⟩
theorem wd_439 : Cond.instanceMethod (mt 67).1 ∈ lw_tbl := List.mem_of_getElem? (i := 524) (by decide +kernel)
theorem wd_440 : Cond.selects (mt 67).1.cls (mt 67).1 (mt 67).1 ∈ lw_tbl := List.mem_of_getElem? (i := 525) (by decide +kernel)
theorem wd_441 : Cond.methodLink RX6 156 (mt 53).1 ∈ lw_tbl := List.mem_of_getElem? (i := 531) (by decide +kernel)
theorem wd_442 : Cond.code (mt 53).1 (mt 53).2.1 (mt 53).2.2.1 (mt 53).2.2.2 ∈ lw_tbl := List.mem_of_getElem? (i := 534) (by decide +kernel)
theorem wd_443 : Cond.initialized (mt 53).1.cls ∈ lw_tbl := List.mem_of_getElem? (i := 53) (by decide +kernel)
theorem mok_53 : MOK 53 4 := ⟨wd_442, wd_443, by decide +kernel, by decide +kernel, by decide +kernel, by decide +kernel⟩
theorem wd_444 : Cond.instanceMethod (mt 53).1 ∈ lw_tbl := List.mem_of_getElem? (i := 532) (by decide +kernel)
theorem wd_445 : Cond.selects (mt 53).1.cls (mt 53).1 (mt 53).1 ∈ lw_tbl := List.mem_of_getElem? (i := 533) (by decide +kernel)
theorem wd_446 : Cond.methodLink RX6 160 (mt 55).1 ∈ lw_tbl := List.mem_of_getElem? (i := 542) (by decide +kernel)
theorem wd_447 : Cond.code (mt 55).1 (mt 55).2.1 (mt 55).2.2.1 (mt 55).2.2.2 ∈ lw_tbl := List.mem_of_getElem? (i := 545) (by decide +kernel)
theorem wd_448 : Cond.initialized (mt 55).1.cls ∈ lw_tbl := List.mem_of_getElem? (i := 53) (by decide +kernel)
theorem mok_55 : MOK 55 3 := ⟨wd_447, wd_448, by decide +kernel, by decide +kernel, by decide +kernel, by decide +kernel⟩
theorem wd_449 : Cond.instanceMethod (mt 55).1 ∈ lw_tbl := List.mem_of_getElem? (i := 543) (by decide +kernel)
theorem wd_450 : Cond.selects (mt 55).1.cls (mt 55).1 (mt 55).1 ∈ lw_tbl := List.mem_of_getElem? (i := 544) (by decide +kernel)
theorem wd_451 : Cond.methodLink RX6 164 (mt 56).1 ∈ lw_tbl := List.mem_of_getElem? (i := 551) (by decide +kernel)
theorem wd_452 : Cond.code (mt 56).1 (mt 56).2.1 (mt 56).2.2.1 (mt 56).2.2.2 ∈ lw_tbl := List.mem_of_getElem? (i := 554) (by decide +kernel)
theorem wd_453 : Cond.initialized (mt 56).1.cls ∈ lw_tbl := List.mem_of_getElem? (i := 53) (by decide +kernel)
theorem mok_56 : MOK 56 1 := ⟨wd_452, wd_453, by decide +kernel, by decide +kernel, by decide +kernel, by decide +kernel⟩
theorem wd_454 : Cond.instanceMethod (mt 56).1 ∈ lw_tbl := List.mem_of_getElem? (i := 552) (by decide +kernel)
theorem wd_455 : Cond.selects (mt 56).1.cls (mt 56).1 (mt 56).1 ∈ lw_tbl := List.mem_of_getElem? (i := 553) (by decide +kernel)
theorem wd_456 : Cond.methodLink RX6 167 (mt 54).1 ∈ lw_tbl := List.mem_of_getElem? (i := 559) (by decide +kernel)
theorem wd_457 : Cond.methodLink RX6 171 (mt 57).1 ∈ lw_tbl := List.mem_of_getElem? (i := 572) (by decide +kernel)
theorem wd_458 : Cond.code (mt 57).1 (mt 57).2.1 (mt 57).2.2.1 (mt 57).2.2.2 ∈ lw_tbl := List.mem_of_getElem? (i := 575) (by decide +kernel)
theorem wd_459 : Cond.initialized (mt 57).1.cls ∈ lw_tbl := List.mem_of_getElem? (i := 53) (by decide +kernel)
theorem mok_57 : MOK 57 3 := ⟨wd_458, wd_459, by decide +kernel, by decide +kernel, by decide +kernel, by decide +kernel⟩
theorem wd_460 : Cond.instanceMethod (mt 57).1 ∈ lw_tbl := List.mem_of_getElem? (i := 573) (by decide +kernel)
theorem wd_461 : Cond.selects (mt 57).1.cls (mt 57).1 (mt 57).1 ∈ lw_tbl := List.mem_of_getElem? (i := 574) (by decide +kernel)
theorem wd_462 : Cond.methodLink RX6 174 (mt 59).1 ∈ lw_tbl := List.mem_of_getElem? (i := 606) (by decide +kernel)
theorem wd_463 : Cond.code (mt 59).1 (mt 59).2.1 (mt 59).2.2.1 (mt 59).2.2.2 ∈ lw_tbl := List.mem_of_getElem? (i := 609) (by decide +kernel)
theorem wd_464 : Cond.initialized (mt 59).1.cls ∈ lw_tbl := List.mem_of_getElem? (i := 53) (by decide +kernel)
theorem mok_59 : MOK 59 3 := ⟨wd_463, wd_464, by decide +kernel, by decide +kernel, by decide +kernel, by decide +kernel⟩
theorem wd_465 : Cond.instanceMethod (mt 59).1 ∈ lw_tbl := List.mem_of_getElem? (i := 607) (by decide +kernel)
theorem wd_466 : Cond.selects (mt 59).1.cls (mt 59).1 (mt 59).1 ∈ lw_tbl := List.mem_of_getElem? (i := 608) (by decide +kernel)
theorem wd_467 : Cond.methodLink RX6 178 (mt 61).1 ∈ lw_tbl := List.mem_of_getElem? (i := 616) (by decide +kernel)
theorem wd_468 : Cond.code (mt 61).1 (mt 61).2.1 (mt 61).2.2.1 (mt 61).2.2.2 ∈ lw_tbl := List.mem_of_getElem? (i := 619) (by decide +kernel)
theorem wd_469 : Cond.initialized (mt 61).1.cls ∈ lw_tbl := List.mem_of_getElem? (i := 53) (by decide +kernel)
theorem mok_61 : MOK 61 3 := ⟨wd_468, wd_469, by decide +kernel, by decide +kernel, by decide +kernel, by decide +kernel⟩
theorem wd_470 : Cond.instanceMethod (mt 61).1 ∈ lw_tbl := List.mem_of_getElem? (i := 617) (by decide +kernel)
theorem wd_471 : Cond.selects (mt 61).1.cls (mt 61).1 (mt 61).1 ∈ lw_tbl := List.mem_of_getElem? (i := 618) (by decide +kernel)
theorem wd_472 : Cond.methodLink RX6 181 (mt 75).1 ∈ lw_tbl := List.mem_of_getElem? (i := 626) (by decide +kernel)
theorem wd_473 : Cond.code (mt 75).1 (mt 75).2.1 (mt 75).2.2.1 (mt 75).2.2.2 ∈ lw_tbl := List.mem_of_getElem? (i := 629) (by decide +kernel)
theorem wd_474 : Cond.initialized (mt 75).1.cls ∈ lw_tbl := List.mem_of_getElem? (i := 52) (by decide +kernel)
theorem mok_75 : MOK 75 4 := ⟨wd_473, wd_474, by decide +kernel, by decide +kernel, by decide +kernel, by decide +kernel⟩
theorem wd_475 : Cond.instanceMethod (mt 75).1 ∈ lw_tbl := List.mem_of_getElem? (i := 627) (by decide +kernel)
theorem wd_476 : Cond.selects (mt 75).1.cls (mt 75).1 (mt 75).1 ∈ lw_tbl := List.mem_of_getElem? (i := 628) (by decide +kernel)
theorem wd_477 : Cond.methodLink RX6 185 (mt 73).1 ∈ lw_tbl := List.mem_of_getElem? (i := 630) (by decide +kernel)
theorem wd_478 : Cond.code (mt 73).1 (mt 73).2.1 (mt 73).2.2.1 (mt 73).2.2.2 ∈ lw_tbl := List.mem_of_getElem? (i := 633) (by decide +kernel)
theorem wd_479 : Cond.initialized (mt 73).1.cls ∈ lw_tbl := List.mem_of_getElem? (i := 52) (by decide +kernel)
theorem mok_73 : MOK 73 0 := ⟨wd_478, wd_479, by decide +kernel, by decide +kernel, by decide +kernel, by decide +kernel⟩
theorem wd_480 : Cond.instanceMethod (mt 73).1 ∈ lw_tbl := List.mem_of_getElem? (i := 631) (by decide +kernel)
theorem wd_481 : Cond.selects (mt 73).1.cls (mt 73).1 (mt 73).1 ∈ lw_tbl := List.mem_of_getElem? (i := 632) (by decide +kernel)
theorem wd_482 : Cond.methodLink RX6 186 (mt 34).1 ∈ lw_tbl := List.mem_of_getElem? (i := 642) (by decide +kernel)
theorem wd_483 : Cond.code (mt 34).1 (mt 34).2.1 (mt 34).2.2.1 (mt 34).2.2.2 ∈ lw_tbl := List.mem_of_getElem? (i := 645) (by decide +kernel)
theorem wd_484 : Cond.initialized (mt 34).1.cls ∈ lw_tbl := List.mem_of_getElem? (i := 49) (by decide +kernel)
theorem mok_34 : MOK 34 2 := ⟨wd_483, wd_484, by decide +kernel, by decide +kernel, by decide +kernel, by decide +kernel⟩
theorem wd_485 : Cond.instanceMethod (mt 34).1 ∈ lw_tbl := List.mem_of_getElem? (i := 643) (by decide +kernel)
theorem wd_486 : Cond.selects (mt 34).1.cls (mt 34).1 (mt 34).1 ∈ lw_tbl := List.mem_of_getElem? (i := 644) (by decide +kernel)
theorem wd_487 : Cond.methodLink RX6 189 (mt 76).1 ∈ lw_tbl := List.mem_of_getElem? (i := 647) (by decide +kernel)
theorem wd_488 : Cond.code (mt 76).1 (mt 76).2.1 (mt 76).2.2.1 (mt 76).2.2.2 ∈ lw_tbl := List.mem_of_getElem? (i := 650) (by decide +kernel)
theorem wd_489 : Cond.initialized (mt 76).1.cls ∈ lw_tbl := List.mem_of_getElem? (i := 52) (by decide +kernel)
theorem mok_76 : MOK 76 1 := ⟨wd_488, wd_489, by decide +kernel, by decide +kernel, by decide +kernel, by decide +kernel⟩
theorem wd_490 : Cond.instanceMethod (mt 76).1 ∈ lw_tbl := List.mem_of_getElem? (i := 648) (by decide +kernel)
theorem wd_491 : Cond.selects (mt 76).1.cls (mt 76).1 (mt 76).1 ∈ lw_tbl := List.mem_of_getElem? (i := 649) (by decide +kernel)
theorem wd_492 : Cond.methodLink RX6 192 (mt 27).1 ∈ lw_tbl := List.mem_of_getElem? (i := 666) (by decide +kernel)
theorem wd_493 : Cond.methodLink RX6 195 (mt 62).1 ∈ lw_tbl := List.mem_of_getElem? (i := 671) (by decide +kernel)
theorem wd_494 : Cond.code (mt 62).1 (mt 62).2.1 (mt 62).2.2.1 (mt 62).2.2.2 ∈ lw_tbl := List.mem_of_getElem? (i := 674) (by decide +kernel)
theorem wd_495 : Cond.initialized (mt 62).1.cls ∈ lw_tbl := List.mem_of_getElem? (i := 53) (by decide +kernel)
theorem mok_62 : MOK 62 4 := ⟨wd_494, wd_495, by decide +kernel, by decide +kernel, by decide +kernel, by decide +kernel⟩
theorem wd_496 : Cond.instanceMethod (mt 62).1 ∈ lw_tbl := List.mem_of_getElem? (i := 672) (by decide +kernel)
theorem wd_497 : Cond.selects (mt 62).1.cls (mt 62).1 (mt 62).1 ∈ lw_tbl := List.mem_of_getElem? (i := 673) (by decide +kernel)
theorem wd_498 : Cond.methodLink RX6 199 (mt 2).1 ∈ lw_tbl := List.mem_of_getElem? (i := 684) (by decide +kernel)
theorem wd_499 : Cond.code (mt 2).1 (mt 2).2.1 (mt 2).2.2.1 (mt 2).2.2.2 ∈ lw_tbl := List.mem_of_getElem? (i := 687) (by decide +kernel)
theorem wd_500 : Cond.initialized (mt 2).1.cls ∈ lw_tbl := List.mem_of_getElem? (i := 54) (by decide +kernel)
theorem mok_2 : MOK 2 5 := ⟨wd_499, wd_500, by decide +kernel, by decide +kernel, by decide +kernel, by decide +kernel⟩
theorem wd_501 : Cond.instanceMethod (mt 2).1 ∈ lw_tbl := List.mem_of_getElem? (i := 685) (by decide +kernel)
theorem wd_502 : Cond.selects (mt 2).1.cls (mt 2).1 (mt 2).1 ∈ lw_tbl := List.mem_of_getElem? (i := 686) (by decide +kernel)
theorem wd_503 : Cond.methodLink RX6 203 (mt 1).1 ∈ lw_tbl := List.mem_of_getElem? (i := 706) (by decide +kernel)
theorem wd_504 : Cond.methodLink RX6 206 (mt 115).1 ∈ lw_tbl := List.mem_of_getElem? (i := 707) (by decide +kernel)
theorem wd_505 : Cond.methodLink RX6 209 (mt 116).1 ∈ lw_tbl := List.mem_of_getElem? (i := 708) (by decide +kernel)
theorem wd_506 : Cond.code (mt 116).1 (mt 116).2.1 (mt 116).2.2.1 (mt 116).2.2.2 ∈ lw_tbl := List.mem_of_getElem? (i := 710) (by decide +kernel)
theorem wd_507 : Cond.initialized (mt 116).1.cls ∈ lw_tbl := List.mem_of_getElem? (i := 47) (by decide +kernel)
theorem mok_116 : MOK 116 2 := ⟨wd_506, wd_507, by decide +kernel, by decide +kernel, by decide +kernel, by decide +kernel⟩
theorem wd_508 : Cond.static (mt 116).1 ∈ lw_tbl := List.mem_of_getElem? (i := 709) (by decide +kernel)
theorem wd_509 : Cond.methodLink RX6 212 (mt 4).1 ∈ lw_tbl := List.mem_of_getElem? (i := 715) (by decide +kernel)
theorem wd_510 : Cond.code (mt 4).1 (mt 4).2.1 (mt 4).2.2.1 (mt 4).2.2.2 ∈ lw_tbl := List.mem_of_getElem? (i := 717) (by decide +kernel)
theorem wd_511 : Cond.initialized (mt 4).1.cls ∈ lw_tbl := List.mem_of_getElem? (i := 54) (by decide +kernel)
theorem mok_4 : MOK 4 3 := ⟨wd_510, wd_511, by decide +kernel, by decide +kernel, by decide +kernel, by decide +kernel⟩
theorem wd_512 : Cond.static (mt 4).1 ∈ lw_tbl := List.mem_of_getElem? (i := 716) (by decide +kernel)
theorem wd_513 : Cond.methodLink RX6 216 (mt 41).1 ∈ lw_tbl := List.mem_of_getElem? (i := 734) (by decide +kernel)
theorem wd_514 : Cond.methodLink RX6 219 (mt 181).1 ∈ lw_tbl := List.mem_of_getElem? (i := 735) (by decide +kernel)
theorem wd_515 : Cond.methodLink RX6 224 (mt 37).1 ∈ lw_tbl := List.mem_of_getElem? (i := 496) (by decide +kernel)
theorem wd_516 : Cond.code (mt 37).1 (mt 37).2.1 (mt 37).2.2.1 (mt 37).2.2.2 ∈ lw_tbl := List.mem_of_getElem? (i := 499) (by decide +kernel)
theorem wd_517 : Cond.initialized (mt 37).1.cls ∈ lw_tbl := List.mem_of_getElem? (i := 49) (by decide +kernel)
theorem mok_37 : MOK 37 0 := ⟨wd_516, wd_517, by decide +kernel, by decide +kernel, by decide +kernel, by decide +kernel⟩
theorem wd_518 : Cond.instanceMethod (mt 37).1 ∈ lw_tbl := List.mem_of_getElem? (i := 497) (by decide +kernel)
theorem wd_519 : Cond.selects (mt 37).1.cls (mt 37).1 (mt 37).1 ∈ lw_tbl := List.mem_of_getElem? (i := 498) (by decide +kernel)
theorem wd_520 : Cond.methodLink RX6 227 (mt 68).1 ∈ lw_tbl := List.mem_of_getElem? (i := 740) (by decide +kernel)
theorem wd_521 : Cond.methodLink RX6 231 (mt 26).1 ∈ lw_tbl := List.mem_of_getElem? (i := 749) (by decide +kernel)
theorem wd_522 : Cond.methodLink RX6 234 (mt 40).1 ∈ lw_tbl := List.mem_of_getElem? (i := 750) (by decide +kernel)
theorem wd_523 : Cond.code (mt 40).1 (mt 40).2.1 (mt 40).2.2.1 (mt 40).2.2.2 ∈ lw_tbl := List.mem_of_getElem? (i := 753) (by decide +kernel)
theorem wd_524 : Cond.initialized (mt 40).1.cls ∈ lw_tbl := List.mem_of_getElem? (i := 49) (by decide +kernel)
theorem mok_40 : MOK 40 0 := ⟨wd_523, wd_524, by decide +kernel, by decide +kernel, by decide +kernel, by decide +kernel⟩
theorem wd_525 : Cond.instanceMethod (mt 40).1 ∈ lw_tbl := List.mem_of_getElem? (i := 751) (by decide +kernel)
theorem wd_526 : Cond.selects (mt 40).1.cls (mt 40).1 (mt 40).1 ∈ lw_tbl := List.mem_of_getElem? (i := 752) (by decide +kernel)
theorem wd_527 : Cond.methodLink RX6 237 (mt 36).1 ∈ lw_tbl := List.mem_of_getElem? (i := 495) (by decide +kernel)
theorem wd_528 : Cond.methodLink RX7 3 objectInit ∈ lw_tbl := List.mem_of_getElem? (i := 759) (by decide +kernel)
theorem wd_529 : Cond.fieldLink RX7 9 (TX7 2).1 (TX7 2).2.1 (TX7 2).2.2.1 ∈ lw_tbl := List.mem_of_getElem? (i := 766) (by decide +kernel)
theorem inw_7 : ∀ w ∈ u_ws RX7 TX7 28, w ∈ gtbl := by
  have e : u_ws RX7 TX7 28 = [792, 794, 796, 798, 800, 802, 804, 806, 808, 810, 812, 814, 816, 818, 820, 822, 824, 826, 828, 830, 832, 834, 836, 838, 840, 842, 844, 846].filterMap (fun i => lw_tbl[i]?) := by decide +kernel
  have g : (u_ws RX7 TX7 28).all goodWord = true := by decide +kernel
  intro w hw
  refine gt_in ?_ (List.all_eq_true.mp g w hw)
  rw [e] at hw
  obtain ⟨i, -, hi⟩ := List.mem_filterMap.mp hw
  exact List.mem_of_getElem? hi
theorem fl_7_9 : Fld 7 2 RX7 9 true (.array .int) := ⟨RX7, TX7, 28, tyX7, rfl, by decide, wd_529, inw_7, tyX7_ok, nmX7, rfl, rfl, by decide +kernel⟩
theorem wd_530 : Cond.fieldLink RX7 13 (TX7 4).1 (TX7 4).2.1 (TX7 4).2.2.1 ∈ lw_tbl := List.mem_of_getElem? (i := 768) (by decide +kernel)
theorem fl_7_13 : Fld 7 4 RX7 13 true (.array .int) := ⟨RX7, TX7, 28, tyX7, rfl, by decide, wd_530, inw_7, tyX7_ok, nmX7, rfl, rfl, by decide +kernel⟩
theorem wd_531 : Cond.fieldLink RX7 16 (TX7 5).1 (TX7 5).2.1 (TX7 5).2.2.1 ∈ lw_tbl := List.mem_of_getElem? (i := 769) (by decide +kernel)
theorem fl_7_16 : Fld 7 5 RX7 16 true (.array .int) := ⟨RX7, TX7, 28, tyX7, rfl, by decide, wd_531, inw_7, tyX7_ok, nmX7, rfl, rfl, by decide +kernel⟩
theorem wd_532 : Cond.fieldLink RX7 19 (TX7 6).1 (TX7 6).2.1 (TX7 6).2.2.1 ∈ lw_tbl := List.mem_of_getElem? (i := 770) (by decide +kernel)
theorem fl_7_19 : Fld 7 6 RX7 19 true (.array .int) := ⟨RX7, TX7, 28, tyX7, rfl, by decide, wd_532, inw_7, tyX7_ok, nmX7, rfl, rfl, by decide +kernel⟩
theorem wd_533 : Cond.fieldLink RX7 22 (TX7 8).1 (TX7 8).2.1 (TX7 8).2.2.1 ∈ lw_tbl := List.mem_of_getElem? (i := 772) (by decide +kernel)
theorem fl_7_22 : Fld 7 8 RX7 22 true (.array .int) := ⟨RX7, TX7, 28, tyX7, rfl, by decide, wd_533, inw_7, tyX7_ok, nmX7, rfl, rfl, by decide +kernel⟩
theorem wd_534 : Cond.fieldLink RX7 25 (TX7 9).1 (TX7 9).2.1 (TX7 9).2.2.1 ∈ lw_tbl := List.mem_of_getElem? (i := 773) (by decide +kernel)
theorem fl_7_25 : Fld 7 9 RX7 25 true (.array .int) := ⟨RX7, TX7, 28, tyX7, rfl, by decide, wd_534, inw_7, tyX7_ok, nmX7, rfl, rfl, by decide +kernel⟩
theorem wd_535 : Cond.fieldLink RX7 28 (TX7 10).1 (TX7 10).2.1 (TX7 10).2.2.1 ∈ lw_tbl := List.mem_of_getElem? (i := 774) (by decide +kernel)
theorem fl_7_28 : Fld 7 10 RX7 28 true (.array .int) := ⟨RX7, TX7, 28, tyX7, rfl, by decide, wd_535, inw_7, tyX7_ok, nmX7, rfl, rfl, by decide +kernel⟩
theorem wd_536 : Cond.fieldLink RX7 31 (TX7 11).1 (TX7 11).2.1 (TX7 11).2.2.1 ∈ lw_tbl := List.mem_of_getElem? (i := 775) (by decide +kernel)
theorem fl_7_31 : Fld 7 11 RX7 31 true (.array .int) := ⟨RX7, TX7, 28, tyX7, rfl, by decide, wd_536, inw_7, tyX7_ok, nmX7, rfl, rfl, by decide +kernel⟩
theorem wd_537 : Cond.fieldLink RX7 34 (TX7 16).1 (TX7 16).2.1 (TX7 16).2.2.1 ∈ lw_tbl := List.mem_of_getElem? (i := 780) (by decide +kernel)
theorem fl_7_34 : Fld 7 16 RX7 34 true (.array .int) := ⟨RX7, TX7, 28, tyX7, rfl, by decide, wd_537, inw_7, tyX7_ok, nmX7, rfl, rfl, by decide +kernel⟩
theorem wd_538 : Cond.fieldLink RX7 37 (TX7 17).1 (TX7 17).2.1 (TX7 17).2.2.1 ∈ lw_tbl := List.mem_of_getElem? (i := 781) (by decide +kernel)
theorem fl_7_37 : Fld 7 17 RX7 37 true (.array .int) := ⟨RX7, TX7, 28, tyX7, rfl, by decide, wd_538, inw_7, tyX7_ok, nmX7, rfl, rfl, by decide +kernel⟩
theorem wd_539 : Cond.fieldLink RX7 40 (TX7 18).1 (TX7 18).2.1 (TX7 18).2.2.1 ∈ lw_tbl := List.mem_of_getElem? (i := 782) (by decide +kernel)
theorem fl_7_40 : Fld 7 18 RX7 40 true (.array .int) := ⟨RX7, TX7, 28, tyX7, rfl, by decide, wd_539, inw_7, tyX7_ok, nmX7, rfl, rfl, by decide +kernel⟩
theorem wd_540 : Cond.fieldLink RX7 43 (TX7 19).1 (TX7 19).2.1 (TX7 19).2.2.1 ∈ lw_tbl := List.mem_of_getElem? (i := 783) (by decide +kernel)
theorem fl_7_43 : Fld 7 19 RX7 43 true (.array .int) := ⟨RX7, TX7, 28, tyX7, rfl, by decide, wd_540, inw_7, tyX7_ok, nmX7, rfl, rfl, by decide +kernel⟩
theorem wd_541 : Cond.fieldLink RX7 46 (TX7 20).1 (TX7 20).2.1 (TX7 20).2.2.1 ∈ lw_tbl := List.mem_of_getElem? (i := 784) (by decide +kernel)
theorem fl_7_46 : Fld 7 20 RX7 46 true (.array .int) := ⟨RX7, TX7, 28, tyX7, rfl, by decide, wd_541, inw_7, tyX7_ok, nmX7, rfl, rfl, by decide +kernel⟩
theorem wd_542 : Cond.fieldLink RX7 49 (TX7 21).1 (TX7 21).2.1 (TX7 21).2.2.1 ∈ lw_tbl := List.mem_of_getElem? (i := 785) (by decide +kernel)
theorem fl_7_49 : Fld 7 21 RX7 49 true (.array .int) := ⟨RX7, TX7, 28, tyX7, rfl, by decide, wd_542, inw_7, tyX7_ok, nmX7, rfl, rfl, by decide +kernel⟩
theorem wd_543 : Cond.fieldLink RX7 52 (TX7 23).1 (TX7 23).2.1 (TX7 23).2.2.1 ∈ lw_tbl := List.mem_of_getElem? (i := 787) (by decide +kernel)
theorem fl_7_52 : Fld 7 23 RX7 52 true (.array .int) := ⟨RX7, TX7, 28, tyX7, rfl, by decide, wd_543, inw_7, tyX7_ok, nmX7, rfl, rfl, by decide +kernel⟩
theorem wd_544 : Cond.fieldLink RX7 55 (TX7 24).1 (TX7 24).2.1 (TX7 24).2.2.1 ∈ lw_tbl := List.mem_of_getElem? (i := 788) (by decide +kernel)
theorem fl_7_55 : Fld 7 24 RX7 55 true (.array .int) := ⟨RX7, TX7, 28, tyX7, rfl, by decide, wd_544, inw_7, tyX7_ok, nmX7, rfl, rfl, by decide +kernel⟩
theorem wd_545 : Cond.fieldLink RX7 58 (TX7 25).1 (TX7 25).2.1 (TX7 25).2.2.1 ∈ lw_tbl := List.mem_of_getElem? (i := 789) (by decide +kernel)
theorem fl_7_58 : Fld 7 25 RX7 58 true (.array .int) := ⟨RX7, TX7, 28, tyX7, rfl, by decide, wd_545, inw_7, tyX7_ok, nmX7, rfl, rfl, by decide +kernel⟩
theorem wd_546 : Cond.fieldLink RX7 61 (TX7 26).1 (TX7 26).2.1 (TX7 26).2.2.1 ∈ lw_tbl := List.mem_of_getElem? (i := 790) (by decide +kernel)
theorem fl_7_61 : Fld 7 26 RX7 61 true (.array .int) := ⟨RX7, TX7, 28, tyX7, rfl, by decide, wd_546, inw_7, tyX7_ok, nmX7, rfl, rfl, by decide +kernel⟩
theorem wd_547 : Cond.fieldLink RX7 64 (TX7 1).1 (TX7 1).2.1 (TX7 1).2.2.1 ∈ lw_tbl := List.mem_of_getElem? (i := 765) (by decide +kernel)
theorem fl_7_64 : Fld 7 1 RX7 64 false (.int) := ⟨RX7, TX7, 28, tyX7, rfl, by decide, wd_547, inw_7, tyX7_ok, nmX7, rfl, rfl, by decide +kernel⟩
theorem wd_548 : Cond.methodLink RX7 68 (mt 121).1 ∈ lw_tbl := List.mem_of_getElem? (i := 760) (by decide +kernel)
theorem wd_549 : Cond.code (mt 121).1 (mt 121).2.1 (mt 121).2.2.1 (mt 121).2.2.2 ∈ lw_tbl := List.mem_of_getElem? (i := 763) (by decide +kernel)
theorem wd_550 : Cond.initialized (mt 121).1.cls ∈ lw_tbl := List.mem_of_getElem? (i := 60) (by decide +kernel)
theorem mok_121 : MOK 121 2 := ⟨wd_549, wd_550, by decide +kernel, by decide +kernel, by decide +kernel, by decide +kernel⟩
theorem wd_551 : Cond.instanceMethod (mt 121).1 ∈ lw_tbl := List.mem_of_getElem? (i := 762) (by decide +kernel)
theorem wd_552 : Cond.selects (mt 121).1.cls (mt 121).1 (mt 121).1 ∈ lw_tbl := List.mem_of_getElem? (i := 18) (by decide +kernel)
theorem wd_553 : Cond.fieldLink RX7 72 (TX7 0).1 (TX7 0).2.1 (TX7 0).2.2.1 ∈ lw_tbl := List.mem_of_getElem? (i := 764) (by decide +kernel)
theorem fl_7_72 : Fld 7 0 RX7 72 false (.int) := ⟨RX7, TX7, 28, tyX7, rfl, by decide, wd_553, inw_7, tyX7_ok, nmX7, rfl, rfl, by decide +kernel⟩
theorem wd_554 : Cond.methodLink RX7 75 (mt 117).1 ∈ lw_tbl := List.mem_of_getElem? (i := 853) (by decide +kernel)
theorem wd_555 : Cond.code (mt 117).1 (mt 117).2.1 (mt 117).2.2.1 (mt 117).2.2.2 ∈ lw_tbl := List.mem_of_getElem? (i := 855) (by decide +kernel)
theorem wd_556 : Cond.initialized (mt 117).1.cls ∈ lw_tbl := List.mem_of_getElem? (i := 60) (by decide +kernel)
theorem mok_117 : MOK 117 3 := ⟨wd_555, wd_556, by decide +kernel, by decide +kernel, by decide +kernel, by decide +kernel⟩
theorem wd_557 : Cond.static (mt 117).1 ∈ lw_tbl := List.mem_of_getElem? (i := 854) (by decide +kernel)
theorem wd_558 : Cond.fieldLink RX7 79 (TX7 12).1 (TX7 12).2.1 (TX7 12).2.2.1 ∈ lw_tbl := List.mem_of_getElem? (i := 776) (by decide +kernel)
theorem fl_7_79 : Fld 7 12 RX7 79 false (.int) := ⟨RX7, TX7, 28, tyX7, rfl, by decide, wd_558, inw_7, tyX7_ok, nmX7, rfl, rfl, by decide +kernel⟩
theorem wd_559 : Cond.fieldLink RX7 82 (TX7 13).1 (TX7 13).2.1 (TX7 13).2.2.1 ∈ lw_tbl := List.mem_of_getElem? (i := 777) (by decide +kernel)
theorem fl_7_82 : Fld 7 13 RX7 82 false (.int) := ⟨RX7, TX7, 28, tyX7, rfl, by decide, wd_559, inw_7, tyX7_ok, nmX7, rfl, rfl, by decide +kernel⟩
theorem wd_560 : Cond.methodLink RX7 85 (mt 126).1 ∈ lw_tbl := List.mem_of_getElem? (i := 868) (by decide +kernel)
theorem wd_561 : Cond.code (mt 126).1 (mt 126).2.1 (mt 126).2.2.1 (mt 126).2.2.2 ∈ lw_tbl := List.mem_of_getElem? (i := 871) (by decide +kernel)
theorem wd_562 : Cond.initialized (mt 126).1.cls ∈ lw_tbl := List.mem_of_getElem? (i := 60) (by decide +kernel)
theorem mok_126 : MOK 126 0 := ⟨wd_561, wd_562, by decide +kernel, by decide +kernel, by decide +kernel, by decide +kernel⟩
theorem wd_563 : Cond.instanceMethod (mt 126).1 ∈ lw_tbl := List.mem_of_getElem? (i := 870) (by decide +kernel)
theorem wd_564 : Cond.selects (mt 126).1.cls (mt 126).1 (mt 126).1 ∈ lw_tbl := List.mem_of_getElem? (i := 20) (by decide +kernel)
theorem wd_565 : Cond.fieldLink RX7 89 (TX7 14).1 (TX7 14).2.1 (TX7 14).2.2.1 ∈ lw_tbl := List.mem_of_getElem? (i := 778) (by decide +kernel)
theorem fl_7_89 : Fld 7 14 RX7 89 false (.int) := ⟨RX7, TX7, 28, tyX7, rfl, by decide, wd_565, inw_7, tyX7_ok, nmX7, rfl, rfl, by decide +kernel⟩
theorem wd_566 : Cond.methodLink RX7 92 (mt 127).1 ∈ lw_tbl := List.mem_of_getElem? (i := 876) (by decide +kernel)
theorem wd_567 : Cond.code (mt 127).1 (mt 127).2.1 (mt 127).2.2.1 (mt 127).2.2.2 ∈ lw_tbl := List.mem_of_getElem? (i := 879) (by decide +kernel)
theorem wd_568 : Cond.initialized (mt 127).1.cls ∈ lw_tbl := List.mem_of_getElem? (i := 60) (by decide +kernel)
theorem mok_127 : MOK 127 1 := ⟨wd_567, wd_568, by decide +kernel, by decide +kernel, by decide +kernel, by decide +kernel⟩
theorem wd_569 : Cond.instanceMethod (mt 127).1 ∈ lw_tbl := List.mem_of_getElem? (i := 878) (by decide +kernel)
theorem wd_570 : Cond.selects (mt 127).1.cls (mt 127).1 (mt 127).1 ∈ lw_tbl := List.mem_of_getElem? (i := 22) (by decide +kernel)
theorem wd_571 : Cond.methodLink RX7 96 (mt 128).1 ∈ lw_tbl := List.mem_of_getElem? (i := 880) (by decide +kernel)
theorem wd_572 : Cond.code (mt 128).1 (mt 128).2.1 (mt 128).2.2.1 (mt 128).2.2.2 ∈ lw_tbl := List.mem_of_getElem? (i := 883) (by decide +kernel)
theorem wd_573 : Cond.initialized (mt 128).1.cls ∈ lw_tbl := List.mem_of_getElem? (i := 60) (by decide +kernel)
theorem mok_128 : MOK 128 1 := ⟨wd_572, wd_573, by decide +kernel, by decide +kernel, by decide +kernel, by decide +kernel⟩
theorem wd_574 : Cond.instanceMethod (mt 128).1 ∈ lw_tbl := List.mem_of_getElem? (i := 882) (by decide +kernel)
theorem wd_575 : Cond.selects (mt 128).1.cls (mt 128).1 (mt 128).1 ∈ lw_tbl := List.mem_of_getElem? (i := 23) (by decide +kernel)
theorem wd_576 : Cond.fieldLink RX7 100 (TX7 15).1 (TX7 15).2.1 (TX7 15).2.2.1 ∈ lw_tbl := List.mem_of_getElem? (i := 779) (by decide +kernel)
theorem fl_7_100 : Fld 7 15 RX7 100 false (.int) := ⟨RX7, TX7, 28, tyX7, rfl, by decide, wd_576, inw_7, tyX7_ok, nmX7, rfl, rfl, by decide +kernel⟩
theorem wd_577 : Cond.methodLink RX7 103 (mt 129).1 ∈ lw_tbl := List.mem_of_getElem? (i := 872) (by decide +kernel)
theorem wd_578 : Cond.code (mt 129).1 (mt 129).2.1 (mt 129).2.2.1 (mt 129).2.2.2 ∈ lw_tbl := List.mem_of_getElem? (i := 875) (by decide +kernel)
theorem wd_579 : Cond.initialized (mt 129).1.cls ∈ lw_tbl := List.mem_of_getElem? (i := 60) (by decide +kernel)
theorem mok_129 : MOK 129 0 := ⟨wd_578, wd_579, by decide +kernel, by decide +kernel, by decide +kernel, by decide +kernel⟩
theorem wd_580 : Cond.instanceMethod (mt 129).1 ∈ lw_tbl := List.mem_of_getElem? (i := 874) (by decide +kernel)
theorem wd_581 : Cond.selects (mt 129).1.cls (mt 129).1 (mt 129).1 ∈ lw_tbl := List.mem_of_getElem? (i := 21) (by decide +kernel)
theorem wd_582 : Cond.methodLink RX7 107 (mt 130).1 ∈ lw_tbl := List.mem_of_getElem? (i := 884) (by decide +kernel)
theorem wd_583 : Cond.code (mt 130).1 (mt 130).2.1 (mt 130).2.2.1 (mt 130).2.2.2 ∈ lw_tbl := List.mem_of_getElem? (i := 887) (by decide +kernel)
theorem wd_584 : Cond.initialized (mt 130).1.cls ∈ lw_tbl := List.mem_of_getElem? (i := 60) (by decide +kernel)
theorem mok_130 : MOK 130 0 := ⟨wd_583, wd_584, by decide +kernel, by decide +kernel, by decide +kernel, by decide +kernel⟩
theorem wd_585 : Cond.instanceMethod (mt 130).1 ∈ lw_tbl := List.mem_of_getElem? (i := 886) (by decide +kernel)
theorem wd_586 : Cond.selects (mt 130).1.cls (mt 130).1 (mt 130).1 ∈ lw_tbl := List.mem_of_getElem? (i := 24) (by decide +kernel)
theorem wd_587 : Cond.methodLink RX7 110 (mt 131).1 ∈ lw_tbl := List.mem_of_getElem? (i := 888) (by decide +kernel)
theorem wd_588 : Cond.code (mt 131).1 (mt 131).2.1 (mt 131).2.2.1 (mt 131).2.2.2 ∈ lw_tbl := List.mem_of_getElem? (i := 891) (by decide +kernel)
theorem wd_589 : Cond.initialized (mt 131).1.cls ∈ lw_tbl := List.mem_of_getElem? (i := 60) (by decide +kernel)
theorem mok_131 : MOK 131 0 := ⟨wd_588, wd_589, by decide +kernel, by decide +kernel, by decide +kernel, by decide +kernel⟩
theorem wd_590 : Cond.instanceMethod (mt 131).1 ∈ lw_tbl := List.mem_of_getElem? (i := 890) (by decide +kernel)
theorem wd_591 : Cond.selects (mt 131).1.cls (mt 131).1 (mt 131).1 ∈ lw_tbl := List.mem_of_getElem? (i := 25) (by decide +kernel)
theorem wd_592 : Cond.methodLink RX7 113 (mt 132).1 ∈ lw_tbl := List.mem_of_getElem? (i := 864) (by decide +kernel)
theorem wd_593 : Cond.code (mt 132).1 (mt 132).2.1 (mt 132).2.2.1 (mt 132).2.2.2 ∈ lw_tbl := List.mem_of_getElem? (i := 867) (by decide +kernel)
theorem wd_594 : Cond.initialized (mt 132).1.cls ∈ lw_tbl := List.mem_of_getElem? (i := 60) (by decide +kernel)
theorem mok_132 : MOK 132 0 := ⟨wd_593, wd_594, by decide +kernel, by decide +kernel, by decide +kernel, by decide +kernel⟩
theorem wd_595 : Cond.instanceMethod (mt 132).1 ∈ lw_tbl := List.mem_of_getElem? (i := 866) (by decide +kernel)
theorem wd_596 : Cond.selects (mt 132).1.cls (mt 132).1 (mt 132).1 ∈ lw_tbl := List.mem_of_getElem? (i := 19) (by decide +kernel)
theorem wd_597 : Cond.methodLink RX7 116 (mt 133).1 ∈ lw_tbl := List.mem_of_getElem? (i := 896) (by decide +kernel)
theorem wd_598 : Cond.code (mt 133).1 (mt 133).2.1 (mt 133).2.2.1 (mt 133).2.2.2 ∈ lw_tbl := List.mem_of_getElem? (i := 863) (by decide +kernel)
theorem wd_599 : Cond.initialized (mt 133).1.cls ∈ lw_tbl := List.mem_of_getElem? (i := 60) (by decide +kernel)
theorem mok_133 : MOK 133 0 := ⟨wd_598, wd_599, by decide +kernel, by decide +kernel, by decide +kernel, by decide +kernel⟩
theorem wd_600 : Cond.instanceMethod (mt 133).1 ∈ lw_tbl := List.mem_of_getElem? (i := 861) (by decide +kernel)
theorem wd_601 : Cond.selects (mt 133).1.cls (mt 133).1 (mt 133).1 ∈ lw_tbl := List.mem_of_getElem? (i := 862) (by decide +kernel)
theorem wd_602 : Cond.fieldLink RX7 119 (TX7 3).1 (TX7 3).2.1 (TX7 3).2.2.1 ∈ lw_tbl := List.mem_of_getElem? (i := 767) (by decide +kernel)
theorem fl_7_119 : Fld 7 3 RX7 119 false (.int) := ⟨RX7, TX7, 28, tyX7, rfl, by decide, wd_602, inw_7, tyX7_ok, nmX7, rfl, rfl, by decide +kernel⟩
theorem wd_603 : Cond.fieldLink RX7 122 (TX7 7).1 (TX7 7).2.1 (TX7 7).2.2.1 ∈ lw_tbl := List.mem_of_getElem? (i := 771) (by decide +kernel)
theorem fl_7_122 : Fld 7 7 RX7 122 false (.int) := ⟨RX7, TX7, 28, tyX7, rfl, by decide, wd_603, inw_7, tyX7_ok, nmX7, rfl, rfl, by decide +kernel⟩
theorem wd_604 : Cond.fieldLink RX7 125 (TX7 22).1 (TX7 22).2.1 (TX7 22).2.2.1 ∈ lw_tbl := List.mem_of_getElem? (i := 786) (by decide +kernel)
theorem fl_7_125 : Fld 7 22 RX7 125 false (.int) := ⟨RX7, TX7, 28, tyX7, rfl, by decide, wd_604, inw_7, tyX7_ok, nmX7, rfl, rfl, by decide +kernel⟩
theorem wd_605 : Cond.fieldLink RX7 128 (TX7 27).1 (TX7 27).2.1 (TX7 27).2.2.1 ∈ lw_tbl := List.mem_of_getElem? (i := 791) (by decide +kernel)
theorem fl_7_128 : Fld 7 27 RX7 128 false (.int) := ⟨RX7, TX7, 28, tyX7, rfl, by decide, wd_605, inw_7, tyX7_ok, nmX7, rfl, rfl, by decide +kernel⟩
theorem wd_606 : Cond.methodLink RX7 131 (mt 122).1 ∈ lw_tbl := List.mem_of_getElem? (i := 901) (by decide +kernel)
theorem wd_607 : Cond.code (mt 122).1 (mt 122).2.1 (mt 122).2.2.1 (mt 122).2.2.2 ∈ lw_tbl := List.mem_of_getElem? (i := 904) (by decide +kernel)
theorem wd_608 : Cond.initialized (mt 122).1.cls ∈ lw_tbl := List.mem_of_getElem? (i := 60) (by decide +kernel)
theorem mok_122 : MOK 122 1 := ⟨wd_607, wd_608, by decide +kernel, by decide +kernel, by decide +kernel, by decide +kernel⟩
theorem wd_609 : Cond.instanceMethod (mt 122).1 ∈ lw_tbl := List.mem_of_getElem? (i := 903) (by decide +kernel)
theorem wd_610 : Cond.selects (mt 122).1.cls (mt 122).1 (mt 122).1 ∈ lw_tbl := List.mem_of_getElem? (i := 26) (by decide +kernel)
theorem wd_611 : Cond.methodLink RX7 134 (mt 123).1 ∈ lw_tbl := List.mem_of_getElem? (i := 905) (by decide +kernel)
theorem wd_612 : Cond.code (mt 123).1 (mt 123).2.1 (mt 123).2.2.1 (mt 123).2.2.2 ∈ lw_tbl := List.mem_of_getElem? (i := 908) (by decide +kernel)
theorem wd_613 : Cond.initialized (mt 123).1.cls ∈ lw_tbl := List.mem_of_getElem? (i := 60) (by decide +kernel)
theorem mok_123 : MOK 123 1 := ⟨wd_612, wd_613, by decide +kernel, by decide +kernel, by decide +kernel, by decide +kernel⟩
theorem wd_614 : Cond.instanceMethod (mt 123).1 ∈ lw_tbl := List.mem_of_getElem? (i := 907) (by decide +kernel)
theorem wd_615 : Cond.selects (mt 123).1.cls (mt 123).1 (mt 123).1 ∈ lw_tbl := List.mem_of_getElem? (i := 27) (by decide +kernel)
theorem wd_616 : Cond.methodLink RX7 137 (mt 138).1 ∈ lw_tbl := List.mem_of_getElem? (i := 937) (by decide +kernel)
theorem wd_617 : Cond.code (mt 138).1 (mt 138).2.1 (mt 138).2.2.1 (mt 138).2.2.2 ∈ lw_tbl := List.mem_of_getElem? (i := 940) (by decide +kernel)
theorem wd_618 : Cond.initialized (mt 138).1.cls ∈ lw_tbl := List.mem_of_getElem? (i := 60) (by decide +kernel)
theorem mok_138 : MOK 138 2 := ⟨wd_617, wd_618, by decide +kernel, by decide +kernel, by decide +kernel, by decide +kernel⟩
theorem wd_619 : Cond.instanceMethod (mt 138).1 ∈ lw_tbl := List.mem_of_getElem? (i := 939) (by decide +kernel)
theorem wd_620 : Cond.selects (mt 138).1.cls (mt 138).1 (mt 138).1 ∈ lw_tbl := List.mem_of_getElem? (i := 32) (by decide +kernel)
theorem wd_621 : Cond.methodLink RX7 141 (mt 139).1 ∈ lw_tbl := List.mem_of_getElem? (i := 933) (by decide +kernel)
theorem wd_622 : Cond.code (mt 139).1 (mt 139).2.1 (mt 139).2.2.1 (mt 139).2.2.2 ∈ lw_tbl := List.mem_of_getElem? (i := 936) (by decide +kernel)
theorem wd_623 : Cond.initialized (mt 139).1.cls ∈ lw_tbl := List.mem_of_getElem? (i := 60) (by decide +kernel)
theorem mok_139 : MOK 139 0 := ⟨wd_622, wd_623, by decide +kernel, by decide +kernel, by decide +kernel, by decide +kernel⟩
theorem wd_624 : Cond.instanceMethod (mt 139).1 ∈ lw_tbl := List.mem_of_getElem? (i := 935) (by decide +kernel)
theorem wd_625 : Cond.selects (mt 139).1.cls (mt 139).1 (mt 139).1 ∈ lw_tbl := List.mem_of_getElem? (i := 31) (by decide +kernel)
theorem wd_626 : Cond.methodLink RX7 144 (mt 144).1 ∈ lw_tbl := List.mem_of_getElem? (i := 925) (by decide +kernel)
theorem wd_627 : Cond.code (mt 144).1 (mt 144).2.1 (mt 144).2.2.1 (mt 144).2.2.2 ∈ lw_tbl := List.mem_of_getElem? (i := 928) (by decide +kernel)
theorem wd_628 : Cond.initialized (mt 144).1.cls ∈ lw_tbl := List.mem_of_getElem? (i := 60) (by decide +kernel)
theorem mok_144 : MOK 144 2 := ⟨wd_627, wd_628, by decide +kernel, by decide +kernel, by decide +kernel, by decide +kernel⟩
theorem wd_629 : Cond.instanceMethod (mt 144).1 ∈ lw_tbl := List.mem_of_getElem? (i := 927) (by decide +kernel)
theorem wd_630 : Cond.selects (mt 144).1.cls (mt 144).1 (mt 144).1 ∈ lw_tbl := List.mem_of_getElem? (i := 29) (by decide +kernel)
theorem wd_631 : Cond.methodLink RX7 148 (mt 146).1 ∈ lw_tbl := List.mem_of_getElem? (i := 921) (by decide +kernel)
theorem wd_632 : Cond.code (mt 146).1 (mt 146).2.1 (mt 146).2.2.1 (mt 146).2.2.2 ∈ lw_tbl := List.mem_of_getElem? (i := 924) (by decide +kernel)
theorem wd_633 : Cond.initialized (mt 146).1.cls ∈ lw_tbl := List.mem_of_getElem? (i := 60) (by decide +kernel)
theorem mok_146 : MOK 146 0 := ⟨wd_632, wd_633, by decide +kernel, by decide +kernel, by decide +kernel, by decide +kernel⟩
theorem wd_634 : Cond.instanceMethod (mt 146).1 ∈ lw_tbl := List.mem_of_getElem? (i := 923) (by decide +kernel)
theorem wd_635 : Cond.selects (mt 146).1.cls (mt 146).1 (mt 146).1 ∈ lw_tbl := List.mem_of_getElem? (i := 28) (by decide +kernel)
theorem wd_636 : Cond.methodLink RX7 151 (mt 140).1 ∈ lw_tbl := List.mem_of_getElem? (i := 929) (by decide +kernel)
theorem wd_637 : Cond.code (mt 140).1 (mt 140).2.1 (mt 140).2.2.1 (mt 140).2.2.2 ∈ lw_tbl := List.mem_of_getElem? (i := 932) (by decide +kernel)
theorem wd_638 : Cond.initialized (mt 140).1.cls ∈ lw_tbl := List.mem_of_getElem? (i := 60) (by decide +kernel)
theorem mok_140 : MOK 140 1 := ⟨wd_637, wd_638, by decide +kernel, by decide +kernel, by decide +kernel, by decide +kernel⟩
theorem wd_639 : Cond.instanceMethod (mt 140).1 ∈ lw_tbl := List.mem_of_getElem? (i := 931) (by decide +kernel)
theorem wd_640 : Cond.selects (mt 140).1.cls (mt 140).1 (mt 140).1 ∈ lw_tbl := List.mem_of_getElem? (i := 30) (by decide +kernel)
theorem wd_641 : Cond.methodLink RX7 155 (mt 149).1 ∈ lw_tbl := List.mem_of_getElem? (i := 949) (by decide +kernel)
theorem wd_642 : Cond.code (mt 149).1 (mt 149).2.1 (mt 149).2.2.1 (mt 149).2.2.2 ∈ lw_tbl := List.mem_of_getElem? (i := 952) (by decide +kernel)
theorem wd_643 : Cond.initialized (mt 149).1.cls ∈ lw_tbl := List.mem_of_getElem? (i := 60) (by decide +kernel)
theorem mok_149 : MOK 149 1 := ⟨wd_642, wd_643, by decide +kernel, by decide +kernel, by decide +kernel, by decide +kernel⟩
theorem wd_644 : Cond.instanceMethod (mt 149).1 ∈ lw_tbl := List.mem_of_getElem? (i := 951) (by decide +kernel)
theorem wd_645 : Cond.selects (mt 149).1.cls (mt 149).1 (mt 149).1 ∈ lw_tbl := List.mem_of_getElem? (i := 33) (by decide +kernel)
theorem wd_646 : Cond.methodLink RX7 158 (mt 143).1 ∈ lw_tbl := List.mem_of_getElem? (i := 961) (by decide +kernel)
theorem wd_647 : Cond.code (mt 143).1 (mt 143).2.1 (mt 143).2.2.1 (mt 143).2.2.2 ∈ lw_tbl := List.mem_of_getElem? (i := 964) (by decide +kernel)
theorem wd_648 : Cond.initialized (mt 143).1.cls ∈ lw_tbl := List.mem_of_getElem? (i := 60) (by decide +kernel)
theorem mok_143 : MOK 143 0 := ⟨wd_647, wd_648, by decide +kernel, by decide +kernel, by decide +kernel, by decide +kernel⟩
theorem wd_649 : Cond.instanceMethod (mt 143).1 ∈ lw_tbl := List.mem_of_getElem? (i := 963) (by decide +kernel)
theorem wd_650 : Cond.selects (mt 143).1.cls (mt 143).1 (mt 143).1 ∈ lw_tbl := List.mem_of_getElem? (i := 35) (by decide +kernel)
theorem wd_651 : Cond.methodLink RX7 161 (mt 151).1 ∈ lw_tbl := List.mem_of_getElem? (i := 957) (by decide +kernel)
theorem wd_652 : Cond.code (mt 151).1 (mt 151).2.1 (mt 151).2.2.1 (mt 151).2.2.2 ∈ lw_tbl := List.mem_of_getElem? (i := 960) (by decide +kernel)
theorem wd_653 : Cond.initialized (mt 151).1.cls ∈ lw_tbl := List.mem_of_getElem? (i := 60) (by decide +kernel)
theorem mok_151 : MOK 151 2 := ⟨wd_652, wd_653, by decide +kernel, by decide +kernel, by decide +kernel, by decide +kernel⟩
theorem wd_654 : Cond.instanceMethod (mt 151).1 ∈ lw_tbl := List.mem_of_getElem? (i := 959) (by decide +kernel)
theorem wd_655 : Cond.selects (mt 151).1.cls (mt 151).1 (mt 151).1 ∈ lw_tbl := List.mem_of_getElem? (i := 34) (by decide +kernel)
theorem wd_656 : Cond.methodLink RX7 164 (mt 145).1 ∈ lw_tbl := List.mem_of_getElem? (i := 977) (by decide +kernel)
theorem wd_657 : Cond.code (mt 145).1 (mt 145).2.1 (mt 145).2.2.1 (mt 145).2.2.2 ∈ lw_tbl := List.mem_of_getElem? (i := 980) (by decide +kernel)
theorem wd_658 : Cond.initialized (mt 145).1.cls ∈ lw_tbl := List.mem_of_getElem? (i := 60) (by decide +kernel)
theorem mok_145 : MOK 145 2 := ⟨wd_657, wd_658, by decide +kernel, by decide +kernel, by decide +kernel, by decide +kernel⟩
theorem wd_659 : Cond.instanceMethod (mt 145).1 ∈ lw_tbl := List.mem_of_getElem? (i := 979) (by decide +kernel)
theorem wd_660 : Cond.selects (mt 145).1.cls (mt 145).1 (mt 145).1 ∈ lw_tbl := List.mem_of_getElem? (i := 36) (by decide +kernel)
theorem wd_661 : Cond.methodLink RX7 167 (mt 156).1 ∈ lw_tbl := List.mem_of_getElem? (i := 985) (by decide +kernel)
theorem wd_662 : Cond.code (mt 156).1 (mt 156).2.1 (mt 156).2.2.1 (mt 156).2.2.2 ∈ lw_tbl := List.mem_of_getElem? (i := 988) (by decide +kernel)
theorem wd_663 : Cond.initialized (mt 156).1.cls ∈ lw_tbl := List.mem_of_getElem? (i := 60) (by decide +kernel)
theorem mok_156 : MOK 156 0 := ⟨wd_662, wd_663, by decide +kernel, by decide +kernel, by decide +kernel, by decide +kernel⟩
theorem wd_664 : Cond.instanceMethod (mt 156).1 ∈ lw_tbl := List.mem_of_getElem? (i := 987) (by decide +kernel)
theorem wd_665 : Cond.selects (mt 156).1.cls (mt 156).1 (mt 156).1 ∈ lw_tbl := List.mem_of_getElem? (i := 37) (by decide +kernel)
theorem wd_666 : Cond.methodLink RX7 170 (mt 157).1 ∈ lw_tbl := List.mem_of_getElem? (i := 989) (by decide +kernel)
theorem wd_667 : Cond.code (mt 157).1 (mt 157).2.1 (mt 157).2.2.1 (mt 157).2.2.2 ∈ lw_tbl := List.mem_of_getElem? (i := 992) (by decide +kernel)
theorem wd_668 : Cond.initialized (mt 157).1.cls ∈ lw_tbl := List.mem_of_getElem? (i := 60) (by decide +kernel)
theorem mok_157 : MOK 157 0 := ⟨wd_667, wd_668, by decide +kernel, by decide +kernel, by decide +kernel, by decide +kernel⟩
theorem wd_669 : Cond.instanceMethod (mt 157).1 ∈ lw_tbl := List.mem_of_getElem? (i := 991) (by decide +kernel)
theorem wd_670 : Cond.selects (mt 157).1.cls (mt 157).1 (mt 157).1 ∈ lw_tbl := List.mem_of_getElem? (i := 38) (by decide +kernel)
theorem wd_671 : Cond.methodLink RX7 173 (mt 141).1 ∈ lw_tbl := List.mem_of_getElem? (i := 1009) (by decide +kernel)
theorem wd_672 : Cond.code (mt 141).1 (mt 141).2.1 (mt 141).2.2.1 (mt 141).2.2.2 ∈ lw_tbl := List.mem_of_getElem? (i := 1012) (by decide +kernel)
theorem wd_673 : Cond.initialized (mt 141).1.cls ∈ lw_tbl := List.mem_of_getElem? (i := 60) (by decide +kernel)
theorem mok_141 : MOK 141 0 := ⟨wd_672, wd_673, by decide +kernel, by decide +kernel, by decide +kernel, by decide +kernel⟩
theorem wd_674 : Cond.instanceMethod (mt 141).1 ∈ lw_tbl := List.mem_of_getElem? (i := 1011) (by decide +kernel)
theorem wd_675 : Cond.selects (mt 141).1.cls (mt 141).1 (mt 141).1 ∈ lw_tbl := List.mem_of_getElem? (i := 40) (by decide +kernel)
theorem wd_676 : Cond.methodLink RX7 176 (mt 161).1 ∈ lw_tbl := List.mem_of_getElem? (i := 1005) (by decide +kernel)
theorem wd_677 : Cond.code (mt 161).1 (mt 161).2.1 (mt 161).2.2.1 (mt 161).2.2.2 ∈ lw_tbl := List.mem_of_getElem? (i := 1008) (by decide +kernel)
theorem wd_678 : Cond.initialized (mt 161).1.cls ∈ lw_tbl := List.mem_of_getElem? (i := 60) (by decide +kernel)
theorem mok_161 : MOK 161 1 := ⟨wd_677, wd_678, by decide +kernel, by decide +kernel, by decide +kernel, by decide +kernel⟩
theorem wd_679 : Cond.instanceMethod (mt 161).1 ∈ lw_tbl := List.mem_of_getElem? (i := 1007) (by decide +kernel)
theorem wd_680 : Cond.selects (mt 161).1.cls (mt 161).1 (mt 161).1 ∈ lw_tbl := List.mem_of_getElem? (i := 39) (by decide +kernel)
theorem wd_681 : Cond.methodLink RX7 179 (mt 118).1 ∈ lw_tbl := List.mem_of_getElem? (i := 1021) (by decide +kernel)
theorem wd_682 : Cond.code (mt 118).1 (mt 118).2.1 (mt 118).2.2.1 (mt 118).2.2.2 ∈ lw_tbl := List.mem_of_getElem? (i := 1023) (by decide +kernel)
theorem wd_683 : Cond.initialized (mt 118).1.cls ∈ lw_tbl := List.mem_of_getElem? (i := 60) (by decide +kernel)
theorem mok_118 : MOK 118 2 := ⟨wd_682, wd_683, by decide +kernel, by decide +kernel, by decide +kernel, by decide +kernel⟩
theorem wd_684 : Cond.static (mt 118).1 ∈ lw_tbl := List.mem_of_getElem? (i := 1022) (by decide +kernel)
theorem wd_685 : Cond.methodLink RX7 183 (mt 163).1 ∈ lw_tbl := List.mem_of_getElem? (i := 1017) (by decide +kernel)
theorem wd_686 : Cond.code (mt 163).1 (mt 163).2.1 (mt 163).2.2.1 (mt 163).2.2.2 ∈ lw_tbl := List.mem_of_getElem? (i := 1020) (by decide +kernel)
theorem wd_687 : Cond.initialized (mt 163).1.cls ∈ lw_tbl := List.mem_of_getElem? (i := 60) (by decide +kernel)
theorem mok_163 : MOK 163 1 := ⟨wd_686, wd_687, by decide +kernel, by decide +kernel, by decide +kernel, by decide +kernel⟩
theorem wd_688 : Cond.instanceMethod (mt 163).1 ∈ lw_tbl := List.mem_of_getElem? (i := 1019) (by decide +kernel)
theorem wd_689 : Cond.selects (mt 163).1.cls (mt 163).1 (mt 163).1 ∈ lw_tbl := List.mem_of_getElem? (i := 41) (by decide +kernel)
theorem wd_690 : Cond.methodLink RX7 186 (mt 119).1 ∈ lw_tbl := List.mem_of_getElem? (i := 1028) (by decide +kernel)
theorem wd_691 : Cond.code (mt 119).1 (mt 119).2.1 (mt 119).2.2.1 (mt 119).2.2.2 ∈ lw_tbl := List.mem_of_getElem? (i := 1030) (by decide +kernel)
theorem wd_692 : Cond.initialized (mt 119).1.cls ∈ lw_tbl := List.mem_of_getElem? (i := 60) (by decide +kernel)
theorem mok_119 : MOK 119 1 := ⟨wd_691, wd_692, by decide +kernel, by decide +kernel, by decide +kernel, by decide +kernel⟩
theorem wd_693 : Cond.static (mt 119).1 ∈ lw_tbl := List.mem_of_getElem? (i := 1029) (by decide +kernel)
theorem wd_694 : Cond.constant RX7 189 1048576 ∈ lw_tbl := List.mem_of_getElem? (i := 1035) (by decide +kernel)
theorem wd_695 : Cond.methodLink RX7 190 (mt 169).1 ∈ lw_tbl := List.mem_of_getElem? (i := 1048) (by decide +kernel)
theorem wd_696 : Cond.code (mt 169).1 (mt 169).2.1 (mt 169).2.2.1 (mt 169).2.2.2 ∈ lw_tbl := List.mem_of_getElem? (i := 1051) (by decide +kernel)
theorem wd_697 : Cond.initialized (mt 169).1.cls ∈ lw_tbl := List.mem_of_getElem? (i := 60) (by decide +kernel)
theorem mok_169 : MOK 169 0 := ⟨wd_696, wd_697, by decide +kernel, by decide +kernel, by decide +kernel, by decide +kernel⟩
theorem wd_698 : Cond.instanceMethod (mt 169).1 ∈ lw_tbl := List.mem_of_getElem? (i := 1050) (by decide +kernel)
theorem wd_699 : Cond.selects (mt 169).1.cls (mt 169).1 (mt 169).1 ∈ lw_tbl := List.mem_of_getElem? (i := 42) (by decide +kernel)
theorem wd_700 : Cond.methodLink RX7 193 (mt 172).1 ∈ lw_tbl := List.mem_of_getElem? (i := 1064) (by decide +kernel)
theorem wd_701 : Cond.code (mt 172).1 (mt 172).2.1 (mt 172).2.2.1 (mt 172).2.2.2 ∈ lw_tbl := List.mem_of_getElem? (i := 1067) (by decide +kernel)
theorem wd_702 : Cond.initialized (mt 172).1.cls ∈ lw_tbl := List.mem_of_getElem? (i := 60) (by decide +kernel)
theorem mok_172 : MOK 172 2 := ⟨wd_701, wd_702, by decide +kernel, by decide +kernel, by decide +kernel, by decide +kernel⟩
theorem wd_703 : Cond.instanceMethod (mt 172).1 ∈ lw_tbl := List.mem_of_getElem? (i := 1066) (by decide +kernel)
theorem wd_704 : Cond.selects (mt 172).1.cls (mt 172).1 (mt 172).1 ∈ lw_tbl := List.mem_of_getElem? (i := 44) (by decide +kernel)
theorem wd_705 : Cond.methodLink RX7 196 (mt 173).1 ∈ lw_tbl := List.mem_of_getElem? (i := 1060) (by decide +kernel)
theorem wd_706 : Cond.code (mt 173).1 (mt 173).2.1 (mt 173).2.2.1 (mt 173).2.2.2 ∈ lw_tbl := List.mem_of_getElem? (i := 1063) (by decide +kernel)
theorem wd_707 : Cond.initialized (mt 173).1.cls ∈ lw_tbl := List.mem_of_getElem? (i := 60) (by decide +kernel)
theorem mok_173 : MOK 173 3 := ⟨wd_706, wd_707, by decide +kernel, by decide +kernel, by decide +kernel, by decide +kernel⟩
theorem wd_708 : Cond.instanceMethod (mt 173).1 ∈ lw_tbl := List.mem_of_getElem? (i := 1062) (by decide +kernel)
theorem wd_709 : Cond.selects (mt 173).1.cls (mt 173).1 (mt 173).1 ∈ lw_tbl := List.mem_of_getElem? (i := 43) (by decide +kernel)
theorem wd_710 : Cond.constantLong RX7 200 10 ∈ lw_tbl := List.mem_of_getElem? (i := 1072) (by decide +kernel)
theorem wd_711 : Cond.methodLink RX7 202 (mt 175).1 ∈ lw_tbl := List.mem_of_getElem? (i := 1073) (by decide +kernel)
theorem wd_712 : Cond.code (mt 175).1 (mt 175).2.1 (mt 175).2.2.1 (mt 175).2.2.2 ∈ lw_tbl := List.mem_of_getElem? (i := 1075) (by decide +kernel)
theorem wd_713 : Cond.initialized (mt 175).1.cls ∈ lw_tbl := List.mem_of_getElem? (i := 60) (by decide +kernel)
theorem mok_175 : MOK 175 2 := ⟨wd_712, wd_713, by decide +kernel, by decide +kernel, by decide +kernel, by decide +kernel⟩
theorem wd_714 : Cond.static (mt 175).1 ∈ lw_tbl := List.mem_of_getElem? (i := 1074) (by decide +kernel)
theorem wd_715 : Cond.constantLong RX7 206 7919 ∈ lw_tbl := List.mem_of_getElem? (i := 1080) (by decide +kernel)
theorem wd_716 : Cond.constantLong RX7 208 6151 ∈ lw_tbl := List.mem_of_getElem? (i := 1081) (by decide +kernel)
theorem wd_717 : Cond.constantLong RX7 210 65521 ∈ lw_tbl := List.mem_of_getElem? (i := 1082) (by decide +kernel)
theorem wd_718 : Cond.constantLong RX7 212 2 ∈ lw_tbl := List.mem_of_getElem? (i := 1083) (by decide +kernel)
theorem wd_719 : Cond.methodLink RX7 214 (mt 142).1 ∈ lw_tbl := List.mem_of_getElem? (i := 1096) (by decide +kernel)
theorem wd_720 : Cond.code (mt 142).1 (mt 142).2.1 (mt 142).2.2.1 (mt 142).2.2.2 ∈ lw_tbl := List.mem_of_getElem? (i := 1099) (by decide +kernel)
theorem wd_721 : Cond.initialized (mt 142).1.cls ∈ lw_tbl := List.mem_of_getElem? (i := 60) (by decide +kernel)
theorem mok_142 : MOK 142 0 := ⟨wd_720, wd_721, by decide +kernel, by decide +kernel, by decide +kernel, by decide +kernel⟩
theorem wd_722 : Cond.instanceMethod (mt 142).1 ∈ lw_tbl := List.mem_of_getElem? (i := 1098) (by decide +kernel)
theorem wd_723 : Cond.selects (mt 142).1.cls (mt 142).1 (mt 142).1 ∈ lw_tbl := List.mem_of_getElem? (i := 45) (by decide +kernel)
theorem wd_724 : Cond.constant RJ6 265 1431655765 ∈ lw_tbl := List.mem_of_getElem? (i := 503) (by decide +kernel)
theorem wd_725 : Cond.constant RJ6 266 858993459 ∈ lw_tbl := List.mem_of_getElem? (i := 504) (by decide +kernel)
theorem wd_726 : Cond.constant RJ6 267 252645135 ∈ lw_tbl := List.mem_of_getElem? (i := 505) (by decide +kernel)
