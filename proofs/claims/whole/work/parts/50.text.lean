/-! TEXT: the class's one text, and what the JDK's methods answer over it -/
abbrev cJ0_coder_7d493 : ByteArray := prog_12_method_152_code
def yJ0_coder_7d493 : MethodName := ⟨RJ0, "coder", "()B"⟩
abbrev cJ0_isLatin1_aae02 : ByteArray := prog_12_method_154_code
def yJ0_isLatin1_aae02 : MethodName := ⟨RJ0, "isLatin1", "()Z"⟩
abbrev cJ0_checkIndex_df160 : ByteArray := prog_12_method_155_code
def yJ0_checkIndex_df160 : MethodName := ⟨RJ0, "checkIndex", "(II)V"⟩
def RJ1 : String := "java/lang/StringLatin1"
abbrev cJ1_charAt_3b067 : ByteArray := prog_13_method_2_code
def yJ1_charAt_3b067 : MethodName := ⟨RJ1, "charAt", "([BI)C"⟩
def RJ3 : String := "jdk/internal/util/Preconditions"
abbrev cJ3_checkIndex_8e157 : ByteArray := prog_17_method_11_code
def yJ3_checkIndex_8e157 : MethodName := ⟨RJ3, "checkIndex", "(IILjava/util/function/BiFunction;)I"⟩
theorem dJ0_length_8abf5_0 : decode cJ0_length_8abf5 0 = .ok (.aload_n 0, 1) := by decide +kernel
theorem dJ0_length_8abf5_1 : decode cJ0_length_8abf5 1 = .ok (.getfield 9, 3) := by decide +kernel
theorem dJ0_length_8abf5_4 : decode cJ0_length_8abf5 4 = .ok (.arraylength, 1) := by decide +kernel
theorem dJ0_length_8abf5_5 : decode cJ0_length_8abf5 5 = .ok (.aload_n 0, 1) := by decide +kernel
theorem dJ0_length_8abf5_6 : decode cJ0_length_8abf5 6 = .ok (.invokevirtual 335, 3) := by decide +kernel
theorem dJ0_length_8abf5_9 : decode cJ0_length_8abf5 9 = .ok (.ishr, 1) := by decide +kernel
theorem dJ0_length_8abf5_10 : decode cJ0_length_8abf5 10 = .ok (.ireturn, 1) := by decide +kernel
theorem dJ0_charAt_5068e_0 : decode cJ0_charAt_5068e 0 = .ok (.aload_n 0, 1) := by decide +kernel
theorem dJ0_charAt_5068e_1 : decode cJ0_charAt_5068e 1 = .ok (.invokevirtual 492, 3) := by decide +kernel
theorem dJ0_charAt_5068e_4 : decode cJ0_charAt_5068e 4 = .ok (.ifCond .eq 12, 3) := by decide +kernel
theorem dJ0_charAt_5068e_7 : decode cJ0_charAt_5068e 7 = .ok (.aload_n 0, 1) := by decide +kernel
theorem dJ0_charAt_5068e_8 : decode cJ0_charAt_5068e 8 = .ok (.getfield 9, 3) := by decide +kernel
theorem dJ0_charAt_5068e_11 : decode cJ0_charAt_5068e 11 = .ok (.iload_n 1, 1) := by decide +kernel
theorem dJ0_charAt_5068e_12 : decode cJ0_charAt_5068e 12 = .ok (.invokestatic 495, 3) := by decide +kernel
theorem dJ0_charAt_5068e_15 : decode cJ0_charAt_5068e 15 = .ok (.ireturn, 1) := by decide +kernel
theorem dJ0_charAt_5068e_16 : decode cJ0_charAt_5068e 16 = .ok (.aload_n 0, 1) := by decide +kernel
theorem dJ0_charAt_5068e_17 : decode cJ0_charAt_5068e 17 = .ok (.getfield 9, 3) := by decide +kernel
theorem dJ0_charAt_5068e_20 : decode cJ0_charAt_5068e 20 = .ok (.iload_n 1, 1) := by decide +kernel
theorem dJ0_charAt_5068e_21 : decode cJ0_charAt_5068e 21 = .ok (.invokestatic 498, 3) := by decide +kernel
theorem dJ0_charAt_5068e_24 : decode cJ0_charAt_5068e 24 = .ok (.ireturn, 1) := by decide +kernel
theorem dJ0_coder_7d493_0 : decode cJ0_coder_7d493 0 = .ok (.getstatic 38, 3) := by decide +kernel
theorem dJ0_coder_7d493_3 : decode cJ0_coder_7d493 3 = .ok (.ifCond .eq 10, 3) := by decide +kernel
theorem dJ0_coder_7d493_6 : decode cJ0_coder_7d493 6 = .ok (.aload_n 0, 1) := by decide +kernel
theorem dJ0_coder_7d493_7 : decode cJ0_coder_7d493 7 = .ok (.getfield 15, 3) := by decide +kernel
theorem dJ0_coder_7d493_10 : decode cJ0_coder_7d493 10 = .ok (.goto 4, 3) := by decide +kernel
theorem dJ0_coder_7d493_13 : decode cJ0_coder_7d493 13 = .ok (.iconst 1, 1) := by decide +kernel
theorem dJ0_coder_7d493_14 : decode cJ0_coder_7d493 14 = .ok (.ireturn, 1) := by decide +kernel
theorem dJ0_isLatin1_aae02_0 : decode cJ0_isLatin1_aae02 0 = .ok (.getstatic 38, 3) := by decide +kernel
theorem dJ0_isLatin1_aae02_3 : decode cJ0_isLatin1_aae02 3 = .ok (.ifCond .eq 14, 3) := by decide +kernel
theorem dJ0_isLatin1_aae02_6 : decode cJ0_isLatin1_aae02 6 = .ok (.aload_n 0, 1) := by decide +kernel
theorem dJ0_isLatin1_aae02_7 : decode cJ0_isLatin1_aae02 7 = .ok (.getfield 15, 3) := by decide +kernel
theorem dJ0_isLatin1_aae02_10 : decode cJ0_isLatin1_aae02 10 = .ok (.ifCond .ne 7, 3) := by decide +kernel
theorem dJ0_isLatin1_aae02_13 : decode cJ0_isLatin1_aae02 13 = .ok (.iconst 1, 1) := by decide +kernel
theorem dJ0_isLatin1_aae02_14 : decode cJ0_isLatin1_aae02 14 = .ok (.goto 4, 3) := by decide +kernel
theorem dJ0_isLatin1_aae02_17 : decode cJ0_isLatin1_aae02 17 = .ok (.iconst 0, 1) := by decide +kernel
theorem dJ0_isLatin1_aae02_18 : decode cJ0_isLatin1_aae02 18 = .ok (.ireturn, 1) := by decide +kernel
theorem dJ0_checkIndex_df160_0 : decode cJ0_checkIndex_df160 0 = .ok (.iload_n 0, 1) := by decide +kernel
theorem dJ0_checkIndex_df160_1 : decode cJ0_checkIndex_df160 1 = .ok (.iload_n 1, 1) := by decide +kernel
theorem dJ0_checkIndex_df160_2 : decode cJ0_checkIndex_df160 2 = .ok (.getstatic 1053, 3) := by decide +kernel
theorem dJ0_checkIndex_df160_5 : decode cJ0_checkIndex_df160 5 = .ok (.invokestatic 1059, 3) := by decide +kernel
theorem dJ0_checkIndex_df160_8 : decode cJ0_checkIndex_df160 8 = .ok (.pop, 1) := by decide +kernel
theorem dJ0_checkIndex_df160_9 : decode cJ0_checkIndex_df160 9 = .ok (.return_, 1) := by decide +kernel
theorem dJ1_charAt_3b067_0 : decode cJ1_charAt_3b067 0 = .ok (.iload_n 1, 1) := by decide +kernel
theorem dJ1_charAt_3b067_1 : decode cJ1_charAt_3b067 1 = .ok (.aload_n 0, 1) := by decide +kernel
theorem dJ1_charAt_3b067_2 : decode cJ1_charAt_3b067 2 = .ok (.arraylength, 1) := by decide +kernel
theorem dJ1_charAt_3b067_3 : decode cJ1_charAt_3b067 3 = .ok (.invokestatic 9, 3) := by decide +kernel
theorem dJ1_charAt_3b067_6 : decode cJ1_charAt_3b067 6 = .ok (.aload_n 0, 1) := by decide +kernel
theorem dJ1_charAt_3b067_7 : decode cJ1_charAt_3b067 7 = .ok (.iload_n 1, 1) := by decide +kernel
theorem dJ1_charAt_3b067_8 : decode cJ1_charAt_3b067 8 = .ok (.baload, 1) := by decide +kernel
theorem dJ1_charAt_3b067_9 : decode cJ1_charAt_3b067 9 = .ok (.sipush 255, 3) := by decide +kernel
theorem dJ1_charAt_3b067_12 : decode cJ1_charAt_3b067 12 = .ok (.iand, 1) := by decide +kernel
theorem dJ1_charAt_3b067_13 : decode cJ1_charAt_3b067 13 = .ok (.i2c, 1) := by decide +kernel
theorem dJ1_charAt_3b067_14 : decode cJ1_charAt_3b067 14 = .ok (.ireturn, 1) := by decide +kernel
theorem dJ3_checkIndex_8e157_0 : decode cJ3_checkIndex_8e157 0 = .ok (.iload_n 0, 1) := by decide +kernel
theorem dJ3_checkIndex_8e157_1 : decode cJ3_checkIndex_8e157 1 = .ok (.ifCond .lt 8, 3) := by decide +kernel
theorem dJ3_checkIndex_8e157_4 : decode cJ3_checkIndex_8e157 4 = .ok (.iload_n 0, 1) := by decide +kernel
theorem dJ3_checkIndex_8e157_5 : decode cJ3_checkIndex_8e157 5 = .ok (.iload_n 1, 1) := by decide +kernel
theorem dJ3_checkIndex_8e157_6 : decode cJ3_checkIndex_8e157 6 = .ok (.if_icmp .lt 10, 3) := by decide +kernel
theorem dJ3_checkIndex_8e157_9 : decode cJ3_checkIndex_8e157 9 = .ok (.aload_n 2, 1) := by decide +kernel
theorem dJ3_checkIndex_8e157_10 : decode cJ3_checkIndex_8e157 10 = .ok (.iload_n 0, 1) := by decide +kernel
theorem dJ3_checkIndex_8e157_11 : decode cJ3_checkIndex_8e157 11 = .ok (.iload_n 1, 1) := by decide +kernel
theorem dJ3_checkIndex_8e157_12 : decode cJ3_checkIndex_8e157 12 = .ok (.invokestatic 95, 3) := by decide +kernel
theorem dJ3_checkIndex_8e157_15 : decode cJ3_checkIndex_8e157 15 = .ok (.athrow, 1) := by decide +kernel
theorem dJ3_checkIndex_8e157_16 : decode cJ3_checkIndex_8e157 16 = .ok (.iload_n 0, 1) := by decide +kernel
theorem dJ3_checkIndex_8e157_17 : decode cJ3_checkIndex_8e157 17 = .ok (.ireturn, 1) := by decide +kernel
theorem ws_55 : Cond.initialized "java/lang/String" ∈ lw_tbl := List.mem_of_getElem? (i := 55) (by decide +kernel)
theorem ws_56 : Cond.initialized "java/lang/StringLatin1" ∈ lw_tbl := List.mem_of_getElem? (i := 56) (by decide +kernel)
theorem ws_57 : Cond.initialized "jdk/internal/util/Preconditions" ∈ lw_tbl := List.mem_of_getElem? (i := 57) (by decide +kernel)
theorem ws_184 : Cond.stringRef RX6 59 "h0,1234;h1,5555;h2,0918;h3,7260;h0,4321;m3;q0,4;q2,7;" ∈ lw_tbl := List.mem_of_getElem? (i := 184) (by decide +kernel)
theorem ws_185 : Cond.methodLink RX6 61 yJ0_length_8abf5 ∈ lw_tbl := List.mem_of_getElem? (i := 185) (by decide +kernel)
theorem ws_186 : Cond.instanceMethod yJ0_length_8abf5 ∈ lw_tbl := List.mem_of_getElem? (i := 186) (by decide +kernel)
theorem ws_187 : Cond.selects RJ0 yJ0_length_8abf5 yJ0_length_8abf5 ∈ lw_tbl := List.mem_of_getElem? (i := 187) (by decide +kernel)
theorem ws_188 : Cond.code yJ0_length_8abf5 cJ0_length_8abf5 1 (some .int) ∈ lw_tbl := List.mem_of_getElem? (i := 188) (by decide +kernel)
theorem ws_189 : Cond.methodLink RJ0 335 yJ0_coder_7d493 ∈ lw_tbl := List.mem_of_getElem? (i := 189) (by decide +kernel)
theorem ws_190 : Cond.instanceMethod yJ0_coder_7d493 ∈ lw_tbl := List.mem_of_getElem? (i := 190) (by decide +kernel)
theorem ws_191 : Cond.selects RJ0 yJ0_coder_7d493 yJ0_coder_7d493 ∈ lw_tbl := List.mem_of_getElem? (i := 191) (by decide +kernel)
theorem ws_192 : Cond.code yJ0_coder_7d493 cJ0_coder_7d493 1 (some .byte) ∈ lw_tbl := List.mem_of_getElem? (i := 192) (by decide +kernel)
theorem ws_193 : Cond.fieldLink RJ0 38 "java/lang/String" "COMPACT_STRINGS" "Z" ∈ lw_tbl := List.mem_of_getElem? (i := 193) (by decide +kernel)
theorem ws_194 : Cond.laysStatic "java/lang/String" "COMPACT_STRINGS" "Z" ∈ lw_tbl := List.mem_of_getElem? (i := 194) (by decide +kernel)
theorem ws_195 : Cond.methodLink RX6 67 yJ0_charAt_5068e ∈ lw_tbl := List.mem_of_getElem? (i := 195) (by decide +kernel)
theorem ws_196 : Cond.instanceMethod yJ0_charAt_5068e ∈ lw_tbl := List.mem_of_getElem? (i := 196) (by decide +kernel)
theorem ws_197 : Cond.selects RJ0 yJ0_charAt_5068e yJ0_charAt_5068e ∈ lw_tbl := List.mem_of_getElem? (i := 197) (by decide +kernel)
theorem ws_198 : Cond.code yJ0_charAt_5068e cJ0_charAt_5068e 2 (some .char) ∈ lw_tbl := List.mem_of_getElem? (i := 198) (by decide +kernel)
theorem ws_199 : Cond.methodLink RJ0 492 yJ0_isLatin1_aae02 ∈ lw_tbl := List.mem_of_getElem? (i := 199) (by decide +kernel)
theorem ws_200 : Cond.instanceMethod yJ0_isLatin1_aae02 ∈ lw_tbl := List.mem_of_getElem? (i := 200) (by decide +kernel)
theorem ws_201 : Cond.selects RJ0 yJ0_isLatin1_aae02 yJ0_isLatin1_aae02 ∈ lw_tbl := List.mem_of_getElem? (i := 201) (by decide +kernel)
theorem ws_202 : Cond.code yJ0_isLatin1_aae02 cJ0_isLatin1_aae02 1 (some .boolean) ∈ lw_tbl := List.mem_of_getElem? (i := 202) (by decide +kernel)
theorem ws_203 : Cond.methodLink RJ0 495 yJ1_charAt_3b067 ∈ lw_tbl := List.mem_of_getElem? (i := 203) (by decide +kernel)
theorem ws_204 : Cond.static yJ1_charAt_3b067 ∈ lw_tbl := List.mem_of_getElem? (i := 204) (by decide +kernel)
theorem ws_205 : Cond.code yJ1_charAt_3b067 cJ1_charAt_3b067 2 (some .char) ∈ lw_tbl := List.mem_of_getElem? (i := 205) (by decide +kernel)
theorem ws_206 : Cond.methodLink RJ1 9 yJ0_checkIndex_df160 ∈ lw_tbl := List.mem_of_getElem? (i := 206) (by decide +kernel)
theorem ws_207 : Cond.static yJ0_checkIndex_df160 ∈ lw_tbl := List.mem_of_getElem? (i := 207) (by decide +kernel)
theorem ws_208 : Cond.code yJ0_checkIndex_df160 cJ0_checkIndex_df160 2 none ∈ lw_tbl := List.mem_of_getElem? (i := 208) (by decide +kernel)
theorem ws_209 : Cond.fieldLink RJ0 1053 "jdk/internal/util/Preconditions" "SIOOBE_FORMATTER" "Ljava/util/function/BiFunction;" ∈ lw_tbl := List.mem_of_getElem? (i := 209) (by decide +kernel)
theorem ws_210 : Cond.laysStatic "jdk/internal/util/Preconditions" "SIOOBE_FORMATTER" "Ljava/util/function/BiFunction;" ∈ lw_tbl := List.mem_of_getElem? (i := 210) (by decide +kernel)
theorem ws_211 : Cond.methodLink RJ0 1059 yJ3_checkIndex_8e157 ∈ lw_tbl := List.mem_of_getElem? (i := 211) (by decide +kernel)
theorem ws_212 : Cond.static yJ3_checkIndex_8e157 ∈ lw_tbl := List.mem_of_getElem? (i := 212) (by decide +kernel)
theorem ws_213 : Cond.code yJ3_checkIndex_8e157 cJ3_checkIndex_8e157 3 (some .int) ∈ lw_tbl := List.mem_of_getElem? (i := 213) (by decide +kernel)
theorem ws_1100 : Cond.fieldLink RJ0 9 "java/lang/String" "value" "[B" ∈ lw_tbl := List.mem_of_getElem? (i := 1100) (by decide +kernel)
theorem ws_1101 : Cond.fieldLink RJ0 15 "java/lang/String" "coder" "B" ∈ lw_tbl := List.mem_of_getElem? (i := 1101) (by decide +kernel)
def fbN : List Nat := [104, 48, 44, 49, 50, 51, 52, 59, 104, 49, 44, 53, 53, 53, 53, 59, 104, 50, 44, 48, 57, 49, 56, 59, 104, 51, 44, 55, 50, 54, 48, 59, 104, 48, 44, 52, 51, 50, 49, 59, 109, 51, 59, 113, 48, 44, 52, 59, 113, 50, 44, 55, 59]
def fbC (k : Nat) : Int32 := nI (fbN.getD k 0)
def fby : List Int32 := fbN.map nI
theorem fb_len : fbN.length = 53 := by decide
theorem fb_get : ∀ k, k < 53 → fby.getD k 0 = fbC k := by decide +kernel
theorem fb_ch : ∀ k, k < 53 → ((fbC k &&& 255).toUInt32 % 65536).toInt32 = fbC k := by decide +kernel
theorem fb_nar {k : Nat} (h : k < 53) : narrow .char (.int (fbC k)) = .int (fbC k) := (pk_charN (q := fbN.getD k 0) (by
  have : ∀ k, k < 53 → fbN.getD k 0 < 65536 := by decide +kernel
  exact this k h)).1
/-- the text's cells, the statics read on the way -/
def SFU (K V : Nat) (Fm : Value) (A : Nat → Prop) (U : State) : Prop := vk_S 1 [53] [fby] (fun _ => K) (fun _ => V) A U U.heap ∧ va_Z "java/lang/String" "COMPACT_STRINGS" "Z" (.int 1) A U U.heap ∧ va_Z "jdk/internal/util/Preconditions" "SIOOBE_FORMATTER" "Ljava/util/function/BiFunction;" Fm A U U.heap ∧ (Fm = .null ∨ ∃ t, Fm = .ref t)
theorem SFU.same {K V : Nat} {Fm : Value} {A : Nat → Prop} {u U : State} (hvm : u.vm.Alike U.vm) (hh : U.heap = u.heap) (h : SFU K V Fm A u) : SFU K V Fm A U := by
  unfold SFU at h ⊢
  rw [hh]
  exact ⟨vk_S.moved hvm h.1, va_Z.moved hvm h.2.1, va_Z.moved hvm h.2.2.1, h.2.2.2⟩
theorem SFU.blind {K V : Nat} {Fm : Value} {A : Nat → Prop} {av : List Value} : FrameBlind (va_Pc av (SFU K V Fm A)) := fun a U g mk q => ⟨q.1, SFU.same (u := U) (U := U.calling g mk a) (Vm.Alike.refl U.vm) rfl q.2⟩
theorem SFU.go {K V : Nat} {Fm : Value} {A B : Nat → Prop} {s U : State} {H : Heap} {locs : List Loc} (h : SFU K V Fm A s) (hS : va_S A s.heap H locs) (hB : ∀ q, B q → A q) (hU : U.heap = H) (hW : s.WarmedH U.vm) : SFU K V Fm B U := by
  unfold SFU at h ⊢
  rw [hU]
  exact ⟨((vk_S.moved hW.alike h.1).kept hS.2.1).narrow hB, ((va_Z.moved hW.alike h.2.1).kept hS.2.1).narrow hB, ((va_Z.moved hW.alike h.2.2.1).kept hS.2.1).narrow hB, h.2.2.2⟩
abbrev nF : Nat → Prop := fun _ => False
abbrev jM (l : Launch) (y : MethodName) (cc : ByteArray) (mL : Nat) (ret : Option FieldType) (d : Nat) (av : List Value) (B : State → Prop) (Qc : Array Value → State → Outcome → State → Prop) : Prop := Met l y (.code y cc mL ret :: gtbl) (rmD d 0 0) (va_Pc av B) Qc 0 0 nF
abbrev qI (r : Int32) : Array Value → State → Outcome → State → Prop := va_Sr (fun _ => True) (fun _ => .int r)
theorem jw_in {y : MethodName} {cc : ByteArray} {mL : Nat} {ret : Option FieldType} (h : Cond.code y cc mL ret ∈ lw_tbl) : ∀ w ∈ (.code y cc mL ret :: gtbl : List Cond), w ∈ gtbl := fun w hw => (List.mem_cons.mp hw).elim (fun e => by rw [e]; exact gt_in h rfl) (fun z => z)
section JC
variable {p : Program} {l : Launch} {e : Env} {R : Room} {s : State} {m : MethodId} {args : Array Value} {below : List Frame} {meth : Method} {c : Code} {H : Heap} {locs : List Loc} {cells slots : Nat} {Q : State → Prop} {cc bytes : ByteArray} {nL maxL idx n d pc : Nat} {own : String} {y : MethodName} {ret : Option FieldType} {b : Nat} {As rest : List Value} {r : Int32} {B : State → Prop} {ls : Array Slot} {Qc : Array Value → State → Outcome → State → Prop}
/-- a call that changes nothing, on an object -/
theorem jv_call (S : CallFix p m c cc nL s args gtbl own) (hM : jM l y bytes maxL ret d (.ref b :: As) B Qc) (h1 : Cond.methodLink own idx y ∈ lw_tbl) (h2 : Cond.instanceMethod y ∈ lw_tbl) (h3 : Cond.selects y.cls y y ∈ lw_tbl) (h4 : Cond.initialized y.cls ∈ lw_tbl) (h5 : Cond.code y bytes maxL ret ∈ lw_tbl) (hd : y.cls ≠ "java/lang/invoke/MethodHandle" ∧ y.cls ≠ "java/lang/invoke/VarHandle" ∧ (parseMethodDescriptor y.desc).map (fun d => d.parameters.length) = some n) (hR : d + 1 ≤ R.frames ∧ 8 + (maxL + 11) + 40 * d ≤ R.locals)
    (hp : PreV s H y.cls b (va_Pc (.ref b :: As) B) As) (hn : As.length = n) (hsize : ls.size = nL) (hW : (rest.map fun v => v.category).sum ≤ 8) (hdg : decode cc pc = .ok (.invokevirtual idx, 3)) (hf : cells ≤ R.cells ∧ slots ≤ R.slots) : CallRun p l e R s m args below meth c H locs cells slots 0 0 (F0 m pc ls (As.reverse ++ .ref b :: rest)) rest (Qc (Value.ref b :: As).toArray) nF := by
  refine W.runV (C := y.cls) (rm := rmD d 0 0) S hM (cwV n S.2.2.2.2 (gi (fun w hw => ?_)) rfl rfl rfl ⟨rfl, hd⟩ ?_) hp rfl hn hsize rfl ?_ hdg ?_
  · rcases List.mem_append.mp hw with z | z
    · simp only [List.mem_cons, List.not_mem_nil, or_false] at z
      rcases z with rfl | rfl | rfl | rfl
      · exact gt_in h1 rfl
      · exact gt_in h2 rfl
      · exact gt_in h3 rfl
      · exact gt_in h4 rfl
    · exact jw_in h5 w z
  · exact hR
  · show 2 * 0 + _ ≤ 8
    omega
  · exact hf
theorem js_call (S : CallFix p m c cc nL s args gtbl own) (hM : jM l y bytes maxL ret d As B Qc) (h1 : Cond.methodLink own idx y ∈ lw_tbl) (h2 : Cond.static y ∈ lw_tbl) (h4 : Cond.initialized y.cls ∈ lw_tbl) (h5 : Cond.code y bytes maxL ret ∈ lw_tbl) (hd : y.cls ≠ "java/lang/invoke/MethodHandle" ∧ y.cls ≠ "java/lang/invoke/VarHandle" ∧ (parseMethodDescriptor y.desc).map (fun d => d.parameters.length) = some n) (hR : d + 1 ≤ R.frames ∧ 8 + (maxL + 11) + 40 * d ≤ R.locals)
    (hp : PreS s H (va_Pc As B) As) (hn : As.length = n) (hsize : ls.size = nL) (hW : (rest.map fun v => v.category).sum ≤ 8) (hdg : decode cc pc = .ok (.invokestatic idx, 3)) (hf : cells ≤ R.cells ∧ slots ≤ R.slots) : CallRun p l e R s m args below meth c H locs cells slots 0 0 (F0 m pc ls (As.reverse ++ rest)) rest (Qc As.toArray) nF := by
  refine W.runS (rm := rmD d 0 0) S hM (va_cwS n S.2.2.2.2 (gi (fun w hw => ?_)) rfl rfl rfl hd ?_) hp rfl hn hsize rfl ?_ hdg ?_
  · rcases List.mem_append.mp hw with z | z
    · simp only [List.mem_cons, List.not_mem_nil, or_false] at z
      rcases z with rfl | rfl | rfl
      · exact gt_in h1 rfl
      · exact gt_in h2 rfl
      · exact gt_in h4 rfl
    · exact jw_in h5 w z
  · exact hR
  · show 2 * 0 + _ ≤ 8
    omega
  · exact hf
end JC
theorem j_coder (l : Launch) (K V : Nat) (Fm : Value) : jM l yJ0_coder_7d493 cJ0_coder_7d493 1 (some .byte) 0 [.ref K] (SFU K V Fm nF) (qI 0) := by
  refine Met.ofW (cc := cJ0_coder_7d493) (maxL := 1) (ret := (some .byte)) (by decide +kernel) rfl ?_
  intro p e s m args below meth c s₁ B hml hv
  obtain ⟨rfl, hZ⟩ := hv
  have hx := B.exec
  have hb := B.bytes
  have hr := B.returns
  have hts : ∀ w ∈ gtbl, w.before ([.ref K] : List Value).toArray s = true := fun w hw => atoms_spec (ws := .code yJ0_coder_7d493 cJ0_coder_7d493 1 (some .byte) :: gtbl) B.pre w (List.mem_cons_of_mem _ hw)
  have hown : s.vm.findClass RJ0 = some m.cls := findClass_of_methodNamed B.named
  have hlocks := B.notSynchronized
  have hS : va_S nF s.heap s.heap [] := va_S.rf
  have hC : CallFix p m c cJ0_coder_7d493 1 s ([.ref K] : List Value).toArray gtbl RJ0 := ⟨hx, hb, hml, hown, hts⟩
  have hl := lv_entry ([.ref K]) (n := 1) (Nat.le_of_ble_eq_true rfl)
  rw [lg_entry_eq]
  generalize (lg_sl ([.ref K]) ++ List.replicate (1 - (lg_sl ([.ref K])).length) Slot.unset).toArray = ls at hl ⊢
  have hl : lv_has ls 1 [(0, .ref K)] := hl
  refine va_gets hx hb hZ.2.1 hS hown (hts _ (gt_in ws_193 rfl)) (fun _ h => h) dJ0_coder_7d493_0 ?_
  refine lv_if_eq hx hb (tgt := 13) dJ0_coder_7d493_3 rfl (fun h => absurd h (by decide)) (fun _ => ?_)
  refine lv_aload_n hx hb dJ0_coder_7d493_6 rfl (lv_at hl 0 rfl) ?_
  refine vk_getf hx hb (hZ.1.1 0 (by decide)).2.1 hS hown (hts _ (gt_in ws_1101 rfl)) (fun _ h => h) dJ0_coder_7d493_7 ?_
  refine lv_goto hx hb (tgt := 14) dJ0_coder_7d493_10 rfl ?_
  exact W.zret hx hb hr rfl (fun t ht hW => ⟨0, rfl, trivial, ht⟩) (fun q hq => absurd hq List.not_mem_nil) dJ0_coder_7d493_14
theorem j_isLatin1 (l : Launch) (K V : Nat) (Fm : Value) : jM l yJ0_isLatin1_aae02 cJ0_isLatin1_aae02 1 (some .boolean) 0 [.ref K] (SFU K V Fm nF) (qI 1) := by
  refine Met.ofW (cc := cJ0_isLatin1_aae02) (maxL := 1) (ret := (some .boolean)) (by decide +kernel) rfl ?_
  intro p e s m args below meth c s₁ B hml hv
  obtain ⟨rfl, hZ⟩ := hv
  have hx := B.exec
  have hb := B.bytes
  have hr := B.returns
  have hts : ∀ w ∈ gtbl, w.before ([.ref K] : List Value).toArray s = true := fun w hw => atoms_spec (ws := .code yJ0_isLatin1_aae02 cJ0_isLatin1_aae02 1 (some .boolean) :: gtbl) B.pre w (List.mem_cons_of_mem _ hw)
  have hown : s.vm.findClass RJ0 = some m.cls := findClass_of_methodNamed B.named
  have hlocks := B.notSynchronized
  have hS : va_S nF s.heap s.heap [] := va_S.rf
  have hC : CallFix p m c cJ0_isLatin1_aae02 1 s ([.ref K] : List Value).toArray gtbl RJ0 := ⟨hx, hb, hml, hown, hts⟩
  have hl := lv_entry ([.ref K]) (n := 1) (Nat.le_of_ble_eq_true rfl)
  rw [lg_entry_eq]
  generalize (lg_sl ([.ref K]) ++ List.replicate (1 - (lg_sl ([.ref K])).length) Slot.unset).toArray = ls at hl ⊢
  have hl : lv_has ls 1 [(0, .ref K)] := hl
  refine va_gets hx hb hZ.2.1 hS hown (hts _ (gt_in ws_193 rfl)) (fun _ h => h) dJ0_isLatin1_aae02_0 ?_
  refine lv_if_eq hx hb (tgt := 17) dJ0_isLatin1_aae02_3 rfl (fun h => absurd h (by decide)) (fun _ => ?_)
  refine lv_aload_n hx hb dJ0_isLatin1_aae02_6 rfl (lv_at hl 0 rfl) ?_
  refine vk_getf hx hb (hZ.1.1 0 (by decide)).2.1 hS hown (hts _ (gt_in ws_1101 rfl)) (fun _ h => h) dJ0_isLatin1_aae02_7 ?_
  refine lv_if_ne hx hb (tgt := 17) dJ0_isLatin1_aae02_10 rfl (fun h => absurd rfl h) (fun _ => ?_)
  refine lv_iconst hx hb dJ0_isLatin1_aae02_13 (v := 1) rfl ?_
  refine lv_goto hx hb (tgt := 18) dJ0_isLatin1_aae02_14 rfl ?_
  exact W.zret hx hb hr rfl (fun t ht hW => ⟨0, rfl, trivial, ht⟩) (fun q hq => absurd hq List.not_mem_nil) dJ0_isLatin1_aae02_18
theorem j_length (l : Launch) (K V : Nat) (Fm : Value) : jM l yJ0_length_8abf5 cJ0_length_8abf5 1 (some .int) 1 [.ref K] (SFU K V Fm nF) (qI 53) := by
  refine Met.ofW (cc := cJ0_length_8abf5) (maxL := 1) (ret := (some .int)) (by decide +kernel) rfl ?_
  intro p e s m args below meth c s₁ B hml hv
  obtain ⟨rfl, hZ⟩ := hv
  have hx := B.exec
  have hb := B.bytes
  have hr := B.returns
  have hts : ∀ w ∈ gtbl, w.before ([.ref K] : List Value).toArray s = true := fun w hw => atoms_spec (ws := .code yJ0_length_8abf5 cJ0_length_8abf5 1 (some .int) :: gtbl) B.pre w (List.mem_cons_of_mem _ hw)
  have hown : s.vm.findClass RJ0 = some m.cls := findClass_of_methodNamed B.named
  have hlocks := B.notSynchronized
  have hS : va_S nF s.heap s.heap [] := va_S.rf
  have hC : CallFix p m c cJ0_length_8abf5 1 s ([.ref K] : List Value).toArray gtbl RJ0 := ⟨hx, hb, hml, hown, hts⟩
  have hl := lv_entry ([.ref K]) (n := 1) (Nat.le_of_ble_eq_true rfl)
  rw [lg_entry_eq]
  generalize (lg_sl ([.ref K]) ++ List.replicate (1 - (lg_sl ([.ref K])).length) Slot.unset).toArray = ls at hl ⊢
  have hl : lv_has ls 1 [(0, .ref K)] := hl
  refine lv_aload_n hx hb dJ0_length_8abf5_0 rfl (lv_at hl 0 rfl) ?_
  refine vk_getf hx hb (hZ.1.1 0 (by decide)).2.2.1 hS hown (hts _ (gt_in ws_1100 rfl)) (fun _ h => h) dJ0_length_8abf5_1 ?_
  refine va_tlen hx hb (hZ.1.1 0 (by decide)).2.2.2 hS (v := 53) rfl dJ0_length_8abf5_4 ?_
  refine lv_aload_n hx hb dJ0_length_8abf5_5 rfl (lv_at hl 0 rfl) ?_
  refine va_csr (jv_call (n := 0) hC (j_coder l K V Fm) ws_189 ws_190 ws_191 ws_55 ws_192 ⟨by decide +kernel, by decide +kernel, by decide +kernel⟩ ⟨Nat.le_of_ble_eq_true rfl, Nat.le_of_ble_eq_true rfl⟩ ⟨SFU.blind, vk_recv hZ.1 (i := 0) (by decide) hS, fun U hU hW => ⟨rfl, hZ.go hS (fun _ h => h) hU hW⟩⟩ rfl hl.1 (Nat.le_of_ble_eq_true rfl) dJ0_length_8abf5_6 ⟨Nat.le_refl _, Nat.le_refl _⟩) (fun _ _ => ?_)
  refine lv_ishr hx hb dJ0_length_8abf5_9 ?_
  exact W.iret hx hb hr (fun t ht hW => ⟨0, by rw [show (53 : Int32) >>> ((0 : Int32) &&& 31) = 53 by decide], trivial, ht⟩) (fun q hq => absurd hq List.not_mem_nil) dJ0_length_8abf5_10
theorem j_pck_n (l : Launch) (K V f k : Nat) (Fm : Value) (hk : k < 53) : jM l yJ3_checkIndex_8e157 cJ3_checkIndex_8e157 3 (some .int) 0 [.int (nI k), .int 53, .null] (SFU K V Fm nF) (qI (nI k)) := by
  refine Met.ofW (cc := cJ3_checkIndex_8e157) (maxL := 3) (ret := (some .int)) (by decide +kernel) rfl ?_
  intro p e s m args below meth c s₁ B hml hv
  obtain ⟨rfl, hZ⟩ := hv
  have hx := B.exec
  have hb := B.bytes
  have hr := B.returns
  have hts : ∀ w ∈ gtbl, w.before ([.int (nI k), .int 53, .null] : List Value).toArray s = true := fun w hw => atoms_spec (ws := .code yJ3_checkIndex_8e157 cJ3_checkIndex_8e157 3 (some .int) :: gtbl) B.pre w (List.mem_cons_of_mem _ hw)
  have hown : s.vm.findClass RJ3 = some m.cls := findClass_of_methodNamed B.named
  have hlocks := B.notSynchronized
  have hS : va_S nF s.heap s.heap [] := va_S.rf
  have hC : CallFix p m c cJ3_checkIndex_8e157 3 s ([.int (nI k), .int 53, .null] : List Value).toArray gtbl RJ3 := ⟨hx, hb, hml, hown, hts⟩
  have hl := lv_entry ([.int (nI k), .int 53, .null]) (n := 3) (Nat.le_of_ble_eq_true rfl)
  rw [lg_entry_eq]
  generalize (lg_sl ([.int (nI k), .int 53, .null]) ++ List.replicate (3 - (lg_sl ([.int (nI k), .int 53, .null])).length) Slot.unset).toArray = ls at hl ⊢
  have hl : lv_has ls 3 [(0, .int (nI k)), (1, .int 53), (2, .null)] := hl
  refine lv_iload_n hx hb dJ3_checkIndex_8e157_0 rfl (lv_at hl 0 rfl) ?_
  refine lv_if_lt hx hb (tgt := 9) dJ3_checkIndex_8e157_1 rfl (fun h => absurd h (nI_pos (by omega))) (fun _ => ?_)
  refine lv_iload_n hx hb dJ3_checkIndex_8e157_4 rfl (lv_at hl 0 rfl) ?_
  refine lv_iload_n hx hb dJ3_checkIndex_8e157_5 rfl (lv_at hl 1 rfl) ?_
  refine lv_icmp_lt hx hb (tgt := 16) dJ3_checkIndex_8e157_6 rfl (fun _ => ?_) (fun h => absurd (nI_lt (b := 53) hk (by omega)) h)
  refine lv_iload_n hx hb dJ3_checkIndex_8e157_16 rfl (lv_at hl 0 rfl) ?_
  exact W.iret hx hb hr (fun t ht hW => ⟨0, rfl, trivial, ht⟩) (fun q hq => absurd hq List.not_mem_nil) dJ3_checkIndex_8e157_17
theorem j_pck_r (l : Launch) (K V f k : Nat) (Fm : Value) (hk : k < 53) : jM l yJ3_checkIndex_8e157 cJ3_checkIndex_8e157 3 (some .int) 0 [.int (nI k), .int 53, .ref f] (SFU K V Fm nF) (qI (nI k)) := by
  refine Met.ofW (cc := cJ3_checkIndex_8e157) (maxL := 3) (ret := (some .int)) (by decide +kernel) rfl ?_
  intro p e s m args below meth c s₁ B hml hv
  obtain ⟨rfl, hZ⟩ := hv
  have hx := B.exec
  have hb := B.bytes
  have hr := B.returns
  have hts : ∀ w ∈ gtbl, w.before ([.int (nI k), .int 53, .ref f] : List Value).toArray s = true := fun w hw => atoms_spec (ws := .code yJ3_checkIndex_8e157 cJ3_checkIndex_8e157 3 (some .int) :: gtbl) B.pre w (List.mem_cons_of_mem _ hw)
  have hown : s.vm.findClass RJ3 = some m.cls := findClass_of_methodNamed B.named
  have hlocks := B.notSynchronized
  have hS : va_S nF s.heap s.heap [] := va_S.rf
  have hC : CallFix p m c cJ3_checkIndex_8e157 3 s ([.int (nI k), .int 53, .ref f] : List Value).toArray gtbl RJ3 := ⟨hx, hb, hml, hown, hts⟩
  have hl := lv_entry ([.int (nI k), .int 53, .ref f]) (n := 3) (Nat.le_of_ble_eq_true rfl)
  rw [lg_entry_eq]
  generalize (lg_sl ([.int (nI k), .int 53, .ref f]) ++ List.replicate (3 - (lg_sl ([.int (nI k), .int 53, .ref f])).length) Slot.unset).toArray = ls at hl ⊢
  have hl : lv_has ls 3 [(0, .int (nI k)), (1, .int 53), (2, .ref f)] := hl
  refine lv_iload_n hx hb dJ3_checkIndex_8e157_0 rfl (lv_at hl 0 rfl) ?_
  refine lv_if_lt hx hb (tgt := 9) dJ3_checkIndex_8e157_1 rfl (fun h => absurd h (nI_pos (by omega))) (fun _ => ?_)
  refine lv_iload_n hx hb dJ3_checkIndex_8e157_4 rfl (lv_at hl 0 rfl) ?_
  refine lv_iload_n hx hb dJ3_checkIndex_8e157_5 rfl (lv_at hl 1 rfl) ?_
  refine lv_icmp_lt hx hb (tgt := 16) dJ3_checkIndex_8e157_6 rfl (fun _ => ?_) (fun h => absurd (nI_lt (b := 53) hk (by omega)) h)
  refine lv_iload_n hx hb dJ3_checkIndex_8e157_16 rfl (lv_at hl 0 rfl) ?_
  exact W.iret hx hb hr (fun t ht hW => ⟨0, rfl, trivial, ht⟩) (fun q hq => absurd hq List.not_mem_nil) dJ3_checkIndex_8e157_17
theorem j_cki (l : Launch) (K V k : Nat) (Fm : Value) (hk : k < 53) : jM l yJ0_checkIndex_df160 cJ0_checkIndex_df160 2 none 1 [.int (nI k), .int 53] (SFU K V Fm nF) (va_Sv (fun _ => True)) := by
  refine Met.ofW (cc := cJ0_checkIndex_df160) (maxL := 2) (ret := none) (by decide +kernel) rfl ?_
  intro p e s m args below meth c s₁ B hml hv
  obtain ⟨rfl, hZ⟩ := hv
  have hx := B.exec
  have hb := B.bytes
  have hr := B.returns
  have hts : ∀ w ∈ gtbl, w.before ([.int (nI k), .int 53] : List Value).toArray s = true := fun w hw => atoms_spec (ws := .code yJ0_checkIndex_df160 cJ0_checkIndex_df160 2 none :: gtbl) B.pre w (List.mem_cons_of_mem _ hw)
  have hown : s.vm.findClass RJ0 = some m.cls := findClass_of_methodNamed B.named
  have hlocks := B.notSynchronized
  have hS : va_S nF s.heap s.heap [] := va_S.rf
  have hC : CallFix p m c cJ0_checkIndex_df160 2 s ([.int (nI k), .int 53] : List Value).toArray gtbl RJ0 := ⟨hx, hb, hml, hown, hts⟩
  have hl := lv_entry ([.int (nI k), .int 53]) (n := 2) (Nat.le_of_ble_eq_true rfl)
  rw [lg_entry_eq]
  generalize (lg_sl ([.int (nI k), .int 53]) ++ List.replicate (2 - (lg_sl ([.int (nI k), .int 53])).length) Slot.unset).toArray = ls at hl ⊢
  have hl : lv_has ls 2 [(0, .int (nI k)), (1, .int 53)] := hl
  refine lv_iload_n hx hb dJ0_checkIndex_df160_0 rfl (lv_at hl 0 rfl) ?_
  refine lv_iload_n hx hb dJ0_checkIndex_df160_1 rfl (lv_at hl 1 rfl) ?_
  refine va_gets hx hb hZ.2.2.1 hS hown (hts _ (gt_in ws_209 rfl)) (fun _ h => h) dJ0_checkIndex_df160_2 ?_
  rcases hZ.2.2.2 with rfl | ⟨f, rfl⟩
  · refine va_csr (js_call (n := 3) (As := [.int (nI k), .int 53, .null]) hC (j_pck_n l K V 0 k .null hk) ws_211 ws_212 ws_57 ws_213 ⟨by decide +kernel, by decide +kernel, by decide +kernel⟩ ⟨Nat.le_of_ble_eq_true rfl, Nat.le_of_ble_eq_true rfl⟩ ⟨SFU.blind, fun U hU hW => ⟨rfl, hZ.go hS (fun _ h => h) hU hW⟩⟩ rfl hl.1 (Nat.le_of_ble_eq_true rfl) dJ0_checkIndex_df160_5 ⟨Nat.le_refl _, Nat.le_refl _⟩) (fun _ _ => ?_)
    refine lv_pop hx hb dJ0_checkIndex_df160_8 rfl ?_
    exact W.vret hx hb hr (fun t ht hW => ⟨rfl, trivial, ht⟩) (fun q hq => absurd hq List.not_mem_nil) dJ0_checkIndex_df160_9
  · refine va_csr (js_call (n := 3) (As := [.int (nI k), .int 53, .ref f]) hC (j_pck_r l K V f k (.ref f) hk) ws_211 ws_212 ws_57 ws_213 ⟨by decide +kernel, by decide +kernel, by decide +kernel⟩ ⟨Nat.le_of_ble_eq_true rfl, Nat.le_of_ble_eq_true rfl⟩ ⟨SFU.blind, fun U hU hW => ⟨rfl, hZ.go hS (fun _ h => h) hU hW⟩⟩ rfl hl.1 (Nat.le_of_ble_eq_true rfl) dJ0_checkIndex_df160_5 ⟨Nat.le_refl _, Nat.le_refl _⟩) (fun _ _ => ?_)
    refine lv_pop hx hb dJ0_checkIndex_df160_8 rfl ?_
    exact W.vret hx hb hr (fun t ht hW => ⟨rfl, trivial, ht⟩) (fun q hq => absurd hq List.not_mem_nil) dJ0_checkIndex_df160_9
theorem j_lch (l : Launch) (K V k : Nat) (Fm : Value) (hk : k < 53) : jM l yJ1_charAt_3b067 cJ1_charAt_3b067 2 (some .char) 2 [.ref V, .int (nI k)] (SFU K V Fm nF) (qI (fbC k)) := by
  refine Met.ofW (cc := cJ1_charAt_3b067) (maxL := 2) (ret := (some .char)) (by decide +kernel) rfl ?_
  intro p e s m args below meth c s₁ B hml hv
  obtain ⟨rfl, hZ⟩ := hv
  have hx := B.exec
  have hb := B.bytes
  have hr := B.returns
  have hts : ∀ w ∈ gtbl, w.before ([.ref V, .int (nI k)] : List Value).toArray s = true := fun w hw => atoms_spec (ws := .code yJ1_charAt_3b067 cJ1_charAt_3b067 2 (some .char) :: gtbl) B.pre w (List.mem_cons_of_mem _ hw)
  have hown : s.vm.findClass RJ1 = some m.cls := findClass_of_methodNamed B.named
  have hlocks := B.notSynchronized
  have hS : va_S nF s.heap s.heap [] := va_S.rf
  have hC : CallFix p m c cJ1_charAt_3b067 2 s ([.ref V, .int (nI k)] : List Value).toArray gtbl RJ1 := ⟨hx, hb, hml, hown, hts⟩
  have hl := lv_entry ([.ref V, .int (nI k)]) (n := 2) (Nat.le_of_ble_eq_true rfl)
  rw [lg_entry_eq]
  generalize (lg_sl ([.ref V, .int (nI k)]) ++ List.replicate (2 - (lg_sl ([.ref V, .int (nI k)])).length) Slot.unset).toArray = ls at hl ⊢
  have hl : lv_has ls 2 [(0, .ref V), (1, .int (nI k))] := hl
  refine lv_iload_n hx hb dJ1_charAt_3b067_0 rfl (lv_at hl 1 rfl) ?_
  refine lv_aload_n hx hb dJ1_charAt_3b067_1 rfl (lv_at hl 0 rfl) ?_
  refine va_tlen hx hb (hZ.1.1 0 (by decide)).2.2.2 hS (v := 53) rfl dJ1_charAt_3b067_2 ?_
  refine va_csv (js_call (n := 2) (As := [.int (nI k), .int 53]) hC (j_cki l K V k Fm hk) ws_206 ws_207 ws_55 ws_208 ⟨by decide +kernel, by decide +kernel, by decide +kernel⟩ ⟨Nat.le_of_ble_eq_true rfl, Nat.le_of_ble_eq_true rfl⟩ ⟨SFU.blind, fun U hU hW => ⟨rfl, hZ.go hS (fun _ h => h) hU hW⟩⟩ rfl hl.1 (Nat.le_of_ble_eq_true rfl) dJ1_charAt_3b067_3 ⟨Nat.le_refl _, Nat.le_refl _⟩) (fun _ => ?_)
  refine lv_aload_n hx hb dJ1_charAt_3b067_6 rfl (lv_at hl 0 rfl) ?_
  refine lv_iload_n hx hb dJ1_charAt_3b067_7 rfl (lv_at hl 1 rfl) ?_
  refine va_tb hx hb (hZ.1.1 0 (by decide)).2.2.2 hS (nI_in hk (by show 53 < 2 ^ 31; omega)) (v := .int (fbC k)) (by rw [nI_clamp (by omega)]; exact congrArg Value.int (fb_get k hk)) dJ1_charAt_3b067_8 ?_
  refine lv_sipush hx hb dJ1_charAt_3b067_9 (v := 255) rfl ?_
  refine lv_iand hx hb dJ1_charAt_3b067_12 ?_
  refine lv_i2c hx hb dJ1_charAt_3b067_13 (fb_ch k hk) ?_
  exact W.zret hx hb hr (fb_nar hk) (fun t ht hW => ⟨0, rfl, trivial, ht⟩) (fun q hq => absurd hq List.not_mem_nil) dJ1_charAt_3b067_14
theorem j_charAt (l : Launch) (K V k : Nat) (Fm : Value) (hk : k < 53) : jM l yJ0_charAt_5068e cJ0_charAt_5068e 2 (some .char) 3 [.ref K, .int (nI k)] (SFU K V Fm nF) (qI (fbC k)) := by
  refine Met.ofW (cc := cJ0_charAt_5068e) (maxL := 2) (ret := (some .char)) (by decide +kernel) rfl ?_
  intro p e s m args below meth c s₁ B hml hv
  obtain ⟨rfl, hZ⟩ := hv
  have hx := B.exec
  have hb := B.bytes
  have hr := B.returns
  have hts : ∀ w ∈ gtbl, w.before ([.ref K, .int (nI k)] : List Value).toArray s = true := fun w hw => atoms_spec (ws := .code yJ0_charAt_5068e cJ0_charAt_5068e 2 (some .char) :: gtbl) B.pre w (List.mem_cons_of_mem _ hw)
  have hown : s.vm.findClass RJ0 = some m.cls := findClass_of_methodNamed B.named
  have hlocks := B.notSynchronized
  have hS : va_S nF s.heap s.heap [] := va_S.rf
  have hC : CallFix p m c cJ0_charAt_5068e 2 s ([.ref K, .int (nI k)] : List Value).toArray gtbl RJ0 := ⟨hx, hb, hml, hown, hts⟩
  have hl := lv_entry ([.ref K, .int (nI k)]) (n := 2) (Nat.le_of_ble_eq_true rfl)
  rw [lg_entry_eq]
  generalize (lg_sl ([.ref K, .int (nI k)]) ++ List.replicate (2 - (lg_sl ([.ref K, .int (nI k)])).length) Slot.unset).toArray = ls at hl ⊢
  have hl : lv_has ls 2 [(0, .ref K), (1, .int (nI k))] := hl
  refine lv_aload_n hx hb dJ0_charAt_5068e_0 rfl (lv_at hl 0 rfl) ?_
  refine va_csr (jv_call (n := 0) hC (j_isLatin1 l K V Fm) ws_199 ws_200 ws_201 ws_55 ws_202 ⟨by decide +kernel, by decide +kernel, by decide +kernel⟩ ⟨Nat.le_of_ble_eq_true rfl, Nat.le_of_ble_eq_true rfl⟩ ⟨SFU.blind, vk_recv hZ.1 (i := 0) (by decide) hS, fun U hU hW => ⟨rfl, hZ.go hS (fun _ h => h) hU hW⟩⟩ rfl hl.1 (Nat.le_of_ble_eq_true rfl) dJ0_charAt_5068e_1 ⟨Nat.le_refl _, Nat.le_refl _⟩) (fun _ _ => ?_)
  refine lv_if_eq hx hb (tgt := 16) dJ0_charAt_5068e_4 rfl (fun h => absurd h (by decide)) (fun _ => ?_)
  refine lv_aload_n hx hb dJ0_charAt_5068e_7 rfl (lv_at hl 0 rfl) ?_
  refine vk_getf hx hb (hZ.1.1 0 (by decide)).2.2.1 hS hown (hts _ (gt_in ws_1100 rfl)) (fun _ h => h) dJ0_charAt_5068e_8 ?_
  refine lv_iload_n hx hb dJ0_charAt_5068e_11 rfl (lv_at hl 1 rfl) ?_
  refine va_csr (js_call (n := 2) (As := [.ref V, .int (nI k)]) hC (j_lch l K V k Fm hk) ws_203 ws_204 ws_56 ws_205 ⟨by decide +kernel, by decide +kernel, by decide +kernel⟩ ⟨Nat.le_of_ble_eq_true rfl, Nat.le_of_ble_eq_true rfl⟩ ⟨SFU.blind, fun U hU hW => ⟨rfl, hZ.go hS (fun _ h => h) hU hW⟩⟩ rfl hl.1 (Nat.le_of_ble_eq_true rfl) dJ0_charAt_5068e_12 ⟨Nat.le_refl _, Nat.le_refl _⟩) (fun _ _ => ?_)
  exact W.zret hx hb hr (fb_nar hk) (fun t ht hW => ⟨0, rfl, trivial, ht⟩) (fun q hq => absurd hq List.not_mem_nil) dJ0_charAt_5068e_15
