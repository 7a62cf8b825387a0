/-! THE CLASS'S CONSTRUCTOR: its text -/
def ftx : String := "h0,1234;h1,5555;h2,0918;h3,7260;h0,4321;m3;q0,4;q2,7;"
theorem ws_txt : Cond.stringRef RX6 59 ftx ∈ lw_tbl := ws_184
/-- the text is there -/
def TF (V : Nat) (Fm : Value) (ex : Nat → Nat) (A : Nat → Prop) (U : State) : Prop := SFU (ex 1) V Fm A U ∧ vk_R RX6 59 ftx (ex 1) U
theorem TF.go {V : Nat} {Fm : Value} {ex : Nat → Nat} {A B : Nat → Prop} {s U : State} {H : Heap} {locs : List Loc} (h : TF V Fm ex A s) (hS : va_S A s.heap H locs) (hB : ∀ q, B q → A q) (hU : U.heap = H) (hW : s.WarmedH U.vm) : TF V Fm ex B U := ⟨h.1.go hS hB hU hW, h.2.warm hW⟩
theorem TF.call {V : Nat} {Fm : Value} {ex : Nat → Nat} {A : Nat → Prop} {U : State} (g : JFrame) (mk : MethodId) (a : Array Value) (h : TF V Fm ex A U) : TF V Fm ex A (U.calling g mk a) := ⟨SFU.same (u := U) (U := U.calling g mk a) (Vm.Alike.refl U.vm) rfl h.1, vk_R.same (u := U) (U := U.calling g mk a) rfl h.2⟩
def SndT (V : Nat) (Fm : Value) (own : String) (cc : ByteArray) (rt : Option FieldType) (ini : Bool) (pc : Nat) (i : aI) : Prop :=
  ∀ (p : Program) (l : Launch) (e : Env) (R : Room) (s : State) (m : MethodId) (args : Array Value) (below : List Frame) (meth : Method) (c : Code) (D : va_G) (cI cN : ClassId) (ad ex : Nat → Nat) (n0 : Nat) (A : Nat → Prop) (nL : Nat) (Qw : State → Prop) (K : aK) (Q : aR) (d : Nat),
    FX p R s m args meth c D cI cN ad n0 A nL own cc ini K d → 3 ≤ d → TF V Fm ex A s → Cok l D cI cN ex d K.2.2 → RT p l e R s m args below meth c D cI cN ad ex n0 A Qw cc rt Q →
    ∀ lo st h c0 s0, i K (Sm p l e R s m args below meth c D cI cN ad ex n0 A nL Qw) Q pc lo st h c0 s0 → Sm p l e R s m args below meth c D cI cN ad ex n0 A nL Qw pc lo st h c0 s0
theorem Snd.T {V : Nat} {Fm : Value} {own : String} {cc : ByteArray} {rt : Option FieldType} {ini : Bool} {pc : Nat} {i : aI} (h : Snd own cc rt ini pc i) : SndT V Fm own cc rt ini pc i := fun p l e R s m args below meth c D cI cN ad ex n0 A nL Qw K Q d F _ _ hC hT => h p l e R s m args below meth c D cI cN ad ex n0 A nL Qw K Q d F hC hT
def i_slenT : aI := fun K X _ pc lo st h c s => match st with
  | .retAddr q :: t => (q = 1 ∧ (t.map fun v => v.category).sum ≤ 8 ∧ c ≤ K.1 ∧ s ≤ K.2.1) ∧ X (pc + 3) lo (.int 53 :: t) h c s
  | _ => False
def i_chaT : aI := fun K X _ pc lo st h c s => match st with
  | .int i :: .retAddr q :: t => ∃ k, i = nI k ∧ (q = 1 ∧ k < 53 ∧ (t.map fun v => v.category).sum ≤ 8 ∧ c ≤ K.1 ∧ s ≤ K.2.1) ∧ X (pc + 3) lo (.int (fbC k) :: t) h c s
  | _ => False
theorem mo_slenT : Mono i_slenT := by
  intro K X Y Q Q' hC hX hQ pc lo st h c s
  unfold i_slenT
  split <;> first | exact fun w => ⟨w.1, hX _ _ _ _ _ _ w.2⟩ | exact fun w => w
theorem mo_chaT : Mono i_chaT := by
  intro K X Y Q Q' hC hX hQ pc lo st h c s
  unfold i_chaT
  split <;> first | exact fun ⟨k, e, l, w⟩ => ⟨k, e, l, hX _ _ _ _ _ _ w⟩ | exact fun w => w
theorem snd_txt {V : Nat} {Fm : Value} {cc : ByteArray} {rt : Option FieldType} {ini : Bool} {pc : Nat} (hd : decode cc pc = .ok (.ldc 59, 2)) : SndT V Fm RX6 cc rt ini pc (i_push (.retAddr 1) 2) := by
  intro p l e R s m args below meth c D cI cN ad ex n0 A nL Qw K Q d F _ hZ hC hT lo st h c0 s0 w
  unfold i_push at w
  intro H locs ls hr hl
  exact va_ldcS F.1 F.2.1 F.2.2.2.1 hZ.2 hd (w H locs ls hr hl)
theorem snd_slenT {V : Nat} {Fm : Value} {cc : ByteArray} {rt : Option FieldType} {ini : Bool} {pc : Nat} (hd : decode cc pc = .ok (.invokevirtual 61, 3)) : SndT V Fm RX6 cc rt ini pc i_slenT := by
  intro p l e R s m args below meth c D cI cN ad ex n0 A nL Qw K Q d F h3 hZ hC hT lo st h c0 s0 w
  unfold i_slenT at w
  split at w
  · rename_i q t
    obtain ⟨⟨rfl, w1, w2, w3⟩, w⟩ := w
    intro H locs ls hr hl
    have hF := F.2.2.2.2.2.2.2.2.2.2.2.2
    exact va_csr (rest := t.map (tv ad ex)) (jv_call (n := 0) (As := []) ⟨F.1, F.2.1, F.2.2.1, F.2.2.2.1, F.2.2.2.2.1⟩ (j_length l (ex 1) V Fm) ws_185 ws_186 ws_187 ws_55 ws_188 ⟨by decide +kernel, by decide +kernel, by decide +kernel⟩ ⟨by omega, by omega⟩ ⟨SFU.blind, vk_recv hZ.1.1 (i := 0) (by decide) hr.2.2, fun U hU hW => ⟨rfl, hZ.1.go hr.2.2 (fun _ h => h.elim) hU hW⟩⟩ rfl hl.2.1 (by rw [cats_tv]; exact w1) hd ⟨Nat.le_trans w2 hF.2.2.1, Nat.le_trans w3 hF.2.2.2⟩) (fun _ _ => w H locs ls hr hl)
  · exact w.elim
theorem snd_chaT {V : Nat} {Fm : Value} {cc : ByteArray} {rt : Option FieldType} {ini : Bool} {pc : Nat} (hd : decode cc pc = .ok (.invokevirtual 67, 3)) : SndT V Fm RX6 cc rt ini pc i_chaT := by
  intro p l e R s m args below meth c D cI cN ad ex n0 A nL Qw K Q d F h3 hZ hC hT lo st h c0 s0 w
  unfold i_chaT at w
  split at w
  · rename_i i q t
    obtain ⟨k, rfl, ⟨rfl, hk, w1, w2, w3⟩, w⟩ := w
    intro H locs ls hr hl
    have hF := F.2.2.2.2.2.2.2.2.2.2.2.2
    exact va_csr (rest := t.map (tv ad ex)) (jv_call (n := 1) (As := [.int (nI k)]) ⟨F.1, F.2.1, F.2.2.1, F.2.2.2.1, F.2.2.2.2.1⟩ (j_charAt l (ex 1) V k Fm hk) ws_195 ws_196 ws_197 ws_55 ws_198 ⟨by decide +kernel, by decide +kernel, by decide +kernel⟩ ⟨by omega, by omega⟩ ⟨SFU.blind, vk_recv hZ.1.1 (i := 0) (by decide) hr.2.2, fun U hU hW => ⟨rfl, hZ.1.go hr.2.2 (fun _ h => h.elim) hU hW⟩⟩ rfl hl.2.1 (by rw [cats_tv]; exact w1) hd ⟨Nat.le_trans w2 hF.2.2.1, Nat.le_trans w3 hF.2.2.2⟩) (fun _ _ => w H locs ls hr hl)
  · exact w.elim
def k_79 : List (Nat × aI) := [
  (0, i_aload 0 1),
  (1, i_obj),
  (4, i_aload 0 1),
  (5, i_new 1 2 [.null, .int 0]),
  (8, i_dup),
  (9, i_callI 8 1),
  (12, i_putR 6 0),
  (15, i_aload 0 1),
  (16, i_new 2 7 [.null, .null, .null, .int 0, .int 0, .int 0, .int 0]),
  (19, i_dup),
  (20, i_callI 20 1),
  (23, i_putR 6 1),
  (26, i_aload 0 1),
  (27, i_new 2 7 [.null, .null, .null, .int 0, .int 0, .int 0, .int 0]),
  (30, i_dup),
  (31, i_callI 20 1),
  (34, i_putR 6 2),
  (37, i_aload 0 1),
  (38, i_new 4 2 [.null, .int 0]),
  (41, i_dup),
  (42, i_push (.int 8) 2),
  (44, i_callI 65 2),
  (47, i_putR 6 3),
  (50, i_aload 0 1),
  (51, i_new 4 2 [.null, .int 0]),
  (54, i_dup),
  (55, i_push (.int 2) 1),
  (56, i_callI 65 2),
  (59, i_putR 6 4),
  (62, i_aload 0 1),
  (63, i_new 5 5 [.null, .null, .null, .null, .int 0]),
  (66, i_dup),
  (67, i_callI 72 1),
  (70, i_putR 6 5),
  (73, i_aload 0 1),
  (74, i_new 3 3 [.null, .null, .null]),
  (77, i_dup),
  (78, i_callI 52 1),
  (81, i_putR 6 6),
  (84, i_aload 0 1),
  (85, i_new 0 1 [.null]),
  (88, i_dup),
  (89, i_callI 0 1),
  (92, i_putR 6 7),
  (95, i_push (.int 0) 1),
  (96, i_istore 1 1),
  (97, i_iload 1 1),
  (98, i_push (.retAddr 1) 2),
  (100, i_slenT),
  (103, i_icmp (fun x y => x < y) 106 126),
  (106, i_aload 0 1),
  (107, i_get 6 0),
  (110, i_push (.retAddr 1) 2),
  (112, i_iload 1 1),
  (113, i_chaT),
  (116, i_callV 11 2 1),
  (119, i_pop),
  (120, i_iinc 1 1),
  (123, i_goto 97),
  (126, i_aload 0 1),
  (127, i_get 6 0),
  (130, i_aload 0 1),
  (131, i_get 6 1),
  (134, i_callV 12 2 1),
  (137, i_pop),
  (138, i_aload 0 1),
  (139, i_get 6 0),
  (142, i_callV 10 1 1),
  (145, i_vret)]
theorem s_79 (V : Nat) (Fm : Value) : ∀ q ∈ k_79, SndT V Fm RX6 cX6_init none true q.1 q.2 := by
  unfold k_79
  refine List.forall_mem_cons.mpr ⟨Snd.T (snd_aload_n (by decide +kernel : decode cX6_init 0 = .ok (.aload_n 0, 1)) rfl), ?_⟩
  refine List.forall_mem_cons.mpr ⟨Snd.T (snd_obj wd_322 wd_1 wd_2 (by decide +kernel : decode cX6_init 1 = .ok (.invokespecial 1, 3))), ?_⟩
  refine List.forall_mem_cons.mpr ⟨Snd.T (snd_aload_n (by decide +kernel : decode cX6_init 4 = .ok (.aload_n 0, 1)) rfl), ?_⟩
  refine List.forall_mem_cons.mpr ⟨Snd.T (snd_new cl_6_7 (by decide +kernel : decode cX6_init 5 = .ok (.new 7, 3))), ?_⟩
  refine List.forall_mem_cons.mpr ⟨Snd.T (snd_dup (by decide +kernel : decode cX6_init 8 = .ok (.dup, 1))), ?_⟩
  refine List.forall_mem_cons.mpr ⟨Snd.T (snd_callIN (List.mem_of_getElem? (i := 0) rfl) mok_8 wd_328 rfl rfl (by decide +kernel : decode cX6_init 9 = .ok (.invokespecial 9, 3))), ?_⟩
  refine List.forall_mem_cons.mpr ⟨Snd.T (snd_putR fl_6_10 (Or.inl ⟨_, rfl⟩) (by decide +kernel : decode cX6_init 12 = .ok (.putfield 10, 3))), ?_⟩
  refine List.forall_mem_cons.mpr ⟨Snd.T (snd_aload_n (by decide +kernel : decode cX6_init 15 = .ok (.aload_n 0, 1)) rfl), ?_⟩
  refine List.forall_mem_cons.mpr ⟨Snd.T (snd_new cl_6_16 (by decide +kernel : decode cX6_init 16 = .ok (.new 16, 3))), ?_⟩
  refine List.forall_mem_cons.mpr ⟨Snd.T (snd_dup (by decide +kernel : decode cX6_init 19 = .ok (.dup, 1))), ?_⟩
  refine List.forall_mem_cons.mpr ⟨Snd.T (snd_callIN (List.mem_of_getElem? (i := 1) rfl) mok_20 wd_8 rfl rfl (by decide +kernel : decode cX6_init 20 = .ok (.invokespecial 18, 3))), ?_⟩
  refine List.forall_mem_cons.mpr ⟨Snd.T (snd_putR fl_6_19 (Or.inl ⟨_, rfl⟩) (by decide +kernel : decode cX6_init 23 = .ok (.putfield 19, 3))), ?_⟩
  refine List.forall_mem_cons.mpr ⟨Snd.T (snd_aload_n (by decide +kernel : decode cX6_init 26 = .ok (.aload_n 0, 1)) rfl), ?_⟩
  refine List.forall_mem_cons.mpr ⟨Snd.T (snd_new cl_6_16 (by decide +kernel : decode cX6_init 27 = .ok (.new 16, 3))), ?_⟩
  refine List.forall_mem_cons.mpr ⟨Snd.T (snd_dup (by decide +kernel : decode cX6_init 30 = .ok (.dup, 1))), ?_⟩
  refine List.forall_mem_cons.mpr ⟨Snd.T (snd_callIN (List.mem_of_getElem? (i := 1) rfl) mok_20 wd_8 rfl rfl (by decide +kernel : decode cX6_init 31 = .ok (.invokespecial 18, 3))), ?_⟩
  refine List.forall_mem_cons.mpr ⟨Snd.T (snd_putR fl_6_23 (Or.inl ⟨_, rfl⟩) (by decide +kernel : decode cX6_init 34 = .ok (.putfield 23, 3))), ?_⟩
  refine List.forall_mem_cons.mpr ⟨Snd.T (snd_aload_n (by decide +kernel : decode cX6_init 37 = .ok (.aload_n 0, 1)) rfl), ?_⟩
  refine List.forall_mem_cons.mpr ⟨Snd.T (snd_new cl_6_26 (by decide +kernel : decode cX6_init 38 = .ok (.new 26, 3))), ?_⟩
  refine List.forall_mem_cons.mpr ⟨Snd.T (snd_dup (by decide +kernel : decode cX6_init 41 = .ok (.dup, 1))), ?_⟩
  refine List.forall_mem_cons.mpr ⟨Snd.T (snd_bipush (by decide +kernel : decode cX6_init 42 = .ok (.bipush 8, 2)) (by decide +kernel)), ?_⟩
  refine List.forall_mem_cons.mpr ⟨Snd.T (snd_callI wd_336 mok_65 wd_339 rfl rfl (by decide +kernel : decode cX6_init 44 = .ok (.invokespecial 28, 3))), ?_⟩
  refine List.forall_mem_cons.mpr ⟨Snd.T (snd_putR fl_6_31 (Or.inl ⟨_, rfl⟩) (by decide +kernel : decode cX6_init 47 = .ok (.putfield 31, 3))), ?_⟩
  refine List.forall_mem_cons.mpr ⟨Snd.T (snd_aload_n (by decide +kernel : decode cX6_init 50 = .ok (.aload_n 0, 1)) rfl), ?_⟩
  refine List.forall_mem_cons.mpr ⟨Snd.T (snd_new cl_6_26 (by decide +kernel : decode cX6_init 51 = .ok (.new 26, 3))), ?_⟩
  refine List.forall_mem_cons.mpr ⟨Snd.T (snd_dup (by decide +kernel : decode cX6_init 54 = .ok (.dup, 1))), ?_⟩
  refine List.forall_mem_cons.mpr ⟨Snd.T (snd_iconst (by decide +kernel : decode cX6_init 55 = .ok (.iconst 2, 1)) (by decide +kernel)), ?_⟩
  refine List.forall_mem_cons.mpr ⟨Snd.T (snd_callI wd_336 mok_65 wd_339 rfl rfl (by decide +kernel : decode cX6_init 56 = .ok (.invokespecial 28, 3))), ?_⟩
  refine List.forall_mem_cons.mpr ⟨Snd.T (snd_putR fl_6_35 (Or.inl ⟨_, rfl⟩) (by decide +kernel : decode cX6_init 59 = .ok (.putfield 35, 3))), ?_⟩
  refine List.forall_mem_cons.mpr ⟨Snd.T (snd_aload_n (by decide +kernel : decode cX6_init 62 = .ok (.aload_n 0, 1)) rfl), ?_⟩
  refine List.forall_mem_cons.mpr ⟨Snd.T (snd_new cl_6_38 (by decide +kernel : decode cX6_init 63 = .ok (.new 38, 3))), ?_⟩
  refine List.forall_mem_cons.mpr ⟨Snd.T (snd_dup (by decide +kernel : decode cX6_init 66 = .ok (.dup, 1))), ?_⟩
  refine List.forall_mem_cons.mpr ⟨Snd.T (snd_callIN (List.mem_of_getElem? (i := 3) rfl) mok_72 wd_347 rfl rfl (by decide +kernel : decode cX6_init 67 = .ok (.invokespecial 40, 3))), ?_⟩
  refine List.forall_mem_cons.mpr ⟨Snd.T (snd_putR fl_6_41 (Or.inl ⟨_, rfl⟩) (by decide +kernel : decode cX6_init 70 = .ok (.putfield 41, 3))), ?_⟩
  refine List.forall_mem_cons.mpr ⟨Snd.T (snd_aload_n (by decide +kernel : decode cX6_init 73 = .ok (.aload_n 0, 1)) rfl), ?_⟩
  refine List.forall_mem_cons.mpr ⟨Snd.T (snd_new cl_6_45 (by decide +kernel : decode cX6_init 74 = .ok (.new 45, 3))), ?_⟩
  refine List.forall_mem_cons.mpr ⟨Snd.T (snd_dup (by decide +kernel : decode cX6_init 77 = .ok (.dup, 1))), ?_⟩
  refine List.forall_mem_cons.mpr ⟨Snd.T (snd_callIN (List.mem_of_getElem? (i := 4) rfl) mok_52 wd_354 rfl rfl (by decide +kernel : decode cX6_init 78 = .ok (.invokespecial 47, 3))), ?_⟩
  refine List.forall_mem_cons.mpr ⟨Snd.T (snd_putR fl_6_48 (Or.inl ⟨_, rfl⟩) (by decide +kernel : decode cX6_init 81 = .ok (.putfield 48, 3))), ?_⟩
  refine List.forall_mem_cons.mpr ⟨Snd.T (snd_aload_n (by decide +kernel : decode cX6_init 84 = .ok (.aload_n 0, 1)) rfl), ?_⟩
  refine List.forall_mem_cons.mpr ⟨Snd.T (snd_new cl_6_52 (by decide +kernel : decode cX6_init 85 = .ok (.new 52, 3))), ?_⟩
  refine List.forall_mem_cons.mpr ⟨Snd.T (snd_dup (by decide +kernel : decode cX6_init 88 = .ok (.dup, 1))), ?_⟩
  refine List.forall_mem_cons.mpr ⟨Snd.T (snd_callIN (List.mem_of_getElem? (i := 6) rfl) mok_0 wd_361 rfl rfl (by decide +kernel : decode cX6_init 89 = .ok (.invokespecial 54, 3))), ?_⟩
  refine List.forall_mem_cons.mpr ⟨Snd.T (snd_putR fl_6_55 (Or.inl ⟨_, rfl⟩) (by decide +kernel : decode cX6_init 92 = .ok (.putfield 55, 3))), ?_⟩
  refine List.forall_mem_cons.mpr ⟨Snd.T (snd_iconst (by decide +kernel : decode cX6_init 95 = .ok (.iconst 0, 1)) (by decide +kernel)), ?_⟩
  refine List.forall_mem_cons.mpr ⟨Snd.T (snd_istore_n (by decide +kernel : decode cX6_init 96 = .ok (.istore_n 1, 1)) rfl), ?_⟩
  refine List.forall_mem_cons.mpr ⟨Snd.T (snd_iload_n (by decide +kernel : decode cX6_init 97 = .ok (.iload_n 1, 1)) rfl), ?_⟩
  refine List.forall_mem_cons.mpr ⟨snd_txt (by decide +kernel : decode cX6_init 98 = .ok (.ldc 59, 2)), ?_⟩
  refine List.forall_mem_cons.mpr ⟨snd_slenT (by decide +kernel : decode cX6_init 100 = .ok (.invokevirtual 61, 3)), ?_⟩
  refine List.forall_mem_cons.mpr ⟨Snd.T (snd_icmp_ge (by decide +kernel : decode cX6_init 103 = .ok (.if_icmp .ge 23, 3)) (by decide +kernel)), ?_⟩
  refine List.forall_mem_cons.mpr ⟨Snd.T (snd_aload_n (by decide +kernel : decode cX6_init 106 = .ok (.aload_n 0, 1)) rfl), ?_⟩
  refine List.forall_mem_cons.mpr ⟨Snd.T (snd_get fl_6_10 (by decide +kernel : decode cX6_init 107 = .ok (.getfield 10, 3))), ?_⟩
  refine List.forall_mem_cons.mpr ⟨snd_txt (by decide +kernel : decode cX6_init 110 = .ok (.ldc 59, 2)), ?_⟩
  refine List.forall_mem_cons.mpr ⟨Snd.T (snd_iload_n (by decide +kernel : decode cX6_init 112 = .ok (.iload_n 1, 1)) rfl), ?_⟩
  refine List.forall_mem_cons.mpr ⟨snd_chaT (by decide +kernel : decode cX6_init 113 = .ok (.invokevirtual 67, 3)), ?_⟩
  refine List.forall_mem_cons.mpr ⟨Snd.T (snd_callV mok_11 wd_363 wd_366 wd_367 rfl rfl (by decide +kernel : decode cX6_init 116 = .ok (.invokevirtual 71, 3))), ?_⟩
  refine List.forall_mem_cons.mpr ⟨Snd.T (snd_pop (by decide +kernel : decode cX6_init 119 = .ok (.pop, 1))), ?_⟩
  refine List.forall_mem_cons.mpr ⟨Snd.T (snd_iinc (by decide +kernel : decode cX6_init 120 = .ok (.iinc 1 1, 3)) (by decide +kernel)), ?_⟩
  refine List.forall_mem_cons.mpr ⟨Snd.T (snd_goto (by decide +kernel : decode cX6_init 123 = .ok (.goto (-26), 3)) (by decide +kernel)), ?_⟩
  refine List.forall_mem_cons.mpr ⟨Snd.T (snd_aload_n (by decide +kernel : decode cX6_init 126 = .ok (.aload_n 0, 1)) rfl), ?_⟩
  refine List.forall_mem_cons.mpr ⟨Snd.T (snd_get fl_6_10 (by decide +kernel : decode cX6_init 127 = .ok (.getfield 10, 3))), ?_⟩
  refine List.forall_mem_cons.mpr ⟨Snd.T (snd_aload_n (by decide +kernel : decode cX6_init 130 = .ok (.aload_n 0, 1)) rfl), ?_⟩
  refine List.forall_mem_cons.mpr ⟨Snd.T (snd_get fl_6_19 (by decide +kernel : decode cX6_init 131 = .ok (.getfield 19, 3))), ?_⟩
  refine List.forall_mem_cons.mpr ⟨Snd.T (snd_callV mok_12 wd_368 wd_371 wd_372 rfl rfl (by decide +kernel : decode cX6_init 134 = .ok (.invokevirtual 75, 3))), ?_⟩
  refine List.forall_mem_cons.mpr ⟨Snd.T (snd_pop (by decide +kernel : decode cX6_init 137 = .ok (.pop, 1))), ?_⟩
  refine List.forall_mem_cons.mpr ⟨Snd.T (snd_aload_n (by decide +kernel : decode cX6_init 138 = .ok (.aload_n 0, 1)) rfl), ?_⟩
  refine List.forall_mem_cons.mpr ⟨Snd.T (snd_get fl_6_10 (by decide +kernel : decode cX6_init 139 = .ok (.getfield 10, 3))), ?_⟩
  refine List.forall_mem_cons.mpr ⟨Snd.T (snd_callV mok_10 wd_373 wd_376 wd_377 rfl rfl (by decide +kernel : decode cX6_init 142 = .ok (.invokevirtual 79, 3))), ?_⟩
  refine List.forall_mem_cons.mpr ⟨Snd.T (snd_vret (by decide +kernel : decode cX6_init 145 = .ok (.return_, 1))), ?_⟩
  exact fun _ h => absurd h List.not_mem_nil
theorem m_79 : ∀ q ∈ k_79, Mono q.2 := by
  unfold k_79
  refine List.forall_mem_cons.mpr ⟨mo_aload _ _, ?_⟩
  refine List.forall_mem_cons.mpr ⟨mo_obj, ?_⟩
  refine List.forall_mem_cons.mpr ⟨mo_aload _ _, ?_⟩
  refine List.forall_mem_cons.mpr ⟨mo_new _ _ _, ?_⟩
  refine List.forall_mem_cons.mpr ⟨mo_dup, ?_⟩
  refine List.forall_mem_cons.mpr ⟨mo_call _ _ _, ?_⟩
  refine List.forall_mem_cons.mpr ⟨mo_putR _ _, ?_⟩
  refine List.forall_mem_cons.mpr ⟨mo_aload _ _, ?_⟩
  refine List.forall_mem_cons.mpr ⟨mo_new _ _ _, ?_⟩
  refine List.forall_mem_cons.mpr ⟨mo_dup, ?_⟩
  refine List.forall_mem_cons.mpr ⟨mo_call _ _ _, ?_⟩
  refine List.forall_mem_cons.mpr ⟨mo_putR _ _, ?_⟩
  refine List.forall_mem_cons.mpr ⟨mo_aload _ _, ?_⟩
  refine List.forall_mem_cons.mpr ⟨mo_new _ _ _, ?_⟩
  refine List.forall_mem_cons.mpr ⟨mo_dup, ?_⟩
  refine List.forall_mem_cons.mpr ⟨mo_call _ _ _, ?_⟩
  refine List.forall_mem_cons.mpr ⟨mo_putR _ _, ?_⟩
  refine List.forall_mem_cons.mpr ⟨mo_aload _ _, ?_⟩
  refine List.forall_mem_cons.mpr ⟨mo_new _ _ _, ?_⟩
  refine List.forall_mem_cons.mpr ⟨mo_dup, ?_⟩
  refine List.forall_mem_cons.mpr ⟨mo_push _ _, ?_⟩
  refine List.forall_mem_cons.mpr ⟨mo_call _ _ _, ?_⟩
  refine List.forall_mem_cons.mpr ⟨mo_putR _ _, ?_⟩
  refine List.forall_mem_cons.mpr ⟨mo_aload _ _, ?_⟩
  refine List.forall_mem_cons.mpr ⟨mo_new _ _ _, ?_⟩
  refine List.forall_mem_cons.mpr ⟨mo_dup, ?_⟩
  refine List.forall_mem_cons.mpr ⟨mo_push _ _, ?_⟩
  refine List.forall_mem_cons.mpr ⟨mo_call _ _ _, ?_⟩
  refine List.forall_mem_cons.mpr ⟨mo_putR _ _, ?_⟩
  refine List.forall_mem_cons.mpr ⟨mo_aload _ _, ?_⟩
  refine List.forall_mem_cons.mpr ⟨mo_new _ _ _, ?_⟩
  refine List.forall_mem_cons.mpr ⟨mo_dup, ?_⟩
  refine List.forall_mem_cons.mpr ⟨mo_call _ _ _, ?_⟩
  refine List.forall_mem_cons.mpr ⟨mo_putR _ _, ?_⟩
  refine List.forall_mem_cons.mpr ⟨mo_aload _ _, ?_⟩
  refine List.forall_mem_cons.mpr ⟨mo_new _ _ _, ?_⟩
  refine List.forall_mem_cons.mpr ⟨mo_dup, ?_⟩
  refine List.forall_mem_cons.mpr ⟨mo_call _ _ _, ?_⟩
  refine List.forall_mem_cons.mpr ⟨mo_putR _ _, ?_⟩
  refine List.forall_mem_cons.mpr ⟨mo_aload _ _, ?_⟩
  refine List.forall_mem_cons.mpr ⟨mo_new _ _ _, ?_⟩
  refine List.forall_mem_cons.mpr ⟨mo_dup, ?_⟩
  refine List.forall_mem_cons.mpr ⟨mo_call _ _ _, ?_⟩
  refine List.forall_mem_cons.mpr ⟨mo_putR _ _, ?_⟩
  refine List.forall_mem_cons.mpr ⟨mo_push _ _, ?_⟩
  refine List.forall_mem_cons.mpr ⟨mo_istore _ _, ?_⟩
  refine List.forall_mem_cons.mpr ⟨mo_iload _ _, ?_⟩
  refine List.forall_mem_cons.mpr ⟨mo_push _ _, ?_⟩
  refine List.forall_mem_cons.mpr ⟨mo_slenT, ?_⟩
  refine List.forall_mem_cons.mpr ⟨mo_icmp _ _ _, ?_⟩
  refine List.forall_mem_cons.mpr ⟨mo_aload _ _, ?_⟩
  refine List.forall_mem_cons.mpr ⟨mo_get _ _, ?_⟩
  refine List.forall_mem_cons.mpr ⟨mo_push _ _, ?_⟩
  refine List.forall_mem_cons.mpr ⟨mo_iload _ _, ?_⟩
  refine List.forall_mem_cons.mpr ⟨mo_chaT, ?_⟩
  refine List.forall_mem_cons.mpr ⟨mo_call _ _ _, ?_⟩
  refine List.forall_mem_cons.mpr ⟨mo_pop, ?_⟩
  refine List.forall_mem_cons.mpr ⟨mo_iinc _ _, ?_⟩
  refine List.forall_mem_cons.mpr ⟨mo_goto _, ?_⟩
  refine List.forall_mem_cons.mpr ⟨mo_aload _ _, ?_⟩
  refine List.forall_mem_cons.mpr ⟨mo_get _ _, ?_⟩
  refine List.forall_mem_cons.mpr ⟨mo_aload _ _, ?_⟩
  refine List.forall_mem_cons.mpr ⟨mo_get _ _, ?_⟩
  refine List.forall_mem_cons.mpr ⟨mo_call _ _ _, ?_⟩
  refine List.forall_mem_cons.mpr ⟨mo_pop, ?_⟩
  refine List.forall_mem_cons.mpr ⟨mo_aload _ _, ?_⟩
  refine List.forall_mem_cons.mpr ⟨mo_get _ _, ?_⟩
  refine List.forall_mem_cons.mpr ⟨mo_call _ _ _, ?_⟩
  refine List.forall_mem_cons.mpr ⟨mo_vret, ?_⟩
  exact fun _ h => absurd h List.not_mem_nil
def PcT (D : va_G) (cI cN : ClassId) (ad ex : Nat → Nat) (sz V : Nat) (Fm : Value) (av : List Value) (h : List aC) : Array Value → State → Prop := va_Pc (av.map (tv ad ex)) (fun U => U.heap.size = sz ∧ va_P D cls (wF cI cN ad ex h) U.heap ∧ va_K D cls (tys cI cN) U ∧ XF U ∧ TF V Fm ex (fun q => ∃ k, q = ad k) U)
def step79 (C : callP) (mc ms : Nat) (av : List Value) (h : List aC) (Q : Option Value → List aC → Prop) : Prop := (argL av).length ≤ 2 ∧ wp (mc, ms, C) k_79 (qE mc ms Q) 0 (entryL 2 av) [] h 0 0
theorem met79 {l : Launch} {D : va_G} {cI cN : ClassId} {ex : Nat → Nat} {d : Nat} {C : callP} (h3 : 3 ≤ d) (hC : Cok l D cI cN ex d C) {mc ms : Nat} {av : List Value} {h : List aC} {Q : Option Value → List aC → Prop} (w : step79 C mc ms av h Q) (V : Nat) (Fm : Value) (ad : Nat → Nat) (sz : Nat) (hinj : ∀ i j, ad i = ad j → i = j) (hnew : ∀ k, h.length ≤ k → ad k + h.length = sz + k) :
    Met l (mt 79).1 (mws 79) (rmD (d + 1) mc ms) (PcT D cI cN ad ex sz V Fm av h) (QcA D cI cN ad ex (h.length + mc) Q) mc ms (fun q => ∃ k, q = ad k) := by
  obtain ⟨hlen, w⟩ := w
  refine Met.ofW (cc := (mt 79).2.1) (maxL := (mt 79).2.2.1) (ret := (mt 79).2.2.2) (by decide +kernel) rfl ?_
  intro p e s m args below meth c s₁ B hml hv
  obtain ⟨rfl, hsz, hP, hK, hX, hZ⟩ := hv
  have hlocks := B.notSynchronized
  subst hsz
  have hA : ∀ q : Nat, s.heap.size ≤ q → (fun q => ∃ k, q = ad k) q := fun q hq => ⟨h.length + (q - s.heap.size), by have := hnew (h.length + (q - s.heap.size)) (by omega); omega⟩
  have F : FX p (headSpec (mws 79) (rmD (d + 1) mc ms)).room s m (av.map (tv ad ex)).toArray meth c D cI cN ad h.length (fun q => ∃ k, q = ad k) (mt 79).2.2.1 (mt 79).1.cls (mt 79).2.1 true (mc, ms, C) d :=
    ⟨B.exec, B.bytes, hml, findClass_of_methodNamed B.named, fun w hw => atoms_spec (ws := mws 79) B.pre w (List.mem_cons_of_mem _ hw), hK, hX, hinj, hnew, fun k => ⟨k, rfl⟩, hA, fun z => (name_of_methodNamed B.named B.method).1.trans rfl, Nat.le_refl _, Nat.le_of_eq (Nat.mul_succ 40 d).symm, Nat.le_refl _, Nat.le_refl _⟩
  have hT : RT p l e (headSpec (mws 79) (rmD (d + 1) mc ms)).room s m (av.map (tv ad ex)).toArray below meth c D cI cN ad ex h.length (fun q => ∃ k, q = ad k) (MQ below (QcA D cI cN ad ex (h.length + mc) Q) (av.map (tv ad ex)).toArray s mc ms (fun q => ∃ k, q = ad k)) (mt 79).2.1 none (qE mc ms Q) := by
    refine ⟨?_, ?_, ?_⟩
    · rintro x h' c0 s0 H locs ls pc hrt
      rcases hrt with hrt | ⟨hrt, hx⟩ <;> cases hrt
    · rintro h' c0 s0 H locs ls pc hrt hd ⟨rfl, hs0, h'', he, hq⟩ hr
      refine W.widen (k := c0) (n := ms) (Nat.le_refl _) hs0 ?_
      exact W.vret B.exec B.bytes B.returns (fun t ht hW => ⟨⟨none, h'', rfl, hq, (hE_len he).symm.trans hr.2.1, by rw [ht]; exact hE_P he hr.1⟩, hr.2.2.F ht⟩) hr.2.2.2.2 hd
    · rintro x h' c0 s0 H locs ls pc hrt
      cases hrt
  rw [lg_entry_eq]
  exact w (Sm p l e (headSpec (mws 79) (rmD (d + 1) mc ms)).room s m (av.map (tv ad ex)).toArray below meth c D cI cN ad ex h.length (fun q => ∃ k, q = ad k) (mt 79).2.2.1 (MQ below (QcA D cI cN ad ex (h.length + mc) Q) (av.map (tv ad ex)).toArray s mc ms (fun q => ∃ k, q = ad k))) (fun pc i lo st h' c0 s0 hl hi => s_79 V Fm (pc, i) (lookup_mem hl) p l e _ s m _ below meth c D cI cN ad ex _ _ _ _ _ _ d F h3 hZ hC hT lo st h' c0 s0 hi) s.heap [] _ ⟨hP, rfl, va_S.rf⟩ (entry_lv hlen)
