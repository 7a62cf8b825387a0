def k_X3_init : List (Nat × aI) := [
  (0, i_aload 0 1),
  (1, i_obj),
  (4, i_aload 0 1),
  (5, i_new 2 7 [.null, .null, .null, .int 0, .int 0, .int 0, .int 0]),
  (8, i_dup),
  (9, i_callI 20 1),
  (12, i_putR 3 0),
  (15, i_aload 0 1),
  (16, i_push (.int 10) 2),
  (18, i_newI),
  (20, i_putR 3 1),
  (23, i_aload 0 1),
  (24, i_push (.int 5) 1),
  (25, i_newI),
  (27, i_putR 3 2),
  (30, i_vret)]
theorem s_X3_init : ∀ q ∈ k_X3_init, Snd RX3 cX3_init none true q.1 q.2 := by
  unfold k_X3_init
  refine List.forall_mem_cons.mpr ⟨snd_aload_n (by decide +kernel : decode cX3_init 0 = .ok (.aload_n 0, 1)) rfl, ?_⟩
  refine List.forall_mem_cons.mpr ⟨snd_obj wd_227 wd_1 wd_2 (by decide +kernel : decode cX3_init 1 = .ok (.invokespecial 3, 3)), ?_⟩
  refine List.forall_mem_cons.mpr ⟨snd_aload_n (by decide +kernel : decode cX3_init 4 = .ok (.aload_n 0, 1)) rfl, ?_⟩
  refine List.forall_mem_cons.mpr ⟨snd_new cl_3_9 (by decide +kernel : decode cX3_init 5 = .ok (.new 9, 3)), ?_⟩
  refine List.forall_mem_cons.mpr ⟨snd_dup (by decide +kernel : decode cX3_init 8 = .ok (.dup, 1)), ?_⟩
  refine List.forall_mem_cons.mpr ⟨snd_callIN (List.mem_of_getElem? (i := 5) rfl) mok_20 wd_8 rfl rfl (by decide +kernel : decode cX3_init 9 = .ok (.invokespecial 11, 3)), ?_⟩
  refine List.forall_mem_cons.mpr ⟨snd_putR fl_3_12 (Or.inl ⟨_, rfl⟩) (by decide +kernel : decode cX3_init 12 = .ok (.putfield 12, 3)), ?_⟩
  refine List.forall_mem_cons.mpr ⟨snd_aload_n (by decide +kernel : decode cX3_init 15 = .ok (.aload_n 0, 1)) rfl, ?_⟩
  refine List.forall_mem_cons.mpr ⟨snd_bipush (by decide +kernel : decode cX3_init 16 = .ok (.bipush 10, 2)) (by decide +kernel), ?_⟩
  refine List.forall_mem_cons.mpr ⟨snd_newI wd_92 (by decide +kernel : decode cX3_init 18 = .ok (.newarray .int, 2)), ?_⟩
  refine List.forall_mem_cons.mpr ⟨snd_putR fl_3_18 (Or.inr ⟨_, rfl⟩) (by decide +kernel : decode cX3_init 20 = .ok (.putfield 18, 3)), ?_⟩
  refine List.forall_mem_cons.mpr ⟨snd_aload_n (by decide +kernel : decode cX3_init 23 = .ok (.aload_n 0, 1)) rfl, ?_⟩
  refine List.forall_mem_cons.mpr ⟨snd_iconst (by decide +kernel : decode cX3_init 24 = .ok (.iconst 5, 1)) (by decide +kernel), ?_⟩
  refine List.forall_mem_cons.mpr ⟨snd_newI wd_92 (by decide +kernel : decode cX3_init 25 = .ok (.newarray .int, 2)), ?_⟩
  refine List.forall_mem_cons.mpr ⟨snd_putR fl_3_22 (Or.inr ⟨_, rfl⟩) (by decide +kernel : decode cX3_init 27 = .ok (.putfield 22, 3)), ?_⟩
  refine List.forall_mem_cons.mpr ⟨snd_vret (by decide +kernel : decode cX3_init 30 = .ok (.return_, 1)), ?_⟩
  exact fun _ h => absurd h List.not_mem_nil
theorem m_X3_init : ∀ q ∈ k_X3_init, Mono q.2 := by
  unfold k_X3_init
  refine List.forall_mem_cons.mpr ⟨mo_aload _ _, ?_⟩
  refine List.forall_mem_cons.mpr ⟨mo_obj, ?_⟩
  refine List.forall_mem_cons.mpr ⟨mo_aload _ _, ?_⟩
  refine List.forall_mem_cons.mpr ⟨mo_new _ _ _, ?_⟩
  refine List.forall_mem_cons.mpr ⟨mo_dup, ?_⟩
  refine List.forall_mem_cons.mpr ⟨mo_call _ _ _, ?_⟩
  refine List.forall_mem_cons.mpr ⟨mo_putR _ _, ?_⟩
  refine List.forall_mem_cons.mpr ⟨mo_aload _ _, ?_⟩
  refine List.forall_mem_cons.mpr ⟨mo_push _ _, ?_⟩
  refine List.forall_mem_cons.mpr ⟨mo_newI, ?_⟩
  refine List.forall_mem_cons.mpr ⟨mo_putR _ _, ?_⟩
  refine List.forall_mem_cons.mpr ⟨mo_aload _ _, ?_⟩
  refine List.forall_mem_cons.mpr ⟨mo_push _ _, ?_⟩
  refine List.forall_mem_cons.mpr ⟨mo_newI, ?_⟩
  refine List.forall_mem_cons.mpr ⟨mo_putR _ _, ?_⟩
  refine List.forall_mem_cons.mpr ⟨mo_vret, ?_⟩
  exact fun _ h => absurd h List.not_mem_nil
def k_X3_thingBehind : List (Nat × aI) := [
  (0, i_aload 0 1),
  (1, i_get 3 0),
  (4, i_aload 1 1),
  (5, i_callV 22 2 2),
  (8, i_aload 0 1),
  (9, i_get 3 0),
  (12, i_iload 2 1),
  (13, i_callV 46 2 2),
  (16, i_aload 0 1),
  (17, i_get 3 0),
  (20, i_iload 3 1),
  (21, i_iload 4 2),
  (23, i_callV 30 3 2),
  (26, i_iret)]
theorem s_X3_thingBehind : ∀ q ∈ k_X3_thingBehind, Snd RX3 cX3_thingBehind (some .int) false q.1 q.2 := by
  unfold k_X3_thingBehind
  refine List.forall_mem_cons.mpr ⟨snd_aload_n (by decide +kernel : decode cX3_thingBehind 0 = .ok (.aload_n 0, 1)) rfl, ?_⟩
  refine List.forall_mem_cons.mpr ⟨snd_get fl_3_12 (by decide +kernel : decode cX3_thingBehind 1 = .ok (.getfield 12, 3)), ?_⟩
  refine List.forall_mem_cons.mpr ⟨snd_aload_n (by decide +kernel : decode cX3_thingBehind 4 = .ok (.aload_n 1, 1)) rfl, ?_⟩
  refine List.forall_mem_cons.mpr ⟨snd_callV mok_22 wd_232 wd_38 wd_39 rfl rfl (by decide +kernel : decode cX3_thingBehind 5 = .ok (.invokevirtual 25, 3)), ?_⟩
  refine List.forall_mem_cons.mpr ⟨snd_aload_n (by decide +kernel : decode cX3_thingBehind 8 = .ok (.aload_n 0, 1)) rfl, ?_⟩
  refine List.forall_mem_cons.mpr ⟨snd_get fl_3_12 (by decide +kernel : decode cX3_thingBehind 9 = .ok (.getfield 12, 3)), ?_⟩
  refine List.forall_mem_cons.mpr ⟨snd_iload_n (by decide +kernel : decode cX3_thingBehind 12 = .ok (.iload_n 2, 1)) rfl, ?_⟩
  refine List.forall_mem_cons.mpr ⟨snd_callV mok_46 wd_233 wd_236 wd_237 rfl rfl (by decide +kernel : decode cX3_thingBehind 13 = .ok (.invokevirtual 29, 3)), ?_⟩
  refine List.forall_mem_cons.mpr ⟨snd_aload_n (by decide +kernel : decode cX3_thingBehind 16 = .ok (.aload_n 0, 1)) rfl, ?_⟩
  refine List.forall_mem_cons.mpr ⟨snd_get fl_3_12 (by decide +kernel : decode cX3_thingBehind 17 = .ok (.getfield 12, 3)), ?_⟩
  refine List.forall_mem_cons.mpr ⟨snd_iload_n (by decide +kernel : decode cX3_thingBehind 20 = .ok (.iload_n 3, 1)) rfl, ?_⟩
  refine List.forall_mem_cons.mpr ⟨snd_iload (by decide +kernel : decode cX3_thingBehind 21 = .ok (.iload 4, 2)), ?_⟩
  refine List.forall_mem_cons.mpr ⟨snd_callV mok_30 wd_238 wd_58 wd_59 rfl rfl (by decide +kernel : decode cX3_thingBehind 23 = .ok (.invokevirtual 33, 3)), ?_⟩
  refine List.forall_mem_cons.mpr ⟨snd_iret (by decide +kernel : decode cX3_thingBehind 26 = .ok (.ireturn, 1)), ?_⟩
  exact fun _ h => absurd h List.not_mem_nil
theorem m_X3_thingBehind : ∀ q ∈ k_X3_thingBehind, Mono q.2 := by
  unfold k_X3_thingBehind
  refine List.forall_mem_cons.mpr ⟨mo_aload _ _, ?_⟩
  refine List.forall_mem_cons.mpr ⟨mo_get _ _, ?_⟩
  refine List.forall_mem_cons.mpr ⟨mo_aload _ _, ?_⟩
  refine List.forall_mem_cons.mpr ⟨mo_call _ _ _, ?_⟩
  refine List.forall_mem_cons.mpr ⟨mo_aload _ _, ?_⟩
  refine List.forall_mem_cons.mpr ⟨mo_get _ _, ?_⟩
  refine List.forall_mem_cons.mpr ⟨mo_iload _ _, ?_⟩
  refine List.forall_mem_cons.mpr ⟨mo_call _ _ _, ?_⟩
  refine List.forall_mem_cons.mpr ⟨mo_aload _ _, ?_⟩
  refine List.forall_mem_cons.mpr ⟨mo_get _ _, ?_⟩
  refine List.forall_mem_cons.mpr ⟨mo_iload _ _, ?_⟩
  refine List.forall_mem_cons.mpr ⟨mo_iload _ _, ?_⟩
  refine List.forall_mem_cons.mpr ⟨mo_call _ _ _, ?_⟩
  refine List.forall_mem_cons.mpr ⟨mo_iret, ?_⟩
  exact fun _ h => absurd h List.not_mem_nil
def k_X3_metBehind : List (Nat × aI) := [
  (0, i_aload 0 1),
  (1, i_get 3 0),
  (4, i_aload 1 1),
  (5, i_callV 22 2 2),
  (8, i_aload 0 1),
  (9, i_get 3 0),
  (12, i_iload 2 1),
  (13, i_callV 46 2 2),
  (16, i_aload 0 1),
  (17, i_get 3 0),
  (20, i_callV 41 1 2),
  (23, i_iret)]
theorem s_X3_metBehind : ∀ q ∈ k_X3_metBehind, Snd RX3 cX3_metBehind (some .int) false q.1 q.2 := by
  unfold k_X3_metBehind
  refine List.forall_mem_cons.mpr ⟨snd_aload_n (by decide +kernel : decode cX3_metBehind 0 = .ok (.aload_n 0, 1)) rfl, ?_⟩
  refine List.forall_mem_cons.mpr ⟨snd_get fl_3_12 (by decide +kernel : decode cX3_metBehind 1 = .ok (.getfield 12, 3)), ?_⟩
  refine List.forall_mem_cons.mpr ⟨snd_aload_n (by decide +kernel : decode cX3_metBehind 4 = .ok (.aload_n 1, 1)) rfl, ?_⟩
  refine List.forall_mem_cons.mpr ⟨snd_callV mok_22 wd_232 wd_38 wd_39 rfl rfl (by decide +kernel : decode cX3_metBehind 5 = .ok (.invokevirtual 25, 3)), ?_⟩
  refine List.forall_mem_cons.mpr ⟨snd_aload_n (by decide +kernel : decode cX3_metBehind 8 = .ok (.aload_n 0, 1)) rfl, ?_⟩
  refine List.forall_mem_cons.mpr ⟨snd_get fl_3_12 (by decide +kernel : decode cX3_metBehind 9 = .ok (.getfield 12, 3)), ?_⟩
  refine List.forall_mem_cons.mpr ⟨snd_iload_n (by decide +kernel : decode cX3_metBehind 12 = .ok (.iload_n 2, 1)) rfl, ?_⟩
  refine List.forall_mem_cons.mpr ⟨snd_callV mok_46 wd_233 wd_236 wd_237 rfl rfl (by decide +kernel : decode cX3_metBehind 13 = .ok (.invokevirtual 29, 3)), ?_⟩
  refine List.forall_mem_cons.mpr ⟨snd_aload_n (by decide +kernel : decode cX3_metBehind 16 = .ok (.aload_n 0, 1)) rfl, ?_⟩
  refine List.forall_mem_cons.mpr ⟨snd_get fl_3_12 (by decide +kernel : decode cX3_metBehind 17 = .ok (.getfield 12, 3)), ?_⟩
  refine List.forall_mem_cons.mpr ⟨snd_callV mok_41 wd_239 wd_242 wd_243 rfl rfl (by decide +kernel : decode cX3_metBehind 20 = .ok (.invokevirtual 37, 3)), ?_⟩
  refine List.forall_mem_cons.mpr ⟨snd_iret (by decide +kernel : decode cX3_metBehind 23 = .ok (.ireturn, 1)), ?_⟩
  exact fun _ h => absurd h List.not_mem_nil
theorem m_X3_metBehind : ∀ q ∈ k_X3_metBehind, Mono q.2 := by
  unfold k_X3_metBehind
  refine List.forall_mem_cons.mpr ⟨mo_aload _ _, ?_⟩
  refine List.forall_mem_cons.mpr ⟨mo_get _ _, ?_⟩
  refine List.forall_mem_cons.mpr ⟨mo_aload _ _, ?_⟩
  refine List.forall_mem_cons.mpr ⟨mo_call _ _ _, ?_⟩
  refine List.forall_mem_cons.mpr ⟨mo_aload _ _, ?_⟩
  refine List.forall_mem_cons.mpr ⟨mo_get _ _, ?_⟩
  refine List.forall_mem_cons.mpr ⟨mo_iload _ _, ?_⟩
  refine List.forall_mem_cons.mpr ⟨mo_call _ _ _, ?_⟩
  refine List.forall_mem_cons.mpr ⟨mo_aload _ _, ?_⟩
  refine List.forall_mem_cons.mpr ⟨mo_get _ _, ?_⟩
  refine List.forall_mem_cons.mpr ⟨mo_call _ _ _, ?_⟩
  refine List.forall_mem_cons.mpr ⟨mo_iret, ?_⟩
  exact fun _ h => absurd h List.not_mem_nil
def k_X3_firstDayOf : List (Nat × aI) := [
  (0, i_aload 0 1),
  (1, i_get 3 0),
  (4, i_aload 1 1),
  (5, i_callV 22 2 2),
  (8, i_push (.int 0) 1),
  (9, i_istore 4 2),
  (11, i_iload 4 2),
  (13, i_push (.int 40) 2),
  (15, i_icmp (fun x y => y < x) 48 18),
  (18, i_aload 0 1),
  (19, i_get 3 0),
  (22, i_push (.int 0) 1),
  (23, i_iload 2 1),
  (24, i_callV 30 3 2),
  (27, i_iload 3 1),
  (28, i_icmp (fun x y => x = y) 31 34),
  (31, i_iload 4 2),
  (33, i_iret),
  (34, i_aload 0 1),
  (35, i_get 3 0),
  (38, i_callV 45 1 2),
  (41, i_pop),
  (42, i_iinc 4 1),
  (45, i_goto 11),
  (48, i_push (.int (-4)) 2),
  (50, i_iret)]
theorem s_X3_firstDayOf : ∀ q ∈ k_X3_firstDayOf, Snd RX3 cX3_firstDayOf (some .int) false q.1 q.2 := by
  unfold k_X3_firstDayOf
  refine List.forall_mem_cons.mpr ⟨snd_aload_n (by decide +kernel : decode cX3_firstDayOf 0 = .ok (.aload_n 0, 1)) rfl, ?_⟩
  refine List.forall_mem_cons.mpr ⟨snd_get fl_3_12 (by decide +kernel : decode cX3_firstDayOf 1 = .ok (.getfield 12, 3)), ?_⟩
  refine List.forall_mem_cons.mpr ⟨snd_aload_n (by decide +kernel : decode cX3_firstDayOf 4 = .ok (.aload_n 1, 1)) rfl, ?_⟩
  refine List.forall_mem_cons.mpr ⟨snd_callV mok_22 wd_232 wd_38 wd_39 rfl rfl (by decide +kernel : decode cX3_firstDayOf 5 = .ok (.invokevirtual 25, 3)), ?_⟩
  refine List.forall_mem_cons.mpr ⟨snd_iconst (by decide +kernel : decode cX3_firstDayOf 8 = .ok (.iconst 0, 1)) (by decide +kernel), ?_⟩
  refine List.forall_mem_cons.mpr ⟨snd_istore (by decide +kernel : decode cX3_firstDayOf 9 = .ok (.istore 4, 2)), ?_⟩
  refine List.forall_mem_cons.mpr ⟨snd_iload (by decide +kernel : decode cX3_firstDayOf 11 = .ok (.iload 4, 2)), ?_⟩
  refine List.forall_mem_cons.mpr ⟨snd_bipush (by decide +kernel : decode cX3_firstDayOf 13 = .ok (.bipush 40, 2)) (by decide +kernel), ?_⟩
  refine List.forall_mem_cons.mpr ⟨snd_icmp_gt (by decide +kernel : decode cX3_firstDayOf 15 = .ok (.if_icmp .gt 33, 3)) (by decide +kernel), ?_⟩
  refine List.forall_mem_cons.mpr ⟨snd_aload_n (by decide +kernel : decode cX3_firstDayOf 18 = .ok (.aload_n 0, 1)) rfl, ?_⟩
  refine List.forall_mem_cons.mpr ⟨snd_get fl_3_12 (by decide +kernel : decode cX3_firstDayOf 19 = .ok (.getfield 12, 3)), ?_⟩
  refine List.forall_mem_cons.mpr ⟨snd_iconst (by decide +kernel : decode cX3_firstDayOf 22 = .ok (.iconst 0, 1)) (by decide +kernel), ?_⟩
  refine List.forall_mem_cons.mpr ⟨snd_iload_n (by decide +kernel : decode cX3_firstDayOf 23 = .ok (.iload_n 2, 1)) rfl, ?_⟩
  refine List.forall_mem_cons.mpr ⟨snd_callV mok_30 wd_238 wd_58 wd_59 rfl rfl (by decide +kernel : decode cX3_firstDayOf 24 = .ok (.invokevirtual 33, 3)), ?_⟩
  refine List.forall_mem_cons.mpr ⟨snd_iload_n (by decide +kernel : decode cX3_firstDayOf 27 = .ok (.iload_n 3, 1)) rfl, ?_⟩
  refine List.forall_mem_cons.mpr ⟨snd_icmp_ne (by decide +kernel : decode cX3_firstDayOf 28 = .ok (.if_icmp .ne 6, 3)) (by decide +kernel), ?_⟩
  refine List.forall_mem_cons.mpr ⟨snd_iload (by decide +kernel : decode cX3_firstDayOf 31 = .ok (.iload 4, 2)), ?_⟩
  refine List.forall_mem_cons.mpr ⟨snd_iret (by decide +kernel : decode cX3_firstDayOf 33 = .ok (.ireturn, 1)), ?_⟩
  refine List.forall_mem_cons.mpr ⟨snd_aload_n (by decide +kernel : decode cX3_firstDayOf 34 = .ok (.aload_n 0, 1)) rfl, ?_⟩
  refine List.forall_mem_cons.mpr ⟨snd_get fl_3_12 (by decide +kernel : decode cX3_firstDayOf 35 = .ok (.getfield 12, 3)), ?_⟩
  refine List.forall_mem_cons.mpr ⟨snd_callV mok_45 wd_244 wd_53 wd_54 rfl rfl (by decide +kernel : decode cX3_firstDayOf 38 = .ok (.invokevirtual 41, 3)), ?_⟩
  refine List.forall_mem_cons.mpr ⟨snd_pop (by decide +kernel : decode cX3_firstDayOf 41 = .ok (.pop, 1)), ?_⟩
  refine List.forall_mem_cons.mpr ⟨snd_iinc (by decide +kernel : decode cX3_firstDayOf 42 = .ok (.iinc 4 1, 3)) (by decide +kernel), ?_⟩
  refine List.forall_mem_cons.mpr ⟨snd_goto (by decide +kernel : decode cX3_firstDayOf 45 = .ok (.goto (-34), 3)) (by decide +kernel), ?_⟩
  refine List.forall_mem_cons.mpr ⟨snd_bipush (by decide +kernel : decode cX3_firstDayOf 48 = .ok (.bipush (-4), 2)) (by decide +kernel), ?_⟩
  refine List.forall_mem_cons.mpr ⟨snd_iret (by decide +kernel : decode cX3_firstDayOf 50 = .ok (.ireturn, 1)), ?_⟩
  exact fun _ h => absurd h List.not_mem_nil
theorem m_X3_firstDayOf : ∀ q ∈ k_X3_firstDayOf, Mono q.2 := by
  unfold k_X3_firstDayOf
  refine List.forall_mem_cons.mpr ⟨mo_aload _ _, ?_⟩
  refine List.forall_mem_cons.mpr ⟨mo_get _ _, ?_⟩
  refine List.forall_mem_cons.mpr ⟨mo_aload _ _, ?_⟩
  refine List.forall_mem_cons.mpr ⟨mo_call _ _ _, ?_⟩
  refine List.forall_mem_cons.mpr ⟨mo_push _ _, ?_⟩
  refine List.forall_mem_cons.mpr ⟨mo_istore _ _, ?_⟩
  refine List.forall_mem_cons.mpr ⟨mo_iload _ _, ?_⟩
  refine List.forall_mem_cons.mpr ⟨mo_push _ _, ?_⟩
  refine List.forall_mem_cons.mpr ⟨mo_icmp _ _ _, ?_⟩
  refine List.forall_mem_cons.mpr ⟨mo_aload _ _, ?_⟩
  refine List.forall_mem_cons.mpr ⟨mo_get _ _, ?_⟩
  refine List.forall_mem_cons.mpr ⟨mo_push _ _, ?_⟩
  refine List.forall_mem_cons.mpr ⟨mo_iload _ _, ?_⟩
  refine List.forall_mem_cons.mpr ⟨mo_call _ _ _, ?_⟩
  refine List.forall_mem_cons.mpr ⟨mo_iload _ _, ?_⟩
  refine List.forall_mem_cons.mpr ⟨mo_icmp _ _ _, ?_⟩
  refine List.forall_mem_cons.mpr ⟨mo_iload _ _, ?_⟩
  refine List.forall_mem_cons.mpr ⟨mo_iret, ?_⟩
  refine List.forall_mem_cons.mpr ⟨mo_aload _ _, ?_⟩
  refine List.forall_mem_cons.mpr ⟨mo_get _ _, ?_⟩
  refine List.forall_mem_cons.mpr ⟨mo_call _ _ _, ?_⟩
  refine List.forall_mem_cons.mpr ⟨mo_pop, ?_⟩
  refine List.forall_mem_cons.mpr ⟨mo_iinc _ _, ?_⟩
  refine List.forall_mem_cons.mpr ⟨mo_goto _, ?_⟩
  refine List.forall_mem_cons.mpr ⟨mo_push _ _, ?_⟩
  refine List.forall_mem_cons.mpr ⟨mo_iret, ?_⟩
  exact fun _ h => absurd h List.not_mem_nil
def k_X3_firstQuietDay : List (Nat × aI) := [
  (0, i_aload 0 1),
  (1, i_get 3 0),
  (4, i_aload 1 1),
  (5, i_callV 22 2 2),
  (8, i_push (.int 0) 1),
  (9, i_istore 2 1),
  (10, i_iload 2 1),
  (11, i_push (.int 40) 2),
  (13, i_icmp (fun x y => y < x) 34 16),
  (16, i_aload 0 1),
  (17, i_get 3 0),
  (20, i_callV 45 1 2),
  (23, i_if (fun x => x = 0) 26 28),
  (26, i_iload 2 1),
  (27, i_iret),
  (28, i_iinc 2 1),
  (31, i_goto 10),
  (34, i_push (.int (-4)) 2),
  (36, i_iret)]
theorem s_X3_firstQuietDay : ∀ q ∈ k_X3_firstQuietDay, Snd RX3 cX3_firstQuietDay (some .int) false q.1 q.2 := by
  unfold k_X3_firstQuietDay
  refine List.forall_mem_cons.mpr ⟨snd_aload_n (by decide +kernel : decode cX3_firstQuietDay 0 = .ok (.aload_n 0, 1)) rfl, ?_⟩
  refine List.forall_mem_cons.mpr ⟨snd_get fl_3_12 (by decide +kernel : decode cX3_firstQuietDay 1 = .ok (.getfield 12, 3)), ?_⟩
  refine List.forall_mem_cons.mpr ⟨snd_aload_n (by decide +kernel : decode cX3_firstQuietDay 4 = .ok (.aload_n 1, 1)) rfl, ?_⟩
  refine List.forall_mem_cons.mpr ⟨snd_callV mok_22 wd_232 wd_38 wd_39 rfl rfl (by decide +kernel : decode cX3_firstQuietDay 5 = .ok (.invokevirtual 25, 3)), ?_⟩
  refine List.forall_mem_cons.mpr ⟨snd_iconst (by decide +kernel : decode cX3_firstQuietDay 8 = .ok (.iconst 0, 1)) (by decide +kernel), ?_⟩
  refine List.forall_mem_cons.mpr ⟨snd_istore_n (by decide +kernel : decode cX3_firstQuietDay 9 = .ok (.istore_n 2, 1)) rfl, ?_⟩
  refine List.forall_mem_cons.mpr ⟨snd_iload_n (by decide +kernel : decode cX3_firstQuietDay 10 = .ok (.iload_n 2, 1)) rfl, ?_⟩
  refine List.forall_mem_cons.mpr ⟨snd_bipush (by decide +kernel : decode cX3_firstQuietDay 11 = .ok (.bipush 40, 2)) (by decide +kernel), ?_⟩
  refine List.forall_mem_cons.mpr ⟨snd_icmp_gt (by decide +kernel : decode cX3_firstQuietDay 13 = .ok (.if_icmp .gt 21, 3)) (by decide +kernel), ?_⟩
  refine List.forall_mem_cons.mpr ⟨snd_aload_n (by decide +kernel : decode cX3_firstQuietDay 16 = .ok (.aload_n 0, 1)) rfl, ?_⟩
  refine List.forall_mem_cons.mpr ⟨snd_get fl_3_12 (by decide +kernel : decode cX3_firstQuietDay 17 = .ok (.getfield 12, 3)), ?_⟩
  refine List.forall_mem_cons.mpr ⟨snd_callV mok_45 wd_244 wd_53 wd_54 rfl rfl (by decide +kernel : decode cX3_firstQuietDay 20 = .ok (.invokevirtual 41, 3)), ?_⟩
  refine List.forall_mem_cons.mpr ⟨snd_if_ne (by decide +kernel : decode cX3_firstQuietDay 23 = .ok (.ifCond .ne 5, 3)) (by decide +kernel), ?_⟩
  refine List.forall_mem_cons.mpr ⟨snd_iload_n (by decide +kernel : decode cX3_firstQuietDay 26 = .ok (.iload_n 2, 1)) rfl, ?_⟩
  refine List.forall_mem_cons.mpr ⟨snd_iret (by decide +kernel : decode cX3_firstQuietDay 27 = .ok (.ireturn, 1)), ?_⟩
  refine List.forall_mem_cons.mpr ⟨snd_iinc (by decide +kernel : decode cX3_firstQuietDay 28 = .ok (.iinc 2 1, 3)) (by decide +kernel), ?_⟩
  refine List.forall_mem_cons.mpr ⟨snd_goto (by decide +kernel : decode cX3_firstQuietDay 31 = .ok (.goto (-21), 3)) (by decide +kernel), ?_⟩
  refine List.forall_mem_cons.mpr ⟨snd_bipush (by decide +kernel : decode cX3_firstQuietDay 34 = .ok (.bipush (-4), 2)) (by decide +kernel), ?_⟩
  refine List.forall_mem_cons.mpr ⟨snd_iret (by decide +kernel : decode cX3_firstQuietDay 36 = .ok (.ireturn, 1)), ?_⟩
  exact fun _ h => absurd h List.not_mem_nil
theorem m_X3_firstQuietDay : ∀ q ∈ k_X3_firstQuietDay, Mono q.2 := by
  unfold k_X3_firstQuietDay
  refine List.forall_mem_cons.mpr ⟨mo_aload _ _, ?_⟩
  refine List.forall_mem_cons.mpr ⟨mo_get _ _, ?_⟩
  refine List.forall_mem_cons.mpr ⟨mo_aload _ _, ?_⟩
  refine List.forall_mem_cons.mpr ⟨mo_call _ _ _, ?_⟩
  refine List.forall_mem_cons.mpr ⟨mo_push _ _, ?_⟩
  refine List.forall_mem_cons.mpr ⟨mo_istore _ _, ?_⟩
  refine List.forall_mem_cons.mpr ⟨mo_iload _ _, ?_⟩
  refine List.forall_mem_cons.mpr ⟨mo_push _ _, ?_⟩
  refine List.forall_mem_cons.mpr ⟨mo_icmp _ _ _, ?_⟩
  refine List.forall_mem_cons.mpr ⟨mo_aload _ _, ?_⟩
  refine List.forall_mem_cons.mpr ⟨mo_get _ _, ?_⟩
  refine List.forall_mem_cons.mpr ⟨mo_call _ _ _, ?_⟩
  refine List.forall_mem_cons.mpr ⟨mo_if _ _ _, ?_⟩
  refine List.forall_mem_cons.mpr ⟨mo_iload _ _, ?_⟩
  refine List.forall_mem_cons.mpr ⟨mo_iret, ?_⟩
  refine List.forall_mem_cons.mpr ⟨mo_iinc _ _, ?_⟩
  refine List.forall_mem_cons.mpr ⟨mo_goto _, ?_⟩
  refine List.forall_mem_cons.mpr ⟨mo_push _ _, ?_⟩
  refine List.forall_mem_cons.mpr ⟨mo_iret, ?_⟩
  exact fun _ h => absurd h List.not_mem_nil
def k_X3_fewestPins : List (Nat × aI) := [
  (0, i_aload 1 1),
  (1, i_callV 27 1 2),
  (4, i_istore 4 2),
  (6, i_aload 0 1),
  (7, i_aload 1 1),
  (8, i_iload 2 1),
  (9, i_callV 54 3 3),
  (12, i_istore 5 2),
  (14, i_aload 0 1),
  (15, i_aload 1 1),
  (16, i_iload 2 1),
  (17, i_iload 4 2),
  (19, i_callV 60 4 3),
  (22, i_push (.int 0) 1),
  (23, i_istore 6 2),
  (25, i_iload 3 1),
  (26, i_if (fun x => x < 0) 29 34),
  (29, i_push (.int (-4)) 2),
  (31, i_goto 41),
  (34, i_aload 1 1),
  (35, i_iload 4 2),
  (37, i_iload 3 1),
  (38, i_callV 30 3 2),
  (41, i_istore 7 2),
  (43, i_push (.int 0) 1),
  (44, i_istore 8 2),
  (46, i_iload 8 2),
  (48, i_aload 1 1),
  (49, i_callV 26 1 2),
  (52, i_icmp (fun x y => x < y) 55 127),
  (55, i_aload 1 1),
  (56, i_iload 4 2),
  (58, i_iload 8 2),
  (60, i_push (.int 0) 1),
  (61, i_callV 51 4 2),
  (64, i_istore 9 2),
  (66, i_aload 1 1),
  (67, i_iload 9 2),
  (69, i_callV 38 2 2),
  (72, i_push (.int 10) 2),
  (74, i_icmp (fun x y => x = y) 121 77),
  (77, i_iload 5 2),
  (79, i_iload 9 2),
  (81, i_callS 64 2),
  (84, i_if (fun x => x = 0) 90 87),
  (87, i_goto 121),
  (90, i_aload 0 1),
  (91, i_iload 9 2),
  (93, i_callV 58 2 3),
  (96, i_istore 10 2),
  (98, i_iload 10 2),
  (100, i_push (.int (-4)) 2),
  (102, i_icmp (fun x y => x = y) 105 108),
  (105, i_push (.int (-4)) 2),
  (107, i_iret),
  (108, i_iinc 6 1),
  (111, i_iload 8 2),
  (113, i_iload 3 1),
  (114, i_icmp (fun x y => x = y) 117 121),
  (117, i_iload 10 2),
  (119, i_istore 7 2),
  (121, i_iinc 8 1),
  (124, i_goto 46),
  (127, i_iload 3 1),
  (128, i_if (fun x => x < 0) 131 136),
  (131, i_iload 6 2),
  (133, i_goto 138),
  (136, i_iload 7 2),
  (138, i_iret)]
theorem s_X3_fewestPins : ∀ q ∈ k_X3_fewestPins, Snd RX3 cX3_fewestPins (some .int) false q.1 q.2 := by
  unfold k_X3_fewestPins
  refine List.forall_mem_cons.mpr ⟨snd_aload_n (by decide +kernel : decode cX3_fewestPins 0 = .ok (.aload_n 1, 1)) rfl, ?_⟩
  refine List.forall_mem_cons.mpr ⟨snd_callV mok_27 wd_245 wd_43 wd_44 rfl rfl (by decide +kernel : decode cX3_fewestPins 1 = .ok (.invokevirtual 45, 3)), ?_⟩
  refine List.forall_mem_cons.mpr ⟨snd_istore (by decide +kernel : decode cX3_fewestPins 4 = .ok (.istore 4, 2)), ?_⟩
  refine List.forall_mem_cons.mpr ⟨snd_aload_n (by decide +kernel : decode cX3_fewestPins 6 = .ok (.aload_n 0, 1)) rfl, ?_⟩
  refine List.forall_mem_cons.mpr ⟨snd_aload_n (by decide +kernel : decode cX3_fewestPins 7 = .ok (.aload_n 1, 1)) rfl, ?_⟩
  refine List.forall_mem_cons.mpr ⟨snd_iload_n (by decide +kernel : decode cX3_fewestPins 8 = .ok (.iload_n 2, 1)) rfl, ?_⟩
  refine List.forall_mem_cons.mpr ⟨snd_callV mok_54 wd_246 wd_249 wd_250 rfl rfl (by decide +kernel : decode cX3_fewestPins 9 = .ok (.invokevirtual 48, 3)), ?_⟩
  refine List.forall_mem_cons.mpr ⟨snd_istore (by decide +kernel : decode cX3_fewestPins 12 = .ok (.istore 5, 2)), ?_⟩
  refine List.forall_mem_cons.mpr ⟨snd_aload_n (by decide +kernel : decode cX3_fewestPins 14 = .ok (.aload_n 0, 1)) rfl, ?_⟩
  refine List.forall_mem_cons.mpr ⟨snd_aload_n (by decide +kernel : decode cX3_fewestPins 15 = .ok (.aload_n 1, 1)) rfl, ?_⟩
  refine List.forall_mem_cons.mpr ⟨snd_iload_n (by decide +kernel : decode cX3_fewestPins 16 = .ok (.iload_n 2, 1)) rfl, ?_⟩
  refine List.forall_mem_cons.mpr ⟨snd_iload (by decide +kernel : decode cX3_fewestPins 17 = .ok (.iload 4, 2)), ?_⟩
  refine List.forall_mem_cons.mpr ⟨snd_callV mok_60 wd_251 wd_254 wd_255 rfl rfl (by decide +kernel : decode cX3_fewestPins 19 = .ok (.invokevirtual 52, 3)), ?_⟩
  refine List.forall_mem_cons.mpr ⟨snd_iconst (by decide +kernel : decode cX3_fewestPins 22 = .ok (.iconst 0, 1)) (by decide +kernel), ?_⟩
  refine List.forall_mem_cons.mpr ⟨snd_istore (by decide +kernel : decode cX3_fewestPins 23 = .ok (.istore 6, 2)), ?_⟩
  refine List.forall_mem_cons.mpr ⟨snd_iload_n (by decide +kernel : decode cX3_fewestPins 25 = .ok (.iload_n 3, 1)) rfl, ?_⟩
  refine List.forall_mem_cons.mpr ⟨snd_if_ge (by decide +kernel : decode cX3_fewestPins 26 = .ok (.ifCond .ge 8, 3)) (by decide +kernel), ?_⟩
  refine List.forall_mem_cons.mpr ⟨snd_bipush (by decide +kernel : decode cX3_fewestPins 29 = .ok (.bipush (-4), 2)) (by decide +kernel), ?_⟩
  refine List.forall_mem_cons.mpr ⟨snd_goto (by decide +kernel : decode cX3_fewestPins 31 = .ok (.goto 10, 3)) (by decide +kernel), ?_⟩
  refine List.forall_mem_cons.mpr ⟨snd_aload_n (by decide +kernel : decode cX3_fewestPins 34 = .ok (.aload_n 1, 1)) rfl, ?_⟩
  refine List.forall_mem_cons.mpr ⟨snd_iload (by decide +kernel : decode cX3_fewestPins 35 = .ok (.iload 4, 2)), ?_⟩
  refine List.forall_mem_cons.mpr ⟨snd_iload_n (by decide +kernel : decode cX3_fewestPins 37 = .ok (.iload_n 3, 1)) rfl, ?_⟩
  refine List.forall_mem_cons.mpr ⟨snd_callV mok_30 wd_238 wd_58 wd_59 rfl rfl (by decide +kernel : decode cX3_fewestPins 38 = .ok (.invokevirtual 33, 3)), ?_⟩
  refine List.forall_mem_cons.mpr ⟨snd_istore (by decide +kernel : decode cX3_fewestPins 41 = .ok (.istore 7, 2)), ?_⟩
  refine List.forall_mem_cons.mpr ⟨snd_iconst (by decide +kernel : decode cX3_fewestPins 43 = .ok (.iconst 0, 1)) (by decide +kernel), ?_⟩
  refine List.forall_mem_cons.mpr ⟨snd_istore (by decide +kernel : decode cX3_fewestPins 44 = .ok (.istore 8, 2)), ?_⟩
  refine List.forall_mem_cons.mpr ⟨snd_iload (by decide +kernel : decode cX3_fewestPins 46 = .ok (.iload 8, 2)), ?_⟩
  refine List.forall_mem_cons.mpr ⟨snd_aload_n (by decide +kernel : decode cX3_fewestPins 48 = .ok (.aload_n 1, 1)) rfl, ?_⟩
  refine List.forall_mem_cons.mpr ⟨snd_callV mok_26 wd_256 wd_79 wd_80 rfl rfl (by decide +kernel : decode cX3_fewestPins 49 = .ok (.invokevirtual 56, 3)), ?_⟩
  refine List.forall_mem_cons.mpr ⟨snd_icmp_ge (by decide +kernel : decode cX3_fewestPins 52 = .ok (.if_icmp .ge 75, 3)) (by decide +kernel), ?_⟩
  refine List.forall_mem_cons.mpr ⟨snd_aload_n (by decide +kernel : decode cX3_fewestPins 55 = .ok (.aload_n 1, 1)) rfl, ?_⟩
  refine List.forall_mem_cons.mpr ⟨snd_iload (by decide +kernel : decode cX3_fewestPins 56 = .ok (.iload 4, 2)), ?_⟩
  refine List.forall_mem_cons.mpr ⟨snd_iload (by decide +kernel : decode cX3_fewestPins 58 = .ok (.iload 8, 2)), ?_⟩
  refine List.forall_mem_cons.mpr ⟨snd_iconst (by decide +kernel : decode cX3_fewestPins 60 = .ok (.iconst 0, 1)) (by decide +kernel), ?_⟩
  refine List.forall_mem_cons.mpr ⟨snd_callV mok_51 wd_257 wd_260 wd_261 rfl rfl (by decide +kernel : decode cX3_fewestPins 61 = .ok (.invokevirtual 59, 3)), ?_⟩
  refine List.forall_mem_cons.mpr ⟨snd_istore (by decide +kernel : decode cX3_fewestPins 64 = .ok (.istore 9, 2)), ?_⟩
  refine List.forall_mem_cons.mpr ⟨snd_aload_n (by decide +kernel : decode cX3_fewestPins 66 = .ok (.aload_n 1, 1)) rfl, ?_⟩
  refine List.forall_mem_cons.mpr ⟨snd_iload (by decide +kernel : decode cX3_fewestPins 67 = .ok (.iload 9, 2)), ?_⟩
  refine List.forall_mem_cons.mpr ⟨snd_callV mok_38 wd_262 wd_198 wd_199 rfl rfl (by decide +kernel : decode cX3_fewestPins 69 = .ok (.invokevirtual 63, 3)), ?_⟩
  refine List.forall_mem_cons.mpr ⟨snd_bipush (by decide +kernel : decode cX3_fewestPins 72 = .ok (.bipush 10, 2)) (by decide +kernel), ?_⟩
  refine List.forall_mem_cons.mpr ⟨snd_icmp_eq (by decide +kernel : decode cX3_fewestPins 74 = .ok (.if_icmp .eq 47, 3)) (by decide +kernel), ?_⟩
  refine List.forall_mem_cons.mpr ⟨snd_iload (by decide +kernel : decode cX3_fewestPins 77 = .ok (.iload 5, 2)), ?_⟩
  refine List.forall_mem_cons.mpr ⟨snd_iload (by decide +kernel : decode cX3_fewestPins 79 = .ok (.iload 9, 2)), ?_⟩
  refine List.forall_mem_cons.mpr ⟨snd_callS mok_64 wd_263 wd_266 (by decide +kernel : decode cX3_fewestPins 81 = .ok (.invokestatic 67, 3)), ?_⟩
  refine List.forall_mem_cons.mpr ⟨snd_if_eq (by decide +kernel : decode cX3_fewestPins 84 = .ok (.ifCond .eq 6, 3)) (by decide +kernel), ?_⟩
  refine List.forall_mem_cons.mpr ⟨snd_goto (by decide +kernel : decode cX3_fewestPins 87 = .ok (.goto 34, 3)) (by decide +kernel), ?_⟩
  refine List.forall_mem_cons.mpr ⟨snd_aload_n (by decide +kernel : decode cX3_fewestPins 90 = .ok (.aload_n 0, 1)) rfl, ?_⟩
  refine List.forall_mem_cons.mpr ⟨snd_iload (by decide +kernel : decode cX3_fewestPins 91 = .ok (.iload 9, 2)), ?_⟩
  refine List.forall_mem_cons.mpr ⟨snd_callV mok_58 wd_267 wd_270 wd_271 rfl rfl (by decide +kernel : decode cX3_fewestPins 93 = .ok (.invokevirtual 71, 3)), ?_⟩
  refine List.forall_mem_cons.mpr ⟨snd_istore (by decide +kernel : decode cX3_fewestPins 96 = .ok (.istore 10, 2)), ?_⟩
  refine List.forall_mem_cons.mpr ⟨snd_iload (by decide +kernel : decode cX3_fewestPins 98 = .ok (.iload 10, 2)), ?_⟩
  refine List.forall_mem_cons.mpr ⟨snd_bipush (by decide +kernel : decode cX3_fewestPins 100 = .ok (.bipush (-4), 2)) (by decide +kernel), ?_⟩
  refine List.forall_mem_cons.mpr ⟨snd_icmp_ne (by decide +kernel : decode cX3_fewestPins 102 = .ok (.if_icmp .ne 6, 3)) (by decide +kernel), ?_⟩
  refine List.forall_mem_cons.mpr ⟨snd_bipush (by decide +kernel : decode cX3_fewestPins 105 = .ok (.bipush (-4), 2)) (by decide +kernel), ?_⟩
  refine List.forall_mem_cons.mpr ⟨snd_iret (by decide +kernel : decode cX3_fewestPins 107 = .ok (.ireturn, 1)), ?_⟩
  refine List.forall_mem_cons.mpr ⟨snd_iinc (by decide +kernel : decode cX3_fewestPins 108 = .ok (.iinc 6 1, 3)) (by decide +kernel), ?_⟩
  refine List.forall_mem_cons.mpr ⟨snd_iload (by decide +kernel : decode cX3_fewestPins 111 = .ok (.iload 8, 2)), ?_⟩
  refine List.forall_mem_cons.mpr ⟨snd_iload_n (by decide +kernel : decode cX3_fewestPins 113 = .ok (.iload_n 3, 1)) rfl, ?_⟩
  refine List.forall_mem_cons.mpr ⟨snd_icmp_ne (by decide +kernel : decode cX3_fewestPins 114 = .ok (.if_icmp .ne 7, 3)) (by decide +kernel), ?_⟩
  refine List.forall_mem_cons.mpr ⟨snd_iload (by decide +kernel : decode cX3_fewestPins 117 = .ok (.iload 10, 2)), ?_⟩
  refine List.forall_mem_cons.mpr ⟨snd_istore (by decide +kernel : decode cX3_fewestPins 119 = .ok (.istore 7, 2)), ?_⟩
  refine List.forall_mem_cons.mpr ⟨snd_iinc (by decide +kernel : decode cX3_fewestPins 121 = .ok (.iinc 8 1, 3)) (by decide +kernel), ?_⟩
  refine List.forall_mem_cons.mpr ⟨snd_goto (by decide +kernel : decode cX3_fewestPins 124 = .ok (.goto (-78), 3)) (by decide +kernel), ?_⟩
  refine List.forall_mem_cons.mpr ⟨snd_iload_n (by decide +kernel : decode cX3_fewestPins 127 = .ok (.iload_n 3, 1)) rfl, ?_⟩
  refine List.forall_mem_cons.mpr ⟨snd_if_ge (by decide +kernel : decode cX3_fewestPins 128 = .ok (.ifCond .ge 8, 3)) (by decide +kernel), ?_⟩
  refine List.forall_mem_cons.mpr ⟨snd_iload (by decide +kernel : decode cX3_fewestPins 131 = .ok (.iload 6, 2)), ?_⟩
  refine List.forall_mem_cons.mpr ⟨snd_goto (by decide +kernel : decode cX3_fewestPins 133 = .ok (.goto 5, 3)) (by decide +kernel), ?_⟩
  refine List.forall_mem_cons.mpr ⟨snd_iload (by decide +kernel : decode cX3_fewestPins 136 = .ok (.iload 7, 2)), ?_⟩
  refine List.forall_mem_cons.mpr ⟨snd_iret (by decide +kernel : decode cX3_fewestPins 138 = .ok (.ireturn, 1)), ?_⟩
  exact fun _ h => absurd h List.not_mem_nil
theorem m_X3_fewestPins : ∀ q ∈ k_X3_fewestPins, Mono q.2 := by
  unfold k_X3_fewestPins
  refine List.forall_mem_cons.mpr ⟨mo_aload _ _, ?_⟩
  refine List.forall_mem_cons.mpr ⟨mo_call _ _ _, ?_⟩
  refine List.forall_mem_cons.mpr ⟨mo_istore _ _, ?_⟩
  refine List.forall_mem_cons.mpr ⟨mo_aload _ _, ?_⟩
  refine List.forall_mem_cons.mpr ⟨mo_aload _ _, ?_⟩
  refine List.forall_mem_cons.mpr ⟨mo_iload _ _, ?_⟩
  refine List.forall_mem_cons.mpr ⟨mo_call _ _ _, ?_⟩
  refine List.forall_mem_cons.mpr ⟨mo_istore _ _, ?_⟩
  refine List.forall_mem_cons.mpr ⟨mo_aload _ _, ?_⟩
  refine List.forall_mem_cons.mpr ⟨mo_aload _ _, ?_⟩
  refine List.forall_mem_cons.mpr ⟨mo_iload _ _, ?_⟩
  refine List.forall_mem_cons.mpr ⟨mo_iload _ _, ?_⟩
  refine List.forall_mem_cons.mpr ⟨mo_call _ _ _, ?_⟩
  refine List.forall_mem_cons.mpr ⟨mo_push _ _, ?_⟩
  refine List.forall_mem_cons.mpr ⟨mo_istore _ _, ?_⟩
  refine List.forall_mem_cons.mpr ⟨mo_iload _ _, ?_⟩
  refine List.forall_mem_cons.mpr ⟨mo_if _ _ _, ?_⟩
  refine List.forall_mem_cons.mpr ⟨mo_push _ _, ?_⟩
  refine List.forall_mem_cons.mpr ⟨mo_goto _, ?_⟩
  refine List.forall_mem_cons.mpr ⟨mo_aload _ _, ?_⟩
  refine List.forall_mem_cons.mpr ⟨mo_iload _ _, ?_⟩
  refine List.forall_mem_cons.mpr ⟨mo_iload _ _, ?_⟩
  refine List.forall_mem_cons.mpr ⟨mo_call _ _ _, ?_⟩
  refine List.forall_mem_cons.mpr ⟨mo_istore _ _, ?_⟩
  refine List.forall_mem_cons.mpr ⟨mo_push _ _, ?_⟩
  refine List.forall_mem_cons.mpr ⟨mo_istore _ _, ?_⟩
  refine List.forall_mem_cons.mpr ⟨mo_iload _ _, ?_⟩
  refine List.forall_mem_cons.mpr ⟨mo_aload _ _, ?_⟩
  refine List.forall_mem_cons.mpr ⟨mo_call _ _ _, ?_⟩
  refine List.forall_mem_cons.mpr ⟨mo_icmp _ _ _, ?_⟩
  refine List.forall_mem_cons.mpr ⟨mo_aload _ _, ?_⟩
  refine List.forall_mem_cons.mpr ⟨mo_iload _ _, ?_⟩
  refine List.forall_mem_cons.mpr ⟨mo_iload _ _, ?_⟩
  refine List.forall_mem_cons.mpr ⟨mo_push _ _, ?_⟩
  refine List.forall_mem_cons.mpr ⟨mo_call _ _ _, ?_⟩
  refine List.forall_mem_cons.mpr ⟨mo_istore _ _, ?_⟩
  refine List.forall_mem_cons.mpr ⟨mo_aload _ _, ?_⟩
  refine List.forall_mem_cons.mpr ⟨mo_iload _ _, ?_⟩
  refine List.forall_mem_cons.mpr ⟨mo_call _ _ _, ?_⟩
  refine List.forall_mem_cons.mpr ⟨mo_push _ _, ?_⟩
  refine List.forall_mem_cons.mpr ⟨mo_icmp _ _ _, ?_⟩
  refine List.forall_mem_cons.mpr ⟨mo_iload _ _, ?_⟩
  refine List.forall_mem_cons.mpr ⟨mo_iload _ _, ?_⟩
  refine List.forall_mem_cons.mpr ⟨mo_call _ _ _, ?_⟩
  refine List.forall_mem_cons.mpr ⟨mo_if _ _ _, ?_⟩
  refine List.forall_mem_cons.mpr ⟨mo_goto _, ?_⟩
  refine List.forall_mem_cons.mpr ⟨mo_aload _ _, ?_⟩
  refine List.forall_mem_cons.mpr ⟨mo_iload _ _, ?_⟩
  refine List.forall_mem_cons.mpr ⟨mo_call _ _ _, ?_⟩
  refine List.forall_mem_cons.mpr ⟨mo_istore _ _, ?_⟩
  refine List.forall_mem_cons.mpr ⟨mo_iload _ _, ?_⟩
  refine List.forall_mem_cons.mpr ⟨mo_push _ _, ?_⟩
  refine List.forall_mem_cons.mpr ⟨mo_icmp _ _ _, ?_⟩
  refine List.forall_mem_cons.mpr ⟨mo_push _ _, ?_⟩
  refine List.forall_mem_cons.mpr ⟨mo_iret, ?_⟩
  refine List.forall_mem_cons.mpr ⟨mo_iinc _ _, ?_⟩
  refine List.forall_mem_cons.mpr ⟨mo_iload _ _, ?_⟩
  refine List.forall_mem_cons.mpr ⟨mo_iload _ _, ?_⟩
  refine List.forall_mem_cons.mpr ⟨mo_icmp _ _ _, ?_⟩
  refine List.forall_mem_cons.mpr ⟨mo_iload _ _, ?_⟩
  refine List.forall_mem_cons.mpr ⟨mo_istore _ _, ?_⟩
  refine List.forall_mem_cons.mpr ⟨mo_iinc _ _, ?_⟩
  refine List.forall_mem_cons.mpr ⟨mo_goto _, ?_⟩
  refine List.forall_mem_cons.mpr ⟨mo_iload _ _, ?_⟩
  refine List.forall_mem_cons.mpr ⟨mo_if _ _ _, ?_⟩
  refine List.forall_mem_cons.mpr ⟨mo_iload _ _, ?_⟩
  refine List.forall_mem_cons.mpr ⟨mo_goto _, ?_⟩
  refine List.forall_mem_cons.mpr ⟨mo_iload _ _, ?_⟩
  refine List.forall_mem_cons.mpr ⟨mo_iret, ?_⟩
  exact fun _ h => absurd h List.not_mem_nil
def k_X3_leastThingFor : List (Nat × aI) := [
  (0, i_push (.int 0) 1),
  (1, i_istore 2 1),
  (2, i_iload 2 1),
  (3, i_push (.int 10) 2),
  (5, i_icmp (fun x y => x < y) 8 29),
  (8, i_aload 0 1),
  (9, i_get 3 1),
  (12, i_iload 2 1),
  (13, i_iald),
  (14, i_iload 1 1),
  (15, i_callS 64 2),
  (18, i_if (fun x => x = 0) 23 21),
  (21, i_iload 2 1),
  (22, i_iret),
  (23, i_iinc 2 1),
  (26, i_goto 2),
  (29, i_push (.int (-4)) 2),
  (31, i_iret)]
theorem s_X3_leastThingFor : ∀ q ∈ k_X3_leastThingFor, Snd RX3 cX3_leastThingFor (some .int) false q.1 q.2 := by
  unfold k_X3_leastThingFor
  refine List.forall_mem_cons.mpr ⟨snd_iconst (by decide +kernel : decode cX3_leastThingFor 0 = .ok (.iconst 0, 1)) (by decide +kernel), ?_⟩
  refine List.forall_mem_cons.mpr ⟨snd_istore_n (by decide +kernel : decode cX3_leastThingFor 1 = .ok (.istore_n 2, 1)) rfl, ?_⟩
  refine List.forall_mem_cons.mpr ⟨snd_iload_n (by decide +kernel : decode cX3_leastThingFor 2 = .ok (.iload_n 2, 1)) rfl, ?_⟩
  refine List.forall_mem_cons.mpr ⟨snd_bipush (by decide +kernel : decode cX3_leastThingFor 3 = .ok (.bipush 10, 2)) (by decide +kernel), ?_⟩
  refine List.forall_mem_cons.mpr ⟨snd_icmp_ge (by decide +kernel : decode cX3_leastThingFor 5 = .ok (.if_icmp .ge 24, 3)) (by decide +kernel), ?_⟩
  refine List.forall_mem_cons.mpr ⟨snd_aload_n (by decide +kernel : decode cX3_leastThingFor 8 = .ok (.aload_n 0, 1)) rfl, ?_⟩
  refine List.forall_mem_cons.mpr ⟨snd_get fl_3_18 (by decide +kernel : decode cX3_leastThingFor 9 = .ok (.getfield 18, 3)), ?_⟩
  refine List.forall_mem_cons.mpr ⟨snd_iload_n (by decide +kernel : decode cX3_leastThingFor 12 = .ok (.iload_n 2, 1)) rfl, ?_⟩
  refine List.forall_mem_cons.mpr ⟨snd_iald (by decide +kernel : decode cX3_leastThingFor 13 = .ok (.iaload, 1)), ?_⟩
  refine List.forall_mem_cons.mpr ⟨snd_iload_n (by decide +kernel : decode cX3_leastThingFor 14 = .ok (.iload_n 1, 1)) rfl, ?_⟩
  refine List.forall_mem_cons.mpr ⟨snd_callS mok_64 wd_263 wd_266 (by decide +kernel : decode cX3_leastThingFor 15 = .ok (.invokestatic 67, 3)), ?_⟩
  refine List.forall_mem_cons.mpr ⟨snd_if_eq (by decide +kernel : decode cX3_leastThingFor 18 = .ok (.ifCond .eq 5, 3)) (by decide +kernel), ?_⟩
  refine List.forall_mem_cons.mpr ⟨snd_iload_n (by decide +kernel : decode cX3_leastThingFor 21 = .ok (.iload_n 2, 1)) rfl, ?_⟩
  refine List.forall_mem_cons.mpr ⟨snd_iret (by decide +kernel : decode cX3_leastThingFor 22 = .ok (.ireturn, 1)), ?_⟩
  refine List.forall_mem_cons.mpr ⟨snd_iinc (by decide +kernel : decode cX3_leastThingFor 23 = .ok (.iinc 2 1, 3)) (by decide +kernel), ?_⟩
  refine List.forall_mem_cons.mpr ⟨snd_goto (by decide +kernel : decode cX3_leastThingFor 26 = .ok (.goto (-24), 3)) (by decide +kernel), ?_⟩
  refine List.forall_mem_cons.mpr ⟨snd_bipush (by decide +kernel : decode cX3_leastThingFor 29 = .ok (.bipush (-4), 2)) (by decide +kernel), ?_⟩
  refine List.forall_mem_cons.mpr ⟨snd_iret (by decide +kernel : decode cX3_leastThingFor 31 = .ok (.ireturn, 1)), ?_⟩
  exact fun _ h => absurd h List.not_mem_nil
theorem m_X3_leastThingFor : ∀ q ∈ k_X3_leastThingFor, Mono q.2 := by
  unfold k_X3_leastThingFor
  refine List.forall_mem_cons.mpr ⟨mo_push _ _, ?_⟩
  refine List.forall_mem_cons.mpr ⟨mo_istore _ _, ?_⟩
  refine List.forall_mem_cons.mpr ⟨mo_iload _ _, ?_⟩
  refine List.forall_mem_cons.mpr ⟨mo_push _ _, ?_⟩
  refine List.forall_mem_cons.mpr ⟨mo_icmp _ _ _, ?_⟩
  refine List.forall_mem_cons.mpr ⟨mo_aload _ _, ?_⟩
  refine List.forall_mem_cons.mpr ⟨mo_get _ _, ?_⟩
  refine List.forall_mem_cons.mpr ⟨mo_iload _ _, ?_⟩
  refine List.forall_mem_cons.mpr ⟨mo_iald, ?_⟩
  refine List.forall_mem_cons.mpr ⟨mo_iload _ _, ?_⟩
  refine List.forall_mem_cons.mpr ⟨mo_call _ _ _, ?_⟩
  refine List.forall_mem_cons.mpr ⟨mo_if _ _ _, ?_⟩
  refine List.forall_mem_cons.mpr ⟨mo_iload _ _, ?_⟩
  refine List.forall_mem_cons.mpr ⟨mo_iret, ?_⟩
  refine List.forall_mem_cons.mpr ⟨mo_iinc _ _, ?_⟩
  refine List.forall_mem_cons.mpr ⟨mo_goto _, ?_⟩
  refine List.forall_mem_cons.mpr ⟨mo_push _ _, ?_⟩
  refine List.forall_mem_cons.mpr ⟨mo_iret, ?_⟩
  exact fun _ h => absurd h List.not_mem_nil
def k_X3_bestPin : List (Nat × aI) := [
  (0, i_aload 0 1),
  (1, i_aload 1 1),
  (2, i_iload 2 1),
  (3, i_callV 54 3 3),
  (6, i_istore 4 2),
  (8, i_push (.int (-1)) 1),
  (9, i_istore 5 2),
  (11, i_push (.int 0) 1),
  (12, i_istore 6 2),
  (14, i_push (.int 0) 1),
  (15, i_istore 7 2),
  (17, i_iload 7 2),
  (19, i_aload 1 1),
  (20, i_callV 25 1 2),
  (23, i_icmp (fun x y => x < y) 26 150),
  (26, i_aload 0 1),
  (27, i_aload 1 1),
  (28, i_iload 2 1),
  (29, i_iload 7 2),
  (31, i_callV 60 4 3),
  (34, i_push (.int 0) 1),
  (35, i_istore 8 2),
  (37, i_iload 8 2),
  (39, i_aload 1 1),
  (40, i_callV 26 1 2),
  (43, i_icmp (fun x y => x < y) 46 144),
  (46, i_push (.int 1) 1),
  (47, i_aload 1 1),
  (48, i_iload 7 2),
  (50, i_iload 8 2),
  (52, i_push (.int 0) 1),
  (53, i_callV 51 4 2),
  (56, i_bin (fun x y => x <<< (y &&& 31))),
  (57, i_istore 9 2),
  (59, i_push (.int 0) 1),
  (60, i_istore 10 2),
  (62, i_iload 10 2),
  (64, i_push (.int 10) 2),
  (66, i_icmp (fun x y => x < y) 69 138),
  (69, i_iload 4 2),
  (71, i_iload 9 2),
  (73, i_push (.int (-1)) 1),
  (74, i_bin (fun x y => x ^^^ y)),
  (75, i_bin (fun x y => x &&& y)),
  (76, i_aload 0 1),
  (77, i_get 3 1),
  (80, i_iload 10 2),
  (82, i_iald),
  (83, i_iload 9 2),
  (85, i_bin (fun x y => x &&& y)),
  (86, i_bin (fun x y => x ||| y)),
  (87, i_callS 181 1),
  (90, i_istore 11 2),
  (92, i_iload 11 2),
  (94, i_iload 5 2),
  (96, i_icmp (fun x y => y < x) 99 132),
  (99, i_iload 10 2),
  (101, i_aload 1 1),
  (102, i_iload 7 2),
  (104, i_iload 8 2),
  (106, i_callV 30 3 2),
  (109, i_icmp (fun x y => x = y) 132 112),
  (112, i_iload 11 2),
  (114, i_istore 5 2),
  (116, i_push (.int 100) 2),
  (118, i_iload 7 2),
  (120, i_bin (fun x y => x * y)),
  (121, i_push (.int 10) 2),
  (123, i_iload 8 2),
  (125, i_bin (fun x y => x * y)),
  (126, i_bin (fun x y => x + y)),
  (127, i_iload 10 2),
  (129, i_bin (fun x y => x + y)),
  (130, i_istore 6 2),
  (132, i_iinc 10 1),
  (135, i_goto 62),
  (138, i_iinc 8 1),
  (141, i_goto 37),
  (144, i_iinc 7 1),
  (147, i_goto 17),
  (150, i_iload 3 1),
  (151, i_if (fun x => x = 0) 159 154),
  (154, i_iload 6 2),
  (156, i_goto 161),
  (159, i_iload 5 2),
  (161, i_iret)]
theorem s_X3_bestPin : ∀ q ∈ k_X3_bestPin, Snd RX3 cX3_bestPin (some .int) false q.1 q.2 := by
  unfold k_X3_bestPin
  refine List.forall_mem_cons.mpr ⟨snd_aload_n (by decide +kernel : decode cX3_bestPin 0 = .ok (.aload_n 0, 1)) rfl, ?_⟩
  refine List.forall_mem_cons.mpr ⟨snd_aload_n (by decide +kernel : decode cX3_bestPin 1 = .ok (.aload_n 1, 1)) rfl, ?_⟩
  refine List.forall_mem_cons.mpr ⟨snd_iload_n (by decide +kernel : decode cX3_bestPin 2 = .ok (.iload_n 2, 1)) rfl, ?_⟩
  refine List.forall_mem_cons.mpr ⟨snd_callV mok_54 wd_246 wd_249 wd_250 rfl rfl (by decide +kernel : decode cX3_bestPin 3 = .ok (.invokevirtual 48, 3)), ?_⟩
  refine List.forall_mem_cons.mpr ⟨snd_istore (by decide +kernel : decode cX3_bestPin 6 = .ok (.istore 4, 2)), ?_⟩
  refine List.forall_mem_cons.mpr ⟨snd_iconst (by decide +kernel : decode cX3_bestPin 8 = .ok (.iconst (-1), 1)) (by decide +kernel), ?_⟩
  refine List.forall_mem_cons.mpr ⟨snd_istore (by decide +kernel : decode cX3_bestPin 9 = .ok (.istore 5, 2)), ?_⟩
  refine List.forall_mem_cons.mpr ⟨snd_iconst (by decide +kernel : decode cX3_bestPin 11 = .ok (.iconst 0, 1)) (by decide +kernel), ?_⟩
  refine List.forall_mem_cons.mpr ⟨snd_istore (by decide +kernel : decode cX3_bestPin 12 = .ok (.istore 6, 2)), ?_⟩
  refine List.forall_mem_cons.mpr ⟨snd_iconst (by decide +kernel : decode cX3_bestPin 14 = .ok (.iconst 0, 1)) (by decide +kernel), ?_⟩
  refine List.forall_mem_cons.mpr ⟨snd_istore (by decide +kernel : decode cX3_bestPin 15 = .ok (.istore 7, 2)), ?_⟩
  refine List.forall_mem_cons.mpr ⟨snd_iload (by decide +kernel : decode cX3_bestPin 17 = .ok (.iload 7, 2)), ?_⟩
  refine List.forall_mem_cons.mpr ⟨snd_aload_n (by decide +kernel : decode cX3_bestPin 19 = .ok (.aload_n 1, 1)) rfl, ?_⟩
  refine List.forall_mem_cons.mpr ⟨snd_callV mok_25 wd_272 wd_13 wd_14 rfl rfl (by decide +kernel : decode cX3_bestPin 20 = .ok (.invokevirtual 74, 3)), ?_⟩
  refine List.forall_mem_cons.mpr ⟨snd_icmp_ge (by decide +kernel : decode cX3_bestPin 23 = .ok (.if_icmp .ge 127, 3)) (by decide +kernel), ?_⟩
  refine List.forall_mem_cons.mpr ⟨snd_aload_n (by decide +kernel : decode cX3_bestPin 26 = .ok (.aload_n 0, 1)) rfl, ?_⟩
  refine List.forall_mem_cons.mpr ⟨snd_aload_n (by decide +kernel : decode cX3_bestPin 27 = .ok (.aload_n 1, 1)) rfl, ?_⟩
  refine List.forall_mem_cons.mpr ⟨snd_iload_n (by decide +kernel : decode cX3_bestPin 28 = .ok (.iload_n 2, 1)) rfl, ?_⟩
  refine List.forall_mem_cons.mpr ⟨snd_iload (by decide +kernel : decode cX3_bestPin 29 = .ok (.iload 7, 2)), ?_⟩
  refine List.forall_mem_cons.mpr ⟨snd_callV mok_60 wd_251 wd_254 wd_255 rfl rfl (by decide +kernel : decode cX3_bestPin 31 = .ok (.invokevirtual 52, 3)), ?_⟩
  refine List.forall_mem_cons.mpr ⟨snd_iconst (by decide +kernel : decode cX3_bestPin 34 = .ok (.iconst 0, 1)) (by decide +kernel), ?_⟩
  refine List.forall_mem_cons.mpr ⟨snd_istore (by decide +kernel : decode cX3_bestPin 35 = .ok (.istore 8, 2)), ?_⟩
  refine List.forall_mem_cons.mpr ⟨snd_iload (by decide +kernel : decode cX3_bestPin 37 = .ok (.iload 8, 2)), ?_⟩
  refine List.forall_mem_cons.mpr ⟨snd_aload_n (by decide +kernel : decode cX3_bestPin 39 = .ok (.aload_n 1, 1)) rfl, ?_⟩
  refine List.forall_mem_cons.mpr ⟨snd_callV mok_26 wd_256 wd_79 wd_80 rfl rfl (by decide +kernel : decode cX3_bestPin 40 = .ok (.invokevirtual 56, 3)), ?_⟩
  refine List.forall_mem_cons.mpr ⟨snd_icmp_ge (by decide +kernel : decode cX3_bestPin 43 = .ok (.if_icmp .ge 101, 3)) (by decide +kernel), ?_⟩
  refine List.forall_mem_cons.mpr ⟨snd_iconst (by decide +kernel : decode cX3_bestPin 46 = .ok (.iconst 1, 1)) (by decide +kernel), ?_⟩
  refine List.forall_mem_cons.mpr ⟨snd_aload_n (by decide +kernel : decode cX3_bestPin 47 = .ok (.aload_n 1, 1)) rfl, ?_⟩
  refine List.forall_mem_cons.mpr ⟨snd_iload (by decide +kernel : decode cX3_bestPin 48 = .ok (.iload 7, 2)), ?_⟩
  refine List.forall_mem_cons.mpr ⟨snd_iload (by decide +kernel : decode cX3_bestPin 50 = .ok (.iload 8, 2)), ?_⟩
  refine List.forall_mem_cons.mpr ⟨snd_iconst (by decide +kernel : decode cX3_bestPin 52 = .ok (.iconst 0, 1)) (by decide +kernel), ?_⟩
  refine List.forall_mem_cons.mpr ⟨snd_callV mok_51 wd_257 wd_260 wd_261 rfl rfl (by decide +kernel : decode cX3_bestPin 53 = .ok (.invokevirtual 59, 3)), ?_⟩
  refine List.forall_mem_cons.mpr ⟨snd_ishl (by decide +kernel : decode cX3_bestPin 56 = .ok (.ishl, 1)), ?_⟩
  refine List.forall_mem_cons.mpr ⟨snd_istore (by decide +kernel : decode cX3_bestPin 57 = .ok (.istore 9, 2)), ?_⟩
  refine List.forall_mem_cons.mpr ⟨snd_iconst (by decide +kernel : decode cX3_bestPin 59 = .ok (.iconst 0, 1)) (by decide +kernel), ?_⟩
  refine List.forall_mem_cons.mpr ⟨snd_istore (by decide +kernel : decode cX3_bestPin 60 = .ok (.istore 10, 2)), ?_⟩
  refine List.forall_mem_cons.mpr ⟨snd_iload (by decide +kernel : decode cX3_bestPin 62 = .ok (.iload 10, 2)), ?_⟩
  refine List.forall_mem_cons.mpr ⟨snd_bipush (by decide +kernel : decode cX3_bestPin 64 = .ok (.bipush 10, 2)) (by decide +kernel), ?_⟩
  refine List.forall_mem_cons.mpr ⟨snd_icmp_ge (by decide +kernel : decode cX3_bestPin 66 = .ok (.if_icmp .ge 72, 3)) (by decide +kernel), ?_⟩
  refine List.forall_mem_cons.mpr ⟨snd_iload (by decide +kernel : decode cX3_bestPin 69 = .ok (.iload 4, 2)), ?_⟩
  refine List.forall_mem_cons.mpr ⟨snd_iload (by decide +kernel : decode cX3_bestPin 71 = .ok (.iload 9, 2)), ?_⟩
  refine List.forall_mem_cons.mpr ⟨snd_iconst (by decide +kernel : decode cX3_bestPin 73 = .ok (.iconst (-1), 1)) (by decide +kernel), ?_⟩
  refine List.forall_mem_cons.mpr ⟨snd_ixor (by decide +kernel : decode cX3_bestPin 74 = .ok (.ixor, 1)), ?_⟩
  refine List.forall_mem_cons.mpr ⟨snd_iand (by decide +kernel : decode cX3_bestPin 75 = .ok (.iand, 1)), ?_⟩
  refine List.forall_mem_cons.mpr ⟨snd_aload_n (by decide +kernel : decode cX3_bestPin 76 = .ok (.aload_n 0, 1)) rfl, ?_⟩
  refine List.forall_mem_cons.mpr ⟨snd_get fl_3_18 (by decide +kernel : decode cX3_bestPin 77 = .ok (.getfield 18, 3)), ?_⟩
  refine List.forall_mem_cons.mpr ⟨snd_iload (by decide +kernel : decode cX3_bestPin 80 = .ok (.iload 10, 2)), ?_⟩
  refine List.forall_mem_cons.mpr ⟨snd_iald (by decide +kernel : decode cX3_bestPin 82 = .ok (.iaload, 1)), ?_⟩
  refine List.forall_mem_cons.mpr ⟨snd_iload (by decide +kernel : decode cX3_bestPin 83 = .ok (.iload 9, 2)), ?_⟩
  refine List.forall_mem_cons.mpr ⟨snd_iand (by decide +kernel : decode cX3_bestPin 85 = .ok (.iand, 1)), ?_⟩
  refine List.forall_mem_cons.mpr ⟨snd_ior (by decide +kernel : decode cX3_bestPin 86 = .ok (.ior, 1)), ?_⟩
  refine List.forall_mem_cons.mpr ⟨snd_callS mok_181 wd_273 wd_26 (by decide +kernel : decode cX3_bestPin 87 = .ok (.invokestatic 77, 3)), ?_⟩
  refine List.forall_mem_cons.mpr ⟨snd_istore (by decide +kernel : decode cX3_bestPin 90 = .ok (.istore 11, 2)), ?_⟩
  refine List.forall_mem_cons.mpr ⟨snd_iload (by decide +kernel : decode cX3_bestPin 92 = .ok (.iload 11, 2)), ?_⟩
  refine List.forall_mem_cons.mpr ⟨snd_iload (by decide +kernel : decode cX3_bestPin 94 = .ok (.iload 5, 2)), ?_⟩
  refine List.forall_mem_cons.mpr ⟨snd_icmp_le (by decide +kernel : decode cX3_bestPin 96 = .ok (.if_icmp .le 36, 3)) (by decide +kernel), ?_⟩
  refine List.forall_mem_cons.mpr ⟨snd_iload (by decide +kernel : decode cX3_bestPin 99 = .ok (.iload 10, 2)), ?_⟩
  refine List.forall_mem_cons.mpr ⟨snd_aload_n (by decide +kernel : decode cX3_bestPin 101 = .ok (.aload_n 1, 1)) rfl, ?_⟩
  refine List.forall_mem_cons.mpr ⟨snd_iload (by decide +kernel : decode cX3_bestPin 102 = .ok (.iload 7, 2)), ?_⟩
  refine List.forall_mem_cons.mpr ⟨snd_iload (by decide +kernel : decode cX3_bestPin 104 = .ok (.iload 8, 2)), ?_⟩
  refine List.forall_mem_cons.mpr ⟨snd_callV mok_30 wd_238 wd_58 wd_59 rfl rfl (by decide +kernel : decode cX3_bestPin 106 = .ok (.invokevirtual 33, 3)), ?_⟩
  refine List.forall_mem_cons.mpr ⟨snd_icmp_eq (by decide +kernel : decode cX3_bestPin 109 = .ok (.if_icmp .eq 23, 3)) (by decide +kernel), ?_⟩
  refine List.forall_mem_cons.mpr ⟨snd_iload (by decide +kernel : decode cX3_bestPin 112 = .ok (.iload 11, 2)), ?_⟩
  refine List.forall_mem_cons.mpr ⟨snd_istore (by decide +kernel : decode cX3_bestPin 114 = .ok (.istore 5, 2)), ?_⟩
  refine List.forall_mem_cons.mpr ⟨snd_bipush (by decide +kernel : decode cX3_bestPin 116 = .ok (.bipush 100, 2)) (by decide +kernel), ?_⟩
  refine List.forall_mem_cons.mpr ⟨snd_iload (by decide +kernel : decode cX3_bestPin 118 = .ok (.iload 7, 2)), ?_⟩
  refine List.forall_mem_cons.mpr ⟨snd_imul (by decide +kernel : decode cX3_bestPin 120 = .ok (.imul, 1)), ?_⟩
  refine List.forall_mem_cons.mpr ⟨snd_bipush (by decide +kernel : decode cX3_bestPin 121 = .ok (.bipush 10, 2)) (by decide +kernel), ?_⟩
  refine List.forall_mem_cons.mpr ⟨snd_iload (by decide +kernel : decode cX3_bestPin 123 = .ok (.iload 8, 2)), ?_⟩
  refine List.forall_mem_cons.mpr ⟨snd_imul (by decide +kernel : decode cX3_bestPin 125 = .ok (.imul, 1)), ?_⟩
  refine List.forall_mem_cons.mpr ⟨snd_iadd (by decide +kernel : decode cX3_bestPin 126 = .ok (.iadd, 1)), ?_⟩
  refine List.forall_mem_cons.mpr ⟨snd_iload (by decide +kernel : decode cX3_bestPin 127 = .ok (.iload 10, 2)), ?_⟩
  refine List.forall_mem_cons.mpr ⟨snd_iadd (by decide +kernel : decode cX3_bestPin 129 = .ok (.iadd, 1)), ?_⟩
  refine List.forall_mem_cons.mpr ⟨snd_istore (by decide +kernel : decode cX3_bestPin 130 = .ok (.istore 6, 2)), ?_⟩
  refine List.forall_mem_cons.mpr ⟨snd_iinc (by decide +kernel : decode cX3_bestPin 132 = .ok (.iinc 10 1, 3)) (by decide +kernel), ?_⟩
  refine List.forall_mem_cons.mpr ⟨snd_goto (by decide +kernel : decode cX3_bestPin 135 = .ok (.goto (-73), 3)) (by decide +kernel), ?_⟩
  refine List.forall_mem_cons.mpr ⟨snd_iinc (by decide +kernel : decode cX3_bestPin 138 = .ok (.iinc 8 1, 3)) (by decide +kernel), ?_⟩
  refine List.forall_mem_cons.mpr ⟨snd_goto (by decide +kernel : decode cX3_bestPin 141 = .ok (.goto (-104), 3)) (by decide +kernel), ?_⟩
  refine List.forall_mem_cons.mpr ⟨snd_iinc (by decide +kernel : decode cX3_bestPin 144 = .ok (.iinc 7 1, 3)) (by decide +kernel), ?_⟩
  refine List.forall_mem_cons.mpr ⟨snd_goto (by decide +kernel : decode cX3_bestPin 147 = .ok (.goto (-130), 3)) (by decide +kernel), ?_⟩
  refine List.forall_mem_cons.mpr ⟨snd_iload_n (by decide +kernel : decode cX3_bestPin 150 = .ok (.iload_n 3, 1)) rfl, ?_⟩
  refine List.forall_mem_cons.mpr ⟨snd_if_eq (by decide +kernel : decode cX3_bestPin 151 = .ok (.ifCond .eq 8, 3)) (by decide +kernel), ?_⟩
  refine List.forall_mem_cons.mpr ⟨snd_iload (by decide +kernel : decode cX3_bestPin 154 = .ok (.iload 6, 2)), ?_⟩
  refine List.forall_mem_cons.mpr ⟨snd_goto (by decide +kernel : decode cX3_bestPin 156 = .ok (.goto 5, 3)) (by decide +kernel), ?_⟩
  refine List.forall_mem_cons.mpr ⟨snd_iload (by decide +kernel : decode cX3_bestPin 159 = .ok (.iload 5, 2)), ?_⟩
  refine List.forall_mem_cons.mpr ⟨snd_iret (by decide +kernel : decode cX3_bestPin 161 = .ok (.ireturn, 1)), ?_⟩
  exact fun _ h => absurd h List.not_mem_nil
theorem m_X3_bestPin : ∀ q ∈ k_X3_bestPin, Mono q.2 := by
  unfold k_X3_bestPin
  refine List.forall_mem_cons.mpr ⟨mo_aload _ _, ?_⟩
  refine List.forall_mem_cons.mpr ⟨mo_aload _ _, ?_⟩
  refine List.forall_mem_cons.mpr ⟨mo_iload _ _, ?_⟩
  refine List.forall_mem_cons.mpr ⟨mo_call _ _ _, ?_⟩
  refine List.forall_mem_cons.mpr ⟨mo_istore _ _, ?_⟩
  refine List.forall_mem_cons.mpr ⟨mo_push _ _, ?_⟩
  refine List.forall_mem_cons.mpr ⟨mo_istore _ _, ?_⟩
  refine List.forall_mem_cons.mpr ⟨mo_push _ _, ?_⟩
  refine List.forall_mem_cons.mpr ⟨mo_istore _ _, ?_⟩
  refine List.forall_mem_cons.mpr ⟨mo_push _ _, ?_⟩
  refine List.forall_mem_cons.mpr ⟨mo_istore _ _, ?_⟩
  refine List.forall_mem_cons.mpr ⟨mo_iload _ _, ?_⟩
  refine List.forall_mem_cons.mpr ⟨mo_aload _ _, ?_⟩
  refine List.forall_mem_cons.mpr ⟨mo_call _ _ _, ?_⟩
  refine List.forall_mem_cons.mpr ⟨mo_icmp _ _ _, ?_⟩
  refine List.forall_mem_cons.mpr ⟨mo_aload _ _, ?_⟩
  refine List.forall_mem_cons.mpr ⟨mo_aload _ _, ?_⟩
  refine List.forall_mem_cons.mpr ⟨mo_iload _ _, ?_⟩
  refine List.forall_mem_cons.mpr ⟨mo_iload _ _, ?_⟩
  refine List.forall_mem_cons.mpr ⟨mo_call _ _ _, ?_⟩
  refine List.forall_mem_cons.mpr ⟨mo_push _ _, ?_⟩
  refine List.forall_mem_cons.mpr ⟨mo_istore _ _, ?_⟩
  refine List.forall_mem_cons.mpr ⟨mo_iload _ _, ?_⟩
  refine List.forall_mem_cons.mpr ⟨mo_aload _ _, ?_⟩
  refine List.forall_mem_cons.mpr ⟨mo_call _ _ _, ?_⟩
  refine List.forall_mem_cons.mpr ⟨mo_icmp _ _ _, ?_⟩
  refine List.forall_mem_cons.mpr ⟨mo_push _ _, ?_⟩
  refine List.forall_mem_cons.mpr ⟨mo_aload _ _, ?_⟩
  refine List.forall_mem_cons.mpr ⟨mo_iload _ _, ?_⟩
  refine List.forall_mem_cons.mpr ⟨mo_iload _ _, ?_⟩
  refine List.forall_mem_cons.mpr ⟨mo_push _ _, ?_⟩
  refine List.forall_mem_cons.mpr ⟨mo_call _ _ _, ?_⟩
  refine List.forall_mem_cons.mpr ⟨mo_bin _, ?_⟩
  refine List.forall_mem_cons.mpr ⟨mo_istore _ _, ?_⟩
  refine List.forall_mem_cons.mpr ⟨mo_push _ _, ?_⟩
  refine List.forall_mem_cons.mpr ⟨mo_istore _ _, ?_⟩
  refine List.forall_mem_cons.mpr ⟨mo_iload _ _, ?_⟩
  refine List.forall_mem_cons.mpr ⟨mo_push _ _, ?_⟩
  refine List.forall_mem_cons.mpr ⟨mo_icmp _ _ _, ?_⟩
  refine List.forall_mem_cons.mpr ⟨mo_iload _ _, ?_⟩
  refine List.forall_mem_cons.mpr ⟨mo_iload _ _, ?_⟩
  refine List.forall_mem_cons.mpr ⟨mo_push _ _, ?_⟩
  refine List.forall_mem_cons.mpr ⟨mo_bin _, ?_⟩
  refine List.forall_mem_cons.mpr ⟨mo_bin _, ?_⟩
  refine List.forall_mem_cons.mpr ⟨mo_aload _ _, ?_⟩
  refine List.forall_mem_cons.mpr ⟨mo_get _ _, ?_⟩
  refine List.forall_mem_cons.mpr ⟨mo_iload _ _, ?_⟩
  refine List.forall_mem_cons.mpr ⟨mo_iald, ?_⟩
  refine List.forall_mem_cons.mpr ⟨mo_iload _ _, ?_⟩
  refine List.forall_mem_cons.mpr ⟨mo_bin _, ?_⟩
  refine List.forall_mem_cons.mpr ⟨mo_bin _, ?_⟩
  refine List.forall_mem_cons.mpr ⟨mo_call _ _ _, ?_⟩
  refine List.forall_mem_cons.mpr ⟨mo_istore _ _, ?_⟩
  refine List.forall_mem_cons.mpr ⟨mo_iload _ _, ?_⟩
  refine List.forall_mem_cons.mpr ⟨mo_iload _ _, ?_⟩
  refine List.forall_mem_cons.mpr ⟨mo_icmp _ _ _, ?_⟩
  refine List.forall_mem_cons.mpr ⟨mo_iload _ _, ?_⟩
  refine List.forall_mem_cons.mpr ⟨mo_aload _ _, ?_⟩
  refine List.forall_mem_cons.mpr ⟨mo_iload _ _, ?_⟩
  refine List.forall_mem_cons.mpr ⟨mo_iload _ _, ?_⟩
  refine List.forall_mem_cons.mpr ⟨mo_call _ _ _, ?_⟩
  refine List.forall_mem_cons.mpr ⟨mo_icmp _ _ _, ?_⟩
  refine List.forall_mem_cons.mpr ⟨mo_iload _ _, ?_⟩
  refine List.forall_mem_cons.mpr ⟨mo_istore _ _, ?_⟩
  refine List.forall_mem_cons.mpr ⟨mo_push _ _, ?_⟩
  refine List.forall_mem_cons.mpr ⟨mo_iload _ _, ?_⟩
  refine List.forall_mem_cons.mpr ⟨mo_bin _, ?_⟩
  refine List.forall_mem_cons.mpr ⟨mo_push _ _, ?_⟩
  refine List.forall_mem_cons.mpr ⟨mo_iload _ _, ?_⟩
  refine List.forall_mem_cons.mpr ⟨mo_bin _, ?_⟩
  refine List.forall_mem_cons.mpr ⟨mo_bin _, ?_⟩
  refine List.forall_mem_cons.mpr ⟨mo_iload _ _, ?_⟩
  refine List.forall_mem_cons.mpr ⟨mo_bin _, ?_⟩
  refine List.forall_mem_cons.mpr ⟨mo_istore _ _, ?_⟩
  refine List.forall_mem_cons.mpr ⟨mo_iinc _ _, ?_⟩
  refine List.forall_mem_cons.mpr ⟨mo_goto _, ?_⟩
  refine List.forall_mem_cons.mpr ⟨mo_iinc _ _, ?_⟩
  refine List.forall_mem_cons.mpr ⟨mo_goto _, ?_⟩
  refine List.forall_mem_cons.mpr ⟨mo_iinc _ _, ?_⟩
  refine List.forall_mem_cons.mpr ⟨mo_goto _, ?_⟩
  refine List.forall_mem_cons.mpr ⟨mo_iload _ _, ?_⟩
  refine List.forall_mem_cons.mpr ⟨mo_if _ _ _, ?_⟩
  refine List.forall_mem_cons.mpr ⟨mo_iload _ _, ?_⟩
  refine List.forall_mem_cons.mpr ⟨mo_goto _, ?_⟩
  refine List.forall_mem_cons.mpr ⟨mo_iload _ _, ?_⟩
  refine List.forall_mem_cons.mpr ⟨mo_iret, ?_⟩
  exact fun _ h => absurd h List.not_mem_nil
def k_X3_tryThings : List (Nat × aI) := [
  (0, i_push (.int 0) 1),
  (1, i_istore 4 2),
  (3, i_iload 4 2),
  (5, i_push (.int 10) 2),
  (7, i_icmp (fun x y => x < y) 10 56),
  (10, i_aload 0 1),
  (11, i_get 3 0),
  (14, i_aload 1 1),
  (15, i_callV 22 2 2),
  (18, i_aload 0 1),
  (19, i_get 3 0),
  (22, i_iload 3 1),
  (23, i_iload 4 2),
  (25, i_callV 32 3 2),
  (28, i_aload 0 1),
  (29, i_get 3 0),
  (32, i_iload 2 1),
  (33, i_callV 46 2 2),
  (36, i_aload 0 1),
  (37, i_get 3 1),
  (40, i_iload 4 2),
  (42, i_aload 0 1),
  (43, i_get 3 0),
  (46, i_callV 41 1 2),
  (49, i_iast),
  (50, i_iinc 4 1),
  (53, i_goto 3),
  (56, i_vret)]
theorem s_X3_tryThings : ∀ q ∈ k_X3_tryThings, Snd RX3 cX3_tryThings none false q.1 q.2 := by
  unfold k_X3_tryThings
  refine List.forall_mem_cons.mpr ⟨snd_iconst (by decide +kernel : decode cX3_tryThings 0 = .ok (.iconst 0, 1)) (by decide +kernel), ?_⟩
  refine List.forall_mem_cons.mpr ⟨snd_istore (by decide +kernel : decode cX3_tryThings 1 = .ok (.istore 4, 2)), ?_⟩
  refine List.forall_mem_cons.mpr ⟨snd_iload (by decide +kernel : decode cX3_tryThings 3 = .ok (.iload 4, 2)), ?_⟩
  refine List.forall_mem_cons.mpr ⟨snd_bipush (by decide +kernel : decode cX3_tryThings 5 = .ok (.bipush 10, 2)) (by decide +kernel), ?_⟩
  refine List.forall_mem_cons.mpr ⟨snd_icmp_ge (by decide +kernel : decode cX3_tryThings 7 = .ok (.if_icmp .ge 49, 3)) (by decide +kernel), ?_⟩
  refine List.forall_mem_cons.mpr ⟨snd_aload_n (by decide +kernel : decode cX3_tryThings 10 = .ok (.aload_n 0, 1)) rfl, ?_⟩
  refine List.forall_mem_cons.mpr ⟨snd_get fl_3_12 (by decide +kernel : decode cX3_tryThings 11 = .ok (.getfield 12, 3)), ?_⟩
  refine List.forall_mem_cons.mpr ⟨snd_aload_n (by decide +kernel : decode cX3_tryThings 14 = .ok (.aload_n 1, 1)) rfl, ?_⟩
  refine List.forall_mem_cons.mpr ⟨snd_callV mok_22 wd_232 wd_38 wd_39 rfl rfl (by decide +kernel : decode cX3_tryThings 15 = .ok (.invokevirtual 25, 3)), ?_⟩
  refine List.forall_mem_cons.mpr ⟨snd_aload_n (by decide +kernel : decode cX3_tryThings 18 = .ok (.aload_n 0, 1)) rfl, ?_⟩
  refine List.forall_mem_cons.mpr ⟨snd_get fl_3_12 (by decide +kernel : decode cX3_tryThings 19 = .ok (.getfield 12, 3)), ?_⟩
  refine List.forall_mem_cons.mpr ⟨snd_iload_n (by decide +kernel : decode cX3_tryThings 22 = .ok (.iload_n 3, 1)) rfl, ?_⟩
  refine List.forall_mem_cons.mpr ⟨snd_iload (by decide +kernel : decode cX3_tryThings 23 = .ok (.iload 4, 2)), ?_⟩
  refine List.forall_mem_cons.mpr ⟨snd_callV mok_32 wd_274 wd_277 wd_278 rfl rfl (by decide +kernel : decode cX3_tryThings 25 = .ok (.invokevirtual 82, 3)), ?_⟩
  refine List.forall_mem_cons.mpr ⟨snd_aload_n (by decide +kernel : decode cX3_tryThings 28 = .ok (.aload_n 0, 1)) rfl, ?_⟩
  refine List.forall_mem_cons.mpr ⟨snd_get fl_3_12 (by decide +kernel : decode cX3_tryThings 29 = .ok (.getfield 12, 3)), ?_⟩
  refine List.forall_mem_cons.mpr ⟨snd_iload_n (by decide +kernel : decode cX3_tryThings 32 = .ok (.iload_n 2, 1)) rfl, ?_⟩
  refine List.forall_mem_cons.mpr ⟨snd_callV mok_46 wd_233 wd_236 wd_237 rfl rfl (by decide +kernel : decode cX3_tryThings 33 = .ok (.invokevirtual 29, 3)), ?_⟩
  refine List.forall_mem_cons.mpr ⟨snd_aload_n (by decide +kernel : decode cX3_tryThings 36 = .ok (.aload_n 0, 1)) rfl, ?_⟩
  refine List.forall_mem_cons.mpr ⟨snd_get fl_3_18 (by decide +kernel : decode cX3_tryThings 37 = .ok (.getfield 18, 3)), ?_⟩
  refine List.forall_mem_cons.mpr ⟨snd_iload (by decide +kernel : decode cX3_tryThings 40 = .ok (.iload 4, 2)), ?_⟩
  refine List.forall_mem_cons.mpr ⟨snd_aload_n (by decide +kernel : decode cX3_tryThings 42 = .ok (.aload_n 0, 1)) rfl, ?_⟩
  refine List.forall_mem_cons.mpr ⟨snd_get fl_3_12 (by decide +kernel : decode cX3_tryThings 43 = .ok (.getfield 12, 3)), ?_⟩
  refine List.forall_mem_cons.mpr ⟨snd_callV mok_41 wd_239 wd_242 wd_243 rfl rfl (by decide +kernel : decode cX3_tryThings 46 = .ok (.invokevirtual 37, 3)), ?_⟩
  refine List.forall_mem_cons.mpr ⟨snd_iast (by decide +kernel : decode cX3_tryThings 49 = .ok (.iastore, 1)), ?_⟩
  refine List.forall_mem_cons.mpr ⟨snd_iinc (by decide +kernel : decode cX3_tryThings 50 = .ok (.iinc 4 1, 3)) (by decide +kernel), ?_⟩
  refine List.forall_mem_cons.mpr ⟨snd_goto (by decide +kernel : decode cX3_tryThings 53 = .ok (.goto (-50), 3)) (by decide +kernel), ?_⟩
  refine List.forall_mem_cons.mpr ⟨snd_vret (by decide +kernel : decode cX3_tryThings 56 = .ok (.return_, 1)), ?_⟩
  exact fun _ h => absurd h List.not_mem_nil
theorem m_X3_tryThings : ∀ q ∈ k_X3_tryThings, Mono q.2 := by
  unfold k_X3_tryThings
  refine List.forall_mem_cons.mpr ⟨mo_push _ _, ?_⟩
  refine List.forall_mem_cons.mpr ⟨mo_istore _ _, ?_⟩
  refine List.forall_mem_cons.mpr ⟨mo_iload _ _, ?_⟩
  refine List.forall_mem_cons.mpr ⟨mo_push _ _, ?_⟩
  refine List.forall_mem_cons.mpr ⟨mo_icmp _ _ _, ?_⟩
  refine List.forall_mem_cons.mpr ⟨mo_aload _ _, ?_⟩
  refine List.forall_mem_cons.mpr ⟨mo_get _ _, ?_⟩
  refine List.forall_mem_cons.mpr ⟨mo_aload _ _, ?_⟩
  refine List.forall_mem_cons.mpr ⟨mo_call _ _ _, ?_⟩
  refine List.forall_mem_cons.mpr ⟨mo_aload _ _, ?_⟩
  refine List.forall_mem_cons.mpr ⟨mo_get _ _, ?_⟩
  refine List.forall_mem_cons.mpr ⟨mo_iload _ _, ?_⟩
  refine List.forall_mem_cons.mpr ⟨mo_iload _ _, ?_⟩
  refine List.forall_mem_cons.mpr ⟨mo_call _ _ _, ?_⟩
  refine List.forall_mem_cons.mpr ⟨mo_aload _ _, ?_⟩
  refine List.forall_mem_cons.mpr ⟨mo_get _ _, ?_⟩
  refine List.forall_mem_cons.mpr ⟨mo_iload _ _, ?_⟩
  refine List.forall_mem_cons.mpr ⟨mo_call _ _ _, ?_⟩
  refine List.forall_mem_cons.mpr ⟨mo_aload _ _, ?_⟩
  refine List.forall_mem_cons.mpr ⟨mo_get _ _, ?_⟩
  refine List.forall_mem_cons.mpr ⟨mo_iload _ _, ?_⟩
  refine List.forall_mem_cons.mpr ⟨mo_aload _ _, ?_⟩
  refine List.forall_mem_cons.mpr ⟨mo_get _ _, ?_⟩
  refine List.forall_mem_cons.mpr ⟨mo_call _ _ _, ?_⟩
  refine List.forall_mem_cons.mpr ⟨mo_iast, ?_⟩
  refine List.forall_mem_cons.mpr ⟨mo_iinc _ _, ?_⟩
  refine List.forall_mem_cons.mpr ⟨mo_goto _, ?_⟩
  refine List.forall_mem_cons.mpr ⟨mo_vret, ?_⟩
  exact fun _ h => absurd h List.not_mem_nil
def k_X3_worstMouse : List (Nat × aI) := [
  (0, i_push (.int 6) 2),
  (2, i_istore 4 2),
  (4, i_push (.int (-4)) 2),
  (6, i_istore 5 2),
  (8, i_push (.int 0) 1),
  (9, i_istore 6 2),
  (11, i_iload 6 2),
  (13, i_aload 1 1),
  (14, i_callV 25 1 2),
  (17, i_icmp (fun x y => x < y) 20 90),
  (20, i_aload 1 1),
  (21, i_iload 6 2),
  (23, i_callV 35 2 2),
  (26, i_if (fun x => x = 0) 32 29),
  (29, i_goto 84),
  (32, i_aload 0 1),
  (33, i_get 3 0),
  (36, i_aload 1 1),
  (37, i_callV 22 2 2),
  (40, i_aload 0 1),
  (41, i_get 3 0),
  (44, i_iload 6 2),
  (46, i_callV 36 2 2),
  (49, i_aload 0 1),
  (50, i_get 3 0),
  (53, i_iload 2 1),
  (54, i_callV 46 2 2),
  (57, i_aload 0 1),
  (58, i_get 3 0),
  (61, i_callV 41 1 2),
  (64, i_callS 181 1),
  (67, i_istore 7 2),
  (69, i_iload 7 2),
  (71, i_iload 4 2),
  (73, i_icmp (fun x y => x < y) 76 84),
  (76, i_iload 7 2),
  (78, i_istore 4 2),
  (80, i_iload 6 2),
  (82, i_istore 5 2),
  (84, i_iinc 6 1),
  (87, i_goto 11),
  (90, i_iload 3 1),
  (91, i_if (fun x => x = 0) 94 101),
  (94, i_iload 5 2),
  (96, i_push (.int (-4)) 2),
  (98, i_icmp (fun x y => x = y) 101 106),
  (101, i_iload 5 2),
  (103, i_goto 108),
  (106, i_iload 4 2),
  (108, i_iret)]
theorem s_X3_worstMouse : ∀ q ∈ k_X3_worstMouse, Snd RX3 cX3_worstMouse (some .int) false q.1 q.2 := by
  unfold k_X3_worstMouse
  refine List.forall_mem_cons.mpr ⟨snd_bipush (by decide +kernel : decode cX3_worstMouse 0 = .ok (.bipush 6, 2)) (by decide +kernel), ?_⟩
  refine List.forall_mem_cons.mpr ⟨snd_istore (by decide +kernel : decode cX3_worstMouse 2 = .ok (.istore 4, 2)), ?_⟩
  refine List.forall_mem_cons.mpr ⟨snd_bipush (by decide +kernel : decode cX3_worstMouse 4 = .ok (.bipush (-4), 2)) (by decide +kernel), ?_⟩
  refine List.forall_mem_cons.mpr ⟨snd_istore (by decide +kernel : decode cX3_worstMouse 6 = .ok (.istore 5, 2)), ?_⟩
  refine List.forall_mem_cons.mpr ⟨snd_iconst (by decide +kernel : decode cX3_worstMouse 8 = .ok (.iconst 0, 1)) (by decide +kernel), ?_⟩
  refine List.forall_mem_cons.mpr ⟨snd_istore (by decide +kernel : decode cX3_worstMouse 9 = .ok (.istore 6, 2)), ?_⟩
  refine List.forall_mem_cons.mpr ⟨snd_iload (by decide +kernel : decode cX3_worstMouse 11 = .ok (.iload 6, 2)), ?_⟩
  refine List.forall_mem_cons.mpr ⟨snd_aload_n (by decide +kernel : decode cX3_worstMouse 13 = .ok (.aload_n 1, 1)) rfl, ?_⟩
  refine List.forall_mem_cons.mpr ⟨snd_callV mok_25 wd_272 wd_13 wd_14 rfl rfl (by decide +kernel : decode cX3_worstMouse 14 = .ok (.invokevirtual 74, 3)), ?_⟩
  refine List.forall_mem_cons.mpr ⟨snd_icmp_ge (by decide +kernel : decode cX3_worstMouse 17 = .ok (.if_icmp .ge 73, 3)) (by decide +kernel), ?_⟩
  refine List.forall_mem_cons.mpr ⟨snd_aload_n (by decide +kernel : decode cX3_worstMouse 20 = .ok (.aload_n 1, 1)) rfl, ?_⟩
  refine List.forall_mem_cons.mpr ⟨snd_iload (by decide +kernel : decode cX3_worstMouse 21 = .ok (.iload 6, 2)), ?_⟩
  refine List.forall_mem_cons.mpr ⟨snd_callV mok_35 wd_279 wd_158 wd_159 rfl rfl (by decide +kernel : decode cX3_worstMouse 23 = .ok (.invokevirtual 86, 3)), ?_⟩
  refine List.forall_mem_cons.mpr ⟨snd_if_eq (by decide +kernel : decode cX3_worstMouse 26 = .ok (.ifCond .eq 6, 3)) (by decide +kernel), ?_⟩
  refine List.forall_mem_cons.mpr ⟨snd_goto (by decide +kernel : decode cX3_worstMouse 29 = .ok (.goto 55, 3)) (by decide +kernel), ?_⟩
  refine List.forall_mem_cons.mpr ⟨snd_aload_n (by decide +kernel : decode cX3_worstMouse 32 = .ok (.aload_n 0, 1)) rfl, ?_⟩
  refine List.forall_mem_cons.mpr ⟨snd_get fl_3_12 (by decide +kernel : decode cX3_worstMouse 33 = .ok (.getfield 12, 3)), ?_⟩
  refine List.forall_mem_cons.mpr ⟨snd_aload_n (by decide +kernel : decode cX3_worstMouse 36 = .ok (.aload_n 1, 1)) rfl, ?_⟩
  refine List.forall_mem_cons.mpr ⟨snd_callV mok_22 wd_232 wd_38 wd_39 rfl rfl (by decide +kernel : decode cX3_worstMouse 37 = .ok (.invokevirtual 25, 3)), ?_⟩
  refine List.forall_mem_cons.mpr ⟨snd_aload_n (by decide +kernel : decode cX3_worstMouse 40 = .ok (.aload_n 0, 1)) rfl, ?_⟩
  refine List.forall_mem_cons.mpr ⟨snd_get fl_3_12 (by decide +kernel : decode cX3_worstMouse 41 = .ok (.getfield 12, 3)), ?_⟩
  refine List.forall_mem_cons.mpr ⟨snd_iload (by decide +kernel : decode cX3_worstMouse 44 = .ok (.iload 6, 2)), ?_⟩
  refine List.forall_mem_cons.mpr ⟨snd_callV mok_36 wd_280 wd_89 wd_90 rfl rfl (by decide +kernel : decode cX3_worstMouse 46 = .ok (.invokevirtual 90, 3)), ?_⟩
  refine List.forall_mem_cons.mpr ⟨snd_aload_n (by decide +kernel : decode cX3_worstMouse 49 = .ok (.aload_n 0, 1)) rfl, ?_⟩
  refine List.forall_mem_cons.mpr ⟨snd_get fl_3_12 (by decide +kernel : decode cX3_worstMouse 50 = .ok (.getfield 12, 3)), ?_⟩
  refine List.forall_mem_cons.mpr ⟨snd_iload_n (by decide +kernel : decode cX3_worstMouse 53 = .ok (.iload_n 2, 1)) rfl, ?_⟩
  refine List.forall_mem_cons.mpr ⟨snd_callV mok_46 wd_233 wd_236 wd_237 rfl rfl (by decide +kernel : decode cX3_worstMouse 54 = .ok (.invokevirtual 29, 3)), ?_⟩
  refine List.forall_mem_cons.mpr ⟨snd_aload_n (by decide +kernel : decode cX3_worstMouse 57 = .ok (.aload_n 0, 1)) rfl, ?_⟩
  refine List.forall_mem_cons.mpr ⟨snd_get fl_3_12 (by decide +kernel : decode cX3_worstMouse 58 = .ok (.getfield 12, 3)), ?_⟩
  refine List.forall_mem_cons.mpr ⟨snd_callV mok_41 wd_239 wd_242 wd_243 rfl rfl (by decide +kernel : decode cX3_worstMouse 61 = .ok (.invokevirtual 37, 3)), ?_⟩
  refine List.forall_mem_cons.mpr ⟨snd_callS mok_181 wd_273 wd_26 (by decide +kernel : decode cX3_worstMouse 64 = .ok (.invokestatic 77, 3)), ?_⟩
  refine List.forall_mem_cons.mpr ⟨snd_istore (by decide +kernel : decode cX3_worstMouse 67 = .ok (.istore 7, 2)), ?_⟩
  refine List.forall_mem_cons.mpr ⟨snd_iload (by decide +kernel : decode cX3_worstMouse 69 = .ok (.iload 7, 2)), ?_⟩
  refine List.forall_mem_cons.mpr ⟨snd_iload (by decide +kernel : decode cX3_worstMouse 71 = .ok (.iload 4, 2)), ?_⟩
  refine List.forall_mem_cons.mpr ⟨snd_icmp_ge (by decide +kernel : decode cX3_worstMouse 73 = .ok (.if_icmp .ge 11, 3)) (by decide +kernel), ?_⟩
  refine List.forall_mem_cons.mpr ⟨snd_iload (by decide +kernel : decode cX3_worstMouse 76 = .ok (.iload 7, 2)), ?_⟩
  refine List.forall_mem_cons.mpr ⟨snd_istore (by decide +kernel : decode cX3_worstMouse 78 = .ok (.istore 4, 2)), ?_⟩
  refine List.forall_mem_cons.mpr ⟨snd_iload (by decide +kernel : decode cX3_worstMouse 80 = .ok (.iload 6, 2)), ?_⟩
  refine List.forall_mem_cons.mpr ⟨snd_istore (by decide +kernel : decode cX3_worstMouse 82 = .ok (.istore 5, 2)), ?_⟩
  refine List.forall_mem_cons.mpr ⟨snd_iinc (by decide +kernel : decode cX3_worstMouse 84 = .ok (.iinc 6 1, 3)) (by decide +kernel), ?_⟩
  refine List.forall_mem_cons.mpr ⟨snd_goto (by decide +kernel : decode cX3_worstMouse 87 = .ok (.goto (-76), 3)) (by decide +kernel), ?_⟩
  refine List.forall_mem_cons.mpr ⟨snd_iload_n (by decide +kernel : decode cX3_worstMouse 90 = .ok (.iload_n 3, 1)) rfl, ?_⟩
  refine List.forall_mem_cons.mpr ⟨snd_if_ne (by decide +kernel : decode cX3_worstMouse 91 = .ok (.ifCond .ne 10, 3)) (by decide +kernel), ?_⟩
  refine List.forall_mem_cons.mpr ⟨snd_iload (by decide +kernel : decode cX3_worstMouse 94 = .ok (.iload 5, 2)), ?_⟩
  refine List.forall_mem_cons.mpr ⟨snd_bipush (by decide +kernel : decode cX3_worstMouse 96 = .ok (.bipush (-4), 2)) (by decide +kernel), ?_⟩
  refine List.forall_mem_cons.mpr ⟨snd_icmp_ne (by decide +kernel : decode cX3_worstMouse 98 = .ok (.if_icmp .ne 8, 3)) (by decide +kernel), ?_⟩
  refine List.forall_mem_cons.mpr ⟨snd_iload (by decide +kernel : decode cX3_worstMouse 101 = .ok (.iload 5, 2)), ?_⟩
  refine List.forall_mem_cons.mpr ⟨snd_goto (by decide +kernel : decode cX3_worstMouse 103 = .ok (.goto 5, 3)) (by decide +kernel), ?_⟩
  refine List.forall_mem_cons.mpr ⟨snd_iload (by decide +kernel : decode cX3_worstMouse 106 = .ok (.iload 4, 2)), ?_⟩
  refine List.forall_mem_cons.mpr ⟨snd_iret (by decide +kernel : decode cX3_worstMouse 108 = .ok (.ireturn, 1)), ?_⟩
  exact fun _ h => absurd h List.not_mem_nil
theorem m_X3_worstMouse : ∀ q ∈ k_X3_worstMouse, Mono q.2 := by
  unfold k_X3_worstMouse
  refine List.forall_mem_cons.mpr ⟨mo_push _ _, ?_⟩
  refine List.forall_mem_cons.mpr ⟨mo_istore _ _, ?_⟩
  refine List.forall_mem_cons.mpr ⟨mo_push _ _, ?_⟩
  refine List.forall_mem_cons.mpr ⟨mo_istore _ _, ?_⟩
  refine List.forall_mem_cons.mpr ⟨mo_push _ _, ?_⟩
  refine List.forall_mem_cons.mpr ⟨mo_istore _ _, ?_⟩
  refine List.forall_mem_cons.mpr ⟨mo_iload _ _, ?_⟩
  refine List.forall_mem_cons.mpr ⟨mo_aload _ _, ?_⟩
  refine List.forall_mem_cons.mpr ⟨mo_call _ _ _, ?_⟩
  refine List.forall_mem_cons.mpr ⟨mo_icmp _ _ _, ?_⟩
  refine List.forall_mem_cons.mpr ⟨mo_aload _ _, ?_⟩
  refine List.forall_mem_cons.mpr ⟨mo_iload _ _, ?_⟩
  refine List.forall_mem_cons.mpr ⟨mo_call _ _ _, ?_⟩
  refine List.forall_mem_cons.mpr ⟨mo_if _ _ _, ?_⟩
  refine List.forall_mem_cons.mpr ⟨mo_goto _, ?_⟩
  refine List.forall_mem_cons.mpr ⟨mo_aload _ _, ?_⟩
  refine List.forall_mem_cons.mpr ⟨mo_get _ _, ?_⟩
  refine List.forall_mem_cons.mpr ⟨mo_aload _ _, ?_⟩
  refine List.forall_mem_cons.mpr ⟨mo_call _ _ _, ?_⟩
  refine List.forall_mem_cons.mpr ⟨mo_aload _ _, ?_⟩
  refine List.forall_mem_cons.mpr ⟨mo_get _ _, ?_⟩
  refine List.forall_mem_cons.mpr ⟨mo_iload _ _, ?_⟩
  refine List.forall_mem_cons.mpr ⟨mo_call _ _ _, ?_⟩
  refine List.forall_mem_cons.mpr ⟨mo_aload _ _, ?_⟩
  refine List.forall_mem_cons.mpr ⟨mo_get _ _, ?_⟩
  refine List.forall_mem_cons.mpr ⟨mo_iload _ _, ?_⟩
  refine List.forall_mem_cons.mpr ⟨mo_call _ _ _, ?_⟩
  refine List.forall_mem_cons.mpr ⟨mo_aload _ _, ?_⟩
  refine List.forall_mem_cons.mpr ⟨mo_get _ _, ?_⟩
  refine List.forall_mem_cons.mpr ⟨mo_call _ _ _, ?_⟩
  refine List.forall_mem_cons.mpr ⟨mo_call _ _ _, ?_⟩
  refine List.forall_mem_cons.mpr ⟨mo_istore _ _, ?_⟩
  refine List.forall_mem_cons.mpr ⟨mo_iload _ _, ?_⟩
  refine List.forall_mem_cons.mpr ⟨mo_iload _ _, ?_⟩
  refine List.forall_mem_cons.mpr ⟨mo_icmp _ _ _, ?_⟩
  refine List.forall_mem_cons.mpr ⟨mo_iload _ _, ?_⟩
  refine List.forall_mem_cons.mpr ⟨mo_istore _ _, ?_⟩
  refine List.forall_mem_cons.mpr ⟨mo_iload _ _, ?_⟩
  refine List.forall_mem_cons.mpr ⟨mo_istore _ _, ?_⟩
  refine List.forall_mem_cons.mpr ⟨mo_iinc _ _, ?_⟩
  refine List.forall_mem_cons.mpr ⟨mo_goto _, ?_⟩
  refine List.forall_mem_cons.mpr ⟨mo_iload _ _, ?_⟩
  refine List.forall_mem_cons.mpr ⟨mo_if _ _ _, ?_⟩
  refine List.forall_mem_cons.mpr ⟨mo_iload _ _, ?_⟩
  refine List.forall_mem_cons.mpr ⟨mo_push _ _, ?_⟩
  refine List.forall_mem_cons.mpr ⟨mo_icmp _ _ _, ?_⟩
  refine List.forall_mem_cons.mpr ⟨mo_iload _ _, ?_⟩
  refine List.forall_mem_cons.mpr ⟨mo_goto _, ?_⟩
  refine List.forall_mem_cons.mpr ⟨mo_iload _ _, ?_⟩
  refine List.forall_mem_cons.mpr ⟨mo_iret, ?_⟩
  exact fun _ h => absurd h List.not_mem_nil
def k_X3_mostTelling : List (Nat × aI) := [
  (0, i_aload 0 1),
  (1, i_aload 1 1),
  (2, i_iload 2 1),
  (3, i_iload 3 1),
  (4, i_callV 63 4 3),
  (7, i_push (.int 0) 1),
  (8, i_istore 5 2),
  (10, i_push (.int 0) 1),
  (11, i_istore 6 2),
  (13, i_push (.int 0) 1),
  (14, i_istore 7 2),
  (16, i_iload 7 2),
  (18, i_aload 1 1),
  (19, i_callV 26 1 2),
  (22, i_icmp (fun x y => x < y) 25 58),
  (25, i_aload 0 1),
  (26, i_get 3 2),
  (29, i_iload 7 2),
  (31, i_iald),
  (32, i_callS 181 1),
  (35, i_istore 8 2),
  (37, i_iload 8 2),
  (39, i_iload 5 2),
  (41, i_icmp (fun x y => y < x) 44 52),
  (44, i_iload 8 2),
  (46, i_istore 5 2),
  (48, i_iload 7 2),
  (50, i_istore 6 2),
  (52, i_iinc 7 1),
  (55, i_goto 16),
  (58, i_iload 4 2),
  (60, i_if (fun x => x = 0) 68 63),
  (63, i_iload 6 2),
  (65, i_goto 70),
  (68, i_iload 5 2),
  (70, i_iret)]
theorem s_X3_mostTelling : ∀ q ∈ k_X3_mostTelling, Snd RX3 cX3_mostTelling (some .int) false q.1 q.2 := by
  unfold k_X3_mostTelling
  refine List.forall_mem_cons.mpr ⟨snd_aload_n (by decide +kernel : decode cX3_mostTelling 0 = .ok (.aload_n 0, 1)) rfl, ?_⟩
  refine List.forall_mem_cons.mpr ⟨snd_aload_n (by decide +kernel : decode cX3_mostTelling 1 = .ok (.aload_n 1, 1)) rfl, ?_⟩
  refine List.forall_mem_cons.mpr ⟨snd_iload_n (by decide +kernel : decode cX3_mostTelling 2 = .ok (.iload_n 2, 1)) rfl, ?_⟩
  refine List.forall_mem_cons.mpr ⟨snd_iload_n (by decide +kernel : decode cX3_mostTelling 3 = .ok (.iload_n 3, 1)) rfl, ?_⟩
  refine List.forall_mem_cons.mpr ⟨snd_callV mok_63 wd_281 wd_284 wd_285 rfl rfl (by decide +kernel : decode cX3_mostTelling 4 = .ok (.invokevirtual 93, 3)), ?_⟩
  refine List.forall_mem_cons.mpr ⟨snd_iconst (by decide +kernel : decode cX3_mostTelling 7 = .ok (.iconst 0, 1)) (by decide +kernel), ?_⟩
  refine List.forall_mem_cons.mpr ⟨snd_istore (by decide +kernel : decode cX3_mostTelling 8 = .ok (.istore 5, 2)), ?_⟩
  refine List.forall_mem_cons.mpr ⟨snd_iconst (by decide +kernel : decode cX3_mostTelling 10 = .ok (.iconst 0, 1)) (by decide +kernel), ?_⟩
  refine List.forall_mem_cons.mpr ⟨snd_istore (by decide +kernel : decode cX3_mostTelling 11 = .ok (.istore 6, 2)), ?_⟩
  refine List.forall_mem_cons.mpr ⟨snd_iconst (by decide +kernel : decode cX3_mostTelling 13 = .ok (.iconst 0, 1)) (by decide +kernel), ?_⟩
  refine List.forall_mem_cons.mpr ⟨snd_istore (by decide +kernel : decode cX3_mostTelling 14 = .ok (.istore 7, 2)), ?_⟩
  refine List.forall_mem_cons.mpr ⟨snd_iload (by decide +kernel : decode cX3_mostTelling 16 = .ok (.iload 7, 2)), ?_⟩
  refine List.forall_mem_cons.mpr ⟨snd_aload_n (by decide +kernel : decode cX3_mostTelling 18 = .ok (.aload_n 1, 1)) rfl, ?_⟩
  refine List.forall_mem_cons.mpr ⟨snd_callV mok_26 wd_256 wd_79 wd_80 rfl rfl (by decide +kernel : decode cX3_mostTelling 19 = .ok (.invokevirtual 56, 3)), ?_⟩
  refine List.forall_mem_cons.mpr ⟨snd_icmp_ge (by decide +kernel : decode cX3_mostTelling 22 = .ok (.if_icmp .ge 36, 3)) (by decide +kernel), ?_⟩
  refine List.forall_mem_cons.mpr ⟨snd_aload_n (by decide +kernel : decode cX3_mostTelling 25 = .ok (.aload_n 0, 1)) rfl, ?_⟩
  refine List.forall_mem_cons.mpr ⟨snd_get fl_3_22 (by decide +kernel : decode cX3_mostTelling 26 = .ok (.getfield 22, 3)), ?_⟩
  refine List.forall_mem_cons.mpr ⟨snd_iload (by decide +kernel : decode cX3_mostTelling 29 = .ok (.iload 7, 2)), ?_⟩
  refine List.forall_mem_cons.mpr ⟨snd_iald (by decide +kernel : decode cX3_mostTelling 31 = .ok (.iaload, 1)), ?_⟩
  refine List.forall_mem_cons.mpr ⟨snd_callS mok_181 wd_273 wd_26 (by decide +kernel : decode cX3_mostTelling 32 = .ok (.invokestatic 77, 3)), ?_⟩
  refine List.forall_mem_cons.mpr ⟨snd_istore (by decide +kernel : decode cX3_mostTelling 35 = .ok (.istore 8, 2)), ?_⟩
  refine List.forall_mem_cons.mpr ⟨snd_iload (by decide +kernel : decode cX3_mostTelling 37 = .ok (.iload 8, 2)), ?_⟩
  refine List.forall_mem_cons.mpr ⟨snd_iload (by decide +kernel : decode cX3_mostTelling 39 = .ok (.iload 5, 2)), ?_⟩
  refine List.forall_mem_cons.mpr ⟨snd_icmp_le (by decide +kernel : decode cX3_mostTelling 41 = .ok (.if_icmp .le 11, 3)) (by decide +kernel), ?_⟩
  refine List.forall_mem_cons.mpr ⟨snd_iload (by decide +kernel : decode cX3_mostTelling 44 = .ok (.iload 8, 2)), ?_⟩
  refine List.forall_mem_cons.mpr ⟨snd_istore (by decide +kernel : decode cX3_mostTelling 46 = .ok (.istore 5, 2)), ?_⟩
  refine List.forall_mem_cons.mpr ⟨snd_iload (by decide +kernel : decode cX3_mostTelling 48 = .ok (.iload 7, 2)), ?_⟩
  refine List.forall_mem_cons.mpr ⟨snd_istore (by decide +kernel : decode cX3_mostTelling 50 = .ok (.istore 6, 2)), ?_⟩
  refine List.forall_mem_cons.mpr ⟨snd_iinc (by decide +kernel : decode cX3_mostTelling 52 = .ok (.iinc 7 1, 3)) (by decide +kernel), ?_⟩
  refine List.forall_mem_cons.mpr ⟨snd_goto (by decide +kernel : decode cX3_mostTelling 55 = .ok (.goto (-39), 3)) (by decide +kernel), ?_⟩
  refine List.forall_mem_cons.mpr ⟨snd_iload (by decide +kernel : decode cX3_mostTelling 58 = .ok (.iload 4, 2)), ?_⟩
  refine List.forall_mem_cons.mpr ⟨snd_if_eq (by decide +kernel : decode cX3_mostTelling 60 = .ok (.ifCond .eq 8, 3)) (by decide +kernel), ?_⟩
  refine List.forall_mem_cons.mpr ⟨snd_iload (by decide +kernel : decode cX3_mostTelling 63 = .ok (.iload 6, 2)), ?_⟩
  refine List.forall_mem_cons.mpr ⟨snd_goto (by decide +kernel : decode cX3_mostTelling 65 = .ok (.goto 5, 3)) (by decide +kernel), ?_⟩
  refine List.forall_mem_cons.mpr ⟨snd_iload (by decide +kernel : decode cX3_mostTelling 68 = .ok (.iload 5, 2)), ?_⟩
  refine List.forall_mem_cons.mpr ⟨snd_iret (by decide +kernel : decode cX3_mostTelling 70 = .ok (.ireturn, 1)), ?_⟩
  exact fun _ h => absurd h List.not_mem_nil
theorem m_X3_mostTelling : ∀ q ∈ k_X3_mostTelling, Mono q.2 := by
  unfold k_X3_mostTelling
  refine List.forall_mem_cons.mpr ⟨mo_aload _ _, ?_⟩
  refine List.forall_mem_cons.mpr ⟨mo_aload _ _, ?_⟩
  refine List.forall_mem_cons.mpr ⟨mo_iload _ _, ?_⟩
  refine List.forall_mem_cons.mpr ⟨mo_iload _ _, ?_⟩
  refine List.forall_mem_cons.mpr ⟨mo_call _ _ _, ?_⟩
  refine List.forall_mem_cons.mpr ⟨mo_push _ _, ?_⟩
  refine List.forall_mem_cons.mpr ⟨mo_istore _ _, ?_⟩
  refine List.forall_mem_cons.mpr ⟨mo_push _ _, ?_⟩
  refine List.forall_mem_cons.mpr ⟨mo_istore _ _, ?_⟩
  refine List.forall_mem_cons.mpr ⟨mo_push _ _, ?_⟩
  refine List.forall_mem_cons.mpr ⟨mo_istore _ _, ?_⟩
  refine List.forall_mem_cons.mpr ⟨mo_iload _ _, ?_⟩
  refine List.forall_mem_cons.mpr ⟨mo_aload _ _, ?_⟩
  refine List.forall_mem_cons.mpr ⟨mo_call _ _ _, ?_⟩
  refine List.forall_mem_cons.mpr ⟨mo_icmp _ _ _, ?_⟩
  refine List.forall_mem_cons.mpr ⟨mo_aload _ _, ?_⟩
  refine List.forall_mem_cons.mpr ⟨mo_get _ _, ?_⟩
  refine List.forall_mem_cons.mpr ⟨mo_iload _ _, ?_⟩
  refine List.forall_mem_cons.mpr ⟨mo_iald, ?_⟩
  refine List.forall_mem_cons.mpr ⟨mo_call _ _ _, ?_⟩
  refine List.forall_mem_cons.mpr ⟨mo_istore _ _, ?_⟩
  refine List.forall_mem_cons.mpr ⟨mo_iload _ _, ?_⟩
  refine List.forall_mem_cons.mpr ⟨mo_iload _ _, ?_⟩
  refine List.forall_mem_cons.mpr ⟨mo_icmp _ _ _, ?_⟩
  refine List.forall_mem_cons.mpr ⟨mo_iload _ _, ?_⟩
  refine List.forall_mem_cons.mpr ⟨mo_istore _ _, ?_⟩
  refine List.forall_mem_cons.mpr ⟨mo_iload _ _, ?_⟩
  refine List.forall_mem_cons.mpr ⟨mo_istore _ _, ?_⟩
  refine List.forall_mem_cons.mpr ⟨mo_iinc _ _, ?_⟩
  refine List.forall_mem_cons.mpr ⟨mo_goto _, ?_⟩
  refine List.forall_mem_cons.mpr ⟨mo_iload _ _, ?_⟩
  refine List.forall_mem_cons.mpr ⟨mo_if _ _ _, ?_⟩
  refine List.forall_mem_cons.mpr ⟨mo_iload _ _, ?_⟩
  refine List.forall_mem_cons.mpr ⟨mo_goto _, ?_⟩
  refine List.forall_mem_cons.mpr ⟨mo_iload _ _, ?_⟩
  refine List.forall_mem_cons.mpr ⟨mo_iret, ?_⟩
  exact fun _ h => absurd h List.not_mem_nil
def k_X3_gatherValues : List (Nat × aI) := [
  (0, i_aload 0 1),
  (1, i_get 3 2),
  (4, i_push (.int 0) 1),
  (5, i_callS 182 2),
  (8, i_aload 1 1),
  (9, i_callV 27 1 2),
  (12, i_istore 4 2),
  (14, i_push (.int 0) 1),
  (15, i_istore 5 2),
  (17, i_iload 5 2),
  (19, i_push (.int 10) 2),
  (21, i_icmp (fun x y => x < y) 24 104),
  (24, i_aload 0 1),
  (25, i_get 3 0),
  (28, i_aload 1 1),
  (29, i_callV 22 2 2),
  (32, i_aload 0 1),
  (33, i_get 3 0),
  (36, i_iload 4 2),
  (38, i_iload 5 2),
  (40, i_callV 32 3 2),
  (43, i_aload 0 1),
  (44, i_get 3 0),
  (47, i_iload 2 1),
  (48, i_callV 46 2 2),
  (51, i_push (.int 0) 1),
  (52, i_istore 6 2),
  (54, i_iload 6 2),
  (56, i_aload 1 1),
  (57, i_callV 26 1 2),
  (60, i_icmp (fun x y => x < y) 63 98),
  (63, i_aload 0 1),
  (64, i_get 3 2),
  (67, i_iload 6 2),
  (69, i_dup2),
  (70, i_iald),
  (71, i_push (.int 1) 1),
  (72, i_aload 0 1),
  (73, i_get 3 0),
  (76, i_iload 3 1),
  (77, i_aload 1 1),
  (78, i_iload 4 2),
  (80, i_iload 6 2),
  (82, i_iload 3 1),
  (83, i_callV 51 4 2),
  (86, i_callV 30 3 2),
  (89, i_bin (fun x y => x <<< (y &&& 31))),
  (90, i_bin (fun x y => x ||| y)),
  (91, i_iast),
  (92, i_iinc 6 1),
  (95, i_goto 54),
  (98, i_iinc 5 1),
  (101, i_goto 17),
  (104, i_vret)]
theorem s_X3_gatherValues : ∀ q ∈ k_X3_gatherValues, Snd RX3 cX3_gatherValues none false q.1 q.2 := by
  unfold k_X3_gatherValues
  refine List.forall_mem_cons.mpr ⟨snd_aload_n (by decide +kernel : decode cX3_gatherValues 0 = .ok (.aload_n 0, 1)) rfl, ?_⟩
  refine List.forall_mem_cons.mpr ⟨snd_get fl_3_22 (by decide +kernel : decode cX3_gatherValues 1 = .ok (.getfield 22, 3)), ?_⟩
  refine List.forall_mem_cons.mpr ⟨snd_iconst (by decide +kernel : decode cX3_gatherValues 4 = .ok (.iconst 0, 1)) (by decide +kernel), ?_⟩
  refine List.forall_mem_cons.mpr ⟨snd_callS mok_182 wd_286 wd_185 (by decide +kernel : decode cX3_gatherValues 5 = .ok (.invokestatic 96, 3)), ?_⟩
  refine List.forall_mem_cons.mpr ⟨snd_aload_n (by decide +kernel : decode cX3_gatherValues 8 = .ok (.aload_n 1, 1)) rfl, ?_⟩
  refine List.forall_mem_cons.mpr ⟨snd_callV mok_27 wd_245 wd_43 wd_44 rfl rfl (by decide +kernel : decode cX3_gatherValues 9 = .ok (.invokevirtual 45, 3)), ?_⟩
  refine List.forall_mem_cons.mpr ⟨snd_istore (by decide +kernel : decode cX3_gatherValues 12 = .ok (.istore 4, 2)), ?_⟩
  refine List.forall_mem_cons.mpr ⟨snd_iconst (by decide +kernel : decode cX3_gatherValues 14 = .ok (.iconst 0, 1)) (by decide +kernel), ?_⟩
  refine List.forall_mem_cons.mpr ⟨snd_istore (by decide +kernel : decode cX3_gatherValues 15 = .ok (.istore 5, 2)), ?_⟩
  refine List.forall_mem_cons.mpr ⟨snd_iload (by decide +kernel : decode cX3_gatherValues 17 = .ok (.iload 5, 2)), ?_⟩
  refine List.forall_mem_cons.mpr ⟨snd_bipush (by decide +kernel : decode cX3_gatherValues 19 = .ok (.bipush 10, 2)) (by decide +kernel), ?_⟩
  refine List.forall_mem_cons.mpr ⟨snd_icmp_ge (by decide +kernel : decode cX3_gatherValues 21 = .ok (.if_icmp .ge 83, 3)) (by decide +kernel), ?_⟩
  refine List.forall_mem_cons.mpr ⟨snd_aload_n (by decide +kernel : decode cX3_gatherValues 24 = .ok (.aload_n 0, 1)) rfl, ?_⟩
  refine List.forall_mem_cons.mpr ⟨snd_get fl_3_12 (by decide +kernel : decode cX3_gatherValues 25 = .ok (.getfield 12, 3)), ?_⟩
  refine List.forall_mem_cons.mpr ⟨snd_aload_n (by decide +kernel : decode cX3_gatherValues 28 = .ok (.aload_n 1, 1)) rfl, ?_⟩
  refine List.forall_mem_cons.mpr ⟨snd_callV mok_22 wd_232 wd_38 wd_39 rfl rfl (by decide +kernel : decode cX3_gatherValues 29 = .ok (.invokevirtual 25, 3)), ?_⟩
  refine List.forall_mem_cons.mpr ⟨snd_aload_n (by decide +kernel : decode cX3_gatherValues 32 = .ok (.aload_n 0, 1)) rfl, ?_⟩
  refine List.forall_mem_cons.mpr ⟨snd_get fl_3_12 (by decide +kernel : decode cX3_gatherValues 33 = .ok (.getfield 12, 3)), ?_⟩
  refine List.forall_mem_cons.mpr ⟨snd_iload (by decide +kernel : decode cX3_gatherValues 36 = .ok (.iload 4, 2)), ?_⟩
  refine List.forall_mem_cons.mpr ⟨snd_iload (by decide +kernel : decode cX3_gatherValues 38 = .ok (.iload 5, 2)), ?_⟩
  refine List.forall_mem_cons.mpr ⟨snd_callV mok_32 wd_274 wd_277 wd_278 rfl rfl (by decide +kernel : decode cX3_gatherValues 40 = .ok (.invokevirtual 82, 3)), ?_⟩
  refine List.forall_mem_cons.mpr ⟨snd_aload_n (by decide +kernel : decode cX3_gatherValues 43 = .ok (.aload_n 0, 1)) rfl, ?_⟩
  refine List.forall_mem_cons.mpr ⟨snd_get fl_3_12 (by decide +kernel : decode cX3_gatherValues 44 = .ok (.getfield 12, 3)), ?_⟩
  refine List.forall_mem_cons.mpr ⟨snd_iload_n (by decide +kernel : decode cX3_gatherValues 47 = .ok (.iload_n 2, 1)) rfl, ?_⟩
  refine List.forall_mem_cons.mpr ⟨snd_callV mok_46 wd_233 wd_236 wd_237 rfl rfl (by decide +kernel : decode cX3_gatherValues 48 = .ok (.invokevirtual 29, 3)), ?_⟩
  refine List.forall_mem_cons.mpr ⟨snd_iconst (by decide +kernel : decode cX3_gatherValues 51 = .ok (.iconst 0, 1)) (by decide +kernel), ?_⟩
  refine List.forall_mem_cons.mpr ⟨snd_istore (by decide +kernel : decode cX3_gatherValues 52 = .ok (.istore 6, 2)), ?_⟩
  refine List.forall_mem_cons.mpr ⟨snd_iload (by decide +kernel : decode cX3_gatherValues 54 = .ok (.iload 6, 2)), ?_⟩
  refine List.forall_mem_cons.mpr ⟨snd_aload_n (by decide +kernel : decode cX3_gatherValues 56 = .ok (.aload_n 1, 1)) rfl, ?_⟩
  refine List.forall_mem_cons.mpr ⟨snd_callV mok_26 wd_256 wd_79 wd_80 rfl rfl (by decide +kernel : decode cX3_gatherValues 57 = .ok (.invokevirtual 56, 3)), ?_⟩
  refine List.forall_mem_cons.mpr ⟨snd_icmp_ge (by decide +kernel : decode cX3_gatherValues 60 = .ok (.if_icmp .ge 38, 3)) (by decide +kernel), ?_⟩
  refine List.forall_mem_cons.mpr ⟨snd_aload_n (by decide +kernel : decode cX3_gatherValues 63 = .ok (.aload_n 0, 1)) rfl, ?_⟩
  refine List.forall_mem_cons.mpr ⟨snd_get fl_3_22 (by decide +kernel : decode cX3_gatherValues 64 = .ok (.getfield 22, 3)), ?_⟩
  refine List.forall_mem_cons.mpr ⟨snd_iload (by decide +kernel : decode cX3_gatherValues 67 = .ok (.iload 6, 2)), ?_⟩
  refine List.forall_mem_cons.mpr ⟨snd_dup2 (by decide +kernel : decode cX3_gatherValues 69 = .ok (.dup2, 1)), ?_⟩
  refine List.forall_mem_cons.mpr ⟨snd_iald (by decide +kernel : decode cX3_gatherValues 70 = .ok (.iaload, 1)), ?_⟩
  refine List.forall_mem_cons.mpr ⟨snd_iconst (by decide +kernel : decode cX3_gatherValues 71 = .ok (.iconst 1, 1)) (by decide +kernel), ?_⟩
  refine List.forall_mem_cons.mpr ⟨snd_aload_n (by decide +kernel : decode cX3_gatherValues 72 = .ok (.aload_n 0, 1)) rfl, ?_⟩
  refine List.forall_mem_cons.mpr ⟨snd_get fl_3_12 (by decide +kernel : decode cX3_gatherValues 73 = .ok (.getfield 12, 3)), ?_⟩
  refine List.forall_mem_cons.mpr ⟨snd_iload_n (by decide +kernel : decode cX3_gatherValues 76 = .ok (.iload_n 3, 1)) rfl, ?_⟩
  refine List.forall_mem_cons.mpr ⟨snd_aload_n (by decide +kernel : decode cX3_gatherValues 77 = .ok (.aload_n 1, 1)) rfl, ?_⟩
  refine List.forall_mem_cons.mpr ⟨snd_iload (by decide +kernel : decode cX3_gatherValues 78 = .ok (.iload 4, 2)), ?_⟩
  refine List.forall_mem_cons.mpr ⟨snd_iload (by decide +kernel : decode cX3_gatherValues 80 = .ok (.iload 6, 2)), ?_⟩
  refine List.forall_mem_cons.mpr ⟨snd_iload_n (by decide +kernel : decode cX3_gatherValues 82 = .ok (.iload_n 3, 1)) rfl, ?_⟩
  refine List.forall_mem_cons.mpr ⟨snd_callV mok_51 wd_257 wd_260 wd_261 rfl rfl (by decide +kernel : decode cX3_gatherValues 83 = .ok (.invokevirtual 59, 3)), ?_⟩
  refine List.forall_mem_cons.mpr ⟨snd_callV mok_30 wd_238 wd_58 wd_59 rfl rfl (by decide +kernel : decode cX3_gatherValues 86 = .ok (.invokevirtual 33, 3)), ?_⟩
  refine List.forall_mem_cons.mpr ⟨snd_ishl (by decide +kernel : decode cX3_gatherValues 89 = .ok (.ishl, 1)), ?_⟩
  refine List.forall_mem_cons.mpr ⟨snd_ior (by decide +kernel : decode cX3_gatherValues 90 = .ok (.ior, 1)), ?_⟩
  refine List.forall_mem_cons.mpr ⟨snd_iast (by decide +kernel : decode cX3_gatherValues 91 = .ok (.iastore, 1)), ?_⟩
  refine List.forall_mem_cons.mpr ⟨snd_iinc (by decide +kernel : decode cX3_gatherValues 92 = .ok (.iinc 6 1, 3)) (by decide +kernel), ?_⟩
  refine List.forall_mem_cons.mpr ⟨snd_goto (by decide +kernel : decode cX3_gatherValues 95 = .ok (.goto (-41), 3)) (by decide +kernel), ?_⟩
  refine List.forall_mem_cons.mpr ⟨snd_iinc (by decide +kernel : decode cX3_gatherValues 98 = .ok (.iinc 5 1, 3)) (by decide +kernel), ?_⟩
  refine List.forall_mem_cons.mpr ⟨snd_goto (by decide +kernel : decode cX3_gatherValues 101 = .ok (.goto (-84), 3)) (by decide +kernel), ?_⟩
  refine List.forall_mem_cons.mpr ⟨snd_vret (by decide +kernel : decode cX3_gatherValues 104 = .ok (.return_, 1)), ?_⟩
  exact fun _ h => absurd h List.not_mem_nil
theorem m_X3_gatherValues : ∀ q ∈ k_X3_gatherValues, Mono q.2 := by
  unfold k_X3_gatherValues
  refine List.forall_mem_cons.mpr ⟨mo_aload _ _, ?_⟩
  refine List.forall_mem_cons.mpr ⟨mo_get _ _, ?_⟩
  refine List.forall_mem_cons.mpr ⟨mo_push _ _, ?_⟩
  refine List.forall_mem_cons.mpr ⟨mo_call _ _ _, ?_⟩
  refine List.forall_mem_cons.mpr ⟨mo_aload _ _, ?_⟩
  refine List.forall_mem_cons.mpr ⟨mo_call _ _ _, ?_⟩
  refine List.forall_mem_cons.mpr ⟨mo_istore _ _, ?_⟩
  refine List.forall_mem_cons.mpr ⟨mo_push _ _, ?_⟩
  refine List.forall_mem_cons.mpr ⟨mo_istore _ _, ?_⟩
  refine List.forall_mem_cons.mpr ⟨mo_iload _ _, ?_⟩
  refine List.forall_mem_cons.mpr ⟨mo_push _ _, ?_⟩
  refine List.forall_mem_cons.mpr ⟨mo_icmp _ _ _, ?_⟩
  refine List.forall_mem_cons.mpr ⟨mo_aload _ _, ?_⟩
  refine List.forall_mem_cons.mpr ⟨mo_get _ _, ?_⟩
  refine List.forall_mem_cons.mpr ⟨mo_aload _ _, ?_⟩
  refine List.forall_mem_cons.mpr ⟨mo_call _ _ _, ?_⟩
  refine List.forall_mem_cons.mpr ⟨mo_aload _ _, ?_⟩
  refine List.forall_mem_cons.mpr ⟨mo_get _ _, ?_⟩
  refine List.forall_mem_cons.mpr ⟨mo_iload _ _, ?_⟩
  refine List.forall_mem_cons.mpr ⟨mo_iload _ _, ?_⟩
  refine List.forall_mem_cons.mpr ⟨mo_call _ _ _, ?_⟩
  refine List.forall_mem_cons.mpr ⟨mo_aload _ _, ?_⟩
  refine List.forall_mem_cons.mpr ⟨mo_get _ _, ?_⟩
  refine List.forall_mem_cons.mpr ⟨mo_iload _ _, ?_⟩
  refine List.forall_mem_cons.mpr ⟨mo_call _ _ _, ?_⟩
  refine List.forall_mem_cons.mpr ⟨mo_push _ _, ?_⟩
  refine List.forall_mem_cons.mpr ⟨mo_istore _ _, ?_⟩
  refine List.forall_mem_cons.mpr ⟨mo_iload _ _, ?_⟩
  refine List.forall_mem_cons.mpr ⟨mo_aload _ _, ?_⟩
  refine List.forall_mem_cons.mpr ⟨mo_call _ _ _, ?_⟩
  refine List.forall_mem_cons.mpr ⟨mo_icmp _ _ _, ?_⟩
  refine List.forall_mem_cons.mpr ⟨mo_aload _ _, ?_⟩
  refine List.forall_mem_cons.mpr ⟨mo_get _ _, ?_⟩
  refine List.forall_mem_cons.mpr ⟨mo_iload _ _, ?_⟩
  refine List.forall_mem_cons.mpr ⟨mo_dup2, ?_⟩
  refine List.forall_mem_cons.mpr ⟨mo_iald, ?_⟩
  refine List.forall_mem_cons.mpr ⟨mo_push _ _, ?_⟩
  refine List.forall_mem_cons.mpr ⟨mo_aload _ _, ?_⟩
  refine List.forall_mem_cons.mpr ⟨mo_get _ _, ?_⟩
  refine List.forall_mem_cons.mpr ⟨mo_iload _ _, ?_⟩
  refine List.forall_mem_cons.mpr ⟨mo_aload _ _, ?_⟩
  refine List.forall_mem_cons.mpr ⟨mo_iload _ _, ?_⟩
  refine List.forall_mem_cons.mpr ⟨mo_iload _ _, ?_⟩
  refine List.forall_mem_cons.mpr ⟨mo_iload _ _, ?_⟩
  refine List.forall_mem_cons.mpr ⟨mo_call _ _ _, ?_⟩
  refine List.forall_mem_cons.mpr ⟨mo_call _ _ _, ?_⟩
  refine List.forall_mem_cons.mpr ⟨mo_bin _, ?_⟩
  refine List.forall_mem_cons.mpr ⟨mo_bin _, ?_⟩
  refine List.forall_mem_cons.mpr ⟨mo_iast, ?_⟩
  refine List.forall_mem_cons.mpr ⟨mo_iinc _ _, ?_⟩
  refine List.forall_mem_cons.mpr ⟨mo_goto _, ?_⟩
  refine List.forall_mem_cons.mpr ⟨mo_iinc _ _, ?_⟩
  refine List.forall_mem_cons.mpr ⟨mo_goto _, ?_⟩
  refine List.forall_mem_cons.mpr ⟨mo_vret, ?_⟩
  exact fun _ h => absurd h List.not_mem_nil
def k_X3_hasBit : List (Nat × aI) := [
  (0, i_iload 0 1),
  (1, i_iload 1 1),
  (2, i_bin (fun x y => x >>> (y &&& 31))),
  (3, i_push (.int 1) 1),
  (4, i_bin (fun x y => x &&& y)),
  (5, i_push (.int 1) 1),
  (6, i_icmp (fun x y => x = y) 9 13),
  (9, i_push (.int 1) 1),
  (10, i_goto 14),
  (13, i_push (.int 0) 1),
  (14, i_zret)]
theorem s_X3_hasBit : ∀ q ∈ k_X3_hasBit, Snd RX3 cX3_hasBit (some .boolean) false q.1 q.2 := by
  unfold k_X3_hasBit
  refine List.forall_mem_cons.mpr ⟨snd_iload_n (by decide +kernel : decode cX3_hasBit 0 = .ok (.iload_n 0, 1)) rfl, ?_⟩
  refine List.forall_mem_cons.mpr ⟨snd_iload_n (by decide +kernel : decode cX3_hasBit 1 = .ok (.iload_n 1, 1)) rfl, ?_⟩
  refine List.forall_mem_cons.mpr ⟨snd_ishr (by decide +kernel : decode cX3_hasBit 2 = .ok (.ishr, 1)), ?_⟩
  refine List.forall_mem_cons.mpr ⟨snd_iconst (by decide +kernel : decode cX3_hasBit 3 = .ok (.iconst 1, 1)) (by decide +kernel), ?_⟩
  refine List.forall_mem_cons.mpr ⟨snd_iand (by decide +kernel : decode cX3_hasBit 4 = .ok (.iand, 1)), ?_⟩
  refine List.forall_mem_cons.mpr ⟨snd_iconst (by decide +kernel : decode cX3_hasBit 5 = .ok (.iconst 1, 1)) (by decide +kernel), ?_⟩
  refine List.forall_mem_cons.mpr ⟨snd_icmp_ne (by decide +kernel : decode cX3_hasBit 6 = .ok (.if_icmp .ne 7, 3)) (by decide +kernel), ?_⟩
  refine List.forall_mem_cons.mpr ⟨snd_iconst (by decide +kernel : decode cX3_hasBit 9 = .ok (.iconst 1, 1)) (by decide +kernel), ?_⟩
  refine List.forall_mem_cons.mpr ⟨snd_goto (by decide +kernel : decode cX3_hasBit 10 = .ok (.goto 4, 3)) (by decide +kernel), ?_⟩
  refine List.forall_mem_cons.mpr ⟨snd_iconst (by decide +kernel : decode cX3_hasBit 13 = .ok (.iconst 0, 1)) (by decide +kernel), ?_⟩
  refine List.forall_mem_cons.mpr ⟨snd_zret (by decide +kernel : decode cX3_hasBit 14 = .ok (.ireturn, 1)), ?_⟩
  exact fun _ h => absurd h List.not_mem_nil
theorem m_X3_hasBit : ∀ q ∈ k_X3_hasBit, Mono q.2 := by
  unfold k_X3_hasBit
  refine List.forall_mem_cons.mpr ⟨mo_iload _ _, ?_⟩
  refine List.forall_mem_cons.mpr ⟨mo_iload _ _, ?_⟩
  refine List.forall_mem_cons.mpr ⟨mo_bin _, ?_⟩
  refine List.forall_mem_cons.mpr ⟨mo_push _ _, ?_⟩
  refine List.forall_mem_cons.mpr ⟨mo_bin _, ?_⟩
  refine List.forall_mem_cons.mpr ⟨mo_push _ _, ?_⟩
  refine List.forall_mem_cons.mpr ⟨mo_icmp _ _ _, ?_⟩
  refine List.forall_mem_cons.mpr ⟨mo_push _ _, ?_⟩
  refine List.forall_mem_cons.mpr ⟨mo_goto _, ?_⟩
  refine List.forall_mem_cons.mpr ⟨mo_push _ _, ?_⟩
  refine List.forall_mem_cons.mpr ⟨mo_zret, ?_⟩
  exact fun _ h => absurd h List.not_mem_nil
