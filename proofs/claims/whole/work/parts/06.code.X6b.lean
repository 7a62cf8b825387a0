def k_X6_stood : List (Nat × aI) := [
  (0, i_aload 0 1),
  (1, i_get 6 1),
  (4, i_iload 1 1),
  (5, i_callV 29 2 2),
  (8, i_if (fun x => x = 0) 11 13),
  (11, i_push (.int (-1)) 1),
  (12, i_iret),
  (13, i_push (.int 0) 1),
  (14, i_istore 2 1),
  (15, i_push (.int 0) 1),
  (16, i_istore 3 1),
  (17, i_iload 3 1),
  (18, i_push (.int 10) 2),
  (20, i_icmp (fun x y => x < y) 23 76),
  (23, i_aload 0 1),
  (24, i_get 6 2),
  (27, i_aload 0 1),
  (28, i_get 6 1),
  (31, i_callV 22 2 2),
  (34, i_aload 0 1),
  (35, i_get 6 2),
  (38, i_aload 0 1),
  (39, i_get 6 1),
  (42, i_callV 27 1 2),
  (45, i_iload 1 1),
  (46, i_iload 3 1),
  (47, i_callV 31 4 2),
  (50, i_aload 0 1),
  (51, i_get 6 5),
  (54, i_aload 0 1),
  (55, i_get 6 2),
  (58, i_callV 76 2 5),
  (61, i_if (fun x => x = 0) 70 64),
  (64, i_iload 2 1),
  (65, i_push (.int 1) 1),
  (66, i_iload 3 1),
  (67, i_bin (fun x y => x <<< (y &&& 31))),
  (68, i_bin (fun x y => x ||| y)),
  (69, i_istore 2 1),
  (70, i_iinc 3 1),
  (73, i_goto 17),
  (76, i_iload 2 1),
  (77, i_iret)]
theorem s_X6_stood : ∀ q ∈ k_X6_stood, Snd RX6 cX6_stood (some .int) false q.1 q.2 := by
  unfold k_X6_stood
  refine List.forall_mem_cons.mpr ⟨snd_aload_n (by decide +kernel : decode cX6_stood 0 = .ok (.aload_n 0, 1)) rfl, ?_⟩
  refine List.forall_mem_cons.mpr ⟨snd_get fl_6_19 (by decide +kernel : decode cX6_stood 1 = .ok (.getfield 19, 3)), ?_⟩
  refine List.forall_mem_cons.mpr ⟨snd_iload_n (by decide +kernel : decode cX6_stood 4 = .ok (.iload_n 1, 1)) rfl, ?_⟩
  refine List.forall_mem_cons.mpr ⟨snd_callV mok_29 wd_397 wd_164 wd_165 rfl rfl (by decide +kernel : decode cX6_stood 5 = .ok (.invokevirtual 99, 3)), ?_⟩
  refine List.forall_mem_cons.mpr ⟨snd_if_ne (by decide +kernel : decode cX6_stood 8 = .ok (.ifCond .ne 5, 3)) (by decide +kernel), ?_⟩
  refine List.forall_mem_cons.mpr ⟨snd_iconst (by decide +kernel : decode cX6_stood 11 = .ok (.iconst (-1), 1)) (by decide +kernel), ?_⟩
  refine List.forall_mem_cons.mpr ⟨snd_iret (by decide +kernel : decode cX6_stood 12 = .ok (.ireturn, 1)), ?_⟩
  refine List.forall_mem_cons.mpr ⟨snd_iconst (by decide +kernel : decode cX6_stood 13 = .ok (.iconst 0, 1)) (by decide +kernel), ?_⟩
  refine List.forall_mem_cons.mpr ⟨snd_istore_n (by decide +kernel : decode cX6_stood 14 = .ok (.istore_n 2, 1)) rfl, ?_⟩
  refine List.forall_mem_cons.mpr ⟨snd_iconst (by decide +kernel : decode cX6_stood 15 = .ok (.iconst 0, 1)) (by decide +kernel), ?_⟩
  refine List.forall_mem_cons.mpr ⟨snd_istore_n (by decide +kernel : decode cX6_stood 16 = .ok (.istore_n 3, 1)) rfl, ?_⟩
  refine List.forall_mem_cons.mpr ⟨snd_iload_n (by decide +kernel : decode cX6_stood 17 = .ok (.iload_n 3, 1)) rfl, ?_⟩
  refine List.forall_mem_cons.mpr ⟨snd_bipush (by decide +kernel : decode cX6_stood 18 = .ok (.bipush 10, 2)) (by decide +kernel), ?_⟩
  refine List.forall_mem_cons.mpr ⟨snd_icmp_ge (by decide +kernel : decode cX6_stood 20 = .ok (.if_icmp .ge 56, 3)) (by decide +kernel), ?_⟩
  refine List.forall_mem_cons.mpr ⟨snd_aload_n (by decide +kernel : decode cX6_stood 23 = .ok (.aload_n 0, 1)) rfl, ?_⟩
  refine List.forall_mem_cons.mpr ⟨snd_get fl_6_23 (by decide +kernel : decode cX6_stood 24 = .ok (.getfield 23, 3)), ?_⟩
  refine List.forall_mem_cons.mpr ⟨snd_aload_n (by decide +kernel : decode cX6_stood 27 = .ok (.aload_n 0, 1)) rfl, ?_⟩
  refine List.forall_mem_cons.mpr ⟨snd_get fl_6_19 (by decide +kernel : decode cX6_stood 28 = .ok (.getfield 19, 3)), ?_⟩
  refine List.forall_mem_cons.mpr ⟨snd_callV mok_22 wd_385 wd_38 wd_39 rfl rfl (by decide +kernel : decode cX6_stood 31 = .ok (.invokevirtual 90, 3)), ?_⟩
  refine List.forall_mem_cons.mpr ⟨snd_aload_n (by decide +kernel : decode cX6_stood 34 = .ok (.aload_n 0, 1)) rfl, ?_⟩
  refine List.forall_mem_cons.mpr ⟨snd_get fl_6_23 (by decide +kernel : decode cX6_stood 35 = .ok (.getfield 23, 3)), ?_⟩
  refine List.forall_mem_cons.mpr ⟨snd_aload_n (by decide +kernel : decode cX6_stood 38 = .ok (.aload_n 0, 1)) rfl, ?_⟩
  refine List.forall_mem_cons.mpr ⟨snd_get fl_6_19 (by decide +kernel : decode cX6_stood 39 = .ok (.getfield 19, 3)), ?_⟩
  refine List.forall_mem_cons.mpr ⟨snd_callV mok_27 wd_492 wd_43 wd_44 rfl rfl (by decide +kernel : decode cX6_stood 42 = .ok (.invokevirtual 192, 3)), ?_⟩
  refine List.forall_mem_cons.mpr ⟨snd_iload_n (by decide +kernel : decode cX6_stood 45 = .ok (.iload_n 1, 1)) rfl, ?_⟩
  refine List.forall_mem_cons.mpr ⟨snd_iload_n (by decide +kernel : decode cX6_stood 46 = .ok (.iload_n 3, 1)) rfl, ?_⟩
  refine List.forall_mem_cons.mpr ⟨snd_callV mok_31 wd_423 wd_84 wd_85 rfl rfl (by decide +kernel : decode cX6_stood 47 = .ok (.invokevirtual 134, 3)), ?_⟩
  refine List.forall_mem_cons.mpr ⟨snd_aload_n (by decide +kernel : decode cX6_stood 50 = .ok (.aload_n 0, 1)) rfl, ?_⟩
  refine List.forall_mem_cons.mpr ⟨snd_get fl_6_41 (by decide +kernel : decode cX6_stood 51 = .ok (.getfield 41, 3)), ?_⟩
  refine List.forall_mem_cons.mpr ⟨snd_aload_n (by decide +kernel : decode cX6_stood 54 = .ok (.aload_n 0, 1)) rfl, ?_⟩
  refine List.forall_mem_cons.mpr ⟨snd_get fl_6_23 (by decide +kernel : decode cX6_stood 55 = .ok (.getfield 23, 3)), ?_⟩
  refine List.forall_mem_cons.mpr ⟨snd_callV mok_76 wd_487 wd_490 wd_491 rfl rfl (by decide +kernel : decode cX6_stood 58 = .ok (.invokevirtual 189, 3)), ?_⟩
  refine List.forall_mem_cons.mpr ⟨snd_if_eq (by decide +kernel : decode cX6_stood 61 = .ok (.ifCond .eq 9, 3)) (by decide +kernel), ?_⟩
  refine List.forall_mem_cons.mpr ⟨snd_iload_n (by decide +kernel : decode cX6_stood 64 = .ok (.iload_n 2, 1)) rfl, ?_⟩
  refine List.forall_mem_cons.mpr ⟨snd_iconst (by decide +kernel : decode cX6_stood 65 = .ok (.iconst 1, 1)) (by decide +kernel), ?_⟩
  refine List.forall_mem_cons.mpr ⟨snd_iload_n (by decide +kernel : decode cX6_stood 66 = .ok (.iload_n 3, 1)) rfl, ?_⟩
  refine List.forall_mem_cons.mpr ⟨snd_ishl (by decide +kernel : decode cX6_stood 67 = .ok (.ishl, 1)), ?_⟩
  refine List.forall_mem_cons.mpr ⟨snd_ior (by decide +kernel : decode cX6_stood 68 = .ok (.ior, 1)), ?_⟩
  refine List.forall_mem_cons.mpr ⟨snd_istore_n (by decide +kernel : decode cX6_stood 69 = .ok (.istore_n 2, 1)) rfl, ?_⟩
  refine List.forall_mem_cons.mpr ⟨snd_iinc (by decide +kernel : decode cX6_stood 70 = .ok (.iinc 3 1, 3)) (by decide +kernel), ?_⟩
  refine List.forall_mem_cons.mpr ⟨snd_goto (by decide +kernel : decode cX6_stood 73 = .ok (.goto (-56), 3)) (by decide +kernel), ?_⟩
  refine List.forall_mem_cons.mpr ⟨snd_iload_n (by decide +kernel : decode cX6_stood 76 = .ok (.iload_n 2, 1)) rfl, ?_⟩
  refine List.forall_mem_cons.mpr ⟨snd_iret (by decide +kernel : decode cX6_stood 77 = .ok (.ireturn, 1)), ?_⟩
  exact fun _ h => absurd h List.not_mem_nil
theorem m_X6_stood : ∀ q ∈ k_X6_stood, Mono q.2 := by
  unfold k_X6_stood
  refine List.forall_mem_cons.mpr ⟨mo_aload _ _, ?_⟩
  refine List.forall_mem_cons.mpr ⟨mo_get _ _, ?_⟩
  refine List.forall_mem_cons.mpr ⟨mo_iload _ _, ?_⟩
  refine List.forall_mem_cons.mpr ⟨mo_call _ _ _, ?_⟩
  refine List.forall_mem_cons.mpr ⟨mo_if _ _ _, ?_⟩
  refine List.forall_mem_cons.mpr ⟨mo_push _ _, ?_⟩
  refine List.forall_mem_cons.mpr ⟨mo_iret, ?_⟩
  refine List.forall_mem_cons.mpr ⟨mo_push _ _, ?_⟩
  refine List.forall_mem_cons.mpr ⟨mo_istore _ _, ?_⟩
  refine List.forall_mem_cons.mpr ⟨mo_push _ _, ?_⟩
  refine List.forall_mem_cons.mpr ⟨mo_istore _ _, ?_⟩
  refine List.forall_mem_cons.mpr ⟨mo_iload _ _, ?_⟩
  refine List.forall_mem_cons.mpr ⟨mo_push _ _, ?_⟩
  refine List.forall_mem_cons.mpr ⟨mo_icmp _ _ _, ?_⟩
  refine List.forall_mem_cons.mpr ⟨mo_aload _ _, ?_⟩
  refine List.forall_mem_cons.mpr ⟨mo_get _ _, ?_⟩
  refine List.forall_mem_cons.mpr ⟨mo_aload _ _, ?_⟩
  refine List.forall_mem_cons.mpr ⟨mo_get _ _, ?_⟩
  refine List.forall_mem_cons.mpr ⟨mo_call _ _ _, ?_⟩
  refine List.forall_mem_cons.mpr ⟨mo_aload _ _, ?_⟩
  refine List.forall_mem_cons.mpr ⟨mo_get _ _, ?_⟩
  refine List.forall_mem_cons.mpr ⟨mo_aload _ _, ?_⟩
  refine List.forall_mem_cons.mpr ⟨mo_get _ _, ?_⟩
  refine List.forall_mem_cons.mpr ⟨mo_call _ _ _, ?_⟩
  refine List.forall_mem_cons.mpr ⟨mo_iload _ _, ?_⟩
  refine List.forall_mem_cons.mpr ⟨mo_iload _ _, ?_⟩
  refine List.forall_mem_cons.mpr ⟨mo_call _ _ _, ?_⟩
  refine List.forall_mem_cons.mpr ⟨mo_aload _ _, ?_⟩
  refine List.forall_mem_cons.mpr ⟨mo_get _ _, ?_⟩
  refine List.forall_mem_cons.mpr ⟨mo_aload _ _, ?_⟩
  refine List.forall_mem_cons.mpr ⟨mo_get _ _, ?_⟩
  refine List.forall_mem_cons.mpr ⟨mo_call _ _ _, ?_⟩
  refine List.forall_mem_cons.mpr ⟨mo_if _ _ _, ?_⟩
  refine List.forall_mem_cons.mpr ⟨mo_iload _ _, ?_⟩
  refine List.forall_mem_cons.mpr ⟨mo_push _ _, ?_⟩
  refine List.forall_mem_cons.mpr ⟨mo_iload _ _, ?_⟩
  refine List.forall_mem_cons.mpr ⟨mo_bin _, ?_⟩
  refine List.forall_mem_cons.mpr ⟨mo_bin _, ?_⟩
  refine List.forall_mem_cons.mpr ⟨mo_istore _ _, ?_⟩
  refine List.forall_mem_cons.mpr ⟨mo_iinc _ _, ?_⟩
  refine List.forall_mem_cons.mpr ⟨mo_goto _, ?_⟩
  refine List.forall_mem_cons.mpr ⟨mo_iload _ _, ?_⟩
  refine List.forall_mem_cons.mpr ⟨mo_iret, ?_⟩
  exact fun _ h => absurd h List.not_mem_nil
def k_X6_tells : List (Nat × aI) := [
  (0, i_iload 1 1),
  (1, i_push (.int 0) 1),
  (2, i_push (.int 20) 2),
  (4, i_callS 114 3),
  (7, i_if (fun x => x = 0) 30 10),
  (10, i_aload 0 1),
  (11, i_get 6 1),
  (14, i_iload 2 1),
  (15, i_callV 28 2 2),
  (18, i_if (fun x => x = 0) 30 21),
  (21, i_iload 3 1),
  (22, i_push (.int 0) 1),
  (23, i_push (.int 1) 1),
  (24, i_callS 114 3),
  (27, i_if (fun x => x = 0) 30 32),
  (30, i_push (.int (-1)) 1),
  (31, i_iret),
  (32, i_aload 0 1),
  (33, i_get 6 6),
  (36, i_aload 0 1),
  (37, i_get 6 1),
  (40, i_iload 1 1),
  (41, i_iload 2 1),
  (42, i_iload 3 1),
  (43, i_if (fun x => x = 0) 46 50),
  (46, i_push (.int 1) 1),
  (47, i_goto 51),
  (50, i_push (.int 0) 1),
  (51, i_callV 62 5 3),
  (54, i_iret)]
theorem s_X6_tells : ∀ q ∈ k_X6_tells, Snd RX6 cX6_tells (some .int) false q.1 q.2 := by
  unfold k_X6_tells
  refine List.forall_mem_cons.mpr ⟨snd_iload_n (by decide +kernel : decode cX6_tells 0 = .ok (.iload_n 1, 1)) rfl, ?_⟩
  refine List.forall_mem_cons.mpr ⟨snd_iconst (by decide +kernel : decode cX6_tells 1 = .ok (.iconst 0, 1)) (by decide +kernel), ?_⟩
  refine List.forall_mem_cons.mpr ⟨snd_bipush (by decide +kernel : decode cX6_tells 2 = .ok (.bipush 20, 2)) (by decide +kernel), ?_⟩
  refine List.forall_mem_cons.mpr ⟨snd_callS mok_114 wd_378 wd_137 (by decide +kernel : decode cX6_tells 4 = .ok (.invokestatic 82, 3)), ?_⟩
  refine List.forall_mem_cons.mpr ⟨snd_if_eq (by decide +kernel : decode cX6_tells 7 = .ok (.ifCond .eq 23, 3)) (by decide +kernel), ?_⟩
  refine List.forall_mem_cons.mpr ⟨snd_aload_n (by decide +kernel : decode cX6_tells 10 = .ok (.aload_n 0, 1)) rfl, ?_⟩
  refine List.forall_mem_cons.mpr ⟨snd_get fl_6_19 (by decide +kernel : decode cX6_tells 11 = .ok (.getfield 19, 3)), ?_⟩
  refine List.forall_mem_cons.mpr ⟨snd_iload_n (by decide +kernel : decode cX6_tells 14 = .ok (.iload_n 2, 1)) rfl, ?_⟩
  refine List.forall_mem_cons.mpr ⟨snd_callV mok_28 wd_396 wd_153 wd_154 rfl rfl (by decide +kernel : decode cX6_tells 15 = .ok (.invokevirtual 96, 3)), ?_⟩
  refine List.forall_mem_cons.mpr ⟨snd_if_eq (by decide +kernel : decode cX6_tells 18 = .ok (.ifCond .eq 12, 3)) (by decide +kernel), ?_⟩
  refine List.forall_mem_cons.mpr ⟨snd_iload_n (by decide +kernel : decode cX6_tells 21 = .ok (.iload_n 3, 1)) rfl, ?_⟩
  refine List.forall_mem_cons.mpr ⟨snd_iconst (by decide +kernel : decode cX6_tells 22 = .ok (.iconst 0, 1)) (by decide +kernel), ?_⟩
  refine List.forall_mem_cons.mpr ⟨snd_iconst (by decide +kernel : decode cX6_tells 23 = .ok (.iconst 1, 1)) (by decide +kernel), ?_⟩
  refine List.forall_mem_cons.mpr ⟨snd_callS mok_114 wd_378 wd_137 (by decide +kernel : decode cX6_tells 24 = .ok (.invokestatic 82, 3)), ?_⟩
  refine List.forall_mem_cons.mpr ⟨snd_if_ne (by decide +kernel : decode cX6_tells 27 = .ok (.ifCond .ne 5, 3)) (by decide +kernel), ?_⟩
  refine List.forall_mem_cons.mpr ⟨snd_iconst (by decide +kernel : decode cX6_tells 30 = .ok (.iconst (-1), 1)) (by decide +kernel), ?_⟩
  refine List.forall_mem_cons.mpr ⟨snd_iret (by decide +kernel : decode cX6_tells 31 = .ok (.ireturn, 1)), ?_⟩
  refine List.forall_mem_cons.mpr ⟨snd_aload_n (by decide +kernel : decode cX6_tells 32 = .ok (.aload_n 0, 1)) rfl, ?_⟩
  refine List.forall_mem_cons.mpr ⟨snd_get fl_6_48 (by decide +kernel : decode cX6_tells 33 = .ok (.getfield 48, 3)), ?_⟩
  refine List.forall_mem_cons.mpr ⟨snd_aload_n (by decide +kernel : decode cX6_tells 36 = .ok (.aload_n 0, 1)) rfl, ?_⟩
  refine List.forall_mem_cons.mpr ⟨snd_get fl_6_19 (by decide +kernel : decode cX6_tells 37 = .ok (.getfield 19, 3)), ?_⟩
  refine List.forall_mem_cons.mpr ⟨snd_iload_n (by decide +kernel : decode cX6_tells 40 = .ok (.iload_n 1, 1)) rfl, ?_⟩
  refine List.forall_mem_cons.mpr ⟨snd_iload_n (by decide +kernel : decode cX6_tells 41 = .ok (.iload_n 2, 1)) rfl, ?_⟩
  refine List.forall_mem_cons.mpr ⟨snd_iload_n (by decide +kernel : decode cX6_tells 42 = .ok (.iload_n 3, 1)) rfl, ?_⟩
  refine List.forall_mem_cons.mpr ⟨snd_if_ne (by decide +kernel : decode cX6_tells 43 = .ok (.ifCond .ne 7, 3)) (by decide +kernel), ?_⟩
  refine List.forall_mem_cons.mpr ⟨snd_iconst (by decide +kernel : decode cX6_tells 46 = .ok (.iconst 1, 1)) (by decide +kernel), ?_⟩
  refine List.forall_mem_cons.mpr ⟨snd_goto (by decide +kernel : decode cX6_tells 47 = .ok (.goto 4, 3)) (by decide +kernel), ?_⟩
  refine List.forall_mem_cons.mpr ⟨snd_iconst (by decide +kernel : decode cX6_tells 50 = .ok (.iconst 0, 1)) (by decide +kernel), ?_⟩
  refine List.forall_mem_cons.mpr ⟨snd_callV mok_62 wd_493 wd_496 wd_497 rfl rfl (by decide +kernel : decode cX6_tells 51 = .ok (.invokevirtual 195, 3)), ?_⟩
  refine List.forall_mem_cons.mpr ⟨snd_iret (by decide +kernel : decode cX6_tells 54 = .ok (.ireturn, 1)), ?_⟩
  exact fun _ h => absurd h List.not_mem_nil
theorem m_X6_tells : ∀ q ∈ k_X6_tells, Mono q.2 := by
  unfold k_X6_tells
  refine List.forall_mem_cons.mpr ⟨mo_iload _ _, ?_⟩
  refine List.forall_mem_cons.mpr ⟨mo_push _ _, ?_⟩
  refine List.forall_mem_cons.mpr ⟨mo_push _ _, ?_⟩
  refine List.forall_mem_cons.mpr ⟨mo_call _ _ _, ?_⟩
  refine List.forall_mem_cons.mpr ⟨mo_if _ _ _, ?_⟩
  refine List.forall_mem_cons.mpr ⟨mo_aload _ _, ?_⟩
  refine List.forall_mem_cons.mpr ⟨mo_get _ _, ?_⟩
  refine List.forall_mem_cons.mpr ⟨mo_iload _ _, ?_⟩
  refine List.forall_mem_cons.mpr ⟨mo_call _ _ _, ?_⟩
  refine List.forall_mem_cons.mpr ⟨mo_if _ _ _, ?_⟩
  refine List.forall_mem_cons.mpr ⟨mo_iload _ _, ?_⟩
  refine List.forall_mem_cons.mpr ⟨mo_push _ _, ?_⟩
  refine List.forall_mem_cons.mpr ⟨mo_push _ _, ?_⟩
  refine List.forall_mem_cons.mpr ⟨mo_call _ _ _, ?_⟩
  refine List.forall_mem_cons.mpr ⟨mo_if _ _ _, ?_⟩
  refine List.forall_mem_cons.mpr ⟨mo_push _ _, ?_⟩
  refine List.forall_mem_cons.mpr ⟨mo_iret, ?_⟩
  refine List.forall_mem_cons.mpr ⟨mo_aload _ _, ?_⟩
  refine List.forall_mem_cons.mpr ⟨mo_get _ _, ?_⟩
  refine List.forall_mem_cons.mpr ⟨mo_aload _ _, ?_⟩
  refine List.forall_mem_cons.mpr ⟨mo_get _ _, ?_⟩
  refine List.forall_mem_cons.mpr ⟨mo_iload _ _, ?_⟩
  refine List.forall_mem_cons.mpr ⟨mo_iload _ _, ?_⟩
  refine List.forall_mem_cons.mpr ⟨mo_iload _ _, ?_⟩
  refine List.forall_mem_cons.mpr ⟨mo_if _ _ _, ?_⟩
  refine List.forall_mem_cons.mpr ⟨mo_push _ _, ?_⟩
  refine List.forall_mem_cons.mpr ⟨mo_goto _, ?_⟩
  refine List.forall_mem_cons.mpr ⟨mo_push _ _, ?_⟩
  refine List.forall_mem_cons.mpr ⟨mo_call _ _ _, ?_⟩
  refine List.forall_mem_cons.mpr ⟨mo_iret, ?_⟩
  exact fun _ h => absurd h List.not_mem_nil
def k_X6_likely : List (Nat × aI) := [
  (0, i_iload 1 1),
  (1, i_push (.int 0) 1),
  (2, i_push (.int 8) 2),
  (4, i_callS 114 3),
  (7, i_if (fun x => x = 0) 49 10),
  (10, i_aload 0 1),
  (11, i_get 6 1),
  (14, i_iload 2 1),
  (15, i_callV 29 2 2),
  (18, i_if (fun x => x = 0) 49 21),
  (21, i_iload 3 1),
  (22, i_callS 113 1),
  (25, i_if (fun x => x = 0) 49 28),
  (28, i_iload 4 2),
  (30, i_push (.int 0) 1),
  (31, i_push (.int 10) 2),
  (33, i_callS 114 3),
  (36, i_if (fun x => x = 0) 49 39),
  (39, i_iload 5 2),
  (41, i_push (.int 0) 1),
  (42, i_push (.int 1) 1),
  (43, i_callS 114 3),
  (46, i_if (fun x => x = 0) 49 51),
  (49, i_push (.int (-1)) 1),
  (50, i_iret),
  (51, i_aload 0 1),
  (52, i_get 6 7),
  (55, i_aload 0 1),
  (56, i_get 6 1),
  (59, i_iload 1 1),
  (60, i_iload 2 1),
  (61, i_iload 3 1),
  (62, i_iload 4 2),
  (64, i_callV 2 6 0),
  (67, i_istore 6 2),
  (69, i_push (.int 10) 2),
  (71, i_aload 0 1),
  (72, i_get 6 1),
  (75, i_iload 1 1),
  (76, i_callS 1 2),
  (79, i_callS 115 2),
  (82, i_istore 7 2),
  (84, i_iload 6 2),
  (86, i_iload 7 2),
  (88, i_callS 116 2),
  (91, i_istore 8 2),
  (93, i_iload 5 2),
  (95, i_if (fun x => x = 0) 98 103),
  (98, i_iload 6 2),
  (100, i_goto 105),
  (103, i_iload 7 2),
  (105, i_istore 9 2),
  (107, i_iload 8 2),
  (109, i_if (fun x => 0 < x) 112 120),
  (112, i_iload 9 2),
  (114, i_iload 8 2),
  (116, i_div (fun x y => x / y)),
  (117, i_goto 122),
  (120, i_iload 9 2),
  (122, i_iret)]
theorem s_X6_likely : ∀ q ∈ k_X6_likely, Snd RX6 cX6_likely (some .int) false q.1 q.2 := by
  unfold k_X6_likely
  refine List.forall_mem_cons.mpr ⟨snd_iload_n (by decide +kernel : decode cX6_likely 0 = .ok (.iload_n 1, 1)) rfl, ?_⟩
  refine List.forall_mem_cons.mpr ⟨snd_iconst (by decide +kernel : decode cX6_likely 1 = .ok (.iconst 0, 1)) (by decide +kernel), ?_⟩
  refine List.forall_mem_cons.mpr ⟨snd_bipush (by decide +kernel : decode cX6_likely 2 = .ok (.bipush 8, 2)) (by decide +kernel), ?_⟩
  refine List.forall_mem_cons.mpr ⟨snd_callS mok_114 wd_378 wd_137 (by decide +kernel : decode cX6_likely 4 = .ok (.invokestatic 82, 3)), ?_⟩
  refine List.forall_mem_cons.mpr ⟨snd_if_eq (by decide +kernel : decode cX6_likely 7 = .ok (.ifCond .eq 42, 3)) (by decide +kernel), ?_⟩
  refine List.forall_mem_cons.mpr ⟨snd_aload_n (by decide +kernel : decode cX6_likely 10 = .ok (.aload_n 0, 1)) rfl, ?_⟩
  refine List.forall_mem_cons.mpr ⟨snd_get fl_6_19 (by decide +kernel : decode cX6_likely 11 = .ok (.getfield 19, 3)), ?_⟩
  refine List.forall_mem_cons.mpr ⟨snd_iload_n (by decide +kernel : decode cX6_likely 14 = .ok (.iload_n 2, 1)) rfl, ?_⟩
  refine List.forall_mem_cons.mpr ⟨snd_callV mok_29 wd_397 wd_164 wd_165 rfl rfl (by decide +kernel : decode cX6_likely 15 = .ok (.invokevirtual 99, 3)), ?_⟩
  refine List.forall_mem_cons.mpr ⟨snd_if_eq (by decide +kernel : decode cX6_likely 18 = .ok (.ifCond .eq 31, 3)) (by decide +kernel), ?_⟩
  refine List.forall_mem_cons.mpr ⟨snd_iload_n (by decide +kernel : decode cX6_likely 21 = .ok (.iload_n 3, 1)) rfl, ?_⟩
  refine List.forall_mem_cons.mpr ⟨snd_callS mok_113 wd_422 wd_168 (by decide +kernel : decode cX6_likely 22 = .ok (.invokestatic 131, 3)), ?_⟩
  refine List.forall_mem_cons.mpr ⟨snd_if_eq (by decide +kernel : decode cX6_likely 25 = .ok (.ifCond .eq 24, 3)) (by decide +kernel), ?_⟩
  refine List.forall_mem_cons.mpr ⟨snd_iload (by decide +kernel : decode cX6_likely 28 = .ok (.iload 4, 2)), ?_⟩
  refine List.forall_mem_cons.mpr ⟨snd_iconst (by decide +kernel : decode cX6_likely 30 = .ok (.iconst 0, 1)) (by decide +kernel), ?_⟩
  refine List.forall_mem_cons.mpr ⟨snd_bipush (by decide +kernel : decode cX6_likely 31 = .ok (.bipush 10, 2)) (by decide +kernel), ?_⟩
  refine List.forall_mem_cons.mpr ⟨snd_callS mok_114 wd_378 wd_137 (by decide +kernel : decode cX6_likely 33 = .ok (.invokestatic 82, 3)), ?_⟩
  refine List.forall_mem_cons.mpr ⟨snd_if_eq (by decide +kernel : decode cX6_likely 36 = .ok (.ifCond .eq 13, 3)) (by decide +kernel), ?_⟩
  refine List.forall_mem_cons.mpr ⟨snd_iload (by decide +kernel : decode cX6_likely 39 = .ok (.iload 5, 2)), ?_⟩
  refine List.forall_mem_cons.mpr ⟨snd_iconst (by decide +kernel : decode cX6_likely 41 = .ok (.iconst 0, 1)) (by decide +kernel), ?_⟩
  refine List.forall_mem_cons.mpr ⟨snd_iconst (by decide +kernel : decode cX6_likely 42 = .ok (.iconst 1, 1)) (by decide +kernel), ?_⟩
  refine List.forall_mem_cons.mpr ⟨snd_callS mok_114 wd_378 wd_137 (by decide +kernel : decode cX6_likely 43 = .ok (.invokestatic 82, 3)), ?_⟩
  refine List.forall_mem_cons.mpr ⟨snd_if_ne (by decide +kernel : decode cX6_likely 46 = .ok (.ifCond .ne 5, 3)) (by decide +kernel), ?_⟩
  refine List.forall_mem_cons.mpr ⟨snd_iconst (by decide +kernel : decode cX6_likely 49 = .ok (.iconst (-1), 1)) (by decide +kernel), ?_⟩
  refine List.forall_mem_cons.mpr ⟨snd_iret (by decide +kernel : decode cX6_likely 50 = .ok (.ireturn, 1)), ?_⟩
  refine List.forall_mem_cons.mpr ⟨snd_aload_n (by decide +kernel : decode cX6_likely 51 = .ok (.aload_n 0, 1)) rfl, ?_⟩
  refine List.forall_mem_cons.mpr ⟨snd_get fl_6_55 (by decide +kernel : decode cX6_likely 52 = .ok (.getfield 55, 3)), ?_⟩
  refine List.forall_mem_cons.mpr ⟨snd_aload_n (by decide +kernel : decode cX6_likely 55 = .ok (.aload_n 0, 1)) rfl, ?_⟩
  refine List.forall_mem_cons.mpr ⟨snd_get fl_6_19 (by decide +kernel : decode cX6_likely 56 = .ok (.getfield 19, 3)), ?_⟩
  refine List.forall_mem_cons.mpr ⟨snd_iload_n (by decide +kernel : decode cX6_likely 59 = .ok (.iload_n 1, 1)) rfl, ?_⟩
  refine List.forall_mem_cons.mpr ⟨snd_iload_n (by decide +kernel : decode cX6_likely 60 = .ok (.iload_n 2, 1)) rfl, ?_⟩
  refine List.forall_mem_cons.mpr ⟨snd_iload_n (by decide +kernel : decode cX6_likely 61 = .ok (.iload_n 3, 1)) rfl, ?_⟩
  refine List.forall_mem_cons.mpr ⟨snd_iload (by decide +kernel : decode cX6_likely 62 = .ok (.iload 4, 2)), ?_⟩
  refine List.forall_mem_cons.mpr ⟨snd_callV mok_2 wd_498 wd_501 wd_502 rfl rfl (by decide +kernel : decode cX6_likely 64 = .ok (.invokevirtual 199, 3)), ?_⟩
  refine List.forall_mem_cons.mpr ⟨snd_istore (by decide +kernel : decode cX6_likely 67 = .ok (.istore 6, 2)), ?_⟩
  refine List.forall_mem_cons.mpr ⟨snd_bipush (by decide +kernel : decode cX6_likely 69 = .ok (.bipush 10, 2)) (by decide +kernel), ?_⟩
  refine List.forall_mem_cons.mpr ⟨snd_aload_n (by decide +kernel : decode cX6_likely 71 = .ok (.aload_n 0, 1)) rfl, ?_⟩
  refine List.forall_mem_cons.mpr ⟨snd_get fl_6_19 (by decide +kernel : decode cX6_likely 72 = .ok (.getfield 19, 3)), ?_⟩
  refine List.forall_mem_cons.mpr ⟨snd_iload_n (by decide +kernel : decode cX6_likely 75 = .ok (.iload_n 1, 1)) rfl, ?_⟩
  refine List.forall_mem_cons.mpr ⟨snd_callS mok_1 wd_503 wd_22 (by decide +kernel : decode cX6_likely 76 = .ok (.invokestatic 203, 3)), ?_⟩
  refine List.forall_mem_cons.mpr ⟨snd_callS mok_115 wd_504 wd_29 (by decide +kernel : decode cX6_likely 79 = .ok (.invokestatic 206, 3)), ?_⟩
  refine List.forall_mem_cons.mpr ⟨snd_istore (by decide +kernel : decode cX6_likely 82 = .ok (.istore 7, 2)), ?_⟩
  refine List.forall_mem_cons.mpr ⟨snd_iload (by decide +kernel : decode cX6_likely 84 = .ok (.iload 6, 2)), ?_⟩
  refine List.forall_mem_cons.mpr ⟨snd_iload (by decide +kernel : decode cX6_likely 86 = .ok (.iload 7, 2)), ?_⟩
  refine List.forall_mem_cons.mpr ⟨snd_callS mok_116 wd_505 wd_508 (by decide +kernel : decode cX6_likely 88 = .ok (.invokestatic 209, 3)), ?_⟩
  refine List.forall_mem_cons.mpr ⟨snd_istore (by decide +kernel : decode cX6_likely 91 = .ok (.istore 8, 2)), ?_⟩
  refine List.forall_mem_cons.mpr ⟨snd_iload (by decide +kernel : decode cX6_likely 93 = .ok (.iload 5, 2)), ?_⟩
  refine List.forall_mem_cons.mpr ⟨snd_if_ne (by decide +kernel : decode cX6_likely 95 = .ok (.ifCond .ne 8, 3)) (by decide +kernel), ?_⟩
  refine List.forall_mem_cons.mpr ⟨snd_iload (by decide +kernel : decode cX6_likely 98 = .ok (.iload 6, 2)), ?_⟩
  refine List.forall_mem_cons.mpr ⟨snd_goto (by decide +kernel : decode cX6_likely 100 = .ok (.goto 5, 3)) (by decide +kernel), ?_⟩
  refine List.forall_mem_cons.mpr ⟨snd_iload (by decide +kernel : decode cX6_likely 103 = .ok (.iload 7, 2)), ?_⟩
  refine List.forall_mem_cons.mpr ⟨snd_istore (by decide +kernel : decode cX6_likely 105 = .ok (.istore 9, 2)), ?_⟩
  refine List.forall_mem_cons.mpr ⟨snd_iload (by decide +kernel : decode cX6_likely 107 = .ok (.iload 8, 2)), ?_⟩
  refine List.forall_mem_cons.mpr ⟨snd_if_le (by decide +kernel : decode cX6_likely 109 = .ok (.ifCond .le 11, 3)) (by decide +kernel), ?_⟩
  refine List.forall_mem_cons.mpr ⟨snd_iload (by decide +kernel : decode cX6_likely 112 = .ok (.iload 9, 2)), ?_⟩
  refine List.forall_mem_cons.mpr ⟨snd_iload (by decide +kernel : decode cX6_likely 114 = .ok (.iload 8, 2)), ?_⟩
  refine List.forall_mem_cons.mpr ⟨snd_idiv (by decide +kernel : decode cX6_likely 116 = .ok (.idiv, 1)), ?_⟩
  refine List.forall_mem_cons.mpr ⟨snd_goto (by decide +kernel : decode cX6_likely 117 = .ok (.goto 5, 3)) (by decide +kernel), ?_⟩
  refine List.forall_mem_cons.mpr ⟨snd_iload (by decide +kernel : decode cX6_likely 120 = .ok (.iload 9, 2)), ?_⟩
  refine List.forall_mem_cons.mpr ⟨snd_iret (by decide +kernel : decode cX6_likely 122 = .ok (.ireturn, 1)), ?_⟩
  exact fun _ h => absurd h List.not_mem_nil
theorem m_X6_likely : ∀ q ∈ k_X6_likely, Mono q.2 := by
  unfold k_X6_likely
  refine List.forall_mem_cons.mpr ⟨mo_iload _ _, ?_⟩
  refine List.forall_mem_cons.mpr ⟨mo_push _ _, ?_⟩
  refine List.forall_mem_cons.mpr ⟨mo_push _ _, ?_⟩
  refine List.forall_mem_cons.mpr ⟨mo_call _ _ _, ?_⟩
  refine List.forall_mem_cons.mpr ⟨mo_if _ _ _, ?_⟩
  refine List.forall_mem_cons.mpr ⟨mo_aload _ _, ?_⟩
  refine List.forall_mem_cons.mpr ⟨mo_get _ _, ?_⟩
  refine List.forall_mem_cons.mpr ⟨mo_iload _ _, ?_⟩
  refine List.forall_mem_cons.mpr ⟨mo_call _ _ _, ?_⟩
  refine List.forall_mem_cons.mpr ⟨mo_if _ _ _, ?_⟩
  refine List.forall_mem_cons.mpr ⟨mo_iload _ _, ?_⟩
  refine List.forall_mem_cons.mpr ⟨mo_call _ _ _, ?_⟩
  refine List.forall_mem_cons.mpr ⟨mo_if _ _ _, ?_⟩
  refine List.forall_mem_cons.mpr ⟨mo_iload _ _, ?_⟩
  refine List.forall_mem_cons.mpr ⟨mo_push _ _, ?_⟩
  refine List.forall_mem_cons.mpr ⟨mo_push _ _, ?_⟩
  refine List.forall_mem_cons.mpr ⟨mo_call _ _ _, ?_⟩
  refine List.forall_mem_cons.mpr ⟨mo_if _ _ _, ?_⟩
  refine List.forall_mem_cons.mpr ⟨mo_iload _ _, ?_⟩
  refine List.forall_mem_cons.mpr ⟨mo_push _ _, ?_⟩
  refine List.forall_mem_cons.mpr ⟨mo_push _ _, ?_⟩
  refine List.forall_mem_cons.mpr ⟨mo_call _ _ _, ?_⟩
  refine List.forall_mem_cons.mpr ⟨mo_if _ _ _, ?_⟩
  refine List.forall_mem_cons.mpr ⟨mo_push _ _, ?_⟩
  refine List.forall_mem_cons.mpr ⟨mo_iret, ?_⟩
  refine List.forall_mem_cons.mpr ⟨mo_aload _ _, ?_⟩
  refine List.forall_mem_cons.mpr ⟨mo_get _ _, ?_⟩
  refine List.forall_mem_cons.mpr ⟨mo_aload _ _, ?_⟩
  refine List.forall_mem_cons.mpr ⟨mo_get _ _, ?_⟩
  refine List.forall_mem_cons.mpr ⟨mo_iload _ _, ?_⟩
  refine List.forall_mem_cons.mpr ⟨mo_iload _ _, ?_⟩
  refine List.forall_mem_cons.mpr ⟨mo_iload _ _, ?_⟩
  refine List.forall_mem_cons.mpr ⟨mo_iload _ _, ?_⟩
  refine List.forall_mem_cons.mpr ⟨mo_call _ _ _, ?_⟩
  refine List.forall_mem_cons.mpr ⟨mo_istore _ _, ?_⟩
  refine List.forall_mem_cons.mpr ⟨mo_push _ _, ?_⟩
  refine List.forall_mem_cons.mpr ⟨mo_aload _ _, ?_⟩
  refine List.forall_mem_cons.mpr ⟨mo_get _ _, ?_⟩
  refine List.forall_mem_cons.mpr ⟨mo_iload _ _, ?_⟩
  refine List.forall_mem_cons.mpr ⟨mo_call _ _ _, ?_⟩
  refine List.forall_mem_cons.mpr ⟨mo_call _ _ _, ?_⟩
  refine List.forall_mem_cons.mpr ⟨mo_istore _ _, ?_⟩
  refine List.forall_mem_cons.mpr ⟨mo_iload _ _, ?_⟩
  refine List.forall_mem_cons.mpr ⟨mo_iload _ _, ?_⟩
  refine List.forall_mem_cons.mpr ⟨mo_call _ _ _, ?_⟩
  refine List.forall_mem_cons.mpr ⟨mo_istore _ _, ?_⟩
  refine List.forall_mem_cons.mpr ⟨mo_iload _ _, ?_⟩
  refine List.forall_mem_cons.mpr ⟨mo_if _ _ _, ?_⟩
  refine List.forall_mem_cons.mpr ⟨mo_iload _ _, ?_⟩
  refine List.forall_mem_cons.mpr ⟨mo_goto _, ?_⟩
  refine List.forall_mem_cons.mpr ⟨mo_iload _ _, ?_⟩
  refine List.forall_mem_cons.mpr ⟨mo_istore _ _, ?_⟩
  refine List.forall_mem_cons.mpr ⟨mo_iload _ _, ?_⟩
  refine List.forall_mem_cons.mpr ⟨mo_if _ _ _, ?_⟩
  refine List.forall_mem_cons.mpr ⟨mo_iload _ _, ?_⟩
  refine List.forall_mem_cons.mpr ⟨mo_iload _ _, ?_⟩
  refine List.forall_mem_cons.mpr ⟨mo_div _, ?_⟩
  refine List.forall_mem_cons.mpr ⟨mo_goto _, ?_⟩
  refine List.forall_mem_cons.mpr ⟨mo_iload _ _, ?_⟩
  refine List.forall_mem_cons.mpr ⟨mo_iret, ?_⟩
  exact fun _ h => absurd h List.not_mem_nil
def k_X6_century : List (Nat × aI) := [
  (0, i_iload 1 1),
  (1, i_push (.int 0) 1),
  (2, i_push (.int 9999) 3),
  (5, i_callS 114 3),
  (8, i_if (fun x => x = 0) 30 11),
  (11, i_iload 2 1),
  (12, i_push (.int 1) 1),
  (13, i_push (.int 60) 2),
  (15, i_callS 114 3),
  (18, i_if (fun x => x = 0) 30 21),
  (21, i_iload 3 1),
  (22, i_push (.int 0) 1),
  (23, i_push (.int 2) 1),
  (24, i_callS 114 3),
  (27, i_if (fun x => x = 0) 30 32),
  (30, i_push (.int (-1)) 1),
  (31, i_iret),
  (32, i_aload 0 1),
  (33, i_get 6 2),
  (36, i_aload 0 1),
  (37, i_get 6 1),
  (40, i_callV 22 2 2),
  (43, i_aload 0 1),
  (44, i_get 6 2),
  (47, i_iload 1 1),
  (48, i_iload 2 1),
  (49, i_callS 4 3),
  (52, i_iload 3 1),
  (53, i_if (fun x => x = 0) 56 67),
  (56, i_aload 0 1),
  (57, i_get 6 2),
  (60, i_callV 41 1 2),
  (63, i_callS 181 1),
  (66, i_iret),
  (67, i_iload 3 1),
  (68, i_push (.int 1) 1),
  (69, i_icmp (fun x y => x = y) 72 84),
  (72, i_aload 0 1),
  (73, i_get 6 2),
  (76, i_push (.int 0) 1),
  (77, i_push (.int 0) 1),
  (78, i_callV 30 3 2),
  (81, i_goto 91),
  (84, i_aload 0 1),
  (85, i_get 6 2),
  (88, i_callV 37 1 2),
  (91, i_iret)]
theorem s_X6_century : ∀ q ∈ k_X6_century, Snd RX6 cX6_century (some .int) false q.1 q.2 := by
  unfold k_X6_century
  refine List.forall_mem_cons.mpr ⟨snd_iload_n (by decide +kernel : decode cX6_century 0 = .ok (.iload_n 1, 1)) rfl, ?_⟩
  refine List.forall_mem_cons.mpr ⟨snd_iconst (by decide +kernel : decode cX6_century 1 = .ok (.iconst 0, 1)) (by decide +kernel), ?_⟩
  refine List.forall_mem_cons.mpr ⟨snd_sipush (by decide +kernel : decode cX6_century 2 = .ok (.sipush 9999, 3)) (by decide +kernel), ?_⟩
  refine List.forall_mem_cons.mpr ⟨snd_callS mok_114 wd_378 wd_137 (by decide +kernel : decode cX6_century 5 = .ok (.invokestatic 82, 3)), ?_⟩
  refine List.forall_mem_cons.mpr ⟨snd_if_eq (by decide +kernel : decode cX6_century 8 = .ok (.ifCond .eq 22, 3)) (by decide +kernel), ?_⟩
  refine List.forall_mem_cons.mpr ⟨snd_iload_n (by decide +kernel : decode cX6_century 11 = .ok (.iload_n 2, 1)) rfl, ?_⟩
  refine List.forall_mem_cons.mpr ⟨snd_iconst (by decide +kernel : decode cX6_century 12 = .ok (.iconst 1, 1)) (by decide +kernel), ?_⟩
  refine List.forall_mem_cons.mpr ⟨snd_bipush (by decide +kernel : decode cX6_century 13 = .ok (.bipush 60, 2)) (by decide +kernel), ?_⟩
  refine List.forall_mem_cons.mpr ⟨snd_callS mok_114 wd_378 wd_137 (by decide +kernel : decode cX6_century 15 = .ok (.invokestatic 82, 3)), ?_⟩
  refine List.forall_mem_cons.mpr ⟨snd_if_eq (by decide +kernel : decode cX6_century 18 = .ok (.ifCond .eq 12, 3)) (by decide +kernel), ?_⟩
  refine List.forall_mem_cons.mpr ⟨snd_iload_n (by decide +kernel : decode cX6_century 21 = .ok (.iload_n 3, 1)) rfl, ?_⟩
  refine List.forall_mem_cons.mpr ⟨snd_iconst (by decide +kernel : decode cX6_century 22 = .ok (.iconst 0, 1)) (by decide +kernel), ?_⟩
  refine List.forall_mem_cons.mpr ⟨snd_iconst (by decide +kernel : decode cX6_century 23 = .ok (.iconst 2, 1)) (by decide +kernel), ?_⟩
  refine List.forall_mem_cons.mpr ⟨snd_callS mok_114 wd_378 wd_137 (by decide +kernel : decode cX6_century 24 = .ok (.invokestatic 82, 3)), ?_⟩
  refine List.forall_mem_cons.mpr ⟨snd_if_ne (by decide +kernel : decode cX6_century 27 = .ok (.ifCond .ne 5, 3)) (by decide +kernel), ?_⟩
  refine List.forall_mem_cons.mpr ⟨snd_iconst (by decide +kernel : decode cX6_century 30 = .ok (.iconst (-1), 1)) (by decide +kernel), ?_⟩
  refine List.forall_mem_cons.mpr ⟨snd_iret (by decide +kernel : decode cX6_century 31 = .ok (.ireturn, 1)), ?_⟩
  refine List.forall_mem_cons.mpr ⟨snd_aload_n (by decide +kernel : decode cX6_century 32 = .ok (.aload_n 0, 1)) rfl, ?_⟩
  refine List.forall_mem_cons.mpr ⟨snd_get fl_6_23 (by decide +kernel : decode cX6_century 33 = .ok (.getfield 23, 3)), ?_⟩
  refine List.forall_mem_cons.mpr ⟨snd_aload_n (by decide +kernel : decode cX6_century 36 = .ok (.aload_n 0, 1)) rfl, ?_⟩
  refine List.forall_mem_cons.mpr ⟨snd_get fl_6_19 (by decide +kernel : decode cX6_century 37 = .ok (.getfield 19, 3)), ?_⟩
  refine List.forall_mem_cons.mpr ⟨snd_callV mok_22 wd_385 wd_38 wd_39 rfl rfl (by decide +kernel : decode cX6_century 40 = .ok (.invokevirtual 90, 3)), ?_⟩
  refine List.forall_mem_cons.mpr ⟨snd_aload_n (by decide +kernel : decode cX6_century 43 = .ok (.aload_n 0, 1)) rfl, ?_⟩
  refine List.forall_mem_cons.mpr ⟨snd_get fl_6_23 (by decide +kernel : decode cX6_century 44 = .ok (.getfield 23, 3)), ?_⟩
  refine List.forall_mem_cons.mpr ⟨snd_iload_n (by decide +kernel : decode cX6_century 47 = .ok (.iload_n 1, 1)) rfl, ?_⟩
  refine List.forall_mem_cons.mpr ⟨snd_iload_n (by decide +kernel : decode cX6_century 48 = .ok (.iload_n 2, 1)) rfl, ?_⟩
  refine List.forall_mem_cons.mpr ⟨snd_callS mok_4 wd_509 wd_512 (by decide +kernel : decode cX6_century 49 = .ok (.invokestatic 212, 3)), ?_⟩
  refine List.forall_mem_cons.mpr ⟨snd_iload_n (by decide +kernel : decode cX6_century 52 = .ok (.iload_n 3, 1)) rfl, ?_⟩
  refine List.forall_mem_cons.mpr ⟨snd_if_ne (by decide +kernel : decode cX6_century 53 = .ok (.ifCond .ne 14, 3)) (by decide +kernel), ?_⟩
  refine List.forall_mem_cons.mpr ⟨snd_aload_n (by decide +kernel : decode cX6_century 56 = .ok (.aload_n 0, 1)) rfl, ?_⟩
  refine List.forall_mem_cons.mpr ⟨snd_get fl_6_23 (by decide +kernel : decode cX6_century 57 = .ok (.getfield 23, 3)), ?_⟩
  refine List.forall_mem_cons.mpr ⟨snd_callV mok_41 wd_513 wd_242 wd_243 rfl rfl (by decide +kernel : decode cX6_century 60 = .ok (.invokevirtual 216, 3)), ?_⟩
  refine List.forall_mem_cons.mpr ⟨snd_callS mok_181 wd_514 wd_26 (by decide +kernel : decode cX6_century 63 = .ok (.invokestatic 219, 3)), ?_⟩
  refine List.forall_mem_cons.mpr ⟨snd_iret (by decide +kernel : decode cX6_century 66 = .ok (.ireturn, 1)), ?_⟩
  refine List.forall_mem_cons.mpr ⟨snd_iload_n (by decide +kernel : decode cX6_century 67 = .ok (.iload_n 3, 1)) rfl, ?_⟩
  refine List.forall_mem_cons.mpr ⟨snd_iconst (by decide +kernel : decode cX6_century 68 = .ok (.iconst 1, 1)) (by decide +kernel), ?_⟩
  refine List.forall_mem_cons.mpr ⟨snd_icmp_ne (by decide +kernel : decode cX6_century 69 = .ok (.if_icmp .ne 15, 3)) (by decide +kernel), ?_⟩
  refine List.forall_mem_cons.mpr ⟨snd_aload_n (by decide +kernel : decode cX6_century 72 = .ok (.aload_n 0, 1)) rfl, ?_⟩
  refine List.forall_mem_cons.mpr ⟨snd_get fl_6_23 (by decide +kernel : decode cX6_century 73 = .ok (.getfield 23, 3)), ?_⟩
  refine List.forall_mem_cons.mpr ⟨snd_iconst (by decide +kernel : decode cX6_century 76 = .ok (.iconst 0, 1)) (by decide +kernel), ?_⟩
  refine List.forall_mem_cons.mpr ⟨snd_iconst (by decide +kernel : decode cX6_century 77 = .ok (.iconst 0, 1)) (by decide +kernel), ?_⟩
  refine List.forall_mem_cons.mpr ⟨snd_callV mok_30 wd_398 wd_58 wd_59 rfl rfl (by decide +kernel : decode cX6_century 78 = .ok (.invokevirtual 102, 3)), ?_⟩
  refine List.forall_mem_cons.mpr ⟨snd_goto (by decide +kernel : decode cX6_century 81 = .ok (.goto 10, 3)) (by decide +kernel), ?_⟩
  refine List.forall_mem_cons.mpr ⟨snd_aload_n (by decide +kernel : decode cX6_century 84 = .ok (.aload_n 0, 1)) rfl, ?_⟩
  refine List.forall_mem_cons.mpr ⟨snd_get fl_6_23 (by decide +kernel : decode cX6_century 85 = .ok (.getfield 23, 3)), ?_⟩
  refine List.forall_mem_cons.mpr ⟨snd_callV mok_37 wd_515 wd_518 wd_519 rfl rfl (by decide +kernel : decode cX6_century 88 = .ok (.invokevirtual 224, 3)), ?_⟩
  refine List.forall_mem_cons.mpr ⟨snd_iret (by decide +kernel : decode cX6_century 91 = .ok (.ireturn, 1)), ?_⟩
  exact fun _ h => absurd h List.not_mem_nil
theorem m_X6_century : ∀ q ∈ k_X6_century, Mono q.2 := by
  unfold k_X6_century
  refine List.forall_mem_cons.mpr ⟨mo_iload _ _, ?_⟩
  refine List.forall_mem_cons.mpr ⟨mo_push _ _, ?_⟩
  refine List.forall_mem_cons.mpr ⟨mo_push _ _, ?_⟩
  refine List.forall_mem_cons.mpr ⟨mo_call _ _ _, ?_⟩
  refine List.forall_mem_cons.mpr ⟨mo_if _ _ _, ?_⟩
  refine List.forall_mem_cons.mpr ⟨mo_iload _ _, ?_⟩
  refine List.forall_mem_cons.mpr ⟨mo_push _ _, ?_⟩
  refine List.forall_mem_cons.mpr ⟨mo_push _ _, ?_⟩
  refine List.forall_mem_cons.mpr ⟨mo_call _ _ _, ?_⟩
  refine List.forall_mem_cons.mpr ⟨mo_if _ _ _, ?_⟩
  refine List.forall_mem_cons.mpr ⟨mo_iload _ _, ?_⟩
  refine List.forall_mem_cons.mpr ⟨mo_push _ _, ?_⟩
  refine List.forall_mem_cons.mpr ⟨mo_push _ _, ?_⟩
  refine List.forall_mem_cons.mpr ⟨mo_call _ _ _, ?_⟩
  refine List.forall_mem_cons.mpr ⟨mo_if _ _ _, ?_⟩
  refine List.forall_mem_cons.mpr ⟨mo_push _ _, ?_⟩
  refine List.forall_mem_cons.mpr ⟨mo_iret, ?_⟩
  refine List.forall_mem_cons.mpr ⟨mo_aload _ _, ?_⟩
  refine List.forall_mem_cons.mpr ⟨mo_get _ _, ?_⟩
  refine List.forall_mem_cons.mpr ⟨mo_aload _ _, ?_⟩
  refine List.forall_mem_cons.mpr ⟨mo_get _ _, ?_⟩
  refine List.forall_mem_cons.mpr ⟨mo_call _ _ _, ?_⟩
  refine List.forall_mem_cons.mpr ⟨mo_aload _ _, ?_⟩
  refine List.forall_mem_cons.mpr ⟨mo_get _ _, ?_⟩
  refine List.forall_mem_cons.mpr ⟨mo_iload _ _, ?_⟩
  refine List.forall_mem_cons.mpr ⟨mo_iload _ _, ?_⟩
  refine List.forall_mem_cons.mpr ⟨mo_call _ _ _, ?_⟩
  refine List.forall_mem_cons.mpr ⟨mo_iload _ _, ?_⟩
  refine List.forall_mem_cons.mpr ⟨mo_if _ _ _, ?_⟩
  refine List.forall_mem_cons.mpr ⟨mo_aload _ _, ?_⟩
  refine List.forall_mem_cons.mpr ⟨mo_get _ _, ?_⟩
  refine List.forall_mem_cons.mpr ⟨mo_call _ _ _, ?_⟩
  refine List.forall_mem_cons.mpr ⟨mo_call _ _ _, ?_⟩
  refine List.forall_mem_cons.mpr ⟨mo_iret, ?_⟩
  refine List.forall_mem_cons.mpr ⟨mo_iload _ _, ?_⟩
  refine List.forall_mem_cons.mpr ⟨mo_push _ _, ?_⟩
  refine List.forall_mem_cons.mpr ⟨mo_icmp _ _ _, ?_⟩
  refine List.forall_mem_cons.mpr ⟨mo_aload _ _, ?_⟩
  refine List.forall_mem_cons.mpr ⟨mo_get _ _, ?_⟩
  refine List.forall_mem_cons.mpr ⟨mo_push _ _, ?_⟩
  refine List.forall_mem_cons.mpr ⟨mo_push _ _, ?_⟩
  refine List.forall_mem_cons.mpr ⟨mo_call _ _ _, ?_⟩
  refine List.forall_mem_cons.mpr ⟨mo_goto _, ?_⟩
  refine List.forall_mem_cons.mpr ⟨mo_aload _ _, ?_⟩
  refine List.forall_mem_cons.mpr ⟨mo_get _ _, ?_⟩
  refine List.forall_mem_cons.mpr ⟨mo_call _ _ _, ?_⟩
  refine List.forall_mem_cons.mpr ⟨mo_iret, ?_⟩
  exact fun _ h => absurd h List.not_mem_nil
def k_X6_keep : List (Nat × aI) := [
  (0, i_aload 0 1),
  (1, i_get 6 4),
  (4, i_callV 68 1 4),
  (7, i_if (fun x => x = 0) 13 10),
  (10, i_push (.int (-3)) 2),
  (12, i_iret),
  (13, i_aload 0 1),
  (14, i_get 6 4),
  (17, i_aload 0 1),
  (18, i_get 6 1),
  (21, i_callV 69 2 4),
  (24, i_aload 0 1),
  (25, i_get 6 4),
  (28, i_callV 67 1 4),
  (31, i_iret)]
theorem s_X6_keep : ∀ q ∈ k_X6_keep, Snd RX6 cX6_keep (some .int) false q.1 q.2 := by
  unfold k_X6_keep
  refine List.forall_mem_cons.mpr ⟨snd_aload_n (by decide +kernel : decode cX6_keep 0 = .ok (.aload_n 0, 1)) rfl, ?_⟩
  refine List.forall_mem_cons.mpr ⟨snd_get fl_6_35 (by decide +kernel : decode cX6_keep 1 = .ok (.getfield 35, 3)), ?_⟩
  refine List.forall_mem_cons.mpr ⟨snd_callV mok_68 wd_520 wd_295 wd_296 rfl rfl (by decide +kernel : decode cX6_keep 4 = .ok (.invokevirtual 227, 3)), ?_⟩
  refine List.forall_mem_cons.mpr ⟨snd_if_eq (by decide +kernel : decode cX6_keep 7 = .ok (.ifCond .eq 6, 3)) (by decide +kernel), ?_⟩
  refine List.forall_mem_cons.mpr ⟨snd_bipush (by decide +kernel : decode cX6_keep 10 = .ok (.bipush (-3), 2)) (by decide +kernel), ?_⟩
  refine List.forall_mem_cons.mpr ⟨snd_iret (by decide +kernel : decode cX6_keep 12 = .ok (.ireturn, 1)), ?_⟩
  refine List.forall_mem_cons.mpr ⟨snd_aload_n (by decide +kernel : decode cX6_keep 13 = .ok (.aload_n 0, 1)) rfl, ?_⟩
  refine List.forall_mem_cons.mpr ⟨snd_get fl_6_35 (by decide +kernel : decode cX6_keep 14 = .ok (.getfield 35, 3)), ?_⟩
  refine List.forall_mem_cons.mpr ⟨snd_aload_n (by decide +kernel : decode cX6_keep 17 = .ok (.aload_n 0, 1)) rfl, ?_⟩
  refine List.forall_mem_cons.mpr ⟨snd_get fl_6_19 (by decide +kernel : decode cX6_keep 18 = .ok (.getfield 19, 3)), ?_⟩
  refine List.forall_mem_cons.mpr ⟨snd_callV mok_69 wd_411 wd_414 wd_415 rfl rfl (by decide +kernel : decode cX6_keep 21 = .ok (.invokevirtual 122, 3)), ?_⟩
  refine List.forall_mem_cons.mpr ⟨snd_aload_n (by decide +kernel : decode cX6_keep 24 = .ok (.aload_n 0, 1)) rfl, ?_⟩
  refine List.forall_mem_cons.mpr ⟨snd_get fl_6_35 (by decide +kernel : decode cX6_keep 25 = .ok (.getfield 35, 3)), ?_⟩
  refine List.forall_mem_cons.mpr ⟨snd_callV mok_67 wd_436 wd_439 wd_440 rfl rfl (by decide +kernel : decode cX6_keep 28 = .ok (.invokevirtual 153, 3)), ?_⟩
  refine List.forall_mem_cons.mpr ⟨snd_iret (by decide +kernel : decode cX6_keep 31 = .ok (.ireturn, 1)), ?_⟩
  exact fun _ h => absurd h List.not_mem_nil
theorem m_X6_keep : ∀ q ∈ k_X6_keep, Mono q.2 := by
  unfold k_X6_keep
  refine List.forall_mem_cons.mpr ⟨mo_aload _ _, ?_⟩
  refine List.forall_mem_cons.mpr ⟨mo_get _ _, ?_⟩
  refine List.forall_mem_cons.mpr ⟨mo_call _ _ _, ?_⟩
  refine List.forall_mem_cons.mpr ⟨mo_if _ _ _, ?_⟩
  refine List.forall_mem_cons.mpr ⟨mo_push _ _, ?_⟩
  refine List.forall_mem_cons.mpr ⟨mo_iret, ?_⟩
  refine List.forall_mem_cons.mpr ⟨mo_aload _ _, ?_⟩
  refine List.forall_mem_cons.mpr ⟨mo_get _ _, ?_⟩
  refine List.forall_mem_cons.mpr ⟨mo_aload _ _, ?_⟩
  refine List.forall_mem_cons.mpr ⟨mo_get _ _, ?_⟩
  refine List.forall_mem_cons.mpr ⟨mo_call _ _ _, ?_⟩
  refine List.forall_mem_cons.mpr ⟨mo_aload _ _, ?_⟩
  refine List.forall_mem_cons.mpr ⟨mo_get _ _, ?_⟩
  refine List.forall_mem_cons.mpr ⟨mo_call _ _ _, ?_⟩
  refine List.forall_mem_cons.mpr ⟨mo_iret, ?_⟩
  exact fun _ h => absurd h List.not_mem_nil
def k_X6_back : List (Nat × aI) := [
  (0, i_aload 0 1),
  (1, i_get 6 4),
  (4, i_aload 0 1),
  (5, i_get 6 1),
  (8, i_callV 70 2 4),
  (11, i_if (fun x => x = 0) 14 17),
  (14, i_push (.int (-2)) 2),
  (16, i_iret),
  (17, i_aload 0 1),
  (18, i_get 6 3),
  (21, i_callV 66 1 4),
  (24, i_aload 0 1),
  (25, i_get 6 4),
  (28, i_callV 67 1 4),
  (31, i_iret)]
theorem s_X6_back : ∀ q ∈ k_X6_back, Snd RX6 cX6_back (some .int) false q.1 q.2 := by
  unfold k_X6_back
  refine List.forall_mem_cons.mpr ⟨snd_aload_n (by decide +kernel : decode cX6_back 0 = .ok (.aload_n 0, 1)) rfl, ?_⟩
  refine List.forall_mem_cons.mpr ⟨snd_get fl_6_35 (by decide +kernel : decode cX6_back 1 = .ok (.getfield 35, 3)), ?_⟩
  refine List.forall_mem_cons.mpr ⟨snd_aload_n (by decide +kernel : decode cX6_back 4 = .ok (.aload_n 0, 1)) rfl, ?_⟩
  refine List.forall_mem_cons.mpr ⟨snd_get fl_6_19 (by decide +kernel : decode cX6_back 5 = .ok (.getfield 19, 3)), ?_⟩
  refine List.forall_mem_cons.mpr ⟨snd_callV mok_70 wd_431 wd_434 wd_435 rfl rfl (by decide +kernel : decode cX6_back 8 = .ok (.invokevirtual 149, 3)), ?_⟩
  refine List.forall_mem_cons.mpr ⟨snd_if_ne (by decide +kernel : decode cX6_back 11 = .ok (.ifCond .ne 6, 3)) (by decide +kernel), ?_⟩
  refine List.forall_mem_cons.mpr ⟨snd_bipush (by decide +kernel : decode cX6_back 14 = .ok (.bipush (-2), 2)) (by decide +kernel), ?_⟩
  refine List.forall_mem_cons.mpr ⟨snd_iret (by decide +kernel : decode cX6_back 16 = .ok (.ireturn, 1)), ?_⟩
  refine List.forall_mem_cons.mpr ⟨snd_aload_n (by decide +kernel : decode cX6_back 17 = .ok (.aload_n 0, 1)) rfl, ?_⟩
  refine List.forall_mem_cons.mpr ⟨snd_get fl_6_31 (by decide +kernel : decode cX6_back 18 = .ok (.getfield 31, 3)), ?_⟩
  refine List.forall_mem_cons.mpr ⟨snd_callV mok_66 wd_386 wd_389 wd_390 rfl rfl (by decide +kernel : decode cX6_back 21 = .ok (.invokevirtual 94, 3)), ?_⟩
  refine List.forall_mem_cons.mpr ⟨snd_aload_n (by decide +kernel : decode cX6_back 24 = .ok (.aload_n 0, 1)) rfl, ?_⟩
  refine List.forall_mem_cons.mpr ⟨snd_get fl_6_35 (by decide +kernel : decode cX6_back 25 = .ok (.getfield 35, 3)), ?_⟩
  refine List.forall_mem_cons.mpr ⟨snd_callV mok_67 wd_436 wd_439 wd_440 rfl rfl (by decide +kernel : decode cX6_back 28 = .ok (.invokevirtual 153, 3)), ?_⟩
  refine List.forall_mem_cons.mpr ⟨snd_iret (by decide +kernel : decode cX6_back 31 = .ok (.ireturn, 1)), ?_⟩
  exact fun _ h => absurd h List.not_mem_nil
theorem m_X6_back : ∀ q ∈ k_X6_back, Mono q.2 := by
  unfold k_X6_back
  refine List.forall_mem_cons.mpr ⟨mo_aload _ _, ?_⟩
  refine List.forall_mem_cons.mpr ⟨mo_get _ _, ?_⟩
  refine List.forall_mem_cons.mpr ⟨mo_aload _ _, ?_⟩
  refine List.forall_mem_cons.mpr ⟨mo_get _ _, ?_⟩
  refine List.forall_mem_cons.mpr ⟨mo_call _ _ _, ?_⟩
  refine List.forall_mem_cons.mpr ⟨mo_if _ _ _, ?_⟩
  refine List.forall_mem_cons.mpr ⟨mo_push _ _, ?_⟩
  refine List.forall_mem_cons.mpr ⟨mo_iret, ?_⟩
  refine List.forall_mem_cons.mpr ⟨mo_aload _ _, ?_⟩
  refine List.forall_mem_cons.mpr ⟨mo_get _ _, ?_⟩
  refine List.forall_mem_cons.mpr ⟨mo_call _ _ _, ?_⟩
  refine List.forall_mem_cons.mpr ⟨mo_aload _ _, ?_⟩
  refine List.forall_mem_cons.mpr ⟨mo_get _ _, ?_⟩
  refine List.forall_mem_cons.mpr ⟨mo_call _ _ _, ?_⟩
  refine List.forall_mem_cons.mpr ⟨mo_iret, ?_⟩
  exact fun _ h => absurd h List.not_mem_nil
def k_X6_count : List (Nat × aI) := [
  (0, i_iload 1 1),
  (1, i_tsw 0 9 [56, 64, 72, 80, 88, 96, 107, 115, 123, 131] 139),
  (56, i_aload 0 1),
  (57, i_get 6 1),
  (60, i_callV 25 1 2),
  (63, i_iret),
  (64, i_aload 0 1),
  (65, i_get 6 1),
  (68, i_callV 26 1 2),
  (71, i_iret),
  (72, i_aload 0 1),
  (73, i_get 6 1),
  (76, i_callV 42 1 2),
  (79, i_iret),
  (80, i_aload 0 1),
  (81, i_get 6 1),
  (84, i_callV 37 1 2),
  (87, i_iret),
  (88, i_aload 0 1),
  (89, i_get 6 1),
  (92, i_callV 40 1 2),
  (95, i_iret),
  (96, i_aload 0 1),
  (97, i_get 6 1),
  (100, i_callV 41 1 2),
  (103, i_callS 181 1),
  (106, i_iret),
  (107, i_aload 0 1),
  (108, i_get 6 5),
  (111, i_callV 73 1 5),
  (114, i_iret),
  (115, i_aload 0 1),
  (116, i_get 6 3),
  (119, i_callV 67 1 4),
  (122, i_iret),
  (123, i_aload 0 1),
  (124, i_get 6 4),
  (127, i_callV 67 1 4),
  (130, i_iret),
  (131, i_aload 0 1),
  (132, i_get 6 0),
  (135, i_callV 9 1 1),
  (138, i_iret),
  (139, i_push (.int (-1)) 1),
  (140, i_iret)]
theorem s_X6_count : ∀ q ∈ k_X6_count, Snd RX6 cX6_count (some .int) false q.1 q.2 := by
  unfold k_X6_count
  refine List.forall_mem_cons.mpr ⟨snd_iload_n (by decide +kernel : decode cX6_count 0 = .ok (.iload_n 1, 1)) rfl, ?_⟩
  refine List.forall_mem_cons.mpr ⟨snd_tsw (by decide +kernel : decode cX6_count 1 = .ok (.tableswitch 138 0 9 #[55, 63, 71, 79, 87, 95, 106, 114, 122, 130], 55)) (by decide +kernel) (by decide +kernel) (by decide +kernel), ?_⟩
  refine List.forall_mem_cons.mpr ⟨snd_aload_n (by decide +kernel : decode cX6_count 56 = .ok (.aload_n 0, 1)) rfl, ?_⟩
  refine List.forall_mem_cons.mpr ⟨snd_get fl_6_19 (by decide +kernel : decode cX6_count 57 = .ok (.getfield 19, 3)), ?_⟩
  refine List.forall_mem_cons.mpr ⟨snd_callV mok_25 wd_384 wd_13 wd_14 rfl rfl (by decide +kernel : decode cX6_count 60 = .ok (.invokevirtual 87, 3)), ?_⟩
  refine List.forall_mem_cons.mpr ⟨snd_iret (by decide +kernel : decode cX6_count 63 = .ok (.ireturn, 1)), ?_⟩
  refine List.forall_mem_cons.mpr ⟨snd_aload_n (by decide +kernel : decode cX6_count 64 = .ok (.aload_n 0, 1)) rfl, ?_⟩
  refine List.forall_mem_cons.mpr ⟨snd_get fl_6_19 (by decide +kernel : decode cX6_count 65 = .ok (.getfield 19, 3)), ?_⟩
  refine List.forall_mem_cons.mpr ⟨snd_callV mok_26 wd_521 wd_79 wd_80 rfl rfl (by decide +kernel : decode cX6_count 68 = .ok (.invokevirtual 231, 3)), ?_⟩
  refine List.forall_mem_cons.mpr ⟨snd_iret (by decide +kernel : decode cX6_count 71 = .ok (.ireturn, 1)), ?_⟩
  refine List.forall_mem_cons.mpr ⟨snd_aload_n (by decide +kernel : decode cX6_count 72 = .ok (.aload_n 0, 1)) rfl, ?_⟩
  refine List.forall_mem_cons.mpr ⟨snd_get fl_6_19 (by decide +kernel : decode cX6_count 73 = .ok (.getfield 19, 3)), ?_⟩
  refine List.forall_mem_cons.mpr ⟨snd_callV mok_42 wd_406 wd_409 wd_410 rfl rfl (by decide +kernel : decode cX6_count 76 = .ok (.invokevirtual 119, 3)), ?_⟩
  refine List.forall_mem_cons.mpr ⟨snd_iret (by decide +kernel : decode cX6_count 79 = .ok (.ireturn, 1)), ?_⟩
  refine List.forall_mem_cons.mpr ⟨snd_aload_n (by decide +kernel : decode cX6_count 80 = .ok (.aload_n 0, 1)) rfl, ?_⟩
  refine List.forall_mem_cons.mpr ⟨snd_get fl_6_19 (by decide +kernel : decode cX6_count 81 = .ok (.getfield 19, 3)), ?_⟩
  refine List.forall_mem_cons.mpr ⟨snd_callV mok_37 wd_515 wd_518 wd_519 rfl rfl (by decide +kernel : decode cX6_count 84 = .ok (.invokevirtual 224, 3)), ?_⟩
  refine List.forall_mem_cons.mpr ⟨snd_iret (by decide +kernel : decode cX6_count 87 = .ok (.ireturn, 1)), ?_⟩
  refine List.forall_mem_cons.mpr ⟨snd_aload_n (by decide +kernel : decode cX6_count 88 = .ok (.aload_n 0, 1)) rfl, ?_⟩
  refine List.forall_mem_cons.mpr ⟨snd_get fl_6_19 (by decide +kernel : decode cX6_count 89 = .ok (.getfield 19, 3)), ?_⟩
  refine List.forall_mem_cons.mpr ⟨snd_callV mok_40 wd_522 wd_525 wd_526 rfl rfl (by decide +kernel : decode cX6_count 92 = .ok (.invokevirtual 234, 3)), ?_⟩
  refine List.forall_mem_cons.mpr ⟨snd_iret (by decide +kernel : decode cX6_count 95 = .ok (.ireturn, 1)), ?_⟩
  refine List.forall_mem_cons.mpr ⟨snd_aload_n (by decide +kernel : decode cX6_count 96 = .ok (.aload_n 0, 1)) rfl, ?_⟩
  refine List.forall_mem_cons.mpr ⟨snd_get fl_6_19 (by decide +kernel : decode cX6_count 97 = .ok (.getfield 19, 3)), ?_⟩
  refine List.forall_mem_cons.mpr ⟨snd_callV mok_41 wd_513 wd_242 wd_243 rfl rfl (by decide +kernel : decode cX6_count 100 = .ok (.invokevirtual 216, 3)), ?_⟩
  refine List.forall_mem_cons.mpr ⟨snd_callS mok_181 wd_514 wd_26 (by decide +kernel : decode cX6_count 103 = .ok (.invokestatic 219, 3)), ?_⟩
  refine List.forall_mem_cons.mpr ⟨snd_iret (by decide +kernel : decode cX6_count 106 = .ok (.ireturn, 1)), ?_⟩
  refine List.forall_mem_cons.mpr ⟨snd_aload_n (by decide +kernel : decode cX6_count 107 = .ok (.aload_n 0, 1)) rfl, ?_⟩
  refine List.forall_mem_cons.mpr ⟨snd_get fl_6_41 (by decide +kernel : decode cX6_count 108 = .ok (.getfield 41, 3)), ?_⟩
  refine List.forall_mem_cons.mpr ⟨snd_callV mok_73 wd_477 wd_480 wd_481 rfl rfl (by decide +kernel : decode cX6_count 111 = .ok (.invokevirtual 185, 3)), ?_⟩
  refine List.forall_mem_cons.mpr ⟨snd_iret (by decide +kernel : decode cX6_count 114 = .ok (.ireturn, 1)), ?_⟩
  refine List.forall_mem_cons.mpr ⟨snd_aload_n (by decide +kernel : decode cX6_count 115 = .ok (.aload_n 0, 1)) rfl, ?_⟩
  refine List.forall_mem_cons.mpr ⟨snd_get fl_6_31 (by decide +kernel : decode cX6_count 116 = .ok (.getfield 31, 3)), ?_⟩
  refine List.forall_mem_cons.mpr ⟨snd_callV mok_67 wd_436 wd_439 wd_440 rfl rfl (by decide +kernel : decode cX6_count 119 = .ok (.invokevirtual 153, 3)), ?_⟩
  refine List.forall_mem_cons.mpr ⟨snd_iret (by decide +kernel : decode cX6_count 122 = .ok (.ireturn, 1)), ?_⟩
  refine List.forall_mem_cons.mpr ⟨snd_aload_n (by decide +kernel : decode cX6_count 123 = .ok (.aload_n 0, 1)) rfl, ?_⟩
  refine List.forall_mem_cons.mpr ⟨snd_get fl_6_35 (by decide +kernel : decode cX6_count 124 = .ok (.getfield 35, 3)), ?_⟩
  refine List.forall_mem_cons.mpr ⟨snd_callV mok_67 wd_436 wd_439 wd_440 rfl rfl (by decide +kernel : decode cX6_count 127 = .ok (.invokevirtual 153, 3)), ?_⟩
  refine List.forall_mem_cons.mpr ⟨snd_iret (by decide +kernel : decode cX6_count 130 = .ok (.ireturn, 1)), ?_⟩
  refine List.forall_mem_cons.mpr ⟨snd_aload_n (by decide +kernel : decode cX6_count 131 = .ok (.aload_n 0, 1)) rfl, ?_⟩
  refine List.forall_mem_cons.mpr ⟨snd_get fl_6_10 (by decide +kernel : decode cX6_count 132 = .ok (.getfield 10, 3)), ?_⟩
  refine List.forall_mem_cons.mpr ⟨snd_callV mok_9 wd_379 wd_382 wd_383 rfl rfl (by decide +kernel : decode cX6_count 135 = .ok (.invokevirtual 86, 3)), ?_⟩
  refine List.forall_mem_cons.mpr ⟨snd_iret (by decide +kernel : decode cX6_count 138 = .ok (.ireturn, 1)), ?_⟩
  refine List.forall_mem_cons.mpr ⟨snd_iconst (by decide +kernel : decode cX6_count 139 = .ok (.iconst (-1), 1)) (by decide +kernel), ?_⟩
  refine List.forall_mem_cons.mpr ⟨snd_iret (by decide +kernel : decode cX6_count 140 = .ok (.ireturn, 1)), ?_⟩
  exact fun _ h => absurd h List.not_mem_nil
theorem m_X6_count : ∀ q ∈ k_X6_count, Mono q.2 := by
  unfold k_X6_count
  refine List.forall_mem_cons.mpr ⟨mo_iload _ _, ?_⟩
  refine List.forall_mem_cons.mpr ⟨mo_tsw _ _ _ _, ?_⟩
  refine List.forall_mem_cons.mpr ⟨mo_aload _ _, ?_⟩
  refine List.forall_mem_cons.mpr ⟨mo_get _ _, ?_⟩
  refine List.forall_mem_cons.mpr ⟨mo_call _ _ _, ?_⟩
  refine List.forall_mem_cons.mpr ⟨mo_iret, ?_⟩
  refine List.forall_mem_cons.mpr ⟨mo_aload _ _, ?_⟩
  refine List.forall_mem_cons.mpr ⟨mo_get _ _, ?_⟩
  refine List.forall_mem_cons.mpr ⟨mo_call _ _ _, ?_⟩
  refine List.forall_mem_cons.mpr ⟨mo_iret, ?_⟩
  refine List.forall_mem_cons.mpr ⟨mo_aload _ _, ?_⟩
  refine List.forall_mem_cons.mpr ⟨mo_get _ _, ?_⟩
  refine List.forall_mem_cons.mpr ⟨mo_call _ _ _, ?_⟩
  refine List.forall_mem_cons.mpr ⟨mo_iret, ?_⟩
  refine List.forall_mem_cons.mpr ⟨mo_aload _ _, ?_⟩
  refine List.forall_mem_cons.mpr ⟨mo_get _ _, ?_⟩
  refine List.forall_mem_cons.mpr ⟨mo_call _ _ _, ?_⟩
  refine List.forall_mem_cons.mpr ⟨mo_iret, ?_⟩
  refine List.forall_mem_cons.mpr ⟨mo_aload _ _, ?_⟩
  refine List.forall_mem_cons.mpr ⟨mo_get _ _, ?_⟩
  refine List.forall_mem_cons.mpr ⟨mo_call _ _ _, ?_⟩
  refine List.forall_mem_cons.mpr ⟨mo_iret, ?_⟩
  refine List.forall_mem_cons.mpr ⟨mo_aload _ _, ?_⟩
  refine List.forall_mem_cons.mpr ⟨mo_get _ _, ?_⟩
  refine List.forall_mem_cons.mpr ⟨mo_call _ _ _, ?_⟩
  refine List.forall_mem_cons.mpr ⟨mo_call _ _ _, ?_⟩
  refine List.forall_mem_cons.mpr ⟨mo_iret, ?_⟩
  refine List.forall_mem_cons.mpr ⟨mo_aload _ _, ?_⟩
  refine List.forall_mem_cons.mpr ⟨mo_get _ _, ?_⟩
  refine List.forall_mem_cons.mpr ⟨mo_call _ _ _, ?_⟩
  refine List.forall_mem_cons.mpr ⟨mo_iret, ?_⟩
  refine List.forall_mem_cons.mpr ⟨mo_aload _ _, ?_⟩
  refine List.forall_mem_cons.mpr ⟨mo_get _ _, ?_⟩
  refine List.forall_mem_cons.mpr ⟨mo_call _ _ _, ?_⟩
  refine List.forall_mem_cons.mpr ⟨mo_iret, ?_⟩
  refine List.forall_mem_cons.mpr ⟨mo_aload _ _, ?_⟩
  refine List.forall_mem_cons.mpr ⟨mo_get _ _, ?_⟩
  refine List.forall_mem_cons.mpr ⟨mo_call _ _ _, ?_⟩
  refine List.forall_mem_cons.mpr ⟨mo_iret, ?_⟩
  refine List.forall_mem_cons.mpr ⟨mo_aload _ _, ?_⟩
  refine List.forall_mem_cons.mpr ⟨mo_get _ _, ?_⟩
  refine List.forall_mem_cons.mpr ⟨mo_call _ _ _, ?_⟩
  refine List.forall_mem_cons.mpr ⟨mo_iret, ?_⟩
  refine List.forall_mem_cons.mpr ⟨mo_push _ _, ?_⟩
  refine List.forall_mem_cons.mpr ⟨mo_iret, ?_⟩
  exact fun _ h => absurd h List.not_mem_nil
def k_X6_setMouse : List (Nat × aI) := [
  (0, i_aload 0 1),
  (1, i_get 6 1),
  (4, i_iload 1 1),
  (5, i_callV 28 2 2),
  (8, i_if (fun x => x = 0) 11 13),
  (11, i_push (.int (-1)) 1),
  (12, i_iret),
  (13, i_aload 0 1),
  (14, i_get 6 1),
  (17, i_iload 1 1),
  (18, i_callV 35 2 2),
  (21, i_iload 2 1),
  (22, i_icmp (fun x y => x = y) 25 28),
  (25, i_push (.int (-2)) 2),
  (27, i_iret),
  (28, i_aload 0 1),
  (29, i_get 6 3),
  (32, i_aload 0 1),
  (33, i_get 6 1),
  (36, i_callV 69 2 4),
  (39, i_aload 0 1),
  (40, i_get 6 1),
  (43, i_iload 1 1),
  (44, i_callV 36 2 2),
  (47, i_aload 0 1),
  (48, i_get 6 1),
  (51, i_callV 37 1 2),
  (54, i_iret)]
theorem s_X6_setMouse : ∀ q ∈ k_X6_setMouse, Snd RX6 cX6_setMouse (some .int) false q.1 q.2 := by
  unfold k_X6_setMouse
  refine List.forall_mem_cons.mpr ⟨snd_aload_n (by decide +kernel : decode cX6_setMouse 0 = .ok (.aload_n 0, 1)) rfl, ?_⟩
  refine List.forall_mem_cons.mpr ⟨snd_get fl_6_19 (by decide +kernel : decode cX6_setMouse 1 = .ok (.getfield 19, 3)), ?_⟩
  refine List.forall_mem_cons.mpr ⟨snd_iload_n (by decide +kernel : decode cX6_setMouse 4 = .ok (.iload_n 1, 1)) rfl, ?_⟩
  refine List.forall_mem_cons.mpr ⟨snd_callV mok_28 wd_396 wd_153 wd_154 rfl rfl (by decide +kernel : decode cX6_setMouse 5 = .ok (.invokevirtual 96, 3)), ?_⟩
  refine List.forall_mem_cons.mpr ⟨snd_if_ne (by decide +kernel : decode cX6_setMouse 8 = .ok (.ifCond .ne 5, 3)) (by decide +kernel), ?_⟩
  refine List.forall_mem_cons.mpr ⟨snd_iconst (by decide +kernel : decode cX6_setMouse 11 = .ok (.iconst (-1), 1)) (by decide +kernel), ?_⟩
  refine List.forall_mem_cons.mpr ⟨snd_iret (by decide +kernel : decode cX6_setMouse 12 = .ok (.ireturn, 1)), ?_⟩
  refine List.forall_mem_cons.mpr ⟨snd_aload_n (by decide +kernel : decode cX6_setMouse 13 = .ok (.aload_n 0, 1)) rfl, ?_⟩
  refine List.forall_mem_cons.mpr ⟨snd_get fl_6_19 (by decide +kernel : decode cX6_setMouse 14 = .ok (.getfield 19, 3)), ?_⟩
  refine List.forall_mem_cons.mpr ⟨snd_iload_n (by decide +kernel : decode cX6_setMouse 17 = .ok (.iload_n 1, 1)) rfl, ?_⟩
  refine List.forall_mem_cons.mpr ⟨snd_callV mok_35 wd_400 wd_158 wd_159 rfl rfl (by decide +kernel : decode cX6_setMouse 18 = .ok (.invokevirtual 110, 3)), ?_⟩
  refine List.forall_mem_cons.mpr ⟨snd_iload_n (by decide +kernel : decode cX6_setMouse 21 = .ok (.iload_n 2, 1)) rfl, ?_⟩
  refine List.forall_mem_cons.mpr ⟨snd_icmp_ne (by decide +kernel : decode cX6_setMouse 22 = .ok (.if_icmp .ne 6, 3)) (by decide +kernel), ?_⟩
  refine List.forall_mem_cons.mpr ⟨snd_bipush (by decide +kernel : decode cX6_setMouse 25 = .ok (.bipush (-2), 2)) (by decide +kernel), ?_⟩
  refine List.forall_mem_cons.mpr ⟨snd_iret (by decide +kernel : decode cX6_setMouse 27 = .ok (.ireturn, 1)), ?_⟩
  refine List.forall_mem_cons.mpr ⟨snd_aload_n (by decide +kernel : decode cX6_setMouse 28 = .ok (.aload_n 0, 1)) rfl, ?_⟩
  refine List.forall_mem_cons.mpr ⟨snd_get fl_6_31 (by decide +kernel : decode cX6_setMouse 29 = .ok (.getfield 31, 3)), ?_⟩
  refine List.forall_mem_cons.mpr ⟨snd_aload_n (by decide +kernel : decode cX6_setMouse 32 = .ok (.aload_n 0, 1)) rfl, ?_⟩
  refine List.forall_mem_cons.mpr ⟨snd_get fl_6_19 (by decide +kernel : decode cX6_setMouse 33 = .ok (.getfield 19, 3)), ?_⟩
  refine List.forall_mem_cons.mpr ⟨snd_callV mok_69 wd_411 wd_414 wd_415 rfl rfl (by decide +kernel : decode cX6_setMouse 36 = .ok (.invokevirtual 122, 3)), ?_⟩
  refine List.forall_mem_cons.mpr ⟨snd_aload_n (by decide +kernel : decode cX6_setMouse 39 = .ok (.aload_n 0, 1)) rfl, ?_⟩
  refine List.forall_mem_cons.mpr ⟨snd_get fl_6_19 (by decide +kernel : decode cX6_setMouse 40 = .ok (.getfield 19, 3)), ?_⟩
  refine List.forall_mem_cons.mpr ⟨snd_iload_n (by decide +kernel : decode cX6_setMouse 43 = .ok (.iload_n 1, 1)) rfl, ?_⟩
  refine List.forall_mem_cons.mpr ⟨snd_callV mok_36 wd_527 wd_89 wd_90 rfl rfl (by decide +kernel : decode cX6_setMouse 44 = .ok (.invokevirtual 237, 3)), ?_⟩
  refine List.forall_mem_cons.mpr ⟨snd_aload_n (by decide +kernel : decode cX6_setMouse 47 = .ok (.aload_n 0, 1)) rfl, ?_⟩
  refine List.forall_mem_cons.mpr ⟨snd_get fl_6_19 (by decide +kernel : decode cX6_setMouse 48 = .ok (.getfield 19, 3)), ?_⟩
  refine List.forall_mem_cons.mpr ⟨snd_callV mok_37 wd_515 wd_518 wd_519 rfl rfl (by decide +kernel : decode cX6_setMouse 51 = .ok (.invokevirtual 224, 3)), ?_⟩
  refine List.forall_mem_cons.mpr ⟨snd_iret (by decide +kernel : decode cX6_setMouse 54 = .ok (.ireturn, 1)), ?_⟩
  exact fun _ h => absurd h List.not_mem_nil
theorem m_X6_setMouse : ∀ q ∈ k_X6_setMouse, Mono q.2 := by
  unfold k_X6_setMouse
  refine List.forall_mem_cons.mpr ⟨mo_aload _ _, ?_⟩
  refine List.forall_mem_cons.mpr ⟨mo_get _ _, ?_⟩
  refine List.forall_mem_cons.mpr ⟨mo_iload _ _, ?_⟩
  refine List.forall_mem_cons.mpr ⟨mo_call _ _ _, ?_⟩
  refine List.forall_mem_cons.mpr ⟨mo_if _ _ _, ?_⟩
  refine List.forall_mem_cons.mpr ⟨mo_push _ _, ?_⟩
  refine List.forall_mem_cons.mpr ⟨mo_iret, ?_⟩
  refine List.forall_mem_cons.mpr ⟨mo_aload _ _, ?_⟩
  refine List.forall_mem_cons.mpr ⟨mo_get _ _, ?_⟩
  refine List.forall_mem_cons.mpr ⟨mo_iload _ _, ?_⟩
  refine List.forall_mem_cons.mpr ⟨mo_call _ _ _, ?_⟩
  refine List.forall_mem_cons.mpr ⟨mo_iload _ _, ?_⟩
  refine List.forall_mem_cons.mpr ⟨mo_icmp _ _ _, ?_⟩
  refine List.forall_mem_cons.mpr ⟨mo_push _ _, ?_⟩
  refine List.forall_mem_cons.mpr ⟨mo_iret, ?_⟩
  refine List.forall_mem_cons.mpr ⟨mo_aload _ _, ?_⟩
  refine List.forall_mem_cons.mpr ⟨mo_get _ _, ?_⟩
  refine List.forall_mem_cons.mpr ⟨mo_aload _ _, ?_⟩
  refine List.forall_mem_cons.mpr ⟨mo_get _ _, ?_⟩
  refine List.forall_mem_cons.mpr ⟨mo_call _ _ _, ?_⟩
  refine List.forall_mem_cons.mpr ⟨mo_aload _ _, ?_⟩
  refine List.forall_mem_cons.mpr ⟨mo_get _ _, ?_⟩
  refine List.forall_mem_cons.mpr ⟨mo_iload _ _, ?_⟩
  refine List.forall_mem_cons.mpr ⟨mo_call _ _ _, ?_⟩
  refine List.forall_mem_cons.mpr ⟨mo_aload _ _, ?_⟩
  refine List.forall_mem_cons.mpr ⟨mo_get _ _, ?_⟩
  refine List.forall_mem_cons.mpr ⟨mo_call _ _ _, ?_⟩
  refine List.forall_mem_cons.mpr ⟨mo_iret, ?_⟩
  exact fun _ h => absurd h List.not_mem_nil
def k_X6_orNone : List (Nat × aI) := [
  (0, i_iload 0 1),
  (1, i_push (.int 10) 2),
  (3, i_icmp (fun x y => x = y) 6 11),
  (6, i_push (.int (-4)) 2),
  (8, i_goto 12),
  (11, i_iload 0 1),
  (12, i_iret)]
theorem s_X6_orNone : ∀ q ∈ k_X6_orNone, Snd RX6 cX6_orNone (some .int) false q.1 q.2 := by
  unfold k_X6_orNone
  refine List.forall_mem_cons.mpr ⟨snd_iload_n (by decide +kernel : decode cX6_orNone 0 = .ok (.iload_n 0, 1)) rfl, ?_⟩
  refine List.forall_mem_cons.mpr ⟨snd_bipush (by decide +kernel : decode cX6_orNone 1 = .ok (.bipush 10, 2)) (by decide +kernel), ?_⟩
  refine List.forall_mem_cons.mpr ⟨snd_icmp_ne (by decide +kernel : decode cX6_orNone 3 = .ok (.if_icmp .ne 8, 3)) (by decide +kernel), ?_⟩
  refine List.forall_mem_cons.mpr ⟨snd_bipush (by decide +kernel : decode cX6_orNone 6 = .ok (.bipush (-4), 2)) (by decide +kernel), ?_⟩
  refine List.forall_mem_cons.mpr ⟨snd_goto (by decide +kernel : decode cX6_orNone 8 = .ok (.goto 4, 3)) (by decide +kernel), ?_⟩
  refine List.forall_mem_cons.mpr ⟨snd_iload_n (by decide +kernel : decode cX6_orNone 11 = .ok (.iload_n 0, 1)) rfl, ?_⟩
  refine List.forall_mem_cons.mpr ⟨snd_iret (by decide +kernel : decode cX6_orNone 12 = .ok (.ireturn, 1)), ?_⟩
  exact fun _ h => absurd h List.not_mem_nil
theorem m_X6_orNone : ∀ q ∈ k_X6_orNone, Mono q.2 := by
  unfold k_X6_orNone
  refine List.forall_mem_cons.mpr ⟨mo_iload _ _, ?_⟩
  refine List.forall_mem_cons.mpr ⟨mo_push _ _, ?_⟩
  refine List.forall_mem_cons.mpr ⟨mo_icmp _ _ _, ?_⟩
  refine List.forall_mem_cons.mpr ⟨mo_push _ _, ?_⟩
  refine List.forall_mem_cons.mpr ⟨mo_goto _, ?_⟩
  refine List.forall_mem_cons.mpr ⟨mo_iload _ _, ?_⟩
  refine List.forall_mem_cons.mpr ⟨mo_iret, ?_⟩
  exact fun _ h => absurd h List.not_mem_nil
def k_X6_isThing : List (Nat × aI) := [
  (0, i_iload 0 1),
  (1, i_push (.int 0) 1),
  (2, i_push (.int 9) 2),
  (4, i_callS 114 3),
  (7, i_zret)]
theorem s_X6_isThing : ∀ q ∈ k_X6_isThing, Snd RX6 cX6_isThing (some .boolean) false q.1 q.2 := by
  unfold k_X6_isThing
  refine List.forall_mem_cons.mpr ⟨snd_iload_n (by decide +kernel : decode cX6_isThing 0 = .ok (.iload_n 0, 1)) rfl, ?_⟩
  refine List.forall_mem_cons.mpr ⟨snd_iconst (by decide +kernel : decode cX6_isThing 1 = .ok (.iconst 0, 1)) (by decide +kernel), ?_⟩
  refine List.forall_mem_cons.mpr ⟨snd_bipush (by decide +kernel : decode cX6_isThing 2 = .ok (.bipush 9, 2)) (by decide +kernel), ?_⟩
  refine List.forall_mem_cons.mpr ⟨snd_callS mok_114 wd_378 wd_137 (by decide +kernel : decode cX6_isThing 4 = .ok (.invokestatic 82, 3)), ?_⟩
  refine List.forall_mem_cons.mpr ⟨snd_zret (by decide +kernel : decode cX6_isThing 7 = .ok (.ireturn, 1)), ?_⟩
  exact fun _ h => absurd h List.not_mem_nil
theorem m_X6_isThing : ∀ q ∈ k_X6_isThing, Mono q.2 := by
  unfold k_X6_isThing
  refine List.forall_mem_cons.mpr ⟨mo_iload _ _, ?_⟩
  refine List.forall_mem_cons.mpr ⟨mo_push _ _, ?_⟩
  refine List.forall_mem_cons.mpr ⟨mo_push _ _, ?_⟩
  refine List.forall_mem_cons.mpr ⟨mo_call _ _ _, ?_⟩
  refine List.forall_mem_cons.mpr ⟨mo_zret, ?_⟩
  exact fun _ h => absurd h List.not_mem_nil
def k_X6_within : List (Nat × aI) := [
  (0, i_iload 0 1),
  (1, i_iload 1 1),
  (2, i_icmp (fun x y => x < y) 14 5),
  (5, i_iload 0 1),
  (6, i_iload 2 1),
  (7, i_icmp (fun x y => y < x) 14 10),
  (10, i_push (.int 1) 1),
  (11, i_goto 15),
  (14, i_push (.int 0) 1),
  (15, i_zret)]
theorem s_X6_within : ∀ q ∈ k_X6_within, Snd RX6 cX6_within (some .boolean) false q.1 q.2 := by
  unfold k_X6_within
  refine List.forall_mem_cons.mpr ⟨snd_iload_n (by decide +kernel : decode cX6_within 0 = .ok (.iload_n 0, 1)) rfl, ?_⟩
  refine List.forall_mem_cons.mpr ⟨snd_iload_n (by decide +kernel : decode cX6_within 1 = .ok (.iload_n 1, 1)) rfl, ?_⟩
  refine List.forall_mem_cons.mpr ⟨snd_icmp_lt (by decide +kernel : decode cX6_within 2 = .ok (.if_icmp .lt 12, 3)) (by decide +kernel), ?_⟩
  refine List.forall_mem_cons.mpr ⟨snd_iload_n (by decide +kernel : decode cX6_within 5 = .ok (.iload_n 0, 1)) rfl, ?_⟩
  refine List.forall_mem_cons.mpr ⟨snd_iload_n (by decide +kernel : decode cX6_within 6 = .ok (.iload_n 2, 1)) rfl, ?_⟩
  refine List.forall_mem_cons.mpr ⟨snd_icmp_gt (by decide +kernel : decode cX6_within 7 = .ok (.if_icmp .gt 7, 3)) (by decide +kernel), ?_⟩
  refine List.forall_mem_cons.mpr ⟨snd_iconst (by decide +kernel : decode cX6_within 10 = .ok (.iconst 1, 1)) (by decide +kernel), ?_⟩
  refine List.forall_mem_cons.mpr ⟨snd_goto (by decide +kernel : decode cX6_within 11 = .ok (.goto 4, 3)) (by decide +kernel), ?_⟩
  refine List.forall_mem_cons.mpr ⟨snd_iconst (by decide +kernel : decode cX6_within 14 = .ok (.iconst 0, 1)) (by decide +kernel), ?_⟩
  refine List.forall_mem_cons.mpr ⟨snd_zret (by decide +kernel : decode cX6_within 15 = .ok (.ireturn, 1)), ?_⟩
  exact fun _ h => absurd h List.not_mem_nil
theorem m_X6_within : ∀ q ∈ k_X6_within, Mono q.2 := by
  unfold k_X6_within
  refine List.forall_mem_cons.mpr ⟨mo_iload _ _, ?_⟩
  refine List.forall_mem_cons.mpr ⟨mo_iload _ _, ?_⟩
  refine List.forall_mem_cons.mpr ⟨mo_icmp _ _ _, ?_⟩
  refine List.forall_mem_cons.mpr ⟨mo_iload _ _, ?_⟩
  refine List.forall_mem_cons.mpr ⟨mo_iload _ _, ?_⟩
  refine List.forall_mem_cons.mpr ⟨mo_icmp _ _ _, ?_⟩
  refine List.forall_mem_cons.mpr ⟨mo_push _ _, ?_⟩
  refine List.forall_mem_cons.mpr ⟨mo_goto _, ?_⟩
  refine List.forall_mem_cons.mpr ⟨mo_push _ _, ?_⟩
  refine List.forall_mem_cons.mpr ⟨mo_zret, ?_⟩
  exact fun _ h => absurd h List.not_mem_nil
def k_X6_power : List (Nat × aI) := [
  (0, i_push (.int 1) 1),
  (1, i_istore 2 1),
  (2, i_push (.int 0) 1),
  (3, i_istore 3 1),
  (4, i_iload 3 1),
  (5, i_iload 1 1),
  (6, i_icmp (fun x y => x < y) 9 19),
  (9, i_iload 2 1),
  (10, i_iload 0 1),
  (11, i_bin (fun x y => x * y)),
  (12, i_istore 2 1),
  (13, i_iinc 3 1),
  (16, i_goto 4),
  (19, i_iload 2 1),
  (20, i_iret)]
theorem s_X6_power : ∀ q ∈ k_X6_power, Snd RX6 cX6_power (some .int) false q.1 q.2 := by
  unfold k_X6_power
  refine List.forall_mem_cons.mpr ⟨snd_iconst (by decide +kernel : decode cX6_power 0 = .ok (.iconst 1, 1)) (by decide +kernel), ?_⟩
  refine List.forall_mem_cons.mpr ⟨snd_istore_n (by decide +kernel : decode cX6_power 1 = .ok (.istore_n 2, 1)) rfl, ?_⟩
  refine List.forall_mem_cons.mpr ⟨snd_iconst (by decide +kernel : decode cX6_power 2 = .ok (.iconst 0, 1)) (by decide +kernel), ?_⟩
  refine List.forall_mem_cons.mpr ⟨snd_istore_n (by decide +kernel : decode cX6_power 3 = .ok (.istore_n 3, 1)) rfl, ?_⟩
  refine List.forall_mem_cons.mpr ⟨snd_iload_n (by decide +kernel : decode cX6_power 4 = .ok (.iload_n 3, 1)) rfl, ?_⟩
  refine List.forall_mem_cons.mpr ⟨snd_iload_n (by decide +kernel : decode cX6_power 5 = .ok (.iload_n 1, 1)) rfl, ?_⟩
  refine List.forall_mem_cons.mpr ⟨snd_icmp_ge (by decide +kernel : decode cX6_power 6 = .ok (.if_icmp .ge 13, 3)) (by decide +kernel), ?_⟩
  refine List.forall_mem_cons.mpr ⟨snd_iload_n (by decide +kernel : decode cX6_power 9 = .ok (.iload_n 2, 1)) rfl, ?_⟩
  refine List.forall_mem_cons.mpr ⟨snd_iload_n (by decide +kernel : decode cX6_power 10 = .ok (.iload_n 0, 1)) rfl, ?_⟩
  refine List.forall_mem_cons.mpr ⟨snd_imul (by decide +kernel : decode cX6_power 11 = .ok (.imul, 1)), ?_⟩
  refine List.forall_mem_cons.mpr ⟨snd_istore_n (by decide +kernel : decode cX6_power 12 = .ok (.istore_n 2, 1)) rfl, ?_⟩
  refine List.forall_mem_cons.mpr ⟨snd_iinc (by decide +kernel : decode cX6_power 13 = .ok (.iinc 3 1, 3)) (by decide +kernel), ?_⟩
  refine List.forall_mem_cons.mpr ⟨snd_goto (by decide +kernel : decode cX6_power 16 = .ok (.goto (-12), 3)) (by decide +kernel), ?_⟩
  refine List.forall_mem_cons.mpr ⟨snd_iload_n (by decide +kernel : decode cX6_power 19 = .ok (.iload_n 2, 1)) rfl, ?_⟩
  refine List.forall_mem_cons.mpr ⟨snd_iret (by decide +kernel : decode cX6_power 20 = .ok (.ireturn, 1)), ?_⟩
  exact fun _ h => absurd h List.not_mem_nil
theorem m_X6_power : ∀ q ∈ k_X6_power, Mono q.2 := by
  unfold k_X6_power
  refine List.forall_mem_cons.mpr ⟨mo_push _ _, ?_⟩
  refine List.forall_mem_cons.mpr ⟨mo_istore _ _, ?_⟩
  refine List.forall_mem_cons.mpr ⟨mo_push _ _, ?_⟩
  refine List.forall_mem_cons.mpr ⟨mo_istore _ _, ?_⟩
  refine List.forall_mem_cons.mpr ⟨mo_iload _ _, ?_⟩
  refine List.forall_mem_cons.mpr ⟨mo_iload _ _, ?_⟩
  refine List.forall_mem_cons.mpr ⟨mo_icmp _ _ _, ?_⟩
  refine List.forall_mem_cons.mpr ⟨mo_iload _ _, ?_⟩
  refine List.forall_mem_cons.mpr ⟨mo_iload _ _, ?_⟩
  refine List.forall_mem_cons.mpr ⟨mo_bin _, ?_⟩
  refine List.forall_mem_cons.mpr ⟨mo_istore _ _, ?_⟩
  refine List.forall_mem_cons.mpr ⟨mo_iinc _ _, ?_⟩
  refine List.forall_mem_cons.mpr ⟨mo_goto _, ?_⟩
  refine List.forall_mem_cons.mpr ⟨mo_iload _ _, ?_⟩
  refine List.forall_mem_cons.mpr ⟨mo_iret, ?_⟩
  exact fun _ h => absurd h List.not_mem_nil
def k_X6_commonDivisor : List (Nat × aI) := [
  (0, i_iload 1 1),
  (1, i_istore 2 1),
  (2, i_iload 0 1),
  (3, i_istore 3 1),
  (4, i_push (.int 0) 1),
  (5, i_istore 4 2),
  (7, i_iload 4 2),
  (9, i_push (.int 64) 2),
  (11, i_icmp (fun x y => x < y) 14 34),
  (14, i_iload 3 1),
  (15, i_if (fun x => x = 0) 34 18),
  (18, i_iload 2 1),
  (19, i_iload 3 1),
  (20, i_div (fun x y => x - x / y * y)),
  (21, i_istore 5 2),
  (23, i_iload 3 1),
  (24, i_istore 2 1),
  (25, i_iload 5 2),
  (27, i_istore 3 1),
  (28, i_iinc 4 1),
  (31, i_goto 7),
  (34, i_iload 2 1),
  (35, i_iret)]
theorem s_X6_commonDivisor : ∀ q ∈ k_X6_commonDivisor, Snd RX6 cX6_commonDivisor (some .int) false q.1 q.2 := by
  unfold k_X6_commonDivisor
  refine List.forall_mem_cons.mpr ⟨snd_iload_n (by decide +kernel : decode cX6_commonDivisor 0 = .ok (.iload_n 1, 1)) rfl, ?_⟩
  refine List.forall_mem_cons.mpr ⟨snd_istore_n (by decide +kernel : decode cX6_commonDivisor 1 = .ok (.istore_n 2, 1)) rfl, ?_⟩
  refine List.forall_mem_cons.mpr ⟨snd_iload_n (by decide +kernel : decode cX6_commonDivisor 2 = .ok (.iload_n 0, 1)) rfl, ?_⟩
  refine List.forall_mem_cons.mpr ⟨snd_istore_n (by decide +kernel : decode cX6_commonDivisor 3 = .ok (.istore_n 3, 1)) rfl, ?_⟩
  refine List.forall_mem_cons.mpr ⟨snd_iconst (by decide +kernel : decode cX6_commonDivisor 4 = .ok (.iconst 0, 1)) (by decide +kernel), ?_⟩
  refine List.forall_mem_cons.mpr ⟨snd_istore (by decide +kernel : decode cX6_commonDivisor 5 = .ok (.istore 4, 2)), ?_⟩
  refine List.forall_mem_cons.mpr ⟨snd_iload (by decide +kernel : decode cX6_commonDivisor 7 = .ok (.iload 4, 2)), ?_⟩
  refine List.forall_mem_cons.mpr ⟨snd_bipush (by decide +kernel : decode cX6_commonDivisor 9 = .ok (.bipush 64, 2)) (by decide +kernel), ?_⟩
  refine List.forall_mem_cons.mpr ⟨snd_icmp_ge (by decide +kernel : decode cX6_commonDivisor 11 = .ok (.if_icmp .ge 23, 3)) (by decide +kernel), ?_⟩
  refine List.forall_mem_cons.mpr ⟨snd_iload_n (by decide +kernel : decode cX6_commonDivisor 14 = .ok (.iload_n 3, 1)) rfl, ?_⟩
  refine List.forall_mem_cons.mpr ⟨snd_if_eq (by decide +kernel : decode cX6_commonDivisor 15 = .ok (.ifCond .eq 19, 3)) (by decide +kernel), ?_⟩
  refine List.forall_mem_cons.mpr ⟨snd_iload_n (by decide +kernel : decode cX6_commonDivisor 18 = .ok (.iload_n 2, 1)) rfl, ?_⟩
  refine List.forall_mem_cons.mpr ⟨snd_iload_n (by decide +kernel : decode cX6_commonDivisor 19 = .ok (.iload_n 3, 1)) rfl, ?_⟩
  refine List.forall_mem_cons.mpr ⟨snd_irem (by decide +kernel : decode cX6_commonDivisor 20 = .ok (.irem, 1)), ?_⟩
  refine List.forall_mem_cons.mpr ⟨snd_istore (by decide +kernel : decode cX6_commonDivisor 21 = .ok (.istore 5, 2)), ?_⟩
  refine List.forall_mem_cons.mpr ⟨snd_iload_n (by decide +kernel : decode cX6_commonDivisor 23 = .ok (.iload_n 3, 1)) rfl, ?_⟩
  refine List.forall_mem_cons.mpr ⟨snd_istore_n (by decide +kernel : decode cX6_commonDivisor 24 = .ok (.istore_n 2, 1)) rfl, ?_⟩
  refine List.forall_mem_cons.mpr ⟨snd_iload (by decide +kernel : decode cX6_commonDivisor 25 = .ok (.iload 5, 2)), ?_⟩
  refine List.forall_mem_cons.mpr ⟨snd_istore_n (by decide +kernel : decode cX6_commonDivisor 27 = .ok (.istore_n 3, 1)) rfl, ?_⟩
  refine List.forall_mem_cons.mpr ⟨snd_iinc (by decide +kernel : decode cX6_commonDivisor 28 = .ok (.iinc 4 1, 3)) (by decide +kernel), ?_⟩
  refine List.forall_mem_cons.mpr ⟨snd_goto (by decide +kernel : decode cX6_commonDivisor 31 = .ok (.goto (-24), 3)) (by decide +kernel), ?_⟩
  refine List.forall_mem_cons.mpr ⟨snd_iload_n (by decide +kernel : decode cX6_commonDivisor 34 = .ok (.iload_n 2, 1)) rfl, ?_⟩
  refine List.forall_mem_cons.mpr ⟨snd_iret (by decide +kernel : decode cX6_commonDivisor 35 = .ok (.ireturn, 1)), ?_⟩
  exact fun _ h => absurd h List.not_mem_nil
theorem m_X6_commonDivisor : ∀ q ∈ k_X6_commonDivisor, Mono q.2 := by
  unfold k_X6_commonDivisor
  refine List.forall_mem_cons.mpr ⟨mo_iload _ _, ?_⟩
  refine List.forall_mem_cons.mpr ⟨mo_istore _ _, ?_⟩
  refine List.forall_mem_cons.mpr ⟨mo_iload _ _, ?_⟩
  refine List.forall_mem_cons.mpr ⟨mo_istore _ _, ?_⟩
  refine List.forall_mem_cons.mpr ⟨mo_push _ _, ?_⟩
  refine List.forall_mem_cons.mpr ⟨mo_istore _ _, ?_⟩
  refine List.forall_mem_cons.mpr ⟨mo_iload _ _, ?_⟩
  refine List.forall_mem_cons.mpr ⟨mo_push _ _, ?_⟩
  refine List.forall_mem_cons.mpr ⟨mo_icmp _ _ _, ?_⟩
  refine List.forall_mem_cons.mpr ⟨mo_iload _ _, ?_⟩
  refine List.forall_mem_cons.mpr ⟨mo_if _ _ _, ?_⟩
  refine List.forall_mem_cons.mpr ⟨mo_iload _ _, ?_⟩
  refine List.forall_mem_cons.mpr ⟨mo_iload _ _, ?_⟩
  refine List.forall_mem_cons.mpr ⟨mo_div _, ?_⟩
  refine List.forall_mem_cons.mpr ⟨mo_istore _ _, ?_⟩
  refine List.forall_mem_cons.mpr ⟨mo_iload _ _, ?_⟩
  refine List.forall_mem_cons.mpr ⟨mo_istore _ _, ?_⟩
  refine List.forall_mem_cons.mpr ⟨mo_iload _ _, ?_⟩
  refine List.forall_mem_cons.mpr ⟨mo_istore _ _, ?_⟩
  refine List.forall_mem_cons.mpr ⟨mo_iinc _ _, ?_⟩
  refine List.forall_mem_cons.mpr ⟨mo_goto _, ?_⟩
  refine List.forall_mem_cons.mpr ⟨mo_iload _ _, ?_⟩
  refine List.forall_mem_cons.mpr ⟨mo_iret, ?_⟩
  exact fun _ h => absurd h List.not_mem_nil
